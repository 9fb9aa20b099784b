-- products, the reference's; quotients of the class
def PROD (x y : Int) (how : Nat) : Int := if x = 0 ∨ y = 0 then 0 else if x.natAbs = INF ∨ y.natAbs = INF then sgn (pneg x y) INF else RND (pneg x y) (pabs x y) false (pexp x y) how
theorem cprod_all {a b : Int} {how : Nat} (hh : how < 3) (ha : a.natAbs ≤ INF) (hb : b.natAbs ≤ INF) : f_Exact_product (lZ a) (lZ b) (wI how) = some (lZ (PROD a b how)) := by
  have hI : INF = 9218868437227405312 := rfl
  by_cases a0 : a = 0
  · subst a0
    unfold PROD
    rw [if_pos (Or.inl rfl)]
    unfold f_Exact_product f_Exact_product_0
    rw [if_pos (show lZ 0 = (0 : Int64) from rfl)]
    rfl
  by_cases b0 : b = 0
  · subst b0
    unfold PROD
    rw [if_pos (Or.inr rfl)]
    unfold f_Exact_product f_Exact_product_0
    rw [if_neg (fun h9 => a0 ((l_eq0 (by omega) (by omega)).mp h9)), if_pos (show lZ 0 = (0 : Int64) from rfl)]
    rfl
  by_cases hi : a.natAbs = INF ∨ b.natAbs = INF
  · have er : PROD a b how = sgn (pneg a b) INF := by
      unfold PROD
      rw [if_neg (by omega), if_pos hi]
    rw [er]
    have K : ∀ neg : Bool, f_Exact_product_44 (bI neg) (lZ a) (lZ b) (wI how) = some (lZ (sgn neg INF)) := by
      intro neg
      have F : f_Exact_product_60 (bI neg) = some (lZ (sgn neg INF)) := by cases neg <;> rfl
      unfold f_Exact_product_44
      rw [isFin_ok ha, Option.bind_some]
      by_cases h1 : a.natAbs = INF
      · rw [if_pos (by rw [show decide (a.natAbs < INF) = false by simp [h1]]; decide), F]
      · rw [if_neg (by rw [show decide (a.natAbs < INF) = true by simp; omega]; decide), isFin_ok hb, Option.bind_some, if_pos (by rw [show decide (b.natAbs < INF) = false by simp; omega]; decide), F]
    have K36 : ∀ b1 b2 : Bool, f_Exact_product_36 (bI b2) (bI b1) (lZ a) (lZ b) (wI how) = some (lZ (sgn (b1 != b2) INF)) := by
      intro b1 b2
      unfold f_Exact_product_36
      by_cases hb : b1 = b2
      · rw [if_pos (bI_eq.mpr hb), show (b1 != b2) = false by simp [hb]]
        exact K false
      · rw [if_neg (fun h9 => hb (bI_eq.mp h9)), show (b1 != b2) = true from bne_iff_ne.mpr hb]
        exact K true
    have K25 : ∀ b1 : Bool, f_Exact_product_25 (bI b1) (lZ a) (lZ b) (wI how) = some (lZ (sgn (b1 != decide (b < 0)) INF)) := by
      intro b1
      unfold f_Exact_product_25
      by_cases h9 : 0 ≤ b
      · rw [if_pos ((l_le0 (by omega) (by omega)).mpr h9), d_lt0.mpr h9]
        exact K36 b1 false
      · rw [if_neg (fun h8 => h9 ((l_le0 (by omega) (by omega)).mp h8)), d_lt1.mpr (by omega)]
        exact K36 b1 true
    unfold f_Exact_product f_Exact_product_0
    rw [if_neg (fun h9 => a0 ((l_eq0 (by omega) (by omega)).mp h9)), if_neg (fun h9 => b0 ((l_eq0 (by omega) (by omega)).mp h9))]
    unfold pneg
    by_cases h9 : 0 ≤ a
    · rw [if_pos ((l_le0 (by omega) (by omega)).mpr h9), d_lt0.mpr h9]
      exact K25 false
    · rw [if_neg (fun h8 => h9 ((l_le0 (by omega) (by omega)).mp h8)), d_lt1.mpr (by omega)]
      exact K25 true
  · have er : PROD a b how = RND (pneg a b) (pabs a b) false (pexp a b) how := by
      unfold PROD
      rw [if_neg (by omega), if_neg hi]
    rw [er]
    exact cprod_ok hh (by omega) (by omega) a0 b0
theorem rprod_all {x y : Int} {how : Nat} (hh : how < 3) (hx : x.natAbs ≤ INF) (hy : y.natAbs ≤ INF) {g : Nat → Int32} {N : Nat → Nat} (hB : Big g N) (ov : Bool) : ∃ g' N' ov', f_Ref_product (lZ x) (lZ y) (nI how) g (bI ov) = some (lZ (PROD x y how), g', bI ov') ∧ Big g' N' := by
  have hI : INF = 9218868437227405312 := rfl
  unfold f_Ref_product f_Ref_product_0 f_Ref_product_12
  by_cases a0 : x = 0
  · subst a0
    refine ⟨g, N, ov, ?_, hB⟩
    unfold PROD
    rw [if_pos (Or.inl rfl), if_pos (show lZ 0 = (0 : Int64) from rfl)]
    rfl
  rw [if_neg (fun h9 => a0 ((l_eq0 (by omega) (by omega)).mp h9))]
  by_cases b0 : y = 0
  · subst b0
    refine ⟨g, N, ov, ?_, hB⟩
    unfold PROD
    rw [if_pos (Or.inr rfl), if_pos (show lZ 0 = (0 : Int64) from rfl)]
    rfl
  rw [if_neg (fun h9 => b0 ((l_eq0 (by omega) (by omega)).mp h9))]
  have K : ∀ neg : Bool, neg = pneg x y → ∃ g' N' ov', f_Ref_product_44 (bI neg) (lZ x) (lZ y) (nI how) g (bI ov) = some (lZ (PROD x y how), g', bI ov') ∧ Big g' N' := by
    intro neg hneg
    have F : f_Ref_product_60 (bI neg) g (bI ov) = some (lZ (sgn neg INF), g, bI ov) := by cases neg <;> rfl
    unfold f_Ref_product_44
    rw [isInf_ok hx, Option.bind_some]
    by_cases h1 : x.natAbs = INF
    · refine ⟨g, N, ov, ?_, hB⟩
      rw [if_neg (by rw [show decide (x.natAbs = INF) = true by simp [h1]]; decide), F]
      unfold PROD
      rw [if_neg (by omega), if_pos (Or.inl h1), hneg]
    rw [if_pos (by rw [show decide (x.natAbs = INF) = false by simp [h1]]; decide), isInf_ok hy, Option.bind_some]
    by_cases h2 : y.natAbs = INF
    · refine ⟨g, N, ov, ?_, hB⟩
      rw [if_neg (by rw [show decide (y.natAbs = INF) = true by simp [h2]]; decide), F]
      unfold PROD
      rw [if_neg (by omega), if_pos (Or.inr h2), hneg]
    rw [if_pos (by rw [show decide (y.natAbs = INF) = false by simp [h2]]; decide), abs_r (by omega), Option.bind_some, mt_r (by omega), Option.bind_some]
    obtain ⟨g1, e1, b1⟩ := put_ok (z := 1) (by decide) (Nat.lt_of_lt_of_le (mt_lt x.natAbs) (by decide)) hB
    rw [show f_Ref_put (1 : Int32) (lN (mt x.natAbs)) g = some g1 from e1, Option.bind_some, abs_r (by omega), Option.bind_some, mt_r (by omega), Option.bind_some]
    obtain ⟨g2, e2, b2⟩ := put_ok (z := 2) (by decide) (Nat.lt_of_lt_of_le (mt_lt y.natAbs) (by decide)) b1
    rw [show f_Ref_put (2 : Int32) (lN (mt y.natAbs)) g1 = some g2 from e2, Option.bind_some]
    obtain ⟨g3, e3, b3⟩ := times_ok (z := 0) (x := 1) (y := 2) (by decide) (by decide) (by decide) (by decide) (by decide) b2 (by
      rw [uN_n (by decide), uN_s, uN_s]
      have h1 := bl_of_lt (mt_lt x.natAbs)
      have h2 := bl_of_lt (mt_lt y.natAbs)
      omega)
    rw [show f_Ref_times (0 : Int32) (1 : Int32) (2 : Int32) g2 = some g3 from e3, Option.bind_some, Option.bind_some, ex_r (by omega), Option.bind_some, Option.bind_some, ex_r (by omega), Option.bind_some, z_add]
    have ea1 := ex_ge x.natAbs
    have ea2 := ex_le (n := x.natAbs) (by omega)
    have eb1 := ex_ge y.natAbs
    have eb2 := ex_le (n := y.natAbs) (by omega)
    have R := rref_ok (neg := neg) (o := false) (s := ex x.natAbs + ex y.natAbs) hh (by omega) (by omega) b3
    rw [bI_f, uN_s, uN_n (by decide), uN_s, uN_s] at R
    refine ⟨g3, _, false, ?_, b3⟩
    rw [R, Option.bind_some, hneg]
    unfold PROD
    rw [if_neg (by omega), if_neg (by omega)]
    rfl
  have K36 : ∀ b1 b2 : Bool, (b1 != b2) = pneg x y → ∃ g' N' ov', f_Ref_product_36 (bI b2) (bI b1) (lZ x) (lZ y) (nI how) g (bI ov) = some (lZ (PROD x y how), g', bI ov') ∧ Big g' N' := by
    intro b1 b2 hbb
    unfold f_Ref_product_36
    by_cases hb : b1 = b2
    · rw [if_pos (bI_eq.mpr hb)]
      exact K false (by rw [← hbb]; simp [hb])
    · rw [if_neg (fun h9 => hb (bI_eq.mp h9))]
      exact K true (by rw [← hbb]; exact (bne_iff_ne.mpr hb).symm)
  have K25 : ∀ b1 : Bool, (b1 != decide (y < 0)) = pneg x y → ∃ g' N' ov', f_Ref_product_25 (bI b1) (lZ x) (lZ y) (nI how) g (bI ov) = some (lZ (PROD x y how), g', bI ov') ∧ Big g' N' := by
    intro b1 hbb
    unfold f_Ref_product_25
    by_cases h9 : 0 ≤ y
    · rw [if_pos ((l_le0 (by omega) (by omega)).mpr h9)]
      exact K36 b1 false (by rw [← hbb, d_lt0.mpr h9])
    · rw [if_neg (fun h8 => h9 ((l_le0 (by omega) (by omega)).mp h8))]
      exact K36 b1 true (by rw [← hbb, d_lt1.mpr (by omega)])
  by_cases h9 : 0 ≤ x
  · rw [if_pos ((l_le0 (by omega) (by omega)).mpr h9)]
    exact K25 false (by unfold pneg; rw [d_lt0.mpr h9])
  · rw [if_neg (fun h8 => h9 ((l_le0 (by omega) (by omega)).mp h8))]
    exact K25 true (by unfold pneg; rw [(d_lt1 (x := x)).mpr (by omega)])
theorem quot_loop {how ma mb : Nat} {neg : Bool} {E : Int} (hm1 : 2 ^ 52 ≤ ma) (hm2 : ma < 2 ^ 53) (hn1 : 2 ^ 52 ≤ mb) (hn2 : mb < 2 ^ 53) : ∀ (d i n R D : Nat), i + d = 61 → d < n → 2 * D * mb + R = ma * 2 ^ i → R < 2 * mb → f_Exact_quotient_128 n (wI how) (bI neg) (lN R) (lN mb) (zI E) (lN D) (nI i) = f_Exact_quotient_190 (bI (ma * 2 ^ 60 % mb != 0)) (lN (ma * 2 ^ 60 / mb)) (bI neg) (wI how) (zI E) := by
  intro d
  induction d with
  | zero =>
    intro i n R D hi hn he hR
    obtain ⟨n', rfl⟩ : ∃ n', n = n' + 1 := ⟨n - 1, by omega⟩
    have hi' : i = 61 := by omega
    subst hi'
    rw [f_Exact_quotient_128, if_pos (by decide)]
    have e1 : ma * 2 ^ 60 = mb * D + R / 2 ∧ R % 2 = 0 := by
      have : 2 * D * mb = 2 * (mb * D) := by rw [Nat.mul_assoc, Nat.mul_comm D]
      rw [this] at he
      generalize mb * D = X at *
      omega
    have hq : ma * 2 ^ 60 / mb = D := by
      rw [e1.1, Nat.mul_add_div (by omega), Nat.div_eq_of_lt (by omega), Nat.add_zero]
    have hr : ma * 2 ^ 60 % mb = R / 2 := by
      rw [e1.1, Nat.mul_add_mod, Nat.mod_eq_of_lt (by omega)]
    rw [hq, hr]
    by_cases h0 : R = 0
    · subst h0
      rw [if_pos (by decide)]
      rfl
    · rw [if_neg (fun h9 => h0 ((q_eq0 (by omega)).mp h9)), show (R / 2 != 0) = true from bne_iff_ne.mpr (by omega)]
      rfl
  | succ d ih =>
    intro i n R D hi hn he hR
    obtain ⟨n', rfl⟩ : ∃ n', n = n' + 1 := ⟨n - 1, by omega⟩
    have hD : D < 2 ^ 62 := by
      apply Nat.lt_of_not_le
      intro h9
      have h1 : 2 * 2 ^ 62 * 2 ^ 52 ≤ 2 * D * mb := Nat.mul_le_mul (by omega) hn1
      have h2 : ma * 2 ^ i ≤ 2 ^ 53 * 2 ^ 60 := Nat.mul_le_mul (by omega) (Nat.pow_le_pow_right (by decide) (by omega))
      omega
    rw [f_Exact_quotient_128, if_neg (show ¬ (60 : Int32) < nI i from nI_nlt (a := 60) (by omega) (by decide)), jl_, show (1 : Int32) = nI 1 from rfl, q_shl (by decide), Nat.pow_one]
    by_cases hl : R < mb
    · rw [if_pos ((pk_lLT (by omega) (by omega)).mpr hl)]
      unfold f_Exact_quotient_162
      rw [jl_, jl_, show (1 : Int32) = nI 1 from rfl, q_shl (by decide), nI_add, Nat.pow_one]
      exact ih (i + 1) n' (R * 2) (D * 2) (by omega) (by omega) (by
        rw [Nat.pow_succ, show ma * (2 ^ i * 2) = ma * 2 ^ i * 2 from (Nat.mul_assoc _ _ _).symm, ← he]
        have : 2 * (D * 2) * mb = 2 * D * mb * 2 := by rw [← Nat.mul_assoc, Nat.mul_right_comm]
        omega) (by omega)
    · rw [if_neg (fun h9 => hl ((pk_lLT (by omega) (by omega)).mp h9)), jl_, jl_, lN_sub (by omega), q_or1 (by omega), show D * 2 / 2 * 2 + 1 = D * 2 + 1 by omega]
      unfold f_Exact_quotient_162
      rw [jl_, jl_, show (1 : Int32) = nI 1 from rfl, q_shl (by decide), nI_add, Nat.pow_one]
      exact ih (i + 1) n' ((R - mb) * 2) (D * 2 + 1) (by omega) (by omega) (by
        rw [Nat.pow_succ, show ma * (2 ^ i * 2) = ma * 2 ^ i * 2 from (Nat.mul_assoc _ _ _).symm, ← he]
        have : 2 * (D * 2 + 1) * mb = 2 * D * mb * 2 + 2 * mb := by
          rw [Nat.mul_add, Nat.add_mul, ← Nat.mul_assoc, Nat.mul_right_comm _ 2 mb, Nat.mul_one]
        omega) (by omega)
theorem quot_core {A Bm la lb : Nat} (hA : A ≠ 0) (hB : Bm ≠ 0) (hla : la ≤ 52) (hlb : lb ≤ 52) (hm1 : 2 ^ 52 ≤ A * 2 ^ la) (hm2 : A * 2 ^ la < 2 ^ 53) (hn1 : 2 ^ 52 ≤ Bm * 2 ^ lb) (hn2 : Bm * 2 ^ lb < 2 ^ 53) (neg : Bool) (s : Int) (how : Nat) : RND neg (A * 2 ^ 120 / Bm) (A * 2 ^ 120 % Bm != 0) s how = RND neg (stk (A * 2 ^ la * 2 ^ 60 / (Bm * 2 ^ lb)) (A * 2 ^ la * 2 ^ 60 % (Bm * 2 ^ lb) != 0)) false (s + 60 - la + lb) how := by
  obtain ⟨J, hJ⟩ : ∃ J, J = 60 + lb - la := ⟨_, rfl⟩
  have hBp : 0 < Bm := by omega
  have e1 : A * 2 ^ 120 / Bm / 2 ^ J = A * 2 ^ la * 2 ^ 60 / (Bm * 2 ^ lb) := by
    rw [Nat.div_div_eq_div_mul]
    have h1 : A * 2 ^ 120 = A * 2 ^ (60 + la - lb) * 2 ^ J := by
      rw [Nat.mul_assoc, ← Nat.pow_add, show 60 + la - lb + J = 120 by omega]
    have h2 : A * 2 ^ la * 2 ^ 60 = A * 2 ^ (60 + la - lb) * 2 ^ lb := by
      rw [Nat.mul_assoc, Nat.mul_assoc, ← Nat.pow_add, ← Nat.pow_add, show la + 60 = 60 + la - lb + lb by omega]
    rw [h1, h2, Nat.mul_div_mul_right _ _ (p2 J), Nat.mul_div_mul_right _ _ (p2 lb)]
  have e2 : (A * 2 ^ 120 / Bm % 2 ^ J != 0 || A * 2 ^ 120 % Bm != 0) = (A * 2 ^ la * 2 ^ 60 % (Bm * 2 ^ lb) != 0) := by
    have h1 : A * 2 ^ 120 = A * 2 ^ (60 + la - lb) * 2 ^ J := by
      rw [Nat.mul_assoc, ← Nat.pow_add, show 60 + la - lb + J = 120 by omega]
    have h2 : A * 2 ^ la * 2 ^ 60 = A * 2 ^ (60 + la - lb) * 2 ^ lb := by
      rw [Nat.mul_assoc, Nat.mul_assoc, ← Nat.pow_add, ← Nat.pow_add, show la + 60 = 60 + la - lb + lb by omega]
    have h3 : A * 2 ^ 120 % (Bm * 2 ^ J) = A * 2 ^ 120 % Bm + Bm * (A * 2 ^ 120 / Bm % 2 ^ J) := Nat.mod_mul
    have h4 : A * 2 ^ 120 % (Bm * 2 ^ J) = A * 2 ^ (60 + la - lb) % Bm * 2 ^ J := by
      rw [h1, Nat.mul_mod_mul_right]
    have h5 : A * 2 ^ la * 2 ^ 60 % (Bm * 2 ^ lb) = A * 2 ^ (60 + la - lb) % Bm * 2 ^ lb := by
      rw [h2, Nat.mul_mod_mul_right]
    rw [h5]
    rw [h4] at h3
    have pJ := p2 J
    have pl := p2 lb
    obtain ⟨r1, hr1⟩ : ∃ v, v = A * 2 ^ 120 % Bm := ⟨_, rfl⟩
    obtain ⟨r2, hr2⟩ : ∃ v, v = A * 2 ^ 120 / Bm % 2 ^ J := ⟨_, rfl⟩
    obtain ⟨r3, hr3⟩ : ∃ v, v = A * 2 ^ (60 + la - lb) % Bm := ⟨_, rfl⟩
    rw [← hr1, ← hr2, ← hr3] at h3
    rw [← hr1, ← hr2, ← hr3]
    clear hr1 hr2 hr3 h1 h2 h4 h5 e1 hm1 hm2 hn1 hn2
    by_cases h0 : r3 = 0
    · subst h0
      rw [Nat.zero_mul] at h3 ⊢
      have h6 : r1 = 0 := by omega
      have h7 : r2 = 0 := by
        have h8 : Bm * r2 = 0 := by omega
        rcases Nat.mul_eq_zero.mp h8 with h8 | h8 <;> omega
      rw [h6, h7]
      rfl
    · have h6 : r3 * 2 ^ J ≠ 0 := Nat.mul_ne_zero h0 (by omega)
      have h7 : r3 * 2 ^ lb ≠ 0 := Nat.mul_ne_zero h0 (by omega)
      rw [show (r3 * 2 ^ lb != 0) = true from bne_iff_ne.mpr h7]
      by_cases h8 : r2 = 0
      · subst h8
        rw [Nat.mul_zero] at h3
        rw [show (r1 != 0) = true from bne_iff_ne.mpr (by omega), Bool.or_true]
      · rw [show (r2 != 0) = true from bne_iff_ne.mpr h8, Bool.true_or]
  apply RND_of
  have hb : 55 ≤ bl (A * 2 ^ 120 / Bm / 2 ^ J) := by
    rw [e1]
    apply bl_of_le (k := 54)
    rw [Nat.le_div_iff_mul_le (by have := p2 lb; exact Nat.mul_pos hBp this)]
    have h1 : 2 ^ 54 * (Bm * 2 ^ lb) ≤ 2 ^ 54 * 2 ^ 53 := Nat.mul_le_mul_left _ (Nat.le_of_lt hn2)
    have h2 : 2 ^ 52 * 2 ^ 60 ≤ A * 2 ^ la * 2 ^ 60 := Nat.mul_le_mul_right _ hm1
    exact Nat.le_trans h1 (Nat.le_trans (by decide) h2)
  rw [rmag_sticky neg _ J _ s how hb, e1, e2]
  congr 1
  omega
