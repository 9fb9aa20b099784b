-- the class's rounding
def wI (how : Nat) : Int32 := if how = 0 then -1 else if how = 1 then 1 else 0
theorem c209 {neg : Bool} {n : Nat} : f_Exact_rounded_209 (bI neg) (lN n) = some (lZ (sgn neg n)) := by
  unfold f_Exact_rounded_209 f_Exact_rounded_221 sgn
  cases neg
  · rw [if_pos (by decide)]; rfl
  · rw [if_neg (by decide)]
    simp only [if_true]
    rw [lZ_N, lZ_neg]
theorem c184 {neg aw : Bool} {n : Nat} (hn : n < 2 ^ 63) : f_Exact_rounded_184 (bI neg) (bI aw) (lN n) = some (lZ (sgn neg (if n < INF then n else if aw = true then INF else INF - 1))) := by
  unfold f_Exact_rounded_184 f_Exact_rounded_207
  by_cases h : n < INF
  · rw [if_pos h, if_pos (show lN n < (9218868437227405312 : Int64) from (pk_lLT (b := INF) hn (by decide)).mpr h), c209]
  · rw [if_neg h, if_neg (show ¬ lN n < (9218868437227405312 : Int64) from fun h9 => h ((pk_lLT (b := INF) hn (by decide)).mp h9))]
    cases aw
    · rw [if_pos (by decide)]
      exact c209 (n := INF - 1)
    · rw [if_neg (by decide)]
      exact c209 (n := INF)
theorem c156 {neg aw up : Bool} {q : Nat} {u : Int} (hq : q < 2 ^ 53) (h1 : -1074 ≤ u) (h2 : u < 100000) : f_Exact_rounded_156 (bI neg) (zI u) (bI aw) (lN (if up = true then q + 1 else q)) = some (lZ (sgn neg (magU aw u q up))) := by
  unfold f_Exact_rounded_156 magU
  by_cases hu : 971 < u
  · rw [if_pos (show (971 : Int32) < zI u from (z_lt (a := 971) (by decide) (by decide) (by omega) (by omega)).mpr hu), if_pos hu]
    have := c184 (neg := neg) (aw := aw) (n := INF) (by decide)
    rw [sat_INF] at this
    exact this
  · rw [if_neg (show ¬ (971 : Int32) < zI u from fun h9 => hu ((z_lt (a := 971) (by decide) (by decide) (by omega) (by omega)).mp h9)), if_neg hu, jl_]
    obtain ⟨w, hw⟩ := Int.eq_ofNat_of_zero_le (show 0 ≤ u + 1074 by omega)
    have e1 : (zI u - (-1074 : Int32)) = nI w := by
      rw [show (-1074 : Int32) = zI (-1074) by decide, z_sub, show u - -1074 = u + 1074 by omega, hw]; rfl
    rw [e1, nI_l (by omega), show (52 : Int32) = nI 52 from rfl, q_shl (by decide), hw, show ((w : Int)).toNat = w from rfl, lN_add, c184]
    cases up
    · simp only [Bool.false_eq_true, if_false]; omega
    · simp only [if_true]; omega
theorem c150 {neg aw : Bool} {q : Nat} {u : Int} (hq : q < 2 ^ 53) (h1 : -1074 ≤ u) (h2 : u < 100000) : f_Exact_rounded_150 (bI neg) (zI u) (bI aw) (lN q) = some (lZ (sgn neg (magU aw u q true))) := by
  unfold f_Exact_rounded_150
  rw [jl_, lN_1]
  exact c156 (up := true) hq h1 h2
theorem c156f {neg aw : Bool} {q : Nat} {u : Int} (hq : q < 2 ^ 53) (h1 : -1074 ≤ u) (h2 : u < 100000) : f_Exact_rounded_156 (bI neg) (zI u) (bI aw) (lN q) = some (lZ (sgn neg (magU aw u q false))) := c156 (up := false) hq h1 h2
theorem mask_ {c : Nat} (hc : c < 64) : j_lshl (1 : Int64) (nI c) - (1 : Int64) = lN (2 ^ c - 1) := by
  rw [show (1 : Int64) = lN 1 from rfl, q_shl hc, Nat.one_mul, lN_sub (p2 c)]
theorem and_mask {M c : Nat} (hM : M < 2 ^ 63) (hc : c < 64) : lN M &&& (j_lshl (1 : Int64) (nI c) - (1 : Int64)) = lN (M % 2 ^ c) := by
  rw [mask_ hc]
  have : (2 : Nat) ^ c ≤ 2 ^ 63 := Nat.pow_le_pow_right (by decide) (by omega)
  exact q_and (by omega) c (q_tn (by omega))
theorem cCut {M c : Nat} (hM : M < 2 ^ 63) (h0 : M ≠ 0) (hc : c < 2 ^ 31) : f_Exact_isCut (lN M) (nI c) = some (bI (M % 2 ^ c != 0)) := by
  unfold f_Exact_isCut f_Exact_isCut_0 f_Exact_isCut_18 f_Exact_isCut_23
  by_cases h : 64 ≤ c
  · rw [if_pos (show (64 : Int32) ≤ nI c from nI_le (a := 64) h (by omega)), if_pos (Or.inr rfl)]
    have : M % 2 ^ c = M := Nat.mod_eq_of_lt (Nat.lt_of_lt_of_le hM (Nat.pow_le_pow_right (by decide) (by omega)))
    rw [this]
    simp [h0, bI]
  · rw [if_neg (show ¬ (64 : Int32) ≤ nI c from nI_ge (b := 64) (by omega) (by decide)), and_mask hM (by omega)]
    have hr : M % 2 ^ c < 2 ^ 63 := Nat.lt_of_le_of_lt (Nat.mod_le _ _) hM
    by_cases h9 : M % 2 ^ c = 0
    · rw [h9, if_pos (by decide), if_pos (Or.inl rfl)]
      rfl
    · rw [if_neg (fun h8 => h9 ((q_eq0 hr).mp h8)), if_pos (Or.inr rfl)]
      simp [h9, bI]
theorem cNear {M c : Nat} {aw : Bool} (hM : M < 2 ^ 63) (h0 : M ≠ 0) (hc0 : 0 < c) (hc : c < 2 ^ 31) : f_Exact_isNearerAbove (lN M) (nI c) = some (bI (upQ 2 aw (M / 2 ^ c) (kp M false (c : Int)))) := by
  unfold f_Exact_isNearerAbove f_Exact_isNearerAbove_0
  rw [kp_pos hc0]
  by_cases h : c < 64
  · rw [if_pos (show nI c < (64 : Int32) from nI_lt (b := 64) h (by decide)), jl_, jl_, and_mask hM h, show nI c - (1 : Int32) = nI (c - 1) from pk_sub (b := 1) hc0, show (1 : Int64) = lN 1 from rfl, q_shl (by omega), Nat.one_mul, q_ushr h (by omega)]
    have hq : M / 2 ^ c < 2 ^ 63 := Nat.lt_of_le_of_lt (Nat.div_le_self _ _) hM
    rw [q_and (by omega) 1 (by decide)]
    have hr : M % 2 ^ c < 2 ^ 63 := Nat.lt_of_le_of_lt (Nat.mod_le _ _) hM
    have hh : (2 : Nat) ^ (c - 1) < 2 ^ 63 := Nat.pow_lt_pow_right (by decide) (by omega)
    have hodd : M / 2 ^ c % 2 ^ 1 < 2 := Nat.mod_lt _ (by decide)
    have e2 : ∀ b : Bool, f_Exact_isNearerAbove_38 (bI b) (lN (2 ^ (c - 1))) (lN (M % 2 ^ c)) = some (bI (decide (2 ^ (c - 1) < M % 2 ^ c) || (decide (M % 2 ^ c = 2 ^ (c - 1)) && b))) := by
      intro b
      unfold f_Exact_isNearerAbove_38 f_Exact_isNearerAbove_59 f_Exact_isNearerAbove_63 f_Exact_isNearerAbove_64
      rw [if_pos (show j_z (0 : Int32) from Or.inl rfl), if_pos (show j_z (1 : Int32) from Or.inr rfl)]
      by_cases l1 : 2 ^ (c - 1) < M % 2 ^ c
      · rw [if_pos ((pk_lLT hh hr).mpr l1)]
        simp [l1, bI]
      · rw [if_neg (fun h9 => l1 ((pk_lLT hh hr).mp h9))]
        by_cases l2 : M % 2 ^ c = 2 ^ (c - 1)
        · rw [if_pos ((pk_lEQ hr hh).mpr l2)]
          cases b
          · rw [if_pos (by decide)]; simp [l1, bI]
          · rw [if_neg (by decide)]; simp [l2, bI]
        · rw [if_neg (fun h9 => l2 ((pk_lEQ hr hh).mp h9))]
          simp [l1, l2, bI]
    have fin : (decide (2 ^ (c - 1) < M % 2 ^ c) || (decide (M % 2 ^ c = 2 ^ (c - 1)) && (M / 2 ^ c % 2 == 1))) = upQ 2 aw (M / 2 ^ c) (if M % 2 ^ c = 0 ∧ false = false then 0 else if M % 2 ^ c < 2 ^ (c - 1) then 1 else if M % 2 ^ c = 2 ^ (c - 1) ∧ false = false then 2 else 3) := by
      have hp := p2 (c - 1)
      generalize M % 2 ^ c = r at *
      generalize 2 ^ (c - 1) = hf at *
      unfold upQ
      rw [if_pos rfl]
      by_cases r0 : r = 0
      · have n1 : ¬ hf < r := by omega
        have n2 : ¬ r = hf := by omega
        simp [r0]
        omega
      · by_cases r1 : r < hf
        · have n1 : ¬ hf < r := by omega
          have n2 : ¬ r = hf := by omega
          simp [r0, r1, n1, n2]
        · by_cases r2 : r = hf
          · have n1 : ¬ hf < r := by omega
            rw [if_neg (fun h9 => r0 h9.1), if_neg r1, if_pos ⟨r2, rfl⟩]
            simp [n1, r2]
          · have n1 : hf < r := by omega
            simp [r0, r1, r2, n1]
    rw [← fin]
    have e21 : (2 : Nat) ^ 1 = 2 := rfl
    rw [e21] at hodd ⊢
    by_cases ho : M / 2 ^ c % 2 = 0
    · rw [ho, if_pos (by decide)]
      exact e2 false
    · have ho1 : M / 2 ^ c % 2 = 1 := by
        generalize M / 2 ^ c % 2 = X at *
        omega
      rw [ho1, if_neg (by decide)]
      exact e2 true
  · rw [if_neg (show ¬ nI c < (64 : Int32) from nI_nlt (b := 64) (by omega) (by omega))]
    have e1 : M % 2 ^ c = M := Nat.mod_eq_of_lt (Nat.lt_of_lt_of_le hM (Nat.pow_le_pow_right (by decide) (by omega)))
    have e2 : M < 2 ^ (c - 1) := Nat.lt_of_lt_of_le hM (Nat.pow_le_pow_right (by decide) (by omega))
    rw [e1, if_neg (fun h9 => h0 h9.1), if_pos e2]
    rfl
theorem c115 {neg : Bool} {how M c : Nat} {u : Int} (hh : how < 3) (hM : M < 2 ^ 63) (h0 : M ≠ 0) (hc0 : 0 < c) (hc : c < 2 ^ 31) (hq : M / 2 ^ c < 2 ^ 53) (h1 : -1074 ≤ u) (h2 : u < 100000) : f_Exact_rounded_115 (lN (M / 2 ^ c)) (bI neg) (wI how) (lN M) (zI u) (nI c) (bI (awy neg how)) = some (lZ (sgn neg (mag how (awy neg how) u (M / 2 ^ c) (kp M false (c : Int))))) := by
  rw [mag_U]
  unfold f_Exact_rounded_115
  have U := c150 (neg := neg) (aw := awy neg how) hq h1 h2
  have V := c156f (neg := neg) (aw := awy neg how) hq h1 h2
  by_cases h22 : how = 2
  · subst h22
    rw [if_pos (by decide), cNear (aw := awy neg 2) hM h0 hc0 hc, Option.bind_some]
    generalize upQ 2 (awy neg 2) (M / 2 ^ c) (kp M false (c : Int)) = up
    cases up
    · rw [if_pos (by decide)]; exact V
    · rw [if_neg (by decide)]; exact U
  · have hw : wI how ≠ 0 := by
      rcases (show how = 0 ∨ how = 1 by omega) with rfl | rfl <;> decide
    rw [if_neg hw]
    have eu : upQ how (awy neg how) (M / 2 ^ c) (kp M false (c : Int)) = ((M % 2 ^ c != 0) && awy neg how) := by
      unfold upQ
      rw [if_neg h22, kp_pos hc0]
      by_cases r0 : M % 2 ^ c = 0
      · simp [r0]
      · by_cases r1 : M % 2 ^ c < 2 ^ (c - 1)
        · simp [r0, r1]
        · by_cases r2 : M % 2 ^ c = 2 ^ (c - 1)
          · have := p2 (c - 1)
            simp [r2]
          · simp [r0, r1, r2]
    rw [eu]
    generalize awy neg how = aw at *
    cases aw
    · rw [if_pos (by decide), Bool.and_false]; exact V
    · rw [if_neg (by decide), cCut hM h0 hc, Option.bind_some, Bool.and_true]
      cases (M % 2 ^ c != 0)
      · rw [if_pos (by decide)]; exact V
      · rw [if_neg (by decide)]; exact U
theorem r48 {neg : Bool} {how M : Nat} {t : Int} (hh : how < 3) (hM1 : 2 ^ 62 ≤ M) (hM : M < 2 ^ 63) (ht1 : -50000 ≤ t) (ht2 : t ≤ 50000) : f_Exact_rounded_48 (bI neg) (wI how) (lN M) (zI t) = some (lZ (RND neg M false t how)) := by
  have hbl : bl M = 63 := bl_eq (k := 62) hM1 hM
  have h0 : M ≠ 0 := by omega
  have hu1 : -1074 ≤ un M t := by unfold un; split <;> omega
  have hu2 : un M t < 100000 := by unfold un; split <;> omega
  have hc10 : 10 ≤ un M t - t := by unfold un; split <;> omega
  obtain ⟨c, hc⟩ := Int.eq_ofNat_of_zero_le (show 0 ≤ un M t - t by omega)
  have hcl : c < 2 ^ 31 := by unfold un at hc; split at hc <;> omega
  have ed : j_maxI (10 : Int32) ((-1074 : Int32) - zI t) = nI c := by
    unfold j_maxI
    rw [show (-1074 : Int32) = zI (-1074) by decide, z_sub, z_nI, ← hc]
    unfold un
    rw [hbl]
    by_cases h9 : (10 : Int32) < zI (-1074 - t)
    · rw [if_pos h9]
      have := (z_lt (a := 10) (by decide) (by decide) (by omega) (by omega)).mp h9
      rw [if_pos (by omega)]
    · rw [if_neg h9]
      have : ¬ (10 : Int) < -1074 - t := fun h8 => h9 ((z_lt (a := 10) (by decide) (by decide) (by omega) (by omega)).mpr h8)
      by_cases h7 : ((63 : Nat) : Int) - 53 + t ≤ -1074
      · rw [if_pos h7, show -1074 - t = 10 by omega]; decide
      · rw [if_neg h7, show ((63 : Nat) : Int) - 53 + t - t = 10 by omega]; decide
  have hq : M / 2 ^ c < 2 ^ 53 := by
    rw [Nat.div_lt_iff_lt_mul (p2 c), ← Nat.pow_add]
    exact Nat.lt_of_lt_of_le hM (Nat.pow_le_pow_right (by decide) (by omega))
  have fin : f_Exact_rounded_97 (bI (awy neg how)) (bI neg) (wI how) (lN M) (zI (un M t)) (nI c) = some (lZ (RND neg M false t how)) := by
    have K := c115 (neg := neg) hh hM h0 (by omega) hcl hq hu1 hu2
    have er : RND neg M false t how = sgn neg (mag how (awy neg how) (un M t) (M / 2 ^ c) (kp M false (c : Int))) := by
      unfold RND rmag sgn
      rw [if_neg h0, hc, show ((c : Nat) : Int) = (c : Int) from rfl, qf_pos (by omega)]
    rw [er]
    unfold f_Exact_rounded_97
    by_cases h64 : 64 ≤ c
    · rw [if_pos (show (64 : Int32) ≤ nI c from nI_le (a := 64) h64 (by omega))]
      have z0 : M / 2 ^ c = 0 := Nat.div_eq_of_lt (Nat.lt_of_lt_of_le hM (Nat.pow_le_pow_right (by decide) (by omega)))
      rw [z0] at K ⊢
      exact K
    · rw [if_neg (show ¬ (64 : Int32) ≤ nI c from nI_ge (b := 64) (by omega) (by decide)), q_ushr (by omega) (by omega)]
      exact K
  unfold f_Exact_rounded_48
  rw [jl_, jl_, ed, show zI t + nI c = zI (un M t) by rw [z_nI, z_add]; exact congrArg zI (by omega)]
  rcases (show how = 0 ∨ how = 1 ∨ how = 2 by omega) with rfl | rfl | rfl <;> cases neg
  · rw [if_pos (by decide), if_neg (by decide)]; exact fin
  · rw [if_neg (by decide), if_pos (by decide)]; exact fin
  · rw [if_pos (by decide), if_pos (by decide)]; exact fin
  · rw [if_neg (by decide), if_neg (by decide)]; exact fin
  · rw [if_pos (by decide), if_neg (by decide)]; exact fin
  · rw [if_neg (by decide), if_neg (by decide)]; exact fin
theorem r17 {neg : Bool} {how S : Nat} {e : Int} (hh : how < 3) (hS0 : S ≠ 0) (hS : S < 2 ^ 63) (he1 : -40000 ≤ e) (he2 : e ≤ 40000) : ∀ (d k n : Nat), bl S + k + d = 63 → d < n → f_Exact_rounded_17 n (bI neg) (wI how) (lN (S * 2 ^ k)) (zI (e - k)) (nI k) = some (lZ (RND neg S false e how)) := by
  intro d
  have hl := bl_lt S
  have hle := bl_le hS0
  have hp := bl_pos hS0
  have RS : ∀ k : Nat, RND neg (S * 2 ^ k) false (e - k) how = RND neg S false e how := fun k => by
    unfold RND
    rw [rmag_scale]
  induction d with
  | zero =>
    intro k n hk hn
    obtain ⟨n', rfl⟩ : ∃ n', n = n' + 1 := ⟨n - 1, by omega⟩
    have b1 : S * 2 ^ k < 2 ^ 63 := by
      have : S * 2 ^ k < 2 ^ bl S * 2 ^ k := Nat.mul_lt_mul_of_pos_right hl (p2 _)
      rw [← Nat.pow_add, show bl S + k = 63 by omega] at this
      exact this
    have b2 : 2 ^ 62 ≤ S * 2 ^ k := by
      have : 2 ^ (bl S - 1) * 2 ^ k ≤ S * 2 ^ k := Nat.mul_le_mul_right _ hle
      rw [← Nat.pow_add, show bl S - 1 + k = 62 by omega] at this
      exact this
    rw [← RS k, ← r48 hh b2 b1 (by omega) (by omega), f_Exact_rounded_17]
    by_cases h63 : (63 : Int32) ≤ nI k
    · rw [if_pos h63]
    · rw [if_neg h63, if_pos (show (4611686018427387904 : Int64) ≤ lN (S * 2 ^ k) from (pk_lLE (a := 2 ^ 62) (by decide) b1).mpr b2)]
  | succ d ih =>
    intro k n hk hn
    obtain ⟨n', rfl⟩ : ∃ n', n = n' + 1 := ⟨n - 1, by omega⟩
    have b1 : S * 2 ^ k < 2 ^ 62 := by
      have : S * 2 ^ k < 2 ^ bl S * 2 ^ k := Nat.mul_lt_mul_of_pos_right hl (p2 _)
      rw [← Nat.pow_add] at this
      exact Nat.lt_of_lt_of_le this (Nat.pow_le_pow_right (by decide) (by omega))
    have h := ih (k + 1) n' (by omega) (by omega)
    rw [f_Exact_rounded_17, if_neg (show ¬ (63 : Int32) ≤ nI k from nI_ge (b := 63) (by omega) (by decide)), if_neg (show ¬ (4611686018427387904 : Int64) ≤ lN (S * 2 ^ k) from fun h9 => by have := (pk_lLE (a := 4611686018427387904) (b := S * 2 ^ k) (by decide) (by omega)).mp h9; omega), jl_, jl_, jl_, z_m1, show (1 : Int32) = nI 1 from rfl, q_shl (by decide), nI_add, Nat.pow_one]
    rw [Nat.pow_succ, ← Nat.mul_assoc] at h
    rw [show e - (k : Int) - 1 = e - ((k + 1 : Nat) : Int) by omega]
    exact h
theorem rcls_ok {neg : Bool} {how S : Nat} {e : Int} (hh : how < 3) (hS : S < 2 ^ 63) (he1 : -40000 ≤ e) (he2 : e ≤ 40000) : f_Exact_rounded (bI neg) (lN S) (zI e) (wI how) = some (lZ (RND neg S false e how)) := by
  unfold f_Exact_rounded f_Exact_rounded_0
  by_cases h0 : S = 0
  · subst h0
    rw [if_pos (by decide)]
    unfold RND rmag
    rw [if_pos rfl]
    cases neg <;> rfl
  · rw [if_neg (fun h9 => h0 ((q_eq0 hS).mp h9))]
    have := r17 (neg := neg) hh h0 hS he1 he2 (63 - bl S) 0 5000 (by have := bl_of_lt hS; omega) (by omega)
    rw [Nat.pow_zero, Nat.mul_one, show e - ((0 : Nat) : Int) = e by omega] at this
    exact this
