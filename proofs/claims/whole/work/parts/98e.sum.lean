-- sums
theorem traced_ok {n : Nat} (b : Bool) (hn : n < 2 ^ 63) : f_Exact_traced (lN n) (bI b) = some (lN (stk n b)) := by
  unfold f_Exact_traced f_Exact_traced_0 f_Exact_traced_11 stk
  cases b
  · rw [if_pos (by decide)]; rfl
  · rw [if_neg (by decide), q_or1 (by omega)]; rfl
theorem shifted_ok {A d : Nat} (hA : A < 2 ^ 62) (hd : d < 2 ^ 31) : f_Exact_shifted (lN A) (nI d) = some (lN (stk (A / 2 ^ d) (A % 2 ^ d != 0))) := by
  unfold f_Exact_shifted f_Exact_shifted_0
  by_cases h : d < 63
  · rw [if_pos (show nI d < (63 : Int32) from nI_lt (b := 63) h (by decide)), jl_, q_ushr (by omega) (by omega), q_shl (by omega)]
    unfold f_Exact_shifted_36
    have h1 := Nat.div_add_mod A (2 ^ d)
    rw [Nat.mul_comm] at h1
    have h2 : A / 2 ^ d ≤ A := Nat.div_le_self _ _
    by_cases hr : A % 2 ^ d = 0
    · rw [if_pos (by rw [show A / 2 ^ d * 2 ^ d = A by omega]), hr]
      have := traced_ok (n := A / 2 ^ d) false (by omega)
      rw [bI_f] at this
      rw [this]
      rfl
    · rw [if_neg (fun h9 => by have := (pk_lEQ (by omega) (by omega)).mp h9; omega)]
      have := traced_ok (n := A / 2 ^ d) true (by omega)
      rw [bI_t] at this
      rw [this]
      have e : (A % 2 ^ d != 0) = true := by simp [hr]
      rw [e]
      rfl
  · rw [if_neg (show ¬ nI d < (63 : Int32) from nI_nlt (b := 63) (by omega) hd)]
    unfold f_Exact_shifted_17
    have hlt : A < 2 ^ d := Nat.lt_of_lt_of_le hA (Nat.pow_le_pow_right (by decide) (by omega))
    rw [Nat.div_eq_of_lt hlt, Nat.mod_eq_of_lt hlt]
    by_cases h0 : A = 0
    · subst h0
      rw [if_pos (by decide)]; rfl
    · rw [if_neg (fun h9 => h0 ((q_eq0 (by omega)).mp h9))]
      have e : (A != 0) = true := by simp [h0]
      rw [e]
      rfl
theorem stk_le (n : Nat) (b : Bool) : stk n b ≤ n + 1 := by
  unfold stk
  split <;> omega
theorem lit9 {S d : Nat} (h : d ≤ 9) : S * 2 ^ 9 / 2 ^ d = S * 2 ^ (9 - d) ∧ S * 2 ^ 9 % 2 ^ d = 0 := by
  have e : S * 2 ^ 9 = S * 2 ^ (9 - d) * 2 ^ d := by
    rw [Nat.mul_assoc, ← Nat.pow_add, show 9 - d + d = 9 by omega]
  rw [e]
  exact ⟨Nat.mul_div_cancel _ (p2 d), Nat.mul_mod_left _ _⟩
theorem litj {S j : Nat} : S * 2 ^ 9 / 2 ^ (j + 9) = S / 2 ^ j ∧ (S * 2 ^ 9 % 2 ^ (j + 9) != 0) = (S % 2 ^ j != 0) := by
  rw [Nat.pow_add]
  refine ⟨Nat.mul_div_mul_right _ _ (p2 9), ?_⟩
  rw [Nat.mul_mod_mul_right]
  by_cases h : S % 2 ^ j = 0
  · rw [h]
  · have h2 : S % 2 ^ j * 2 ^ 9 ≠ 0 := by omega
    have e1 : (S % 2 ^ j * 2 ^ 9 != 0) = true := bne_iff_ne.mpr h2
    have e2 : (S % 2 ^ j != 0) = true := bne_iff_ne.mpr h
    rw [e1, e2]
theorem sum_plus {G S d : Nat} (hG : G < 2 ^ 53) (hS : S < 2 ^ 53) (hn : 9 < d → 2 ^ 52 ≤ G) (neg : Bool) (s : Int) (how : Nat) : rmag neg (G * 2 ^ d + S) false s how = rmag neg (G * 2 ^ 9 + stk (S * 2 ^ 9 / 2 ^ d) (S * 2 ^ 9 % 2 ^ d != 0)) false (s + d - 9) how := by
  by_cases h : d ≤ 9
  · obtain ⟨e1, e2⟩ := lit9 (S := S) h
    rw [e1, e2]
    have e3 : G * 2 ^ 9 + stk (S * 2 ^ (9 - d)) (0 != 0) = (G * 2 ^ d + S) * 2 ^ (9 - d) := by
      rw [Nat.add_mul, Nat.mul_assoc, ← Nat.pow_add, show d + (9 - d) = 9 by omega]
      rfl
    rw [e3, ← rmag_scale neg (G * 2 ^ d + S) (9 - d) s how]
    congr 1
    omega
  · obtain ⟨j, rfl⟩ : ∃ j, d = j + 9 := ⟨d - 9, by omega⟩
    have hG2 := hn (by omega)
    obtain ⟨e1, e2⟩ := litj (S := S) (j := j)
    rw [e1, e2]
    have hp := p2 j
    have q1 : (G * 2 ^ (j + 9) + S) / 2 ^ j = G * 2 ^ 9 + S / 2 ^ j := by
      rw [Nat.add_comm j 9, Nat.pow_add, ← Nat.mul_assoc, Nat.add_comm, Nat.add_mul_div_right _ _ hp, Nat.add_comm]
    have q2 : (G * 2 ^ (j + 9) + S) % 2 ^ j = S % 2 ^ j := by
      rw [Nat.add_comm j 9, Nat.pow_add, ← Nat.mul_assoc, Nat.add_comm, Nat.add_mul_mod_self_right]
    have hb : 55 ≤ bl (G * 2 ^ 9 + S / 2 ^ j) := bl_of_le (k := 54) (Nat.le_trans (show 2 ^ 54 ≤ G * 2 ^ 9 by omega) (Nat.le_add_right _ _))
    rw [rmag_sticky neg (G * 2 ^ (j + 9) + S) j false s how (by rw [q1]; exact hb), q1, q2, Bool.or_false]
    have e3 : stk (G * 2 ^ 9 + S / 2 ^ j) (S % 2 ^ j != 0) = G * 2 ^ 9 + stk (S / 2 ^ j) (S % 2 ^ j != 0) := by
      unfold stk
      split
      · generalize S / 2 ^ j = X
        omega
      · rfl
    rw [e3]
    congr 1
    omega
theorem sum_minus {G S d : Nat} (hG : G < 2 ^ 53) (hS : S < 2 ^ 53) (hn : 9 < d → 2 ^ 52 ≤ G) (hle : S ≤ G * 2 ^ d) (neg : Bool) (s : Int) (how : Nat) : rmag neg (G * 2 ^ d - S) false s how = rmag neg (G * 2 ^ 9 - stk (S * 2 ^ 9 / 2 ^ d) (S * 2 ^ 9 % 2 ^ d != 0)) false (s + d - 9) how := by
  by_cases h : d ≤ 9
  · obtain ⟨e1, e2⟩ := lit9 (S := S) h
    rw [e1, e2]
    have e3 : G * 2 ^ 9 - stk (S * 2 ^ (9 - d)) (0 != 0) = (G * 2 ^ d - S) * 2 ^ (9 - d) := by
      rw [Nat.sub_mul, Nat.mul_assoc, ← Nat.pow_add, show d + (9 - d) = 9 by omega]
      rfl
    rw [e3, ← rmag_scale neg (G * 2 ^ d - S) (9 - d) s how]
    congr 1
    omega
  · obtain ⟨j, rfl⟩ : ∃ j, d = j + 9 := ⟨d - 9, by omega⟩
    have hG2 := hn (by omega)
    obtain ⟨e1, e2⟩ := litj (S := S) (j := j)
    rw [e1, e2]
    have hp := p2 j
    have hj1 : 2 ^ 1 ≤ 2 ^ j := Nat.pow_le_pow_right (by decide) (by omega)
    have hS1 : S / 2 ^ j ≤ S := Nat.div_le_self _ _
    have dm := Nat.div_add_mod S (2 ^ j)
    have ml := Nat.mod_lt S hp
    have eG : G * 2 ^ (j + 9) = G * 2 ^ 9 * 2 ^ j := by rw [Nat.add_comm j 9, Nat.pow_add, ← Nat.mul_assoc]
    rw [eG]
    obtain ⟨A, hA⟩ : ∃ A, A = G * 2 ^ 9 := ⟨_, rfl⟩
    rw [← hA]
    have hA2 : 2 ^ 61 ≤ A := by omega
    have hAe : A % 2 = 0 := by omega
    clear eG hle
    by_cases h0 : S % 2 ^ j = 0
    · have q1 : (A * 2 ^ j - S) / 2 ^ j = A - S / 2 ^ j := by
        have : A * 2 ^ j - S = (A - S / 2 ^ j) * 2 ^ j := by
          rw [Nat.sub_mul]
          rw [Nat.mul_comm] at dm
          omega
        rw [this, Nat.mul_div_cancel _ hp]
      have q2 : (A * 2 ^ j - S) % 2 ^ j = 0 := by
        have : A * 2 ^ j - S = (A - S / 2 ^ j) * 2 ^ j := by
          rw [Nat.sub_mul]
          rw [Nat.mul_comm] at dm
          omega
        rw [this, Nat.mul_mod_left]
      have hb : 55 ≤ bl (A - S / 2 ^ j) := bl_of_le (k := 54) (by omega)
      rw [rmag_sticky neg (A * 2 ^ j - S) j false s how (by rw [q1]; exact hb), q1, q2, h0]
      unfold stk
      simp only [bne_self_eq_false, Bool.or_self, Bool.false_eq_true, if_false]
      congr 1
      omega
    · have key : A * 2 ^ j - S = (2 ^ j - S % 2 ^ j) + (A - S / 2 ^ j - 1) * 2 ^ j := by
        rw [Nat.sub_mul, Nat.sub_mul]
        rw [Nat.mul_comm] at dm
        have m1 : S / 2 ^ j * 2 ^ j + 2 ^ j ≤ A * 2 ^ j := by
          have := Nat.mul_le_mul_right (2 ^ j) (show S / 2 ^ j + 1 ≤ A by omega)
          rw [Nat.add_mul] at this
          omega
        omega
      have q1 : (A * 2 ^ j - S) / 2 ^ j = A - S / 2 ^ j - 1 := by
        rw [key, Nat.add_mul_div_right _ _ hp, Nat.div_eq_of_lt (by omega), Nat.zero_add]
      have q2 : (A * 2 ^ j - S) % 2 ^ j ≠ 0 := by
        rw [key, Nat.add_mul_mod_self_right, Nat.mod_eq_of_lt (by omega)]
        omega
      have hb : 55 ≤ bl (A - S / 2 ^ j - 1) := bl_of_le (k := 54) (by omega)
      rw [rmag_sticky neg (A * 2 ^ j - S) j false s how (by rw [q1]; exact hb), q1]
      have b1 : ((A * 2 ^ j - S) % 2 ^ j != 0 || false) = true := by simp [q2]
      have b2 : (S % 2 ^ j != 0) = true := by simp [h0]
      rw [b1, b2]
      have e3 : stk (A - S / 2 ^ j - 1) true = A - stk (S / 2 ^ j) true := by
        unfold stk
        simp only [if_true]
        generalize S / 2 ^ j = X at *
        omega
      rw [e3]
      congr 1
      omega
def sneg (x y : Int) : Bool := if decide (x < 0) = decide (y < 0) then decide (x < 0) else if RV y.natAbs ≤ RV x.natAbs then decide (x < 0) else decide (y < 0)
def sabs (x y : Int) : Nat := if decide (x < 0) = decide (y < 0) then RV x.natAbs + RV y.natAbs else if RV y.natAbs ≤ RV x.natAbs then RV x.natAbs - RV y.natAbs else RV y.natAbs - RV x.natAbs
theorem RND_of {neg : Bool} {N N' : Nat} {o o' : Bool} {s s' : Int} {how : Nat} (h : rmag neg N o s how = rmag neg N' o' s' how) : RND neg N o s how = RND neg N' o' s' how := by
  unfold RND
  rw [h]
theorem RV_split {a b : Nat} (h : ex a ≤ ex b) : RV b = mt b * 2 ^ (ex b - ex a).toNat * 2 ^ (ex a + 1074).toNat := by
  unfold RV
  have := ex_ge a
  rw [Nat.mul_assoc, ← Nat.pow_add]
  congr 2
  omega
theorem s41 {great small : Int} {how : Nat} {sc : Int} (hh : how < 3) (hg : great.natAbs < INF) (hs : small.natAbs ≤ great.natAbs) (hsc1 : -2 ≤ sc) (hsc2 : sc ≤ 2) : f_Exact_scaledSum_41 (lZ small) (zI sc) (wI how) (lZ great) = some (lZ (RND (decide (great < 0)) (if decide (great < 0) = decide (small < 0) then RV great.natAbs + RV small.natAbs else RV great.natAbs - RV small.natAbs) false (sc - 1074) how)) := by
  have hI : INF = 9218868437227405312 := rfl
  have hexm := ex_mono hs
  have g1 := ex_ge small.natAbs
  have g2 := ex_le hg
  have m1 := mt_lt great.natAbs
  have m2 := mt_lt small.natAbs
  unfold f_Exact_scaledSum_41
  rw [ex_c (by omega), Option.bind_some, sg_c (by omega), Option.bind_some, jl_, show (9 : Int32) = nI 9 from rfl, q_shl (by decide), sg_c (by omega), Option.bind_some, ex_c (by omega), Option.bind_some, q_shl (by decide), z_sub]
  obtain ⟨d, hd⟩ := Int.eq_ofNat_of_zero_le (show 0 ≤ ex great.natAbs - ex small.natAbs by omega)
  have ez : zI (ex great.natAbs - ex small.natAbs) = nI d := by rw [hd]; rfl
  have hG := RV_split hexm
  rw [hd, show ((d : Int)).toNat = d from rfl] at hG
  have hS : RV small.natAbs = mt small.natAbs * 2 ^ (ex small.natAbs + 1074).toNat := rfl
  rw [ez, shifted_ok (by omega) (by omega), Option.bind_some]
  have hlitle : stk (mt small.natAbs * 2 ^ 9 / 2 ^ d) (mt small.natAbs * 2 ^ 9 % 2 ^ d != 0) ≤ mt small.natAbs * 2 ^ 9 + 1 := Nat.le_trans (stk_le _ _) (Nat.add_le_add_right (Nat.div_le_self _ _) 1)
  have hnor : 9 < d → 2 ^ 52 ≤ mt great.natAbs := fun h => mt_nor (by omega)
  have hle : mt small.natAbs ≤ mt great.natAbs * 2 ^ d := by
    have := RV_le.mpr hs
    rw [hG, hS] at this
    exact Nat.le_of_mul_le_mul_right this (p2 _)
  -- the two forms
  have EQ : ∀ N : Nat, RND (decide (great < 0)) (N * 2 ^ (ex small.natAbs + 1074).toNat) false (sc - 1074) how = RND (decide (great < 0)) N false (ex small.natAbs + sc) how := fun N => by
    apply RND_of
    rw [← rmag_scale (decide (great < 0)) N (ex small.natAbs + 1074).toNat (ex small.natAbs + sc) how]
    congr 1
    omega
  have S135 : ∀ (T : Nat), T < 2 ^ 63 → f_Exact_scaledSum_135 (bI (decide (great < 0))) (zI sc) (wI how) (zI (ex great.natAbs)) (lN T) = some (lZ (RND (decide (great < 0)) T false (ex great.natAbs - 9 + sc) how)) := fun T hT => by
    unfold f_Exact_scaledSum_135
    rw [show (9 : Int32) = zI 9 by decide, z_sub, z_add, rcls_ok hh hT (by omega) (by omega)]
    rfl
  have S121 : ∀ (T : Nat), T < 2 ^ 63 → f_Exact_scaledSum_121 (lN T) (zI sc) (wI how) (lZ great) (zI (ex great.natAbs)) = some (lZ (RND (decide (great < 0)) T false (ex great.natAbs - 9 + sc) how)) := fun T hT => by
    have := S135 T hT
    unfold f_Exact_scaledSum_121
    by_cases h9 : 0 ≤ great
    · rw [if_pos ((l_le0 (by omega) (by omega)).mpr h9)]
      rw [show decide (great < 0) = false by simp; omega] at this ⊢
      exact this
    · rw [if_neg (fun h8 => h9 ((l_le0 (by omega) (by omega)).mp h8))]
      rw [show decide (great < 0) = true by simp; omega] at this ⊢
      exact this
  have S105 : ∀ b1 b2 : Bool, b1 = decide (great < 0) → b2 = decide (small < 0) → f_Exact_scaledSum_105 (bI b2) (bI b1) (zI sc) (wI how) (lZ great) (zI (ex great.natAbs)) (lN (mt great.natAbs * 2 ^ 9)) (lN (stk (mt small.natAbs * 2 ^ 9 / 2 ^ d) (mt small.natAbs * 2 ^ 9 % 2 ^ d != 0))) = some (lZ (RND (decide (great < 0)) (if decide (great < 0) = decide (small < 0) then RV great.natAbs + RV small.natAbs else RV great.natAbs - RV small.natAbs) false (sc - 1074) how)) := by
    intro b1 b2 h1 h2
    unfold f_Exact_scaledSum_105
    by_cases hb : b1 = b2
    · rw [if_pos (bI_eq.mpr hb), if_pos (by rw [← h1, ← h2]; exact hb), lN_add, S121 _ (by omega), hG, hS, ← Nat.add_mul, EQ, RND_of (sum_plus m1 m2 hnor (decide (great < 0)) (ex small.natAbs + sc) how)]
      congr 3
      omega
    · have hle2 : stk (mt small.natAbs * 2 ^ 9 / 2 ^ d) (mt small.natAbs * 2 ^ 9 % 2 ^ d != 0) ≤ mt great.natAbs * 2 ^ 9 := by
        by_cases h9 : d ≤ 9
        · obtain ⟨e1, e2⟩ := lit9 (S := mt small.natAbs) h9
          rw [e1, e2]
          have := Nat.mul_le_mul_right (2 ^ (9 - d)) hle
          rw [Nat.mul_assoc, ← Nat.pow_add, show d + (9 - d) = 9 by omega] at this
          exact this
        · have hG2 := hnor (by omega)
          have : mt small.natAbs * 2 ^ 9 / 2 ^ d ≤ mt small.natAbs * 2 ^ 9 / 2 ^ 9 := Nat.div_le_div_left (Nat.pow_le_pow_right (by decide) (by omega)) (by decide)
          rw [Nat.mul_div_cancel _ (by decide)] at this
          exact Nat.le_trans (stk_le _ _) (Nat.le_trans (Nat.add_le_add_right this 1) (by omega))
      rw [if_neg (fun h9 => hb (bI_eq.mp h9)), if_neg (by rw [← h1, ← h2]; exact hb), lN_sub hle2, S121 _ (by omega), hG, hS, ← Nat.sub_mul, EQ, RND_of (sum_minus m1 m2 hnor hle (decide (great < 0)) (ex small.natAbs + sc) how)]
      congr 3
      omega
  have S93 : ∀ b1 : Bool, b1 = decide (great < 0) → f_Exact_scaledSum_93 (bI b1) (zI sc) (wI how) (lZ great) (lZ small) (zI (ex great.natAbs)) (lN (mt great.natAbs * 2 ^ 9)) (lN (stk (mt small.natAbs * 2 ^ 9 / 2 ^ d) (mt small.natAbs * 2 ^ 9 % 2 ^ d != 0))) = some (lZ (RND (decide (great < 0)) (if decide (great < 0) = decide (small < 0) then RV great.natAbs + RV small.natAbs else RV great.natAbs - RV small.natAbs) false (sc - 1074) how)) := by
    intro b1 h1
    unfold f_Exact_scaledSum_93
    by_cases h9 : 0 ≤ small
    · rw [if_pos ((l_le0 (by omega) (by omega)).mpr h9)]
      exact S105 b1 false h1 (by simp; omega)
    · rw [if_neg (fun h8 => h9 ((l_le0 (by omega) (by omega)).mp h8))]
      exact S105 b1 true h1 (by simp; omega)
  by_cases h9 : 0 ≤ great
  · rw [if_pos ((l_le0 (by omega) (by omega)).mpr h9)]
    exact S93 false (by simp; omega)
  · rw [if_neg (fun h8 => h9 ((l_le0 (by omega) (by omega)).mp h8))]
    exact S93 true (by simp; omega)
