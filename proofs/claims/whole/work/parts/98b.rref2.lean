-- the reference's rounding, whole
theorem r119n {neg o : Bool} {how q : Nat} {u c : Int} (hh : how < 3) (hq : q < 2 ^ 53) (h1 : -1074 ≤ u) (h2 : u < 100000) (hc : c ≤ 0) (hc2 : -100000 ≤ c) {g : Nat → Int32} {N : Nat} {ov : Int32} {n : Nat} : f_Ref_rounded_119 (n + 1) (bI neg) (nI how) (zI u) (zI c) (lN q) (bI o) (0 : Int32) g ov = some (lZ (sgn neg (mag how (awy neg how) u q (kp N o c)))) := by
  have ec : zI c - (1 : Int32) = zI (c - 1) := by rw [show (1 : Int32) = zI 1 by decide, z_sub]
  rw [f_Ref_rounded_119, ec, if_pos (show zI (c - 1) ≤ (0 : Int32) from (z_le (b := 0) (by omega) (by omega) (by decide) (by decide)).mpr (by omega)), show (0 : Int32) = nI 0 from rfl, bit_neg (by omega) (by omega), Option.bind_some, if_neg (by decide), kp_np hc]
  have := r175 (neg := neg) (half := false) (left := o) (how := how) hh hq h1 h2 (g := g) (o := ov)
  cases o <;> exact this
theorem r92 {neg o : Bool} {how : Nat} {u c : Int} (hh : how < 3) (h1 : -1074 ≤ u) (h2 : u < 100000) (hc : c ≤ 2560) (hc2 : -53 ≤ c) {g : Nat → Int32} {N : Nat → Nat} (hB : Big g N) (hq : qf (N 0) c < 2 ^ 53) : f_Ref_rounded_92 (bI neg) (nI how) (zI u) (zI c) (lN (N 0 / 2 ^ c.toNat)) g (bI o) = some (lZ (sgn neg (mag how (awy neg how) u (qf (N 0) c) (kp (N 0) o c)))) := by
  unfold f_Ref_rounded_92 f_Ref_rounded_108
  by_cases hc0 : 0 ≤ c
  · rw [if_pos ((z_le0 (by omega) (by omega)).mpr hc0)]
    by_cases hc1 : c = 0
    · subst hc1
      have eq : qf (N 0) 0 = N 0 / 2 ^ (0 : Int).toNat := by rw [qf_np (by decide)]; simp
      rw [← eq]
      exact r119n hh hq h1 h2 (by decide) (by decide)
    · obtain ⟨k, hk⟩ : ∃ k : Nat, c = ((k + 1 : Nat) : Int) := ⟨(c - 1).toNat, by omega⟩
      subst hk
      have eq : qf (N 0) ((k + 1 : Nat) : Int) = N 0 / 2 ^ (k + 1) := qf_pos (by omega)
      rw [show (((k + 1 : Nat) : Int)).toNat = k + 1 from rfl, ← eq]
      exact r119 hh hq h1 h2 hB (o := o) (by omega) k 0 5000 o (by omega) (by omega) (by simp [Nat.mod_one])
  · rw [if_neg (fun h9 => hc0 ((z_le0 (by omega) (by omega)).mp h9))]
    have e0 : c.toNat = 0 := by omega
    have e1 : -(zI c) = nI (-c).toNat := by
      rw [z_neg, z_nI]
      congr 1
      omega
    rw [e0, Nat.pow_zero, Nat.div_one, e1, q_shl (by omega), ← qf_np (by omega)]
    exact r119n hh hq h1 h2 (by omega) (by omega)
theorem r57 {neg o : Bool} {how : Nat} {u c : Int} (hh : how < 3) (h1 : -1074 ≤ u) (h2 : u < 100000) (hc : c ≤ 2560) (hc2 : -53 ≤ c) {g : Nat → Int32} {N : Nat → Nat} (hB : Big g N) (hq : qf (N 0) c < 2 ^ 53) (hq2 : N 0 / 2 ^ c.toNat < 2 ^ 53) : ∀ (d m n : Nat), c.toNat + d = m → d < n → m ≤ 2560 → f_Ref_rounded_57 n (bI neg) (nI how) (zI u) (zI c) (lN (N 0 / 2 ^ m)) (zI ((m : Int) - 1)) g (bI o) = some (lZ (sgn neg (mag how (awy neg how) u (qf (N 0) c) (kp (N 0) o c)))) := by
  intro d
  induction d with
  | zero =>
    intro m n hm hn hm2
    obtain ⟨n', rfl⟩ : ∃ n', n = n' + 1 := ⟨n - 1, by omega⟩
    have hm' : m = c.toNat := by omega
    subst hm'
    have R := r92 (neg := neg) (o := o) hh h1 h2 hc hc2 hB hq
    rw [f_Ref_rounded_57]
    by_cases h9 : zI ((c.toNat : Int) - 1) < zI c
    · rw [if_pos h9]
      exact R
    · rw [if_neg h9]
      have : ¬ (c.toNat : Int) - 1 < c := fun h8 => h9 ((z_lt (by omega) (by omega) (by omega) (by omega)).mpr h8)
      rw [if_pos ((z_lt0 (by omega) (by omega)).mpr (by omega))]
      exact R
  | succ d ih =>
    intro m n hm hn hm2
    obtain ⟨n', rfl⟩ : ∃ n', n = n' + 1 := ⟨n - 1, by omega⟩
    obtain ⟨m', rfl⟩ : ∃ m', m = m' + 1 := ⟨m - 1, by omega⟩
    have hR := ih m' n' (by omega) (by omega) (by omega)
    have hb2 : N 0 / 2 ^ m' % 2 < 2 := Nat.mod_lt _ (by decide)
    have e0 : nI m' + (-1 : Int32) = zI ((m' : Int) - 1) := by rw [z_nI, z_m1]
    have e1 : N 0 / 2 ^ m' = 2 * (N 0 / 2 ^ (m' + 1)) + N 0 / 2 ^ m' % 2 := by
      rw [Nat.pow_succ, ← Nat.div_div_eq_div_mul]
      generalize N 0 / 2 ^ m' = X
      omega
    rw [f_Ref_rounded_57, if_neg (fun h9 => by have := (z_lt (by omega) (by omega) (by omega) (by omega)).mp h9; omega), if_neg (fun h9 => by have := (z_lt0 (by omega) (by omega)).mp h9; omega), z_pn, show (0 : Int32) = nI 0 from rfl, bit_ok (by decide) (by omega) hB, Option.bind_some, jl_, jl_, e0, nI_l (by omega), show (2 : Int64) = lN 2 from rfl, lN_mul, lN_add, ← e1]
    exact hR
theorem qf_lt {N : Nat} {s : Int} (hN : N ≠ 0) : qf N (un N s - s) < 2 ^ 53 ∧ N / 2 ^ (un N s - s).toNat < 2 ^ 53 := by
  have hl := bl_lt N
  have hu : (bl N : Int) - 53 ≤ un N s - s := by
    unfold un; split <;> omega
  have h2 : N / 2 ^ (un N s - s).toNat < 2 ^ 53 := by
    rw [Nat.div_lt_iff_lt_mul (p2 _), ← Nat.pow_add]
    exact Nat.lt_of_lt_of_le hl (Nat.pow_le_pow_right (by decide) (by omega))
  refine ⟨?_, h2⟩
  unfold qf
  split
  · next h =>
    have : N * 2 ^ (-(un N s - s)).toNat < 2 ^ bl N * 2 ^ (-(un N s - s)).toNat := Nat.mul_lt_mul_of_pos_right hl (p2 _)
    rw [← Nat.pow_add] at this
    exact Nat.lt_of_lt_of_le this (Nat.pow_le_pow_right (by decide) (by omega))
  · exact h2
theorem rref_ok {neg o : Bool} {how : Nat} {s : Int} (hh : how < 3) (hs1 : -3000 ≤ s) (hs2 : s ≤ 3000) {g : Nat → Int32} {N : Nat → Nat} (hB : Big g N) : f_Ref_rounded (bI neg) (zI s) (nI how) g (bI o) = some (lZ (RND neg (N 0) o s how)) := by
  unfold f_Ref_rounded f_Ref_rounded_0
  rw [show (0 : Int32) = nI 0 from rfl, width_ok (by decide) hB, Option.bind_some]
  have hbl := bl_big (z := 0) (by decide) hB
  by_cases h0 : N 0 = 0
  · rw [h0, if_pos (by decide)]
    unfold RND rmag
    rw [if_pos rfl]
    cases neg <;> rfl
  · have hbp := bl_pos h0
    rw [if_neg (fun h9 => by have := (nI_eq (by omega) (by decide)).mp h9; omega)]
    obtain ⟨q1, q2⟩ := qf_lt (s := s) h0
    have hul : (bl (N 0) : Int) - 53 ≤ un (N 0) s - s := by unfold un; split <;> omega
    have hu1 : -1074 ≤ un (N 0) s := by unfold un; split <;> omega
    have hu2 : un (N 0) s < 6000 := by unfold un; split <;> omega
    have hu3 : un (N 0) s - s ≤ 2560 := by unfold un; split <;> omega
    have e1 : (nI (bl (N 0)) - (53 : Int32)) + zI s = zI ((bl (N 0) : Int) - 53 + s) := by
      rw [z_nI, show (53 : Int32) = zI 53 by decide, z_sub, z_add]
    have R : f_Ref_rounded_40 (zI (un (N 0) s)) (bI neg) (zI s) (nI how) (nI (bl (N 0))) g (bI o) = some (lZ (RND neg (N 0) o s how)) := by
      unfold f_Ref_rounded_40
      rw [jl_, jl_, z_sub, show nI (bl (N 0)) - (1 : Int32) = zI ((bl (N 0) : Int) - 1) by rw [z_nI, show (1 : Int32) = zI 1 by decide, z_sub]]
      by_cases hcut : (un (N 0) s - s).toNat ≤ bl (N 0)
      · have := r57 (neg := neg) (o := o) hh hu1 (by omega) hu3 (by omega) hB q1 q2 (bl (N 0) - (un (N 0) s - s).toNat) (bl (N 0)) 5000 (by omega) (by omega) hbl
        rw [Nat.div_eq_of_lt (bl_lt (N 0))] at this
        rw [show (0 : Int64) = lN 0 from rfl, this]
        unfold RND rmag sgn
        rw [if_neg h0]
      · -- all the bits lie below the cut
        have R9 := r92 (neg := neg) (o := o) hh hu1 (by omega) hu3 (by omega) hB q1
        have z0 : N 0 / 2 ^ (un (N 0) s - s).toNat = 0 := Nat.div_eq_of_lt (Nat.lt_of_lt_of_le (bl_lt (N 0)) (Nat.pow_le_pow_right (by decide) (by omega)))
        rw [z0] at R9
        rw [f_Ref_rounded_57, if_pos ((z_lt (by omega) (by omega) (by omega) (by omega)).mpr (by omega)), show (0 : Int64) = lN 0 from rfl, R9]
        unfold RND rmag sgn
        rw [if_neg h0]
    rw [e1]
    by_cases hun : (bl (N 0) : Int) - 53 + s ≤ -1074
    · have eu : un (N 0) s = -1074 := by unfold un; rw [if_pos hun]
      rw [if_pos (show zI ((bl (N 0) : Int) - 53 + s) ≤ (-1074 : Int32) from (z_le (b := -1074) (by omega) (by omega) (by decide) (by decide)).mpr hun), show (-1074 : Int32) = zI (-1074) by decide, ← eu]
      exact R
    · have eu : un (N 0) s = (bl (N 0) : Int) - 53 + s := by unfold un; rw [if_neg hun]
      rw [if_neg (show ¬ zI ((bl (N 0) : Int) - 53 + s) ≤ (-1074 : Int32) from fun h9 => hun ((z_le (b := -1074) (by omega) (by omega) (by decide) (by decide)).mp h9)), ← eu]
      exact R
