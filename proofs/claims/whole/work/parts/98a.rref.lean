-- the reference's rounding
def bI (b : Bool) : Int32 := if b = true then 1 else 0
def lZ (i : Int) : Int64 := Int64.ofInt i
theorem lZ_N (n : Nat) : lN n = lZ (n : Int) := rfl
theorem lZ_neg (i : Int) : -(lZ i) = lZ (-i) := (Int64.ofInt_neg i).symm
theorem bI_t : bI true = 1 := rfl
theorem bI_f : bI false = 0 := rfl
theorem bI_0 {b : Bool} : bI b = 0 ↔ b = false := by cases b <;> decide
theorem bI_eq {a b : Bool} : bI a = bI b ↔ a = b := by cases a <;> cases b <;> decide
def sgn (neg : Bool) (n : Nat) : Int := if neg = true then -(n : Int) else n
def magU (aw : Bool) (u : Int) (q : Nat) (up : Bool) : Nat :=
  if 971 < u then (if aw = true then INF else INF - 1)
  else if (u + 1074).toNat * 2 ^ 52 + (if up = true then q + 1 else q) < INF then (u + 1074).toNat * 2 ^ 52 + (if up = true then q + 1 else q)
  else if aw = true then INF else INF - 1
theorem mag_U (how : Nat) (aw : Bool) (u : Int) (q k : Nat) : mag how aw u q k = magU aw u q (upQ how aw q k) := rfl
theorem r334 {neg : Bool} {n : Nat} {g : Nat → Int32} {o : Int32} : f_Ref_rounded_334 (bI neg) (lN n) g o = some (lZ (sgn neg n)) := by
  unfold f_Ref_rounded_334 f_Ref_rounded_346 sgn
  cases neg
  · rw [if_pos (by decide)]; rfl
  · rw [if_neg (by decide)]
    simp only [if_true]
    rw [lZ_N, lZ_neg]
theorem r293 {neg : Bool} {how n : Nat} (hh : how < 3) (hn : n < 2 ^ 63) {g : Nat → Int32} {o : Int32} : f_Ref_rounded_293 (lN n) (bI neg) (nI how) g o = some (lZ (sgn neg (if n < INF then n else if awy neg how = true then INF else INF - 1))) := by
  unfold f_Ref_rounded_293
  by_cases h : n < INF
  · rw [if_pos h, if_pos (show lN n < (9218868437227405312 : Int64) from (pk_lLT (b := INF) hn (by decide)).mpr h), r334]
  · rw [if_neg h, if_neg (show ¬ lN n < (9218868437227405312 : Int64) from fun h9 => h ((pk_lLT (b := INF) hn (by decide)).mp h9))]
    rcases (show how = 0 ∨ how = 1 ∨ how = 2 by omega) with rfl | rfl | rfl
    · rw [if_neg (by decide), if_neg (by decide)]
      unfold f_Ref_rounded_319 f_Ref_rounded_329 f_Ref_rounded_332
      cases neg
      · rw [if_pos (by decide)]; exact r334 (neg := false) (n := INF - 1)
      · rw [if_neg (by decide)]; exact r334 (neg := true) (n := INF)
    · rw [if_neg (by decide), if_pos (by decide)]
      unfold f_Ref_rounded_319 f_Ref_rounded_329 f_Ref_rounded_332
      cases neg
      · rw [if_neg (by decide)]; exact r334 (neg := false) (n := INF)
      · rw [if_pos (by decide)]; exact r334 (neg := true) (n := INF - 1)
    · rw [if_pos (by decide)]
      unfold f_Ref_rounded_329 f_Ref_rounded_332
      cases neg
      · exact r334 (neg := false) (n := INF - 1)
      · exact r334 (neg := true) (n := INF - 1)
theorem sat_INF {aw : Bool} : (if INF < INF then INF else if aw = true then INF else INF - 1) = if aw = true then INF else INF - 1 := if_neg (Nat.lt_irrefl _)
theorem r240 {neg up : Bool} {how q : Nat} {u : Int} (hh : how < 3) (hq : q < 2 ^ 53) (h1 : -1074 ≤ u) (h2 : u < 100000) {g : Nat → Int32} {o : Int32} : f_Ref_rounded_240 (bI up) (bI neg) (nI how) (zI u) (lN q) g o = some (lZ (sgn neg (magU (awy neg how) u q up))) := by
  unfold f_Ref_rounded_240 f_Ref_rounded_255 magU
  by_cases hu : 971 < u
  · rw [if_neg (show ¬ zI u ≤ (971 : Int32) from fun h9 => by have := (z_le (b := 971) (by omega) (by omega) (by decide) (by decide)).mp h9; omega), if_neg (by decide), if_pos hu]
    have := r293 (neg := neg) (n := INF) hh (by decide) (g := g) (o := o)
    rw [sat_INF] at this
    exact this
  · rw [if_pos (show zI u ≤ (971 : Int32) from (z_le (b := 971) (by omega) (by omega) (by decide) (by decide)).mpr (by omega)), if_pos (by decide), if_neg hu]
    obtain ⟨w, hw⟩ := Int.eq_ofNat_of_zero_le (show 0 ≤ u + 1074 by omega)
    have e1 : (zI u + (1074 : Int32)) = nI w := by
      rw [show (1074 : Int32) = zI 1074 by decide, z_add, hw]; rfl
    rw [e1, nI_l (by omega), show (52 : Int32) = nI 52 from rfl, q_shl (by decide), hw, show ((w : Int)).toNat = w from rfl]
    cases up
    · rw [if_pos (by decide)]
      unfold f_Ref_rounded_292
      rw [lN_add, r293 hh (by omega)]
      rfl
    · rw [if_neg (by decide)]
      unfold f_Ref_rounded_292
      rw [show (1 : Int64) = lN 1 from rfl, lN_add, lN_add, r293 hh (by omega)]
      rfl
def kpb (half left : Bool) : Nat := if half = true then (if left = true then 3 else 2) else (if left = true then 1 else 0)
theorem q_lrem {a : Nat} (ha : a < 2 ^ 63) : j_lrem (lN a) (2 : Int64) = lN (a % 2) := pk_lRem (b := 2) ha (by decide) (by decide)
theorem r175 {neg half left : Bool} {how q : Nat} {u : Int} (hh : how < 3) (hq : q < 2 ^ 53) (h1 : -1074 ≤ u) (h2 : u < 100000) {g : Nat → Int32} {o : Int32} : f_Ref_rounded_175 (bI half) (bI neg) (nI how) (zI u) (lN q) (bI left) g o = some (lZ (sgn neg (mag how (awy neg how) u q (kpb half left)))) := by
  rw [mag_U]
  have R := fun up => r240 (neg := neg) (up := up) (how := how) hh hq h1 h2 (g := g) (o := o)
  have hodd : (lN (q % 2) = (1 : Int64)) = (q % 2 = 1) := propext (pk_lEQ (b := 1) (by omega) (by decide))
  unfold f_Ref_rounded_175 f_Ref_rounded_207 f_Ref_rounded_203 f_Ref_rounded_221 f_Ref_rounded_239 f_Ref_rounded_231
  rcases (show how = 0 ∨ how = 1 ∨ how = 2 by omega) with rfl | rfl | rfl
  · rw [if_neg (by decide)]
    cases half <;> cases left <;> cases neg <;> first | exact R false | exact R true
  · rw [if_neg (by decide)]
    cases half <;> cases left <;> cases neg <;> first | exact R false | exact R true
  · rw [if_pos (by decide), q_lrem (by omega)]
    simp only [hodd]
    cases half
    · cases left <;> exact R false
    · cases left
      · by_cases hp : q % 2 = 1
        · have : upQ 2 (awy neg 2) q (kpb true false) = true := by simp [upQ, kpb, hp]
          rw [this, if_neg (by decide), if_pos (by decide), if_pos hp]
          exact R true
        · have : upQ 2 (awy neg 2) q (kpb true false) = false := by simp [upQ, kpb, hp]
          rw [this, if_neg (by decide), if_pos (by decide), if_neg hp]
          exact R false
      · exact R true
theorem kp_hl {N c : Nat} {o : Bool} : kp N o ((c + 1 : Nat) : Int) = kpb (N / 2 ^ c % 2 == 1) (o || N % 2 ^ c != 0) := by
  rw [kp_pos (by omega), Nat.add_sub_cancel]
  have e1 : N % 2 ^ (c + 1) = N % 2 ^ c + 2 ^ c * (N / 2 ^ c % 2) := Nat.mod_pow_succ
  have h1 := Nat.mod_lt N (p2 c)
  have h2 : N / 2 ^ c % 2 < 2 := Nat.mod_lt _ (by decide)
  rw [e1]
  generalize N / 2 ^ c % 2 = b at *
  generalize N % 2 ^ c = r at *
  have hp := p2 c
  generalize 2 ^ c = P at *
  rcases (show b = 0 ∨ b = 1 by omega) with rfl | rfl
  · rw [Nat.mul_zero, Nat.add_zero]
    by_cases hr : r = 0
    · subst hr
      cases o
      · simp [kpb]
      · simp [kpb, hp]
    · cases o
      · simp [kpb, hr, h1]
      · simp [kpb, hr, h1]
  · rw [Nat.mul_one]
    by_cases hr : r = 0
    · subst hr
      cases o
      · simp [kpb]; omega
      · simp [kpb]
    · have n1 : ¬ r + P = 0 := by omega
      have n2 : ¬ r + P < P := by omega
      have n3 : ¬ r + P = P := by omega
      cases o
      · simp [kpb, hr, n1]
      · simp [kpb, hr]
theorem r119 {neg : Bool} {how q : Nat} {u : Int} (hh : how < 3) (hq : q < 2 ^ 53) (h1 : -1074 ≤ u) (h2 : u < 100000) {g : Nat → Int32} {N : Nat → Nat} (hB : Big g N) {ov : Int32} {o : Bool} {c : Nat} (hc : c < 2560) : ∀ (d k n : Nat) (left : Bool), k + d = c → d < n → left = (o || N 0 % 2 ^ k != 0) → f_Ref_rounded_119 n (bI neg) (nI how) (zI u) (zI ((c + 1 : Nat) : Int)) (lN q) (bI left) (nI k) g ov = some (lZ (sgn neg (mag how (awy neg how) u q (kp (N 0) o ((c + 1 : Nat) : Int))))) := by
  intro d
  have ec : zI ((c + 1 : Nat) : Int) - (1 : Int32) = nI c := by
    rw [show (1 : Int32) = zI 1 by decide, z_sub, z_nI]
    congr 1
    omega
  induction d with
  | zero =>
    intro k n left hk hn hl
    obtain ⟨n', rfl⟩ : ∃ n', n = n' + 1 := ⟨n - 1, by omega⟩
    have hk' : k = c := by omega
    subst hk'
    rw [f_Ref_rounded_119, ec, if_pos (nI_le (Nat.le_refl _) (by omega)), show (0 : Int32) = nI 0 from rfl, bit_ok (by decide) hc hB, Option.bind_some, kp_hl, ← hl]
    by_cases hb : N 0 / 2 ^ k % 2 = 1
    · rw [hb, if_pos (by decide)]
      exact r175 (half := true) hh hq h1 h2
    · have hb0 : N 0 / 2 ^ k % 2 = 0 := by
        have := Nat.mod_lt (N 0 / 2 ^ k) (show 0 < 2 by decide)
        generalize N 0 / 2 ^ k % 2 = X at *
        omega
      rw [hb0, if_neg (by decide)]
      exact r175 (half := false) hh hq h1 h2
  | succ d ih =>
    intro k n left hk hn hl
    obtain ⟨n', rfl⟩ : ∃ n', n = n' + 1 := ⟨n - 1, by omega⟩
    have e1 : N 0 % 2 ^ (k + 1) = N 0 % 2 ^ k + 2 ^ k * (N 0 / 2 ^ k % 2) := Nat.mod_pow_succ
    have hp := p2 k
    have hb2 : N 0 / 2 ^ k % 2 < 2 := Nat.mod_lt _ (by decide)
    have hbit := bit_ok (z := 0) (k := k) (by decide) (by omega) hB
    rw [f_Ref_rounded_119, ec, if_neg (nI_ge (by omega) (by omega))]
    have go := fun left' h' => ih (k + 1) n' left' (by omega) (by omega) h'
    cases left
    · rw [if_pos (by decide), show (0 : Int32) = nI 0 from rfl, hbit, Option.bind_some]
      by_cases hb : N 0 / 2 ^ k % 2 = 1
      · rw [hb, if_pos (by decide)]
        unfold f_Ref_rounded_144 f_Ref_rounded_149
        rw [jl_, ← nI_succ]
        refine go true ?_
        have : N 0 % 2 ^ (k + 1) ≠ 0 := by rw [e1, hb]; omega
        simp [this]
      · have hb0 : N 0 / 2 ^ k % 2 = 0 := by
          generalize N 0 / 2 ^ k % 2 = X at *
          omega
        rw [hb0, if_neg (by decide)]
        unfold f_Ref_rounded_149
        rw [jl_, ← nI_succ]
        refine go false ?_
        rw [hl, e1, hb0, Nat.mul_zero, Nat.add_zero]
    · rw [if_neg (by decide)]
      unfold f_Ref_rounded_144 f_Ref_rounded_149
      rw [jl_, ← nI_succ]
      refine go true ?_
      have hl' := hl.symm
      simp only [Bool.or_eq_true, bne_iff_ne, ne_eq] at hl'
      rcases hl' with h9 | h9
      · simp [h9]
      · have : N 0 % 2 ^ (k + 1) ≠ 0 := by rw [e1]; omega
        simp [this]
