-- times, divide
theorem dg_sh {l r i j : Nat} (hl : l < 65536 ^ i) : dg (l + r * 65536 ^ i) (i + j) = dg r j := by
  unfold dg
  rw [Nat.pow_add, ← Nat.div_div_eq_div_mul, Nat.add_mul_div_right _ _ (B_p i), Nat.div_eq_of_lt hl, Nat.zero_add]
theorem dg_dv {Z i j : Nat} : dg (Z / 65536 ^ i) j = dg Z (i + j) := by
  unfold dg
  rw [Nat.pow_add, Nat.div_div_eq_div_mul]
theorem times_step {P X Y r c zd dx dy : Nat} (h : X + dx * Y = r + c * P) : (X + zd * P) + dx * (Y + dy * P) = (r + (zd + dx * dy + c) % 65536 * P) + (zd + dx * dy + c) / 65536 * (P * 65536) := by
  have e : (zd + dx * dy + c) * P = (zd + dx * dy + c) % 65536 * P + (zd + dx * dy + c) / 65536 * (P * 65536) := by
    conv => lhs; rw [← Nat.mod_add_div (zd + dx * dy + c) 65536]
    rw [Nat.add_mul]
    congr 1
    rw [Nat.mul_comm 65536, Nat.mul_assoc, Nat.mul_comm 65536]
  rw [Nat.add_mul, Nat.add_mul] at e
  rw [Nat.mul_add, ← Nat.mul_assoc]
  omega
theorem times_in {z x y nn m i : Nat} (hz : z < 5) (hx : x < 5) (hy : y < 5) (hzx : z ≠ x) (hzy : z ≠ y) (him : i + m < 160) (hnn : nn ≤ 160) {N : Nat → Nat} (g0 : Nat → Int32) (hB : Big g0 N) : ∀ (d j n r c : Nat) (g : Nat → Int32), j + d = m + 1 → d < n → Pf (160 * z + i) j r g0 g → c < 65536 → (N z / 65536 ^ i) % 65536 ^ j + dg (N x) i * (N y % 65536 ^ j) = r + c * 65536 ^ j → ∃ (g' : Nat → Int32) (r' c' : Nat), (∀ k35, f_Ref_times_48 k35 n (nI z) (nI x) (nI y) (nI nn) (nI m) (nI i) (lN c) (nI j) g = k35 (nI z) (nI x) (nI y) (nI nn) (nI m) (nI (i + 1)) g') ∧ Pf (160 * z + i) (m + 1) r' g0 g' ∧ (N z / 65536 ^ i) % 65536 ^ (m + 1) + dg (N x) i * (N y % 65536 ^ (m + 1)) = r' + c' * 65536 ^ (m + 1) := by
  intro d
  induction d with
  | zero =>
    intro j n r c g hj hn hP _ he
    obtain ⟨n', rfl⟩ : ∃ n', n = n' + 1 := ⟨n - 1, by omega⟩
    have hj' : j = m + 1 := by omega
    subst hj'
    refine ⟨g, r, c, fun k35 => ?_, hP, he⟩
    rw [f_Ref_times_48, if_pos (nI_lt (by omega) (by omega)), nI_succ i]
    rfl
  | succ d ih =>
    intro j n r c g hj hn hP hc he
    obtain ⟨n', rfl⟩ : ∃ n', n = n' + 1 := ⟨n - 1, by omega⟩
    have h1 := dg_lt (N x) i
    have h2 := dg_lt (N y) j
    have h3 := dg_lt (N z) (i + j)
    have hm : dg (N x) i * dg (N y) j ≤ 65535 * 65535 := Nat.mul_le_mul (by omega) (by omega)
    have hs' := hP.step (d := (dg (N z) (i + j) + dg (N x) i * dg (N y) j + c) % 65536) (Nat.mod_lt _ (by decide))
    obtain ⟨g', r', c', e1, e2, e3⟩ := ih (j + 1) n' _ ((dg (N z) (i + j) + dg (N x) i * dg (N y) j + c) / 65536) _ (by omega) (by omega) hs' (by omega) (by
      rw [mod_s, mod_s, dg_dv, Nat.pow_succ]
      exact times_step he)
    refine ⟨g', r', c', fun k35 => ?_, e2, e3⟩
    have e1 := e1 k35
    rw [nI_succ j] at e1
    rw [f_Ref_times_48, if_neg (nI_nlt (by omega) (by omega)), ix_, nI_add, ix_, ix_, if_pos (ji_ (by omega) (by decide)), if_pos (ji_ (by omega) (by decide)), if_pos (ji_ (by omega) (by decide))]
    simp only [jlet]
    rw [if_pos (ji_ (by omega) (by decide)), nI_clamp (by omega), nI_clamp (by omega), nI_clamp (by omega)]
    rw [hP.2.2 (160 * z + i + j) (by omega), hP.2.2 (160 * x + i) (by omega), hP.2.2 (160 * y + j) (by omega), Nat.add_assoc, (hB z hz).2 (i + j) (by omega), (hB x hx).2 i (by omega), (hB y hy).2 j (by omega), nI_l (by omega), nI_l (by omega), nI_l (by omega), lN_mul, lN_add, lN_add]
    rw [q_and (by omega) 16 (by decide), lN_i, show (16 : Int32) = nI 16 from rfl, q_shr (by decide) (by omega), ← Nat.add_assoc]
    exact e1
theorem lim_lt (n : Nat) : n < 65536 ^ ((bl n + 15) / 16) := by
  rw [B_2]
  exact Nat.lt_of_lt_of_le (bl_lt n) (Nat.pow_le_pow_right (by decide) (by omega))
theorem times_out {z x y nn m : Nat} (hz : z < 5) (hx : x < 5) (hy : y < 5) (hzx : z ≠ x) (hzy : z ≠ y) (hnm : nn + m ≤ 160) {N : Nat → Nat} (hY : N y < 65536 ^ m) : ∀ (d i n : Nat) (g : Nat → Int32), i + d = nn → d < n → Big g (uN N z (N x % 65536 ^ i * N y)) → ∃ g', f_Ref_times_35 n (nI z) (nI x) (nI y) (nI nn) (nI m) (nI i) g = some g' ∧ Big g' (uN N z (N x % 65536 ^ nn * N y)) := by
  intro d
  induction d with
  | zero =>
    intro i n g hi hn hB
    obtain ⟨n', rfl⟩ : ∃ n', n = n' + 1 := ⟨n - 1, by omega⟩
    have hi' : i = nn := by omega
    subst hi'
    refine ⟨g, ?_, hB⟩
    rw [f_Ref_times_35, if_pos (nI_le (Nat.le_refl _) (by omega))]
  | succ d ih =>
    intro i n g hi hn hB
    obtain ⟨n', rfl⟩ : ∃ n', n = n' + 1 := ⟨n - 1, by omega⟩
    obtain ⟨g', r, c, e1, hP, he⟩ := times_in (nn := nn) (m := m) (i := i) hz hx hy hzx hzy (by omega) (by omega) g hB (m + 1) 0 5000 0 0 g (by omega) (by omega) (Pf.nil _ _) (by decide) (by simp [Nat.mod_one])
    rw [uN_s, uN_n (Ne.symm hzx), uN_n (Ne.symm hzy)] at he
    have hd := dg_lt (N x) i
    have hZ : N x % 65536 ^ i * N y / 65536 ^ i < 65536 ^ m := by
      rw [Nat.div_lt_iff_lt_mul (B_p i)]
      rw [Nat.mul_comm (65536 ^ m)]
      exact Nat.mul_lt_mul_of_lt_of_le (Nat.mod_lt _ (B_p i)) (Nat.le_of_lt hY) (B_p m)
    have hYm : N y % 65536 ^ (m + 1) = N y := Nat.mod_eq_of_lt (Nat.lt_of_lt_of_le hY (Nat.pow_le_pow_right (by decide) (by omega)))
    have hZm : N x % 65536 ^ i * N y / 65536 ^ i % 65536 ^ (m + 1) = N x % 65536 ^ i * N y / 65536 ^ i := Nat.mod_eq_of_lt (Nat.lt_of_lt_of_le hZ (Nat.pow_le_pow_right (by decide) (by omega)))
    rw [hYm, hZm] at he
    have hr : r = N x % 65536 ^ i * N y / 65536 ^ i + dg (N x) i * N y := by
      have hdY : dg (N x) i * N y ≤ 65535 * 65536 ^ m := Nat.mul_le_mul (by omega) (Nat.le_of_lt hY)
      rw [Nat.pow_succ] at he
      have hc : c = 0 := by
        apply Nat.eq_zero_of_not_pos
        intro h9
        have := Nat.mul_le_mul_right (65536 ^ m * 65536) h9
        omega
      subst hc
      omega
    have hZ' : N x % 65536 ^ (i + 1) * N y = N x % 65536 ^ i * N y % 65536 ^ i + r * 65536 ^ i := by
      rw [hr, mod_s, Nat.add_mul, Nat.add_mul, ← Nat.add_assoc]
      have := Nat.mod_add_div (N x % 65536 ^ i * N y) (65536 ^ i)
      rw [Nat.mul_comm (65536 ^ i)] at this
      rw [this, Nat.mul_right_comm]
    have hBn : Big g' (uN N z (N x % 65536 ^ (i + 1) * N y)) := by
      intro w hw
      by_cases ew : w = z
      · subst ew
        rw [uN_s]
        have hlt : N x % 65536 ^ (i + 1) * N y < 65536 ^ (i + (m + 1)) := by
          rw [hZ', Nat.pow_add]
          have h1 := Nat.mod_lt (N x % 65536 ^ i * N y) (B_p i)
          have h2 : (r + 1) * 65536 ^ i ≤ 65536 ^ (m + 1) * 65536 ^ i := Nat.mul_le_mul_right _ hP.1
          rw [Nat.add_mul, Nat.mul_comm (65536 ^ (m + 1))] at h2
          omega
        refine ⟨Nat.lt_of_lt_of_le hlt (Nat.pow_le_pow_right (by decide) (by omega)), fun k hk => ?_⟩
        by_cases k1 : k < i
        · rw [hP.2.2 _ (by omega), (hB w hw).2 k hk, uN_s, hZ', dg_lo k1, dg_mod k1]
        · by_cases k2 : k < i + (m + 1)
          · obtain ⟨j, rfl⟩ : ∃ j, k = i + j := ⟨k - i, by omega⟩
            rw [← Nat.add_assoc, hP.2.1 j (by omega), hZ', dg_sh (Nat.mod_lt _ (B_p i))]
          · rw [hP.2.2 _ (by omega), (hB w hw).2 k hk, uN_s, dg_0' hlt (by omega)]
            have : N x % 65536 ^ i * N y < 65536 ^ (i + m) := by
              rw [Nat.pow_add, Nat.mul_comm (65536 ^ i)]
              exact (Nat.div_lt_iff_lt_mul (B_p i)).mp hZ
            rw [dg_0' this (by omega)]
      · rw [uN_n ew]
        have := hB w hw
        rw [uN_n ew] at this
        refine ⟨this.1, fun k hk => ?_⟩
        rw [hP.2.2 _ (by omega)]
        exact this.2 k hk
    obtain ⟨g2, e2, b2⟩ := ih (i + 1) n' g' (by omega) (by omega) hBn
    refine ⟨g2, ?_, b2⟩
    rw [f_Ref_times_35, if_neg (nI_ge (by omega) (by omega))]
    exact (e1 _).trans e2
theorem times_ok {z x y : Nat} {g : Nat → Int32} {N : Nat → Nat} (hz : z < 5) (hx : x < 5) (hy : y < 5) (hzx : z ≠ x) (hzy : z ≠ y) (hB : Big g N) (h : bl (N x) + bl (N y) ≤ 2400) : ∃ g', f_Ref_times (nI z) (nI x) (nI y) g = some g' ∧ Big g' (uN N z (N x * N y)) := by
  obtain ⟨g1, e1, b1⟩ := put_ok (v := 0) hz (by decide) hB
  have w1 := width_ok hx b1
  have w2 := width_ok hy b1
  rw [uN_n (Ne.symm hzx)] at w1
  rw [uN_n (Ne.symm hzy)] at w2
  obtain ⟨g2, e2, b2⟩ := times_out (nn := (bl (N x) + 15) / 16) (m := (bl (N y) + 15) / 16) hz hx hy hzx hzy (by omega) (N := N) (lim_lt _) ((bl (N x) + 15) / 16) 0 5000 g1 (by omega) (by omega) (by rw [Nat.pow_zero, Nat.mod_one, Nat.zero_mul]; exact b1)
  rw [Nat.mod_eq_of_lt (lim_lt (N x))] at b2
  refine ⟨g2, ?_, b2⟩
  unfold f_Ref_times f_Ref_times_0
  rw [show (0 : Int64) = lN 0 from rfl, e1, Option.bind_some, w1, Option.bind_some, jl_, w2, Option.bind_some, jl_, show (15 : Int32) = nI 15 from rfl, nI_add, nI_add, show (16 : Int32) = nI 16 from rfl, pk_div (by omega) (by decide) (by decide), pk_div (by omega) (by decide) (by decide)]
  exact e2
theorem uN_c {N : Nat → Nat} {a b v w : Nat} (h : a ≠ b) : uN (uN N a v) b w = uN (uN N b w) a v := by
  funext j
  unfold uN
  split
  · split
    · omega
    · rfl
  · rfl
theorem Big.same {g g' : Nat → Int32} {N : Nat → Nat} (h : Big g N) (e : ∀ j, g' j = g j) : Big g' N := by
  have : g' = g := funext e
  rw [this]; exact h
theorem cmpI_lt {a b : Nat} : cmpI a b < 0 ↔ a < b := by
  unfold cmpI
  split
  · next h => exact ⟨fun _ => h, fun _ => by decide⟩
  · next h =>
    split
    · exact ⟨fun h9 => absurd h9 (by decide), fun h9 => absurd h9 h⟩
    · exact ⟨fun h9 => absurd h9 (by decide), fun h9 => absurd h9 h⟩
theorem cmpI_eq {a b : Nat} : cmpI a b = 0 ↔ a = b := by
  unfold cmpI
  split
  · next h => exact ⟨fun h9 => absurd h9 (by decide), fun h9 => by omega⟩
  · next h =>
    split
    · next h2 => exact ⟨fun _ => h2, fun _ => rfl⟩
    · next h2 => exact ⟨fun h9 => absurd h9 (by decide), fun h9 => absurd h9 h2⟩
theorem cmpI_le {a b : Nat} : cmpI a b ≤ 0 ↔ a ≤ b := by
  unfold cmpI
  split
  · next h => exact ⟨fun _ => by omega, fun _ => by decide⟩
  · next h =>
    split
    · next h2 => exact ⟨fun _ => by omega, fun _ => by decide⟩
    · next h2 => exact ⟨fun h9 => absurd h9 (by decide), fun h9 => by omega⟩
theorem div_next {X Y m : Nat} (hY : 0 < Y) : X / 2 ^ m / Y = 2 * (X / 2 ^ (m + 1) / Y) + (if X / 2 ^ (m + 1) % Y * 2 + X / 2 ^ m % 2 < Y then 0 else 1) ∧ X / 2 ^ m % Y = X / 2 ^ (m + 1) % Y * 2 + X / 2 ^ m % 2 - (if X / 2 ^ (m + 1) % Y * 2 + X / 2 ^ m % 2 < Y then 0 else Y) := by
  have e : X / 2 ^ (m + 1) = X / 2 ^ m / 2 := by rw [Nat.pow_succ, Nat.div_div_eq_div_mul]
  rw [e]
  generalize X / 2 ^ m = A
  have h1 := Nat.div_add_mod (A / 2) Y
  have h2 := Nat.mod_lt (A / 2) hY
  have h3 : A = Y * (2 * (A / 2 / Y)) + (A / 2 % Y * 2 + A % 2) := by
    have : Y * (2 * (A / 2 / Y)) = 2 * (Y * (A / 2 / Y)) := by rw [Nat.mul_left_comm]
    rw [this]
    omega
  generalize A / 2 / Y = q at *
  generalize A / 2 % Y = r at *
  by_cases hl : r * 2 + A % 2 < Y
  · rw [if_pos hl, if_pos hl]
    have h4 : A / Y = 2 * q := by
      conv => lhs; rw [h3]
      rw [Nat.mul_add_div hY, Nat.div_eq_of_lt hl, Nat.add_zero]
    have h5 : A % Y = r * 2 + A % 2 := by
      conv => lhs; rw [h3]
      rw [Nat.mul_add_mod, Nat.mod_eq_of_lt hl]
    exact ⟨by omega, by omega⟩
  · rw [if_neg hl, if_neg hl]
    have h6 : A = Y * (2 * q + 1) + (r * 2 + A % 2 - Y) := by
      rw [Nat.mul_add, Nat.mul_one]
      omega
    have hl2 : r * 2 + A % 2 - Y < Y := by omega
    have h4 : A / Y = 2 * q + 1 := by
      conv => lhs; rw [h6]
      rw [Nat.mul_add_div hY, Nat.div_eq_of_lt hl2, Nat.add_zero]
    have h5 : A % Y = r * 2 + A % 2 - Y := by
      conv => lhs; rw [h6]
      rw [Nat.mul_add_mod, Nat.mod_eq_of_lt hl2]
    exact ⟨h4, h5⟩
