-- divide
theorem ix0_ (z : Nat) : (160 : Int32) * nI z = nI (160 * z) := by
  rw [show (160 : Int32) = nI 160 from rfl, pk_mul]
theorem or0_ok {r b : Nat} {g : Nat → Int32} {N : Nat → Nat} (hr : r < 5) (hb : b < 2) (hB : Big g N) (h2 : N r % 2 = 0) (hlt : N r + b < 65536 ^ 160) : Big (upd g (160 * r) (g (160 * r) ||| nI b)) (uN N r (N r + b)) := by
  rcases (show b = 0 ∨ b = 1 by omega) with rfl | rfl
  · have e : uN N r (N r + 0) = N := by
      funext j
      unfold uN
      split
      · next h => rw [h, Nat.add_zero]
      · rfl
    rw [e]
    refine hB.same (fun j => ?_)
    by_cases hj : j = 160 * r
    · subst hj
      rw [pk_us]
      exact Int32.or_zero
    · rw [pk_un hj]
  · have := set_ok (z := r) (k := 0) hr (by decide) hB (by rw [Nat.pow_zero, Nat.div_one]; exact h2) (by simpa using hlt)
    simpa using this
theorem div_loop {z x y r : Nat} (hz : z < 5) (hx : x < 5) (hy : y < 5) (hr : r < 5) (hzx : z ≠ x) (hzy : z ≠ y) (hzr : z ≠ r) (hrx : r ≠ x) (hry : r ≠ y) {N : Nat → Nat} (hY : 0 < N y) (hY2 : N y * 2 < 65536 ^ 160) (hX : N x < 65536 ^ 160) : ∀ (m n : Nat) (g : Nat → Int32), m ≤ 2560 → m < n → Big g (uN (uN N z (N x / 2 ^ m / N y * 2 ^ m)) r (N x / 2 ^ m % N y)) → ∃ g', f_Ref_divide_22 n (nI z) (nI x) (nI y) (nI r) (zI ((m : Int) - 1)) g = some g' ∧ Big g' (uN (uN N z (N x / N y)) r (N x % N y)) := by
  intro m
  induction m with
  | zero =>
    intro n g _ hn hB
    obtain ⟨n', rfl⟩ : ∃ n', n = n' + 1 := ⟨n - 1, by omega⟩
    refine ⟨g, ?_, ?_⟩
    · rw [f_Ref_divide_22, if_pos (by decide)]
    · simpa using hB
  | succ m ih =>
    intro n g hm hn hB
    obtain ⟨n', rfl⟩ : ∃ n', n = n' + 1 := ⟨n - 1, by omega⟩
    have hR := Nat.mod_lt (N x / 2 ^ (m + 1)) hY
    have hb : N x / 2 ^ m % 2 < 2 := Nat.mod_lt _ (by decide)
    have hn1 := div_next (X := N x) (m := m) hY
    obtain ⟨g1, e1, b1⟩ := up_ok (z := r) (b := 1) hr (by decide) hB (by rw [uN_s]; omega)
    rw [uN_s, uN_uN] at b1
    have hbit := bit_ok (z := x) (k := m) hx (by omega) b1
    rw [uN_n (Ne.symm hrx), uN_n (Ne.symm hzx)] at hbit
    have b2 := or0_ok (r := r) (b := N x / 2 ^ m % 2) hr hb b1 (by rw [uN_s]; omega) (by rw [uN_s]; omega)
    rw [uN_s, uN_uN, Nat.pow_one] at b2
    have hc := compare_ok hr hy b2
    rw [uN_s, uN_n (Ne.symm hry), uN_n (Ne.symm hzy)] at hc
    have hZ2 : N x / 2 ^ (m + 1) / N y * 2 ^ (m + 1) = 2 * (N x / 2 ^ (m + 1) / N y) * 2 ^ m := by
      rw [Nat.pow_succ, Nat.mul_comm (2 ^ m) 2, ← Nat.mul_assoc, Nat.mul_comm _ 2]
    have e0 : nI m + (-1 : Int32) = zI ((m : Int) - 1) := by rw [z_nI, z_m1]
    by_cases hl : N x / 2 ^ (m + 1) % N y * 2 + N x / 2 ^ m % 2 < N y
    · rw [if_pos hl, if_pos hl] at hn1
      rw [hZ2] at b2
      obtain ⟨g', e2, b3⟩ := ih n' _ (by omega) (by omega) (by
        rw [hn1.1, hn1.2, Nat.add_zero, Nat.sub_zero]
        exact b2)
      refine ⟨g', ?_, b3⟩
      rw [f_Ref_divide_22, if_neg (fun h9 => by have := (z_lt0 (by omega) (by omega)).mp h9; omega), z_pn, show (1 : Int32) = nI 1 from rfl, e1, Option.bind_some, ix0_, if_pos (ji_ (by omega) (by decide)), hbit, Option.bind_some, if_pos (ji_ (by omega) (by decide)), jl_, nI_clamp (by omega), hc, Option.bind_some, if_pos (cmpI_lt.mpr hl)]
      unfold f_Ref_divide_122
      rw [jl_, e0]
      exact e2
    · rw [if_neg hl, if_neg hl] at hn1
      obtain ⟨g3, e3, b3⟩ := sub_ok hr hy hry b2 (by rw [uN_s, uN_n (Ne.symm hry), uN_n (Ne.symm hzy)]; omega)
      rw [uN_s, uN_uN, uN_n (Ne.symm hry), uN_n (Ne.symm hzy)] at b3
      have e3' : f_Ref_add (nI r) (nI y) (-nI 1) (upd g1 (160 * r) (g1 (160 * r) ||| nI (N x / 2 ^ m % 2))) = some g3 := e3
      have hle : N x / 2 ^ m / N y * 2 ^ m ≤ N x := Nat.le_trans (Nat.mul_le_mul_right _ (Nat.div_le_self _ _)) (Nat.div_mul_le_self _ _)
      have b4 := set_ok (z := z) (k := m) hz (by omega) b3 (by
        rw [uN_n hzr, uN_s, hZ2, Nat.mul_div_cancel _ (p2 m)]
        omega) (by
        rw [uN_n hzr, uN_s, hZ2]
        rw [hn1.1, Nat.add_mul] at hle
        omega)
      rw [uN_n hzr, uN_s, hZ2, uN_c (Ne.symm hzr), uN_uN] at b4
      obtain ⟨g', e2, b5⟩ := ih n' _ (by omega) (by omega) (by
        rw [hn1.1, hn1.2, Nat.add_mul, Nat.one_mul]
        exact b4)
      refine ⟨g', ?_, b5⟩
      rw [f_Ref_divide_22, if_neg (fun h9 => by have := (z_lt0 (by omega) (by omega)).mp h9; omega), z_pn, show (1 : Int32) = nI 1 from rfl, e1, Option.bind_some, ix0_, if_pos (ji_ (by omega) (by decide)), hbit, Option.bind_some, if_pos (ji_ (by omega) (by decide)), jl_, nI_clamp (by omega), hc, Option.bind_some, if_neg (fun h9 => hl (cmpI_lt.mp h9)), e3', Option.bind_some, ix0_ z, show (16 : Int32) = nI 16 from rfl, pk_div (by omega) (by decide) (by decide), q_irem (by omega) (by decide) (by decide), nI_add, if_pos (ji_ (by omega) (by decide)), if_pos (ji_ (by omega) (by decide)), jl_, nI_clamp (by omega)]
      have ht : m % 16 < 16 := Nat.mod_lt _ (by decide)
      have ht2 : (2 : Nat) ^ (m % 16) ≤ 32768 := Nat.pow_le_pow_right (n := 2) (by decide) (show m % 16 ≤ 15 by omega)
      rw [q_ishl (by omega) (by omega), Nat.one_mul]
      unfold f_Ref_divide_122
      rw [jl_, e0]
      exact e2
theorem divide_ok {z x y r : Nat} {g : Nat → Int32} {N : Nat → Nat} (hz : z < 5) (hx : x < 5) (hy : y < 5) (hr : r < 5) (hzx : z ≠ x) (hzy : z ≠ y) (hzr : z ≠ r) (hrx : r ≠ x) (hry : r ≠ y) (hB : Big g N) (hY : 0 < N y) (hY2 : N y * 2 < 65536 ^ 160) : ∃ g', f_Ref_divide (nI z) (nI x) (nI y) (nI r) g = some g' ∧ Big g' (uN (uN N z (N x / N y)) r (N x % N y)) := by
  obtain ⟨g1, e1, b1⟩ := put_ok (v := 0) hz (by decide) hB
  obtain ⟨g2, e2, b2⟩ := put_ok (v := 0) hr (by decide) b1
  have w := width_ok hx b2
  rw [uN_n (Ne.symm hrx), uN_n (Ne.symm hzx)] at w
  have hbl := bl_big hx hB
  have h0 : N x / 2 ^ bl (N x) = 0 := Nat.div_eq_of_lt (bl_lt _)
  obtain ⟨g3, e3, b3⟩ := div_loop hz hx hy hr hzx hzy hzr hrx hry hY hY2 (hB x hx).1 (bl (N x)) 5000 g2 hbl (by omega) (by
    rw [h0, Nat.zero_div, Nat.zero_mul, Nat.zero_mod]
    exact b2)
  refine ⟨g3, ?_, b3⟩
  unfold f_Ref_divide f_Ref_divide_0
  rw [show (0 : Int64) = lN 0 from rfl, e1, Option.bind_some, e2, Option.bind_some, w, Option.bind_some, jl_, show nI (bl (N x)) - (1 : Int32) = zI ((bl (N x) : Int) - 1) by rw [z_nI, show (1 : Int32) = zI 1 by decide, z_sub]]
  exact e3
