-- copy, bit, width, compare
theorem copy_loop {z x : Nat} (hz : z < 5) (hx : x < 5) {N : Nat → Nat} (g0 : Nat → Int32) (hB : Big g0 N) : ∀ (d k n : Nat) (g : Nat → Int32), k + d = 160 → d < n → Pf (160 * z) k (N x % 65536 ^ k) g0 g → ∃ g', f_Ref_copy_2 n (nI z) (nI x) (nI k) g = some g' ∧ Pf (160 * z) 160 (N x % 65536 ^ 160) g0 g' := by
  intro d
  induction d with
  | zero =>
    intro k n g hk hn hP
    obtain ⟨m, rfl⟩ : ∃ m, n = m + 1 := ⟨n - 1, by omega⟩
    have hk' : k = 160 := by omega
    subst hk'
    refine ⟨g, ?_, hP⟩
    rw [f_Ref_copy_2, if_pos (show (160 : Int32) ≤ nI 160 by decide)]
  | succ d ih =>
    intro k n g hk hn hP
    obtain ⟨m, rfl⟩ : ∃ m, n = m + 1 := ⟨n - 1, by omega⟩
    have hs := hP.step (dg_lt (N x) k)
    rw [← mod_s] at hs
    obtain ⟨g', e1, e2⟩ := ih (k + 1) m _ (by omega) (by omega) hs
    rw [nI_succ] at e1
    refine ⟨g', ?_, e2⟩
    rw [f_Ref_copy_2, if_neg (show ¬ (160 : Int32) ≤ nI k from lt_c (n := 160) (by omega) (by decide)), ix_, ix_, if_pos (ji_ (by omega) (by decide)), if_pos (ji_ (by omega) (by decide)), nI_clamp (by omega), nI_clamp (by omega)]
    rw [hP.2.2 (160 * x + k) (by omega), (hB x hx).2 k (by omega)]
    exact e1
theorem copy_ok {z x : Nat} {g : Nat → Int32} {N : Nat → Nat} (hz : z < 5) (hx : x < 5) (hB : Big g N) : ∃ g', f_Ref_copy (nI z) (nI x) g = some g' ∧ Big g' (uN N z (N x)) := by
  obtain ⟨g', e1, e2⟩ := copy_loop hz hx g hB 160 0 5000 g rfl (by decide) (by rw [show N x % 65536 ^ 0 = 0 by simp [Nat.mod_one]]; exact Pf.nil _ _)
  refine ⟨g', e1, ?_⟩
  rw [Nat.mod_eq_of_lt (hB x hx).1] at e2
  exact e2.done hB hz
theorem B_2 (k : Nat) : 65536 ^ k = 2 ^ (16 * k) := by rw [Nat.pow_mul]
theorem dg_bit (N k : Nat) : dg N (k / 16) / 2 ^ (k % 16) % 2 = N / 2 ^ k % 2 := by
  unfold dg
  have ht : k % 16 < 16 := Nat.mod_lt _ (by decide)
  have e1 : (65536 : Nat) = 2 ^ (k % 16) * 2 ^ (16 - k % 16) := by
    rw [← Nat.pow_add, show k % 16 + (16 - k % 16) = 16 by omega]
  have e2 : (2 : Nat) ^ k = 65536 ^ (k / 16) * 2 ^ (k % 16) := by
    rw [B_2, ← Nat.pow_add]
    congr 1
    omega
  rw [e2, ← Nat.div_div_eq_div_mul]
  generalize N / 65536 ^ (k / 16) = X
  conv => lhs; rw [e1]
  rw [Nat.mod_mul_right_div_self]
  exact Nat.mod_mod_of_dvd _ (by
    rw [show 16 - k % 16 = (15 - k % 16) + 1 by omega, Nat.pow_succ]
    exact ⟨2 ^ (15 - k % 16), Nat.mul_comm _ _⟩)
theorem q_ishr {n j : Nat} (hj : j < 32) (hn : n < 2 ^ 31) : j_ishr (nI n) (nI j) = nI (n / 2 ^ j) := by
  unfold j_ishr
  exact pk_shrN hn _ j ((by decide +kernel : ∀ j : Nat, j < 32 → (((nI j &&& 31).toBitVec.smod 32).toNat) = j) j hj)
theorem q_ishl {n j : Nat} (hj : j < 32) (hn : n * 2 ^ j < 2 ^ 32) : j_ishl (nI n) (nI j) = nI (n * 2 ^ j) := by
  unfold j_ishl
  exact pk_shlN _ j ((by decide +kernel : ∀ j : Nat, j < 32 → (((nI j &&& 31).toBitVec.smod 32).toNat) = j) j hj) hn
theorem q_irem {a d : Nat} (ha : a < 2 ^ 31) (h0 : 0 < d) (hd : d < 2 ^ 31) : j_irem (nI a) (nI d) = nI (a % d) := pk_rem ha h0 hd
theorem bit_ok {z k : Nat} {g : Nat → Int32} {N : Nat → Nat} (hz : z < 5) (hk : k < 2560) (hB : Big g N) : f_Ref_bit (nI z) (nI k) g = some (nI (N z / 2 ^ k % 2)) := by
  unfold f_Ref_bit f_Ref_bit_0 f_Ref_bit_30
  rw [if_pos (nI_pos' (by omega)), show (16 : Int32) = nI 16 from rfl, pk_div (by omega) (by decide) (by decide), q_irem (by omega) (by decide) (by decide), ix_, if_pos (ji_ (by omega) (by decide)), nI_clamp (by omega), (hB z hz).2 _ (by omega)]
  have := dg_lt (N z) (k / 16)
  rw [q_ishr (by omega) (by omega), show (1 : Int32) = nI 1 from rfl, pk_andN (Nat.lt_of_le_of_lt (Nat.div_le_self _ _) (by omega)) 1 (by decide)]
  rw [← dg_bit (N z) k]
theorem bit_neg {z : Nat} {k : Int} {g : Nat → Int32} (h1 : -2147483648 ≤ k) (h2 : k < 0) : f_Ref_bit (nI z) (zI k) g = some (nI 0) := by
  unfold f_Ref_bit f_Ref_bit_0 f_Ref_bit_30
  rw [if_neg]
  · rfl
  · intro h
    have := (z_le (a := 0) (b := k) (by omega) (by omega) h1 (by omega)).mp h
    omega
theorem z_m1 (a : Int) : zI a + (-1 : Int32) = zI (a - 1) := by
  rw [show (-1 : Int32) = zI (-1) by decide, z_add, Int.sub_eq_add_neg]
theorem z_lt0 {a : Int} (h1 : -2147483648 ≤ a) (h2 : a < 2147483648) : zI a < 0 ↔ a < 0 := z_lt (b := 0) h1 h2 (by decide) (by decide)
theorem z_le0 {a : Int} (h1 : -2147483648 ≤ a) (h2 : a < 2147483648) : 0 ≤ zI a ↔ 0 ≤ a := z_le (a := 0) (by decide) (by decide) h1 h2
theorem z_pn (m : Nat) : zI (((m + 1 : Nat) : Int) - 1) = nI m := by
  have : (((m + 1 : Nat) : Int) - 1) = (m : Int) := by omega
  show zI (((m + 1 : Nat) : Int) - 1) = _
  rw [this]; rfl
theorem lt_of_bits {N k : Nat} (h : N < 2 ^ (k + 1)) (hb : N / 2 ^ k % 2 = 0) : N < 2 ^ k := by
  rw [Nat.pow_succ] at h
  have h1 : N / 2 ^ k < 2 := (Nat.div_lt_iff_lt_mul (p2 k)).mpr (by omega)
  have h2 : N / 2 ^ k = 0 := by
    generalize N / 2 ^ k = X at h1 hb ⊢
    omega
  rcases Nat.div_eq_zero_iff.mp h2 with h3 | h3
  · have := p2 k; omega
  · exact h3
theorem width_37 {z : Nat} (hz : z < 5) {N : Nat → Nat} {g : Nat → Int32} (hB : Big g N) (hN : N z ≠ 0) (w : Nat) (hw : w < 160) : ∀ (m n : Nat), m ≤ 2560 → m < n → N z < 2 ^ m → f_Ref_width_37 n (nI z) (nI w) (zI ((m : Int) - 1)) g = some (nI (bl (N z))) := by
  intro m
  induction m with
  | zero => intro n _ _ h; simp at h; exact absurd h hN
  | succ m ih =>
    intro n hm hn h
    obtain ⟨n', rfl⟩ : ∃ n', n = n' + 1 := ⟨n - 1, by omega⟩
    rw [f_Ref_width_37, if_neg (fun h9 => by have := (z_lt0 (by omega) (by omega)).mp h9; omega), z_pn, bit_ok hz (by omega) hB]
    show (if nI (N z / 2 ^ m % 2) = 0 then _ else _) = _
    by_cases hb : N z / 2 ^ m % 2 = 0
    · rw [hb, if_pos nI_0]
      have e : nI m + (-1 : Int32) = zI ((m : Int) - 1) := by rw [z_nI, z_m1]
      show f_Ref_width_37 n' (nI z) (nI w) (nI m + -1) g = _
      rw [e]
      exact ih n' (by omega) (by omega) (lt_of_bits h hb)
    · rw [if_neg (nI_ne0 (by omega) (by omega))]
      unfold f_Ref_width_56 f_Ref_width_67
      rw [if_pos (nI_pos' (by omega)), nI_1]
      have : bl (N z) = m + 1 := bl_eq (by
        apply Nat.le_of_not_lt
        intro h9
        rw [Nat.div_eq_of_lt h9] at hb
        exact hb rfl) h
      rw [this]
theorem width_4 {z : Nat} (hz : z < 5) {N : Nat → Nat} {g : Nat → Int32} (hB : Big g N) : ∀ (m n : Nat), m ≤ 160 → m < n → N z < 65536 ^ m → f_Ref_width_4 n (nI z) (zI ((m : Int) - 1)) g = some (nI (bl (N z))) := by
  intro m
  induction m with
  | zero =>
    intro n _ hn h
    obtain ⟨n', rfl⟩ : ∃ n', n = n' + 1 := ⟨n - 1, by omega⟩
    have h0 : N z = 0 := by simp at h; exact h
    rw [f_Ref_width_4, if_pos (by decide), h0]
    rfl
  | succ m ih =>
    intro n hm hn h
    obtain ⟨n', rfl⟩ : ∃ n', n = n' + 1 := ⟨n - 1, by omega⟩
    rw [f_Ref_width_4, if_neg (fun h9 => by have := (z_lt0 (by omega) (by omega)).mp h9; omega), z_pn, ix_, if_pos (ji_ (by omega) (by decide)), nI_clamp (by omega), (hB z hz).2 m (by omega)]
    by_cases hd : dg (N z) m = 0
    · rw [hd, if_pos nI_0]
      have e : nI m + (-1 : Int32) = zI ((m : Int) - 1) := by rw [z_nI, z_m1]
      show f_Ref_width_4 n' (nI z) (nI m + -1) g = _
      rw [e]
      refine ih n' (by omega) (by omega) ?_
      have h1 := mod_s (N z) m
      rw [hd, Nat.zero_mul, Nat.add_zero, Nat.mod_eq_of_lt h] at h1
      rw [h1]
      exact Nat.mod_lt _ (B_p m)
    · have := dg_lt (N z) m
      rw [if_neg (nI_ne0 (by omega) (by omega))]
      unfold f_Ref_width_29
      show f_Ref_width_37 5000 (nI z) (nI m) (((16 : Int32) * nI m) + (15 : Int32)) g = _
      have e : ((16 : Int32) * nI m) + (15 : Int32) = zI (((16 * (m + 1) : Nat) : Int) - 1) := by
        rw [show (16 : Int32) = nI 16 from rfl, pk_mul, show (15 : Int32) = nI 15 from rfl, nI_add, z_nI]
        congr 1
        omega
      rw [e]
      refine width_37 hz hB (fun h9 => hd (by rw [h9]; simp [dg])) m (by omega) _ 5000 (by omega) (by omega) ?_
      rw [← B_2]
      exact h
theorem width_ok {z : Nat} {g : Nat → Int32} {N : Nat → Nat} (hz : z < 5) (hB : Big g N) : f_Ref_width (nI z) g = some (nI (bl (N z))) :=
  width_4 hz hB 160 5000 (by decide) (by decide) (hB z hz).1
theorem bl_big {z : Nat} {g : Nat → Int32} {N : Nat → Nat} (hz : z < 5) (hB : Big g N) : bl (N z) ≤ 2560 := bl_of_lt (by have := (hB z hz).1; rw [B_2] at this; exact this)
def cmpI (a b : Nat) : Int32 := if a < b then -1 else if a = b then 0 else 1
theorem div_s (a k : Nat) : a / 65536 ^ k = a / 65536 ^ (k + 1) * 65536 + dg a k := by
  unfold dg
  rw [Nat.pow_succ, ← Nat.div_div_eq_div_mul]
  omega
theorem lt_of_div {a b c : Nat} (h : a / c < b / c) : a < b := by
  apply Nat.lt_of_not_le
  intro h9
  have := Nat.div_le_div_right (c := c) h9
  omega
theorem cmp_loop {x y : Nat} (hx : x < 5) (hy : y < 5) {N : Nat → Nat} {g : Nat → Int32} (hB : Big g N) : ∀ (m n : Nat), m ≤ 160 → m < n → N x / 65536 ^ m = N y / 65536 ^ m → f_Ref_compare_4 n (nI x) (nI y) (zI ((m : Int) - 1)) g = some (cmpI (N x) (N y)) := by
  intro m
  induction m with
  | zero =>
    intro n _ hn h
    obtain ⟨n', rfl⟩ : ∃ n', n = n' + 1 := ⟨n - 1, by omega⟩
    have h0 : N x = N y := by simpa using h
    rw [f_Ref_compare_4, if_pos (by decide), h0]
    simp [cmpI]
  | succ m ih =>
    intro n hm hn h
    obtain ⟨n', rfl⟩ : ∃ n', n = n' + 1 := ⟨n - 1, by omega⟩
    rw [f_Ref_compare_4, if_neg (fun h9 => by have := (z_lt0 (by omega) (by omega)).mp h9; omega), z_pn, ix_, ix_, if_pos (ji_ (by omega) (by decide)), if_pos (ji_ (by omega) (by decide)), nI_clamp (by omega), nI_clamp (by omega), (hB x hx).2 m (by omega), (hB y hy).2 m (by omega)]
    have h1 := dg_lt (N x) m
    have h2 := dg_lt (N y) m
    have d1 := div_s (N x) m
    have d2 := div_s (N y) m
    have e4 : nI (dg (N x) m) - nI (dg (N y) m) = zI ((dg (N x) m : Int) - (dg (N y) m : Int)) := by
      rw [z_nI, z_nI, z_sub]
    show (if nI (dg (N x) m) - nI (dg (N y) m) = 0 then _ else _) = _
    rw [e4]
    by_cases hd : dg (N x) m = dg (N y) m
    · rw [if_pos (by rw [hd, Int.sub_self]; rfl)]
      have e : nI m + (-1 : Int32) = zI ((m : Int) - 1) := by rw [z_nI, z_m1]
      show f_Ref_compare_4 n' (nI x) (nI y) (nI m + -1) g = _
      rw [e]
      exact ih n' (by omega) (by omega) (by omega)
    · rw [if_neg (fun h9 => hd (by have := (z_eq (b := 0) (by omega) (by omega) (by decide) (by decide)).mp h9; omega))]
      unfold f_Ref_compare_50
      rcases Nat.lt_or_gt_of_ne hd with hl | hl
      · have hlt : N x < N y := lt_of_div (c := 65536 ^ m) (by omega)
        rw [if_neg (fun h9 => by have := (z_le0 (by omega) (by omega)).mp h9; omega)]
        simp [cmpI, hlt]
      · have hlt : N y < N x := lt_of_div (c := 65536 ^ m) (by omega)
        rw [if_pos ((z_le0 (by omega) (by omega)).mpr (by omega))]
        unfold cmpI
        rw [if_neg (by omega), if_neg (by omega)]
theorem compare_ok {x y : Nat} {g : Nat → Int32} {N : Nat → Nat} (hx : x < 5) (hy : y < 5) (hB : Big g N) : f_Ref_compare (nI x) (nI y) g = some (cmpI (N x) (N y)) :=
  cmp_loop hx hy hB 160 5000 (by decide) (by decide) (by rw [Nat.div_eq_of_lt (hB x hx).1, Nat.div_eq_of_lt (hB y hy).1])
