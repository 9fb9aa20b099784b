-- add, timesSmall, tenTimes, moveUp
theorem z_tn (v : Int) : (zI v).toBitVec.toNat = (v % 4294967296).toNat := by
  show (BitVec.ofInt 32 v).toNat = _
  rw [BitVec.toNat_ofInt]
  rfl
theorem z_and (v : Int) : zI v &&& (65535 : Int32) = nI ((v % 65536).toNat) := by
  rw [pk_and (zI v) 16 (by decide), z_tn]
  congr 1
  omega
theorem z_shr {v : Int} (h1 : -2147483648 ≤ v) (h2 : v < 2147483648) : j_ishr (zI v) (16 : Int32) = zI (v / 65536) := by
  apply Int32.toInt_inj.1
  unfold j_ishr
  rw [pk_shr _ _ 16 (by decide), z_ti h1 h2, z_ti (by omega) (by omega), Int.shiftRight_eq_div_pow]
  rfl
theorem z_mul (a b : Int) : zI a * zI b = zI (a * b) := (Int32.ofInt_mul a b).symm
theorem add_step {s c dx dy P : Int} (hs : s = 1 ∨ s = -1) {r X Y : Int} (h : X + s * Y = r + c * P) : (X + dx * P) + s * (Y + dy * P) = (r + (dx + s * dy + c) % 65536 * P) + (dx + s * dy + c) / 65536 * (P * 65536) := by
  have e : (dx + s * dy + c) = (dx + s * dy + c) % 65536 + 65536 * ((dx + s * dy + c) / 65536) := by omega
  have e2 : (dx + s * dy + c) * P = (dx + s * dy + c) % 65536 * P + 65536 * ((dx + s * dy + c) / 65536 * P) := by
    conv => lhs; rw [e]
    rw [Int.add_mul, Int.mul_assoc]
  have e3 : (dx + s * dy + c) / 65536 * (P * 65536) = 65536 * ((dx + s * dy + c) / 65536 * P) := by
    rw [← Int.mul_assoc, Int.mul_comm _ 65536]
  rw [e3]
  rw [Int.add_mul, Int.add_mul] at e2
  rcases hs with rfl | rfl
  · rw [Int.mul_add]
    simp only [Int.one_mul] at *
    omega
  · rw [Int.mul_add]
    simp only [Int.neg_mul, Int.one_mul] at *
    omega
theorem add_loop {x y : Nat} (hx : x < 5) (hy : y < 5) (hxy : x ≠ y) {s : Int} (hs : s = 1 ∨ s = -1) {N : Nat → Nat} (g0 : Nat → Int32) (hB : Big g0 N) : ∀ (d k n r : Nat) (c : Int) (g : Nat → Int32), k + d = 160 → d < n → Pf (160 * x) k r g0 g → -1 ≤ c → c ≤ 1 → ((N x % 65536 ^ k : Nat) : Int) + s * ((N y % 65536 ^ k : Nat) : Int) = (r : Int) + c * ((65536 ^ k : Nat) : Int) → ∃ (g' : Nat → Int32) (r' : Nat) (c' : Int), f_Ref_add_6 n (nI x) (nI y) (zI s) (zI c) (nI k) g = some g' ∧ Pf (160 * x) 160 r' g0 g' ∧ ((N x % 65536 ^ 160 : Nat) : Int) + s * ((N y % 65536 ^ 160 : Nat) : Int) = (r' : Int) + c' * ((65536 ^ 160 : Nat) : Int) := by
  intro d
  induction d with
  | zero =>
    intro k n r c g hk hn hP _ _ he
    obtain ⟨m, rfl⟩ : ∃ m, n = m + 1 := ⟨n - 1, by omega⟩
    have hk' : k = 160 := by omega
    subst hk'
    refine ⟨g, r, c, ?_, hP, he⟩
    rw [f_Ref_add_6, if_pos (show (160 : Int32) ≤ nI 160 by decide)]
  | succ d ih =>
    intro k n r c g hk hn hP hc1 hc2 he
    obtain ⟨m, rfl⟩ : ∃ m, n = m + 1 := ⟨n - 1, by omega⟩
    have h1 := dg_lt (N x) k
    have h2 := dg_lt (N y) k
    have hv : -65536 ≤ (dg (N x) k : Int) + s * (dg (N y) k : Int) + c ∧ (dg (N x) k : Int) + s * (dg (N y) k : Int) + c ≤ 131071 := by
      rcases hs with rfl | rfl <;> constructor <;> omega
    have hd : (((dg (N x) k : Int) + s * (dg (N y) k : Int) + c) % 65536).toNat < 65536 := by omega
    have hs' := hP.step hd
    have he' := add_step (s := s) (c := c) (dx := (dg (N x) k : Int)) (dy := (dg (N y) k : Int)) (P := ((65536 ^ k : Nat) : Int)) hs he
    obtain ⟨g', r', c', e1, e2, e3⟩ := ih (k + 1) m _ (((dg (N x) k : Int) + s * (dg (N y) k : Int) + c) / 65536) _ (by omega) (by omega) hs' (by omega) (by omega) (by
      rw [mod_s, mod_s]
      simp only [Int.natCast_add, Int.natCast_mul]
      rw [Nat.pow_succ]
      simp only [Int.natCast_mul]
      rw [Int.toNat_of_nonneg (by omega)]
      exact he')
    rw [nI_succ] at e1
    refine ⟨g', r', c', ?_, e2, e3⟩
    rw [f_Ref_add_6, if_neg (show ¬ (160 : Int32) ≤ nI k from lt_c (n := 160) (by omega) (by decide)), ix_, ix_, if_pos (ji_ (by omega) (by decide)), if_pos (ji_ (by omega) (by decide))]
    simp only [jlet]
    rw [if_pos (ji_ (by omega) (by decide)), nI_clamp (by omega), nI_clamp (by omega)]
    rw [hP.2.2 (160 * x + k) (by omega), hP.2.2 (160 * y + k) (by omega), (hB x hx).2 k (by omega), (hB y hy).2 k (by omega)]
    rw [z_nI (dg (N x) k), z_nI (dg (N y) k), z_mul, z_add, z_add]
    rw [z_and, z_shr (by omega) (by omega)]
    exact e1
theorem add_ok {x y : Nat} {g : Nat → Int32} {N : Nat → Nat} (hx : x < 5) (hy : y < 5) (hxy : x ≠ y) (hB : Big g N) (h : N x + N y < 65536 ^ 160) : ∃ g', f_Ref_add (nI x) (nI y) (1 : Int32) g = some g' ∧ Big g' (uN N x (N x + N y)) := by
  obtain ⟨g', r, c, e1, e2, e3⟩ := add_loop hx hy hxy (s := 1) (Or.inl rfl) g hB 160 0 5000 0 0 g rfl (by decide) (Pf.nil _ _) (by decide) (by decide) (by simp [Nat.mod_one])
  refine ⟨g', e1, ?_⟩
  rw [Nat.mod_eq_of_lt (hB x hx).1, Nat.mod_eq_of_lt (hB y hy).1] at e3
  have hr := e2.1
  generalize 65536 ^ 160 = P at *
  have hc : c = 0 := by
    rcases Int.lt_trichotomy c 0 with h9 | h9 | h9
    · have : c * (P : Int) ≤ -1 * (P : Int) := Int.mul_le_mul_of_nonneg_right (by omega) (by omega)
      omega
    · exact h9
    · have : 1 * (P : Int) ≤ c * (P : Int) := Int.mul_le_mul_of_nonneg_right (by omega) (by omega)
      omega
  subst hc
  have : r = N x + N y := by omega
  subst this
  exact e2.done hB hx
theorem sub_ok {x y : Nat} {g : Nat → Int32} {N : Nat → Nat} (hx : x < 5) (hy : y < 5) (hxy : x ≠ y) (hB : Big g N) (h : N y ≤ N x) : ∃ g', f_Ref_add (nI x) (nI y) (-1 : Int32) g = some g' ∧ Big g' (uN N x (N x - N y)) := by
  obtain ⟨g', r, c, e1, e2, e3⟩ := add_loop hx hy hxy (s := -1) (Or.inr rfl) g hB 160 0 5000 0 0 g rfl (by decide) (Pf.nil _ _) (by decide) (by decide) (by simp [Nat.mod_one])
  refine ⟨g', e1, ?_⟩
  rw [Nat.mod_eq_of_lt (hB x hx).1, Nat.mod_eq_of_lt (hB y hy).1] at e3
  have hr := e2.1
  have hX := (hB x hx).1
  generalize 65536 ^ 160 = P at *
  have hc : c = 0 := by
    rcases Int.lt_trichotomy c 0 with h9 | h9 | h9
    · have : c * (P : Int) ≤ -1 * (P : Int) := Int.mul_le_mul_of_nonneg_right (by omega) (by omega)
      omega
    · exact h9
    · have : 1 * (P : Int) ≤ c * (P : Int) := Int.mul_le_mul_of_nonneg_right (by omega) (by omega)
      omega
  subst hc
  have : r = N x - N y := by omega
  subst this
  exact e2.done hB hx
theorem small_loop {z : Nat} (hz : z < 5) {t : Nat} (ht : t ≤ 16) (ht0 : 0 < t) {N : Nat → Nat} (g0 : Nat → Int32) (hB : Big g0 N) : ∀ (d k n r c : Nat) (g : Nat → Int32), k + d = 160 → d < n → Pf (160 * z) k r g0 g → c < t → (N z % 65536 ^ k) * t = r + c * 65536 ^ k → ∃ (g' : Nat → Int32) (r' c' : Nat), f_Ref_timesSmall_5 n (nI z) (nI t) (nI c) (nI k) g = some g' ∧ Pf (160 * z) 160 r' g0 g' ∧ (N z % 65536 ^ 160) * t = r' + c' * 65536 ^ 160 := by
  intro d
  induction d with
  | zero =>
    intro k n r c g hk hn hP _ he
    obtain ⟨m, rfl⟩ : ∃ m, n = m + 1 := ⟨n - 1, by omega⟩
    have hk' : k = 160 := by omega
    subst hk'
    refine ⟨g, r, c, ?_, hP, he⟩
    rw [f_Ref_timesSmall_5, if_pos (show (160 : Int32) ≤ nI 160 by decide)]
  | succ d ih =>
    intro k n r c g hk hn hP hc he
    obtain ⟨m, rfl⟩ : ∃ m, n = m + 1 := ⟨n - 1, by omega⟩
    have h1 := dg_lt (N z) k
    have hm : dg (N z) k * t ≤ 65535 * t := Nat.mul_le_mul_right t (by omega)
    have hd : (dg (N z) k * t + c) % 65536 < 65536 := Nat.mod_lt _ (by decide)
    have hs' := hP.step hd
    obtain ⟨g', r', c', e1, e2, e3⟩ := ih (k + 1) m _ ((dg (N z) k * t + c) / 65536) _ (by omega) (by omega) hs' (by omega) (by
      rw [mod_s, Nat.add_mul, he, Nat.pow_succ]
      have e : (dg (N z) k * t + c) * 65536 ^ k = (dg (N z) k * t + c) % 65536 * 65536 ^ k + (dg (N z) k * t + c) / 65536 * (65536 ^ k * 65536) := by
        conv => lhs; rw [← Nat.mod_add_div (dg (N z) k * t + c) 65536]
        rw [Nat.add_mul]
        congr 1
        rw [Nat.mul_comm 65536, Nat.mul_assoc, Nat.mul_comm 65536]
      rw [Nat.add_mul] at e
      rw [Nat.mul_right_comm]
      omega)
    rw [nI_succ] at e1
    refine ⟨g', r', c', ?_, e2, e3⟩
    rw [f_Ref_timesSmall_5, if_neg (show ¬ (160 : Int32) ≤ nI k from lt_c (n := 160) (by omega) (by decide)), ix_, if_pos (ji_ (by omega) (by decide))]
    simp only [jlet]
    rw [if_pos (ji_ (by omega) (by decide)), nI_clamp (by omega)]
    rw [hP.2.2 (160 * z + k) (by omega), (hB z hz).2 k (by omega), nI_l (by omega), nI_l (by omega), nI_l (by omega), lN_mul, lN_add]
    rw [q_and (by omega) 16 (by decide), lN_i, show (16 : Int32) = nI 16 from rfl, q_shr (by decide) (by omega), lN_i]
    exact e1
theorem small_ok {z t : Nat} {g : Nat → Int32} {N : Nat → Nat} (hz : z < 5) (ht : t ≤ 16) (ht0 : 0 < t) (hB : Big g N) (h : N z * t < 65536 ^ 160) : ∃ g', f_Ref_timesSmall (nI z) (nI t) g = some g' ∧ Big g' (uN N z (N z * t)) := by
  obtain ⟨g', r, c, e1, e2, e3⟩ := small_loop hz ht ht0 g hB 160 0 5000 0 0 g rfl (by decide) (Pf.nil _ _) ht0 (by simp [Nat.mod_one])
  refine ⟨g', e1, ?_⟩
  rw [Nat.mod_eq_of_lt (hB z hz).1] at e3
  have hr := e2.1
  generalize 65536 ^ 160 = P at *
  have hc : c = 0 := by
    apply Nat.eq_zero_of_not_pos
    intro h9
    have : 1 * P ≤ c * P := Nat.mul_le_mul_right P h9
    omega
  subst hc
  have : r = N z * t := by omega
  subst this
  exact e2.done hB hz
theorem uN_uN {N : Nat → Nat} {z v w : Nat} : uN (uN N z v) z w = uN N z w := by
  funext j
  unfold uN
  split <;> rfl
theorem ten_loop {z p : Nat} (hz : z < 5) (hp : p < 1000) : ∀ (d k n : Nat) (N : Nat → Nat) (g : Nat → Int32), k + d = p → d < n → Big g N → N z * 10 ^ d < 65536 ^ 160 → ∃ g', f_Ref_tenTimes_2 n (nI z) (nI p) (nI k) g = some g' ∧ Big g' (uN N z (N z * 10 ^ d)) := by
  intro d
  induction d with
  | zero =>
    intro k n N g hk hn hB _
    obtain ⟨m, rfl⟩ : ∃ m, n = m + 1 := ⟨n - 1, by omega⟩
    have hk' : k = p := by omega
    subst hk'
    refine ⟨g, ?_, ?_⟩
    · rw [f_Ref_tenTimes_2, if_pos (nI_le (Nat.le_refl _) (by omega))]
    · have : uN N z (N z * 10 ^ 0) = N := by
        funext j
        unfold uN
        split
        · next h => subst h; simp
        · rfl
      rw [this]
      exact hB
  | succ d ih =>
    intro k n N g hk hn hB h
    obtain ⟨m, rfl⟩ : ∃ m, n = m + 1 := ⟨n - 1, by omega⟩
    have e0 : N z * 10 ^ (d + 1) = N z * 10 * 10 ^ d := by rw [Nat.pow_succ, Nat.mul_comm (10 ^ d) 10, Nat.mul_assoc]
    have h10 : N z * 10 < 65536 ^ 160 := by
      have h2 : N z * 10 * 1 ≤ N z * 10 * 10 ^ d := Nat.mul_le_mul_left _ (Nat.pow_pos (by decide))
      omega
    obtain ⟨g1, e1, b1⟩ := small_ok hz (by decide) (by decide) hB h10
    obtain ⟨g', e2, b2⟩ := ih (k + 1) m _ g1 (by omega) (by omega) b1 (by rw [uN_s, ← e0]; exact h)
    rw [nI_succ] at e2
    rw [uN_s, uN_uN, ← e0] at b2
    refine ⟨g', ?_, b2⟩
    rw [f_Ref_tenTimes_2, if_neg (nI_ge (by omega) (by omega)), show (10 : Int32) = nI 10 from rfl, e1]
    exact e2
theorem ten_ok {z p : Nat} {g : Nat → Int32} {N : Nat → Nat} (hz : z < 5) (hp : p < 1000) (hB : Big g N) (h : N z * 10 ^ p < 65536 ^ 160) : ∃ g', f_Ref_tenTimes (nI z) (nI p) g = some g' ∧ Big g' (uN N z (N z * 10 ^ p)) :=
  ten_loop hz hp p 0 5000 N g (by omega) (by omega) hB h
