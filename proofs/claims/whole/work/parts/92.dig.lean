-- numbers by digits of 16 bits; five of them in one row of 800
def dg (N k : Nat) : Nat := N / 65536 ^ k % 65536
theorem B_p (k : Nat) : 0 < 65536 ^ k := Nat.pow_pos (by decide)
theorem dg_lt (N k : Nat) : dg N k < 65536 := Nat.mod_lt _ (by decide)
theorem mod_s (N k : Nat) : N % 65536 ^ (k + 1) = N % 65536 ^ k + dg N k * 65536 ^ k := by
  unfold dg
  rw [Nat.mod_pow_succ, Nat.mul_comm]
theorem dg_hi {r k d : Nat} (hr : r < 65536 ^ k) (hd : d < 65536) : dg (r + d * 65536 ^ k) k = d := by
  unfold dg
  rw [Nat.add_mul_div_right _ _ (B_p k), Nat.div_eq_of_lt hr, Nat.zero_add, Nat.mod_eq_of_lt hd]
theorem dg_lo {r k d j : Nat} (hj : j < k) : dg (r + d * 65536 ^ k) j = dg r j := by
  unfold dg
  obtain ⟨e, rfl⟩ : ∃ e, k = j + (e + 1) := ⟨k - j - 1, by omega⟩
  rw [Nat.pow_add, show d * (65536 ^ j * 65536 ^ (e + 1)) = d * 65536 ^ e * 65536 * 65536 ^ j by rw [Nat.pow_succ]; simp [Nat.mul_assoc, Nat.mul_comm, Nat.mul_left_comm], Nat.add_mul_div_right _ _ (B_p j), Nat.add_mul_mod_self_right]
theorem dg_mod {N k j : Nat} (hj : j < k) : dg (N % 65536 ^ k) j = dg N j := by
  have h := dg_lo (r := N % 65536 ^ k) (k := k) (d := N / 65536 ^ k) hj
  rw [Nat.mul_comm, Nat.mod_add_div] at h
  exact h.symm
theorem dg_0 {N k : Nat} (h : N < 65536 ^ k) : dg N k = 0 := by
  unfold dg
  rw [Nat.div_eq_of_lt h]
theorem dg_0' {N k j : Nat} (h : N < 65536 ^ k) (hj : k ≤ j) : dg N j = 0 :=
  dg_0 (Nat.lt_of_lt_of_le h (Nat.pow_le_pow_right (by decide) hj))
theorem dg_ext {n : Nat} : ∀ {a b : Nat}, a < 65536 ^ n → b < 65536 ^ n → (∀ j, j < n → dg a j = dg b j) → a = b := by
  intro a b ha hb h
  have key : ∀ m, m ≤ n → a % 65536 ^ m = b % 65536 ^ m := by
    intro m
    induction m with
    | zero => intro _; simp [Nat.mod_one]
    | succ m ih =>
      intro hm
      rw [mod_s, mod_s, ih (by omega), h m (by omega)]
  have := key n (Nat.le_refl _)
  rwa [Nat.mod_eq_of_lt ha, Nat.mod_eq_of_lt hb] at this
/-- the row holds the five numbers -/
def Big (g : Nat → Int32) (N : Nat → Nat) : Prop := ∀ z, z < 5 → N z < 65536 ^ 160 ∧ ∀ k, k < 160 → g (160 * z + k) = nI (dg (N z) k)
def uN (N : Nat → Nat) (z v : Nat) : Nat → Nat := fun j => if j = z then v else N j
theorem uN_s {N : Nat → Nat} {z v : Nat} : uN N z v z = v := by simp [uN]
theorem uN_n {N : Nat → Nat} {z v j : Nat} (h : j ≠ z) : uN N z v j = N j := by simp [uN, h]
/-- from p on, k digits are those of r; the rest is as it was -/
def Pf (p k r : Nat) (g0 g : Nat → Int32) : Prop := r < 65536 ^ k ∧ (∀ j, j < k → g (p + j) = nI (dg r j)) ∧ ∀ j, ¬ (p ≤ j ∧ j < p + k) → g j = g0 j
theorem Pf.nil (p : Nat) (g : Nat → Int32) : Pf p 0 0 g g := ⟨by simp, fun j h => absurd h (Nat.not_lt_zero j), fun _ _ => rfl⟩
theorem Pf.step {p k r d : Nat} {g0 g : Nat → Int32} (h : Pf p k r g0 g) (hd : d < 65536) : Pf p (k + 1) (r + d * 65536 ^ k) g0 (upd g (p + k) (nI d)) := by
  obtain ⟨h1, h2, h3⟩ := h
  refine ⟨?_, ?_, ?_⟩
  · rw [Nat.pow_succ]
    have := Nat.mul_le_mul_right (65536 ^ k) (show d ≤ 65535 by omega)
    omega
  · intro j hj
    by_cases e : j = k
    · subst e; rw [pk_us, dg_hi h1 hd]
    · rw [pk_un (by omega), dg_lo (by omega)]; exact h2 j (by omega)
  · intro j hj
    rw [pk_un (by omega)]
    exact h3 j (by omega)
theorem Pf.done {z v : Nat} {N : Nat → Nat} {g0 g : Nat → Int32} (hB : Big g0 N) (hz : z < 5) (h : Pf (160 * z) 160 v g0 g) : Big g (uN N z v) := by
  obtain ⟨h1, h2, h3⟩ := h
  intro y hy
  by_cases e : y = z
  · subst e; rw [uN_s]; exact ⟨h1, h2⟩
  · rw [uN_n e]
    refine ⟨(hB y hy).1, fun k hk => ?_⟩
    rw [h3 _ (by omega)]
    exact (hB y hy).2 k hk
theorem ix_ (z k : Nat) : ((160 : Int32) * nI z) + nI k = nI (160 * z + k) := by
  rw [show (160 : Int32) = nI 160 from rfl, pk_mul, nI_add]
theorem ji_ {i n : Nat} (h : i < n) (hn : n < 2 ^ 31) : j_in (nI i) n := nI_in h hn
theorem lt_c {k n : Nat} (h : k < n) (hn : n < 2 ^ 31) : ¬ nI n ≤ nI k := nI_ge h hn
-- put
theorem put_loop {z v : Nat} (hz : z < 5) (hv : v < 2 ^ 63) (g0 : Nat → Int32) : ∀ (d k n : Nat) (g : Nat → Int32), k + d = 160 → d < n → Pf (160 * z) k (v % 65536 ^ k) g0 g → ∃ g', f_Ref_put_3 n (nI z) (lN v) (nI k) g = some g' ∧ Pf (160 * z) 160 (v % 65536 ^ 160) g0 g' := by
  intro d
  induction d with
  | zero =>
    intro k n g hk hn hP
    obtain ⟨m, rfl⟩ : ∃ m, n = m + 1 := ⟨n - 1, by omega⟩
    have hk' : k = 160 := by omega
    subst hk'
    refine ⟨g, ?_, hP⟩
    rw [f_Ref_put_3, if_pos (show (160 : Int32) ≤ nI 160 by decide)]
  | succ d ih =>
    intro k n g hk hn hP
    obtain ⟨m, rfl⟩ : ∃ m, n = m + 1 := ⟨n - 1, by omega⟩
    rw [f_Ref_put_3, if_neg (show ¬ (160 : Int32) ≤ nI k from lt_c (n := 160) (by omega) (by decide))]
    have hs := hP.step (dg_lt v k)
    rw [← mod_s] at hs
    obtain ⟨g', e1, e2⟩ := ih (k + 1) m _ (by omega) (by omega) hs
    rw [nI_succ] at e1
    refine ⟨g', ?_, e2⟩
    by_cases h4 : 4 ≤ k
    · rw [if_pos (show (4 : Int32) ≤ nI k from nI_le (a := 4) h4 (by omega))]
      unfold f_Ref_put_45
      rw [ix_, if_pos (ji_ (by omega) (by decide)), nI_clamp (by omega)]
      have : dg v k = 0 := dg_0' (k := 4) (Nat.lt_of_lt_of_le hv (by decide)) h4
      rw [this] at e1
      exact e1
    · rw [if_neg (show ¬ (4 : Int32) ≤ nI k from nI_ge (b := 4) (by omega) (by decide))]
      unfold f_Ref_put_45
      rw [ix_, if_pos (ji_ (by omega) (by decide)), nI_clamp (by omega)]
      rw [show (16 : Int32) = nI 16 from rfl, pk_mul, q_shr (by omega) hv, q_and (Nat.lt_of_le_of_lt (Nat.div_le_self _ _) (by omega)) 16 (by decide), lN_i]
      rw [show (2 : Nat) ^ (16 * k) = 65536 ^ k by rw [Nat.pow_mul]]
      exact e1
theorem put_ok {z v : Nat} {g : Nat → Int32} {N : Nat → Nat} (hz : z < 5) (hv : v < 2 ^ 63) (hB : Big g N) : ∃ g', f_Ref_put (nI z) (lN v) g = some g' ∧ Big g' (uN N z v) := by
  obtain ⟨g', e1, e2⟩ := put_loop hz hv g 160 0 5000 g rfl (by decide) (by rw [show v % 65536 ^ 0 = 0 by simp [Nat.mod_one]]; exact Pf.nil _ _)
  refine ⟨g', e1, ?_⟩
  have h1 : v < 65536 ^ 160 := Nat.lt_of_lt_of_le hv (Nat.le_trans (by decide : 2 ^ 63 ≤ 65536 ^ 4) (Nat.pow_le_pow_right (by decide) (by decide)))
  rw [Nat.mod_eq_of_lt h1] at e2
  exact e2.done hB hz
