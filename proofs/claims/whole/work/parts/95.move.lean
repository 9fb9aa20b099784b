-- moveUp; a bit set; times; divide
theorem dg_up0 {N w r k : Nat} (hk : k < w) : dg (N * 2 ^ (16 * w + r)) k = 0 := by
  unfold dg
  obtain ⟨e, rfl⟩ : ∃ e, w = k + (e + 1) := ⟨w - k - 1, by omega⟩
  have e1 : N * 2 ^ (16 * (k + (e + 1)) + r) = N * 2 ^ r * 65536 ^ e * 65536 * 65536 ^ k := by
    rw [Nat.pow_add, ← B_2, Nat.pow_add, Nat.pow_succ]
    simp only [Nat.mul_assoc, Nat.mul_comm, Nat.mul_left_comm]
  rw [e1, Nat.mul_div_cancel _ (B_p k), Nat.mul_mod_left]
theorem dg_upA {N w r : Nat} : dg (N * 2 ^ (16 * w + r)) w = dg N 0 * 2 ^ r % 65536 := by
  unfold dg
  rw [Nat.pow_add, ← B_2, Nat.mul_comm (65536 ^ w), ← Nat.mul_assoc, Nat.mul_div_cancel _ (B_p w), Nat.pow_zero, Nat.div_one, Nat.mod_mul_mod]
theorem dg_upB {N w r i : Nat} (hr : r < 16) : dg (N * 2 ^ (16 * w + r)) (w + (i + 1)) = (dg N (i + 1) * 2 ^ r + dg N i * 2 ^ r / 65536) % 65536 := by
  have e16 : (65536 : Nat) = 2 ^ (16 - r) * 2 ^ r := by rw [← Nat.pow_add, show 16 - r + r = 16 by omega]
  have h1 : N * 2 ^ (16 * w + r) / 65536 ^ (w + (i + 1)) = N / 65536 ^ i / 2 ^ (16 - r) := by
    rw [Nat.pow_add 2, ← B_2, Nat.pow_add 65536 w, Nat.pow_succ, Nat.mul_comm (65536 ^ w) (2 ^ r), ← Nat.mul_assoc, Nat.mul_comm (65536 ^ w), Nat.mul_div_mul_right _ _ (B_p w)]
    conv => lhs; arg 2; arg 2; rw [e16]
    rw [← Nat.mul_assoc, Nat.mul_div_mul_right _ _ (p2 r), Nat.div_div_eq_div_mul]
  have h2 : dg N (i + 1) = N / 65536 ^ i / 65536 % 65536 := by
    unfold dg
    rw [Nat.pow_succ, Nat.div_div_eq_div_mul]
  unfold dg at h2 ⊢
  rw [h1, h2]
  generalize N / 65536 ^ i = M
  have h3 : M % 65536 * 2 ^ r / 65536 = M % 65536 / 2 ^ (16 - r) := by
    conv => lhs; arg 2; rw [e16]
    rw [Nat.mul_div_mul_right _ _ (p2 r)]
  rw [h3]
  have h4 : M / 2 ^ (16 - r) = M / 65536 * 2 ^ r + M % 65536 / 2 ^ (16 - r) := by
    conv => lhs; rw [← Nat.div_add_mod M 65536]
    have : 65536 * (M / 65536) + M % 65536 = M % 65536 + M / 65536 * 2 ^ r * 2 ^ (16 - r) := by
      rw [Nat.mul_assoc, ← Nat.pow_add, show r + (16 - r) = 16 by omega]
      omega
    rw [this, Nat.add_mul_div_right _ _ (p2 _)]
    omega
  rw [h4, Nat.add_mod, ← Nat.mod_mul_mod (M / 65536), ← Nat.add_mod]
/-- from place m on (of 160), the digits of V; the rest as it was -/
def Wd (z m V : Nat) (g0 g : Nat → Int32) : Prop := (∀ j, m ≤ j → j < 160 → g (160 * z + j) = nI (dg V j)) ∧ ∀ j, ¬ (160 * z + m ≤ j ∧ j < 160 * z + 160) → g j = g0 j
theorem Wd.step {z m V : Nat} {g0 g : Nat → Int32} (h : Wd z (m + 1) V g0 g) (hm : m < 160) : Wd z m V g0 (upd g (160 * z + m) (nI (dg V m))) := by
  refine ⟨fun j h1 h2 => ?_, fun j hj => ?_⟩
  · by_cases e : j = m
    · subst e; exact pk_us
    · rw [pk_un (by omega)]; exact h.1 j (by omega) h2
  · rw [pk_un (by omega)]; exact h.2 j (by omega)
theorem Wd.done {z V : Nat} {N : Nat → Nat} {g0 g : Nat → Int32} (hB : Big g0 N) (hz : z < 5) (hV : V < 65536 ^ 160) (h : Wd z 0 V g0 g) : Big g (uN N z V) := by
  intro y hy
  by_cases e : y = z
  · subst e; rw [uN_s]; exact ⟨hV, fun k hk => h.1 k (Nat.zero_le _) hk⟩
  · rw [uN_n e]
    refine ⟨(hB y hy).1, fun k hk => ?_⟩
    rw [h.2 _ (by omega)]
    exact (hB y hy).2 k hk
theorem i_or {a b k : Nat} (hb : b < 2 ^ k) (h : a * 2 ^ k + b < 2 ^ 32) : nI (a * 2 ^ k) ||| nI b = nI (a * 2 ^ k + b) := by
  apply Int32.toBitVec_inj.1
  apply BitVec.eq_of_toNat_eq
  show ((nI (a * 2 ^ k)).toBitVec ||| (nI b).toBitVec).toNat = _
  rw [BitVec.toNat_or, pk_tn (by omega), pk_tn (by omega), pk_tn h, Nat.mul_comm a, Nat.two_pow_add_eq_or_of_lt hb]
theorem up_loop {z w r : Nat} (hz : z < 5) (hr : r < 16) (hw : w ≤ 160) {N : Nat → Nat} (g0 : Nat → Int32) (hB : Big g0 N) : ∀ (m n : Nat) (g : Nat → Int32), m ≤ 160 → m < n → Wd z m (N z * 2 ^ (16 * w + r)) g0 g → ∃ g', f_Ref_moveUp_16 n (nI z) (nI w) (nI r) (zI ((m : Int) - 1)) g = some g' ∧ Wd z 0 (N z * 2 ^ (16 * w + r)) g0 g' := by
  intro m
  induction m with
  | zero =>
    intro n g _ hn hW
    obtain ⟨n', rfl⟩ : ∃ n', n = n' + 1 := ⟨n - 1, by omega⟩
    refine ⟨g, ?_, hW⟩
    rw [f_Ref_moveUp_16, if_pos (by decide)]
  | succ m ih =>
    intro n g hm hn hW
    obtain ⟨n', rfl⟩ : ∃ n', n = n' + 1 := ⟨n - 1, by omega⟩
    obtain ⟨g', e1, e2⟩ := ih n' _ (by omega) (by omega) (hW.step (by omega))
    refine ⟨g', ?_, e2⟩
    have e0 : nI m + (-1 : Int32) = zI ((m : Int) - 1) := by rw [z_nI, z_m1]
    rw [← e0] at e1
    rw [f_Ref_moveUp_16, if_neg (fun h9 => by have := (z_lt0 (by omega) (by omega)).mp h9; omega), z_pn]
    simp only [jlet]
    have hr2 : (2 : Nat) ^ r ≤ 32768 := Nat.pow_le_pow_right (n := 2) (by decide) (show r ≤ 15 by omega)
    have p2r := p2 r
    by_cases hmw : m < w
    · have es : nI m - nI w = zI ((m : Int) - w) := by rw [z_nI, z_nI, z_sub]
      rw [es, if_pos ((z_lt0 (by omega) (by omega)).mpr (by omega))]
      unfold f_Ref_moveUp_52
      rw [if_pos (show zI ((m : Int) - w) < (1 : Int32) from (z_lt (b := 1) (by omega) (by omega) (by decide) (by decide)).mpr (by omega))]
      unfold f_Ref_moveUp_85
      rw [ix_, if_pos (ji_ (by omega) (by decide)), nI_clamp (by omega)]
      rw [dg_up0 hmw] at e1
      exact e1
    · obtain ⟨i, rfl⟩ : ∃ i, m = w + i := ⟨m - w, by omega⟩
      rw [pk_sub (by omega), show w + i - w = i by omega, if_neg (nI_pos (by omega)), ix_, if_pos (ji_ (by omega) (by decide)), nI_clamp (by omega), hW.2 (160 * z + i) (by omega), (hB z hz).2 i (by omega)]
      have hd := dg_lt (N z) i
      have hm1 : dg (N z) i * 2 ^ r ≤ 65535 * 2 ^ r := Nat.mul_le_mul_right _ (by omega)
      rw [q_ishl (by omega) (by omega)]
      unfold f_Ref_moveUp_52
      by_cases hi : i = 0
      · subst hi
        rw [if_pos (by decide)]
        unfold f_Ref_moveUp_85
        rw [ix_, if_pos (ji_ (by omega) (by decide)), nI_clamp (by omega)]
        rw [show (0 : Int32) = nI 0 from rfl, i_or (by omega) (by omega), pk_andN (by omega) 16 (by decide)]
        rw [Nat.add_zero] at e1 ⊢
        rw [dg_upA] at e1
        exact e1
      · obtain ⟨i', rfl⟩ : ∃ i', i = i' + 1 := ⟨i - 1, by omega⟩
        rw [if_neg (show ¬ nI (i' + 1) < (1 : Int32) from nI_nlt (b := 1) (by omega) (by omega)), ix_, show (1 : Int32) = nI 1 from rfl, pk_sub (by omega), show 160 * z + (i' + 1) - 1 = 160 * z + i' by omega, if_pos (ji_ (by omega) (by decide)), nI_clamp (by omega), hW.2 (160 * z + i') (by omega), (hB z hz).2 i' (by omega)]
        have hd' := dg_lt (N z) i'
        have hm2 : dg (N z) i' * 2 ^ r ≤ 65535 * 2 ^ r := Nat.mul_le_mul_right _ (by omega)
        rw [q_ishl (by omega) (by omega), show (16 : Int32) = nI 16 from rfl, q_ishr (by decide) (by omega)]
        unfold f_Ref_moveUp_85
        rw [ix_, if_pos (ji_ (by omega) (by decide)), nI_clamp (by omega)]
        have hlt : dg (N z) i' * 2 ^ r / 2 ^ 16 < 2 ^ r := by
          rw [Nat.div_lt_iff_lt_mul (by decide)]
          have : 65535 * 2 ^ r < 2 ^ r * 2 ^ 16 := by omega
          omega
        rw [i_or hlt (by omega), pk_andN (by omega) 16 (by decide)]
        rw [dg_upB hr] at e1
        exact e1
theorem up_ok0 {z b : Nat} {g : Nat → Int32} {N : Nat → Nat} (hz : z < 5) (hb : b < 2560) (hB : Big g N) : ∃ g', f_Ref_moveUp_16 5000 (nI z) (nI (b / 16)) (nI (b % 16)) (zI (((160 : Nat) : Int) - 1)) g = some g' ∧ Wd z 0 (N z * 2 ^ b) g g' := by
  have hb' : 16 * (b / 16) + b % 16 = b := by omega
  have h := up_loop (w := b / 16) (r := b % 16) hz (by omega) (by omega) g hB 160 5000 g (by decide) (by decide) ⟨fun j h1 h2 => absurd h2 (Nat.not_lt.mpr h1), fun _ _ => rfl⟩
  rw [hb'] at h
  exact h
theorem jl_ {α β : Type} (a : α) (f : α → β) : jlet a f = f a := rfl
theorem up_ok {z b : Nat} {g : Nat → Int32} {N : Nat → Nat} (hz : z < 5) (hb : b < 2560) (hB : Big g N) (h : N z * 2 ^ b < 65536 ^ 160) : ∃ g', f_Ref_moveUp (nI z) (nI b) g = some g' ∧ Big g' (uN N z (N z * 2 ^ b)) := by
  obtain ⟨g', e1, e2⟩ := up_ok0 hz hb hB
  refine ⟨g', ?_, e2.done hB hz h⟩
  rw [show zI (((160 : Nat) : Int) - 1) = (159 : Int32) by decide, ← q_irem (d := 16) (by omega) (by decide) (by decide), ← pk_div (d := 16) (by omega) (by decide) (by decide)] at e1
  unfold f_Ref_moveUp f_Ref_moveUp_0
  rw [jl_, jl_]
  exact e1
theorem dg_set {N k j : Nat} (h : N / 2 ^ k % 2 = 0) : dg (N + 2 ^ k) j = if j = k / 16 then dg N j + 2 ^ (k % 16) else dg N j := by
  have e2 : (2 : Nat) ^ k = 2 ^ (k % 16) * 65536 ^ (k / 16) := by
    rw [B_2, ← Nat.pow_add]
    congr 1
    omega
  have hb := dg_bit N k
  rw [h] at hb
  have hd := dg_lt N (k / 16)
  have ht : k % 16 < 16 := Nat.mod_lt _ (by decide)
  have e16 : (65536 : Nat) = 2 ^ (16 - k % 16) * 2 ^ (k % 16) := by rw [← Nat.pow_add, show 16 - k % 16 + k % 16 = 16 by omega]
  have e15 : (2 : Nat) ^ (16 - k % 16) = 2 ^ (15 - k % 16) * 2 := by rw [show 16 - k % 16 = 15 - k % 16 + 1 by omega, Nat.pow_succ]
  have hlt : dg N (k / 16) + 2 ^ (k % 16) < 65536 := by
    have h1 : dg N (k / 16) / 2 ^ (k % 16) < 2 ^ (16 - k % 16) := by
      rw [Nat.div_lt_iff_lt_mul (p2 _), ← e16]; exact hd
    have h2 : dg N (k / 16) / 2 ^ (k % 16) + 1 < 2 ^ (16 - k % 16) := by
      rw [e15] at h1 ⊢
      generalize dg N (k / 16) / 2 ^ (k % 16) = X at *
      omega
    have h3 : (dg N (k / 16) / 2 ^ (k % 16) + 1 + 1) * 2 ^ (k % 16) ≤ 2 ^ (16 - k % 16) * 2 ^ (k % 16) := Nat.mul_le_mul_right _ h2
    rw [← e16, Nat.add_mul, Nat.add_mul] at h3
    have h4 := Nat.div_add_mod (dg N (k / 16)) (2 ^ (k % 16))
    have h5 := Nat.mod_lt (dg N (k / 16)) (p2 (k % 16))
    rw [Nat.mul_comm] at h4
    omega
  rw [e2]
  by_cases hj : j = k / 16
  · rw [if_pos hj]
    subst hj
    unfold dg at hlt ⊢
    rw [Nat.add_mul_div_right _ _ (B_p _), Nat.add_mod]
    rw [Nat.mod_eq_of_lt (a := 2 ^ (k % 16)) (by omega), Nat.mod_eq_of_lt hlt]
  · rw [if_neg hj]
    rcases Nat.lt_or_gt_of_ne hj with h9 | h9
    · exact dg_lo h9
    · unfold dg at hlt ⊢
      obtain ⟨e, rfl⟩ : ∃ e, j = k / 16 + (e + 1) := ⟨j - k / 16 - 1, by omega⟩
      rw [Nat.pow_add, ← Nat.div_div_eq_div_mul, ← Nat.div_div_eq_div_mul, Nat.add_mul_div_right _ _ (B_p _), Nat.pow_succ, Nat.mul_comm (65536 ^ e), ← Nat.div_div_eq_div_mul, ← Nat.div_div_eq_div_mul]
      congr 2
      generalize N / 65536 ^ (k / 16) = X at *
      generalize 2 ^ (k % 16) = Y at *
      omega
theorem d_or {d t : Nat} (hd : d < 65536) (ht : t < 16) (h : d / 2 ^ t % 2 = 0) : nI d ||| nI (2 ^ t) = nI (d + 2 ^ t) := by
  have h1 := Nat.div_add_mod d (2 ^ t)
  have h2 := Nat.mod_lt d (p2 t)
  have ht2 : (2 : Nat) ^ t ≤ 32768 := Nat.pow_le_pow_right (n := 2) (by decide) (show t ≤ 15 by omega)
  obtain ⟨q, hq⟩ : ∃ q, d / 2 ^ t = 2 * q := ⟨d / 2 ^ t / 2, by generalize d / 2 ^ t = X at *; omega⟩
  have e : d = q * 2 ^ (t + 1) + d % 2 ^ t := by
    rw [Nat.pow_succ]
    rw [hq] at h1
    have : 2 ^ t * (2 * q) = q * (2 ^ t * 2) := by simp only [Nat.mul_assoc, Nat.mul_comm, Nat.mul_left_comm]
    omega
  have hlt : d % 2 ^ t + 2 ^ t < 2 ^ (t + 1) := by rw [Nat.pow_succ]; omega
  apply Int32.toBitVec_inj.1
  apply BitVec.eq_of_toNat_eq
  show ((nI d).toBitVec ||| (nI (2 ^ t)).toBitVec).toNat = _
  rw [BitVec.toNat_or, pk_tn (by omega), pk_tn (by omega), pk_tn (by omega)]
  conv => lhs; arg 1; rw [e, Nat.mul_comm q, Nat.two_pow_add_eq_or_of_lt (i := t + 1) (b := d % 2 ^ t) (by omega) q]
  rw [Nat.or_assoc]
  have h5 : d % 2 ^ t ||| 2 ^ t = d % 2 ^ t + 2 ^ t := by
    have := Nat.two_pow_add_eq_or_of_lt (i := t) (b := d % 2 ^ t) h2 1
    rw [Nat.mul_one] at this
    rw [Nat.or_comm, ← this]
    omega
  rw [h5, ← Nat.two_pow_add_eq_or_of_lt hlt q, Nat.mul_comm]
  omega
/-- bit k of the number at z is set, which was 0 -/
theorem set_ok {z k : Nat} {g : Nat → Int32} {N : Nat → Nat} (hz : z < 5) (hk : k < 2560) (hB : Big g N) (h : N z / 2 ^ k % 2 = 0) (hlt : N z + 2 ^ k < 65536 ^ 160) : Big (upd g (160 * z + k / 16) (g (160 * z + k / 16) ||| nI (2 ^ (k % 16)))) (uN N z (N z + 2 ^ k)) := by
  intro y hy
  by_cases e : y = z
  · subst e
    rw [uN_s]
    refine ⟨hlt, fun j hj => ?_⟩
    rw [dg_set h]
    by_cases ej : j = k / 16
    · subst ej
      rw [pk_us, if_pos rfl, (hB y hy).2 _ hj, d_or (dg_lt _ _) (Nat.mod_lt _ (by decide)) (by rw [dg_bit]; exact h)]
    · rw [pk_un (by omega), if_neg ej]
      exact (hB y hy).2 j hj
  · rw [uN_n e]
    refine ⟨(hB y hy).1, fun j hj => ?_⟩
    rw [pk_un (by omega)]
    exact (hB y hy).2 j hj
