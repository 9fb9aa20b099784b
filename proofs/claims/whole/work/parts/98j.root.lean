-- roots
theorem sq_mono {a b : Nat} (h : a ≤ b) : a * a ≤ b * b := Nat.mul_le_mul h h
theorem sq_lt {a b : Nat} (h : a * a < b * b) : a < b := Nat.lt_of_not_le (fun h9 => by have := sq_mono h9; omega)
theorem sq_uniq {a b V : Nat} (h1 : a * a ≤ V) (h2 : V < (a + 1) * (a + 1)) (h3 : b * b ≤ V) (h4 : V < (b + 1) * (b + 1)) : a = b := by
  have x1 := sq_lt (Nat.lt_of_le_of_lt h1 h4)
  have x2 := sq_lt (Nat.lt_of_le_of_lt h3 h2)
  omega
def sq : Nat → Nat → Nat
  | 0, _ => 0
  | n + 1, V => if (2 * sq n (V / 4) + 1) * (2 * sq n (V / 4) + 1) ≤ V then 2 * sq n (V / 4) + 1 else 2 * sq n (V / 4)
theorem sq_ok : ∀ (n V : Nat), V < 4 ^ n → sq n V * sq n V ≤ V ∧ V < (sq n V + 1) * (sq n V + 1) := by
  intro n
  induction n with
  | zero =>
    intro V h
    have : V = 0 := by simpa using h
    subst this
    exact ⟨by decide, by decide⟩
  | succ n ih =>
    intro V h
    rw [Nat.pow_succ] at h
    obtain ⟨h1, h2⟩ := ih (V / 4) (by generalize 4 ^ n = X at *; omega)
    rw [sq]
    generalize sq n (V / 4) = r at *
    have e1 : (2 * r) * (2 * r) = 4 * (r * r) := by rw [Nat.mul_mul_mul_comm]
    have e2 : (r + 1) * (r + 1) = r * r + 2 * r + 1 := by simp only [Nat.add_mul, Nat.mul_add, Nat.mul_one, Nat.one_mul]; omega
    have e3 : (2 * r + 1 + 1) * (2 * r + 1 + 1) = 4 * (r * r) + 8 * r + 4 := by
      have : 2 * r + 1 + 1 = 2 * (r + 1) := by omega
      rw [this, Nat.mul_mul_mul_comm, e2]
      omega
    split
    · next h9 => exact ⟨h9, by rw [e3]; rw [e2] at h2; omega⟩
    · next h9 => exact ⟨by rw [e1]; omega, by omega⟩
theorem z_half {a : Int} (h1 : -1000000 ≤ a) (h2 : a ≤ 1000000) : zI (2 * a) / (2 : Int32) = zI a := by
  apply Int32.toInt_inj.1
  rw [Int32.toInt_div, z_ti (by omega) (by omega), z_ti (by omega) (by omega), show (2 : Int32).toInt = 2 by decide]
  rw [show (2 * a).tdiv 2 = a by rw [Int.mul_comm]; exact Int.mul_tdiv_cancel a (by decide)]
  exact Int.bmod_eq_of_le (by omega) (by omega)
theorem z_rem2 {a : Int} (h1 : -1000000 ≤ a) (h2 : a ≤ 1000000) : j_irem (zI a) (2 : Int32) = 0 ↔ a % 2 = 0 := by
  unfold j_irem
  have e : zI a / (2 : Int32) = zI (a.tdiv 2) := by
    apply Int32.toInt_inj.1
    rw [Int32.toInt_div, z_ti (by omega) (by omega), show (2 : Int32).toInt = 2 by decide]
    have h3 : a.tdiv 2 = if 0 ≤ a then a / 2 else -((-a) / 2) := by
      split
      · next h => exact Int.tdiv_eq_ediv_of_nonneg h
      · next h => rw [← Int.neg_neg a, Int.neg_tdiv, Int.tdiv_eq_ediv_of_nonneg (by omega), Int.neg_neg]
    rw [h3, z_ti (by split <;> omega) (by split <;> omega)]
    exact Int.bmod_eq_of_le (by split <;> omega) (by split <;> omega)
  have h3 : a.tdiv 2 = if 0 ≤ a then a / 2 else -((-a) / 2) := by
    split
    · next h => exact Int.tdiv_eq_ediv_of_nonneg h
    · next h => rw [← Int.neg_neg a, Int.neg_tdiv, Int.tdiv_eq_ediv_of_nonneg (by omega), Int.neg_neg]
  rw [e, show (2 : Int32) = zI 2 by decide, z_mul, z_sub, show (0 : Int32) = zI 0 by decide, z_eq (by rw [h3]; split <;> omega) (by rw [h3]; split <;> omega) (by decide) (by decide), h3]
  split <;> omega
theorem z_and1 (v : Int) : zI v &&& (1 : Int32) = nI ((v % 2).toNat) := by
  apply Int32.toBitVec_inj.1
  apply BitVec.eq_of_toNat_eq
  show ((zI v).toBitVec &&& (1 : Int32).toBitVec).toNat = _
  rw [BitVec.toNat_and, z_tn, show (1 : Int32).toBitVec.toNat = 2 ^ 1 - 1 by decide, Nat.and_two_pow_sub_one_eq_mod, pk_tn (by omega)]
  omega
theorem root_loop {how V : Nat} {E od : Int32} (hV1 : 2 ^ 52 ≤ V) (hV2 : V < 2 ^ 54) : ∀ (d i n R D : Nat), i + d = 57 → d < n → D * D + R = V * 4 ^ 30 / 4 ^ (57 - i) → R ≤ 2 * D → f_Exact_root_54 n (wI how) E od (lN V) (lN R) (lN D) (nI i) = f_Exact_root_163 (bI (sq 57 (V * 4 ^ 30) * sq 57 (V * 4 ^ 30) != V * 4 ^ 30)) (lN (sq 57 (V * 4 ^ 30))) (0 : Int32) (wI how) (((E - od) / (2 : Int32)) - (30 : Int32)) := by
  intro d
  induction d with
  | zero =>
    intro i n R D hi hn he hR
    obtain ⟨n', rfl⟩ : ∃ n', n = n' + 1 := ⟨n - 1, by omega⟩
    have hi' : i = 57 := by omega
    subst hi'
    rw [f_Exact_root_54, if_pos (by decide), jl_]
    have hlt : V * 4 ^ 30 < 4 ^ 57 := by
      have : V * 4 ^ 30 < 2 ^ 54 * 4 ^ 30 := Nat.mul_lt_mul_of_pos_right hV2 (by decide)
      exact this
    obtain ⟨s1, s2⟩ := sq_ok 57 _ hlt
    rw [Nat.sub_self, Nat.pow_zero, Nat.div_one] at he
    obtain ⟨X, hX⟩ : ∃ X, X = V * 4 ^ 30 := ⟨_, rfl⟩
    rw [← hX] at he s1 s2 hlt ⊢
    have e2 : (D + 1) * (D + 1) = D * D + 2 * D + 1 := by simp only [Nat.add_mul, Nat.mul_add, Nat.mul_one, Nat.one_mul]; omega
    have hq := sq_uniq s1 s2 (b := D) (by omega) (by omega)
    rw [hq]
    have hD : D < 2 ^ 57 := sq_lt (by
      have : (4 : Nat) ^ 57 = 2 ^ 57 * 2 ^ 57 := by decide
      omega)
    by_cases h0 : R = 0
    · subst h0
      rw [if_pos (by decide), show (D * D != X) = false by rw [← he]; simp]
      rfl
    · rw [if_neg (fun h9 => h0 ((q_eq0 (by omega)).mp h9)), show (D * D != X) = true from bne_iff_ne.mpr (by omega)]
      rfl
  | succ d ih =>
    intro i n R D hi hn he hR
    obtain ⟨n', rfl⟩ : ∃ n', n = n' + 1 := ⟨n - 1, by omega⟩
    have hlt : V * 4 ^ 30 / 4 ^ (57 - i) < 2 ^ 57 * 2 ^ 57 := by
      have h1 : V * 4 ^ 30 < 2 ^ 54 * 4 ^ 30 := Nat.mul_lt_mul_of_pos_right hV2 (by decide)
      have h2 := Nat.div_le_self (V * 4 ^ 30) (4 ^ (57 - i))
      exact Nat.lt_of_le_of_lt h2 (Nat.lt_of_lt_of_le h1 (by decide))
    have hD : D < 2 ^ 57 := sq_lt (by omega)
    have hs : V * 4 ^ 30 / 4 ^ (57 - (i + 1)) = 4 * (V * 4 ^ 30 / 4 ^ (57 - i)) + V * 4 ^ 30 / 4 ^ (57 - (i + 1)) % 4 := by
      have : V * 4 ^ 30 / 4 ^ (57 - i) = V * 4 ^ 30 / 4 ^ (57 - (i + 1)) / 4 := by
        rw [show 57 - i = 57 - (i + 1) + 1 by omega, Nat.pow_succ 4 (57 - (i + 1)), Nat.div_div_eq_div_mul]
      rw [this]
      generalize V * 4 ^ 30 / 4 ^ (57 - (i + 1)) = X
      omega
    have K : ∀ p : Nat, p < 4 → p = V * 4 ^ 30 / 4 ^ (57 - (i + 1)) % 4 → f_Exact_root_92 (f_Exact_root_54 n') (lN p) (j_lshl (lN R) (2 : Int32)) (wI how) E od (lN V) (lN D) (nI i) = f_Exact_root_163 (bI (sq 57 (V * 4 ^ 30) * sq 57 (V * 4 ^ 30) != V * 4 ^ 30)) (lN (sq 57 (V * 4 ^ 30))) (0 : Int32) (wI how) (((E - od) / (2 : Int32)) - (30 : Int32)) := by
      intro p hp4 hp
      unfold f_Exact_root_92
      rw [← hp] at hs
      rw [show j_lshl (lN R) (2 : Int32) = lN (R * 2 ^ 2) from q_shl (j := 2) (by decide), show j_lshl (lN D) (2 : Int32) = lN (D * 2 ^ 2) from q_shl (j := 2) (by decide), show j_lshl (lN D) (1 : Int32) = lN (D * 2 ^ 1) from q_shl (j := 1) (by decide), q_orD (k := 2) hp4 (by omega), q_or1 (by omega), jl_, jl_, jl_]
      have e1 : (D * 2 ^ 1) * (D * 2 ^ 1) = 4 * (D * D) := by rw [Nat.mul_mul_mul_comm]; omega
      have e3 : (D * 2 ^ 1 + 1) * (D * 2 ^ 1 + 1) = 4 * (D * D) + 4 * D + 1 := by
        rw [Nat.add_mul, Nat.mul_add, e1]; omega
      by_cases hl : R * 2 ^ 2 + p < D * 2 ^ 2 / 2 * 2 + 1
      · rw [if_pos ((pk_lLT (by omega) (by omega)).mpr hl)]
        unfold f_Exact_root_130
        rw [jl_, show (1 : Int32) = nI 1 from rfl, nI_add]
        exact ih (i + 1) n' _ _ (by omega) (by omega) (by rw [hs, e1, ← he]; omega) (by omega)
      · rw [if_neg (fun h9 => hl ((pk_lLT (by omega) (by omega)).mp h9)), jl_, jl_, lN_sub (by omega), q_or1 (by omega), show D * 2 ^ 1 / 2 * 2 + 1 = D * 2 ^ 1 + 1 by omega]
        unfold f_Exact_root_130
        rw [jl_, show (1 : Int32) = nI 1 from rfl, nI_add]
        exact ih (i + 1) n' _ _ (by omega) (by omega) (by rw [hs, e3, ← he]; omega) (by omega)
    rw [f_Exact_root_54, if_neg (show ¬ (57 : Int32) ≤ nI i from lt_c (n := 57) (by omega) (by decide)), jl_]
    have et : (2 : Int32) * ((26 : Int32) - nI i) = zI (2 * (26 - (i : Int))) := by
      rw [z_nI, show (26 : Int32) = zI 26 by decide, z_sub, show (2 : Int32) = zI 2 by decide, z_mul]
    rw [et]
    by_cases hi26 : i ≤ 26
    · rw [if_neg (fun h9 => by have := (z_lt0 (by omega) (by omega)).mp h9; omega), show zI (2 * (26 - (i : Int))) = nI (2 * (26 - i)) by rw [z_nI]; exact congrArg zI (by omega), q_ushr (by omega) (by omega), q_and (Nat.lt_of_le_of_lt (Nat.div_le_self _ _) (by omega)) 2 (by decide)]
      have ep : V / 2 ^ (2 * (26 - i)) = V * 4 ^ 30 / 4 ^ (57 - (i + 1)) := by
        rw [show 57 - (i + 1) = (26 - i) + 30 by omega, Nat.pow_add, Nat.mul_div_mul_right _ _ (by decide), Nat.pow_mul]
      exact K _ (Nat.mod_lt _ (by decide)) (by rw [ep])
    · rw [if_pos ((z_lt0 (by omega) (by omega)).mpr (by omega))]
      refine K 0 (by decide) ?_
      rw [show V * 4 ^ 30 = V * (4 ^ (30 - (57 - (i + 1))) * 4 ^ (57 - (i + 1))) by rw [← Nat.pow_add, show 30 - (57 - (i + 1)) + (57 - (i + 1)) = 30 by omega], ← Nat.mul_assoc, Nat.mul_div_cancel _ (Nat.pow_pos (by decide)), show 30 - (57 - (i + 1)) = (30 - (57 - (i + 1)) - 1) + 1 by omega, Nat.pow_succ, ← Nat.mul_assoc, Nat.mul_mod_left]
theorem d_clr {d t : Nat} (hd : d < 65536) (ht : t < 16) (h : d / 2 ^ t % 2 = 0) : nI (d + 2 ^ t) &&& (nI (2 ^ t) ^^^ (-1 : Int32)) = nI d := by
  have ht2 : (2 : Nat) ^ t ≤ 32768 := Nat.pow_le_pow_right (n := 2) (by decide) (show t ≤ 15 by omega)
  rw [← d_or hd ht h]
  apply Int32.toBitVec_inj.1
  show ((nI d).toBitVec ||| (nI (2 ^ t)).toBitVec) &&& ((nI (2 ^ t)).toBitVec ^^^ (-1 : Int32).toBitVec) = (nI d).toBitVec
  rw [show (-1 : Int32).toBitVec = BitVec.allOnes 32 by decide]
  apply BitVec.eq_of_getLsbD_eq
  intro i hi
  rw [BitVec.getLsbD_and, BitVec.getLsbD_or, BitVec.getLsbD_xor, BitVec.getLsbD_allOnes, ← BitVec.testBit_toNat, ← BitVec.testBit_toNat, pk_tn (by omega), pk_tn (by omega), Nat.testBit_two_pow]
  by_cases e : t = i
  · subst e
    rw [Nat.testBit_eq_decide_div_mod_eq, h]
    simp [hi]
  · simp [e, hi]
theorem clr_ok {z k : Nat} {g : Nat → Int32} {N : Nat → Nat} (hz : z < 5) (hk : k < 2560) (hB : Big g N) {M : Nat} (hM : N z = M + 2 ^ k) (h : M / 2 ^ k % 2 = 0) : Big (upd g (160 * z + k / 16) (g (160 * z + k / 16) &&& (nI (2 ^ (k % 16)) ^^^ (-1 : Int32)))) (uN N z M) := by
  intro y hy
  by_cases e : y = z
  · subst e
    rw [uN_s]
    have hlt := (hB y hy).1
    refine ⟨Nat.lt_of_le_of_lt (by rw [hM]; exact Nat.le_add_right _ _) hlt, fun j hj => ?_⟩
    have h2 := (hB y hy).2 j hj
    rw [hM, dg_set h] at h2
    by_cases ej : j = k / 16
    · subst ej
      rw [if_pos rfl] at h2
      rw [pk_us, h2, d_clr (dg_lt _ _) (Nat.mod_lt _ (by decide)) (by rw [dg_bit]; exact h)]
    · rw [if_neg ej] at h2
      rw [pk_un (by omega)]
      exact h2
  · rw [uN_n e]
    refine ⟨(hB y hy).1, fun j hj => ?_⟩
    rw [pk_un (by omega)]
    exact (hB y hy).2 j hj
theorem rroot_loop {how V : Nat} {E T : Int32} {s : Int} (hh : how < 3) (hs : (E - T) / (2 : Int32) = zI s) (hs1 : -3000 ≤ s) (hs2 : s ≤ 3000) (hV : V < 4 ^ 85) (ov : Bool) : ∀ (m n q : Nat) (g : Nat → Int32) (N : Nat → Nat), m ≤ 85 → m < n → Big g N → N 2 = q * 2 ^ m → N 1 = V → (q * 2 ^ m) * (q * 2 ^ m) ≤ V → V < ((q + 1) * 2 ^ m) * ((q + 1) * 2 ^ m) → ∃ g' N' ov', f_Ref_root_63 n (nI how) E T (zI ((m : Int) - 1)) g (bI ov) = some (lZ (RND false (sq 85 V) (sq 85 V * sq 85 V != V) s how), g', bI ov') ∧ Big g' N' := by
  intro m
  have h85 : (4 : Nat) ^ 85 = 2 ^ 85 * 2 ^ 85 := by decide
  induction m with
  | zero =>
    intro n q g N hm hn hB h2 h1 hq1 hq2
    obtain ⟨n', rfl⟩ : ∃ n', n = n' + 1 := ⟨n - 1, by omega⟩
    rw [Nat.pow_zero, Nat.mul_one] at h2 hq1
    rw [Nat.pow_zero, Nat.mul_one] at hq2
    obtain ⟨s1, s2⟩ := sq_ok 85 V hV
    have eq := sq_uniq s1 s2 hq1 hq2
    rw [eq]
    have hqb : bl q ≤ 85 := bl_of_lt (sq_lt (by omega))
    obtain ⟨g1, e1, b1⟩ := times_ok (z := 3) (x := 2) (y := 2) (by decide) (by decide) (by decide) (by decide) (by decide) hB (by rw [h2]; omega)
    rw [h2] at b1
    have c1 := compare_ok (x := 3) (y := 1) (by decide) (by decide) b1
    rw [uN_s, uN_n (by decide), h1] at c1
    obtain ⟨g2, e2, b2⟩ := copy_ok (z := 0) (x := 2) (by decide) (by decide) b1
    rw [uN_n (j := 2) (z := 3) (by decide), h2] at b2
    have R : ∀ o : Bool, o = (q * q != V) → f_Ref_root_186 (bI o) (nI how) E T g1 (bI ov) = some (lZ (RND false q (q * q != V) s how), g2, bI o) := fun o ho => by
      unfold f_Ref_root_186
      have r := rref_ok (neg := false) (o := o) hh hs1 hs2 b2
      rw [uN_s] at r
      rw [if_pos (by cases o; exact Or.inl rfl; exact Or.inr rfl), show f_Ref_copy (0 : Int32) (2 : Int32) g1 = some g2 from e2, Option.bind_some, hs, show (0 : Int32) = bI false from rfl, r, Option.bind_some, ho]
    rw [f_Ref_root_63, if_pos ((z_lt0 (by decide) (by decide)).mpr (by decide)), show f_Ref_times (3 : Int32) (2 : Int32) (2 : Int32) g = some g1 from e1, Option.bind_some, show f_Ref_compare (3 : Int32) (1 : Int32) g1 = _ from c1, Option.bind_some]
    by_cases h0 : q * q = V
    · refine ⟨g2, _, false, ?_, b2⟩
      rw [if_pos (cmpI_eq.mpr h0)]
      exact R false (by rw [h0]; simp)
    · refine ⟨g2, _, true, ?_, b2⟩
      rw [if_neg (fun h9 => h0 (cmpI_eq.mp h9))]
      exact R true (bne_iff_ne.mpr h0).symm
  | succ m ih =>
    intro n q g N hm hn hB h2 h1 hq1 hq2
    obtain ⟨n', rfl⟩ : ∃ n', n = n' + 1 := ⟨n - 1, by omega⟩
    have ht2 : (2 : Nat) ^ (m % 16) ≤ 32768 := Nat.pow_le_pow_right (n := 2) (by decide) (show m % 16 ≤ 15 by omega)
    have eq2 : q * 2 ^ (m + 1) = (2 * q) * 2 ^ m := by rw [Nat.pow_succ, Nat.mul_comm 2 q, Nat.mul_assoc, Nat.mul_comm 2]
    have eq3 : (q + 1) * 2 ^ (m + 1) = (2 * q + 1 + 1) * 2 ^ m := by rw [Nat.pow_succ, show 2 * q + 1 + 1 = (q + 1) * 2 by omega, Nat.mul_assoc, Nat.mul_comm 2]
    rw [eq2] at h2 hq1
    rw [eq3] at hq2
    have hqb : (2 * q) * 2 ^ m < 2 ^ 85 := sq_lt (by omega)
    have hmb : (2 : Nat) ^ m ≤ 2 ^ 84 := Nat.pow_le_pow_right (n := 2) (by decide) (show m ≤ 84 by omega)
    have hb1 := set_ok (z := 2) (k := m) (by decide) (by omega) hB (by rw [h2, Nat.mul_div_cancel _ (p2 m)]; omega) (by
      rw [h2]
      exact big_of_bl (k := 86) (bl_of_lt (by omega)) (by decide))
    have esum : N 2 + 2 ^ m = (2 * q + 1) * 2 ^ m := by rw [h2, Nat.add_mul, Nat.one_mul]
    rw [esum] at hb1
    have hsb : (2 * q + 1) * 2 ^ m < 2 ^ 86 := by rw [Nat.add_mul, Nat.one_mul]; omega
    obtain ⟨g1, e1, b1⟩ := times_ok (z := 3) (x := 2) (y := 2) (by decide) (by decide) (by decide) (by decide) (by decide) hb1 (by rw [uN_s]; have := bl_of_lt hsb; omega)
    rw [uN_s] at b1
    have c1 := compare_ok (x := 3) (y := 1) (by decide) (by decide) b1
    rw [uN_s, uN_n (by decide), uN_n (by decide), h1] at c1
    rw [f_Ref_root_63, if_neg (fun h9 => by have := (z_lt0 (by omega) (by omega)).mp h9; omega), z_pn, show (16 : Int32) = nI 16 from rfl, show (320 : Int32) = nI 320 from rfl, pk_div (by omega) (by decide) (by decide), q_irem (by omega) (by decide) (by decide), nI_add, if_pos (ji_ (by omega) (by decide)), if_pos (ji_ (by omega) (by decide)), jl_]
    have ec : (nI (320 + m / 16)).toNatClampNeg = 320 + m / 16 := nI_clamp (by omega)
    have e9 : j_ishl (1 : Int32) (nI (m % 16)) = nI (2 ^ (m % 16)) := by
      rw [show (1 : Int32) = nI 1 from rfl, q_ishl (by omega) (by omega), Nat.one_mul]
    simp only [ec, e9]
    rw [show f_Ref_times (3 : Int32) (2 : Int32) (2 : Int32) (upd g (320 + m / 16) (g (320 + m / 16) ||| nI (2 ^ (m % 16)))) = some g1 from e1, Option.bind_some, show f_Ref_compare (3 : Int32) (1 : Int32) g1 = _ from c1, Option.bind_some]
    have e0 : nI m + -nI 1 = zI ((m : Int) - 1) := z_m1 (m : Int)
    by_cases hl : (2 * q + 1) * 2 ^ m * ((2 * q + 1) * 2 ^ m) ≤ V
    · obtain ⟨g', N', ov', e2, b2⟩ := ih n' (2 * q + 1) g1 _ (by omega) (by omega) b1 (by rw [uN_n (by decide), uN_s]) (by rw [uN_n (by decide), uN_n (by decide), h1]) hl hq2
      refine ⟨g', N', ov', ?_, b2⟩
      rw [if_pos (cmpI_le.mpr hl)]
      unfold f_Ref_root_158
      rw [jl_]
      rw [← e0] at e2
      exact e2
    · have b3 := clr_ok (z := 2) (k := m) (by decide) (by omega) b1 (M := (2 * q) * 2 ^ m) (by rw [uN_n (by decide), uN_s, Nat.add_mul, Nat.one_mul]) (by rw [Nat.mul_div_cancel _ (p2 m)]; omega)
      obtain ⟨g', N', ov', e2, b2⟩ := ih n' (2 * q) _ _ (by omega) (by omega) b3 (by rw [uN_s]) (by rw [uN_n (by decide), uN_n (by decide), uN_n (by decide), h1]) hq1 (by omega)
      refine ⟨g', N', ov', ?_, b2⟩
      rw [if_neg (fun h9 => hl (cmpI_le.mp h9))]
      rw [if_pos (ji_ (by omega) (by decide)), if_pos (ji_ (by omega) (by decide)), jl_]
      unfold f_Ref_root_158
      rw [jl_]
      rw [← e0] at e2
      exact e2
