-- decimals, the class: rows of 28 bytes
def bd (N k : Nat) : Nat := N / 256 ^ k % 256
theorem C_p (k : Nat) : 0 < 256 ^ k := Nat.pow_pos (by decide)
theorem bd_lt (N k : Nat) : bd N k < 256 := Nat.mod_lt _ (by decide)
def Row (g : Nat → Int32) (N : Nat) : Prop := ∀ k, k < 28 → g k = nI (bd N k)
theorem i_and8 (n : Nat) : nI n &&& (255 : Int32) = nI (n % 256) := by
  rw [pk_and (nI n) 8 (by decide)]
  congr 1
  show n % 2 ^ 32 % 2 ^ 8 = n % 256
  omega
theorem i_eq0 {n : Nat} (h : n < 2 ^ 31) : nI n = 0 ↔ n = 0 := nI_eq (b := 0) h (by decide)
theorem five_up (N P : Nat) (hP : 0 < P) : N % (P * 256) * 5 / P = N % P * 5 / P + 5 * (N / P % 256) := by
  rw [Nat.mod_mul, Nat.add_mul, Nat.mul_right_comm, Nat.mul_assoc P, Nat.add_mul_div_left _ _ hP, Nat.mul_comm 5]
theorem five_dig (N P : Nat) (hP : 0 < P) : N * 5 / P % 256 = N % (P * 256) * 5 / P % 256 := by
  have h := Nat.mod_add_div N (P * 256)
  have e : N * 5 / P = N % (P * 256) * 5 / P + 256 * (N / (P * 256) * 5) := by
    conv => lhs; rw [← h]
    rw [Nat.add_mul, Nat.mul_assoc P, Nat.mul_assoc P, Nat.add_mul_div_left _ _ hP, Nat.mul_assoc 256]
  rw [e, Nat.add_mul_mod_self_left]
theorem five_loop {N : Nat} : ∀ (d k n : Nat) (g : Nat → Int32), k + d = 28 → d < n → (∀ j, j < k → g j = nI (bd (N * 5) j)) → (∀ j, k ≤ j → j < 28 → g j = nI (bd N j)) → ∃ g', f_Num_timesFive_4 n (nI (N % 256 ^ k * 5 / 256 ^ k)) (nI k) g = some g' ∧ Row g' (N * 5) := by
  intro d
  induction d with
  | zero =>
    intro k n g hk hn h1 h2
    obtain ⟨m, rfl⟩ : ∃ m, n = m + 1 := ⟨n - 1, by omega⟩
    have hk' : k = 28 := by omega
    subst hk'
    refine ⟨g, ?_, h1⟩
    rw [f_Num_timesFive_4, if_pos (by decide)]
  | succ d ih =>
    intro k n g hk hn h1 h2
    obtain ⟨m, rfl⟩ : ∃ m, n = m + 1 := ⟨n - 1, by omega⟩
    have u := five_up N (256 ^ k) (C_p k)
    have v := five_dig N (256 ^ k) (C_p k)
    have w : N % (256 ^ k * 256) * 5 / 256 ^ k / 256 = N % 256 ^ (k + 1) * 5 / 256 ^ (k + 1) := by rw [Nat.div_div_eq_div_mul, Nat.pow_succ]
    have hc : N % 256 ^ k * 5 / 256 ^ k < 5 := Nat.div_lt_of_lt_mul (by have := Nat.mod_lt N (C_p k); omega)
    have hb := bd_lt N k
    have hb' : bd N k = N / 256 ^ k % 256 := rfl
    rw [← hb'] at u
    obtain ⟨g', e1, e2⟩ := ih (k + 1) m (upd g k (nI ((N % 256 ^ k * 5 / 256 ^ k + 5 * bd N k) % 256))) (by omega) (by omega) (by
      intro j hj
      by_cases e : j = k
      · subst e
        rw [pk_us]
        congr 1
        show _ = N * 5 / 256 ^ j % 256
        rw [v, u]
      · rw [pk_un e]
        exact h1 j (by omega)) (by
      intro j hj hj2
      rw [pk_un (by omega)]
      exact h2 j (by omega) hj2)
    refine ⟨g', ?_, e2⟩
    rw [f_Num_timesFive_4, if_neg (show ¬ (28 : Int32) ≤ nI k from lt_c (n := 28) (by omega) (by decide)), if_pos (ji_ (by omega) (by decide)), jl_, if_pos (ji_ (by omega) (by decide)), nI_clamp (by omega), h2 k (Nat.le_refl _) (by omega), show (5 : Int32) = nI 5 from rfl, pk_mul, nI_add, i_and8, jl_, jl_, jl_, show j_iushr (nI (N % 256 ^ k * 5 / 256 ^ k + bd N k * 5)) (8 : Int32) = nI ((N % 256 ^ k * 5 / 256 ^ k + bd N k * 5) / 2 ^ 8) from pk_ushrN (by omega) 8 8 (by decide), Nat.mul_comm (bd N k), show (1 : Int32) = nI 1 from rfl, nI_add]
    rw [← w, u] at e1
    exact e1
theorem five_ok {N : Nat} {g : Nat → Int32} (h : Row g N) : ∃ g', f_Num_timesFive g = some g' ∧ Row g' (N * 5) := by
  obtain ⟨g', e, r⟩ := five_loop (N := N) 28 0 5000 g rfl (by decide) (fun j h9 => absurd h9 (Nat.not_lt_zero _)) (fun j _ h9 => h j h9)
  rw [Nat.pow_zero, Nat.mod_one, Nat.zero_mul, Nat.zero_div] at e
  exact ⟨g', e, r⟩
theorem by_loop {N : Nat} : ∀ (m n : Nat) (g : Nat → Int32), m ≤ 28 → m < n → (∀ j, j < m → g j = nI (bd N j)) → (∀ j, m ≤ j → j < 28 → g j = nI (bd (N / 5) j)) → ∃ g', f_Num_byFive_5 n (nI (N / 256 ^ m % 5)) (zI ((m : Int) - 1)) g = some (bI (N % 5 == 0), g') ∧ Row g' (N / 5) := by
  intro m
  induction m with
  | zero =>
    intro n g hm hn h1 h2
    obtain ⟨n', rfl⟩ : ∃ n', n = n' + 1 := ⟨n - 1, by omega⟩
    refine ⟨g, ?_, fun j hj => h2 j (Nat.zero_le _) hj⟩
    rw [f_Num_byFive_5, if_pos ((z_lt0 (by decide) (by decide)).mpr (by decide)), Nat.pow_zero, Nat.div_one]
    by_cases h0 : N % 5 = 0
    · rw [h0, if_pos (by decide)]
      rfl
    · rw [if_neg (fun h9 => h0 ((i_eq0 (by omega)).mp h9)), show (N % 5 == 0) = false from beq_eq_false_iff_ne.mpr h0]
      rfl
  | succ m ih =>
    intro n g hm hn h1 h2
    obtain ⟨n', rfl⟩ : ∃ n', n = n' + 1 := ⟨n - 1, by omega⟩
    obtain ⟨X, hX⟩ : ∃ X, X = N / 256 ^ m := ⟨_, rfl⟩
    have e1 : N / 256 ^ (m + 1) = X / 256 := by rw [hX, Nat.div_div_eq_div_mul, Nat.pow_succ]
    have e2 : bd N m = X % 256 := by rw [hX]; rfl
    have e3 : bd (N / 5) m = X / 5 % 256 := by
      rw [hX]
      unfold bd
      rw [Nat.div_div_eq_div_mul, Nat.div_div_eq_div_mul, Nat.mul_comm]
    obtain ⟨g', e4, e5⟩ := ih n' (upd g m (nI (X / 5 % 256))) (by omega) (by omega) (by
      intro j hj
      rw [pk_un (by omega)]
      exact h1 j (by omega)) (by
      intro j hj hj2
      by_cases e : j = m
      · subst e
        rw [pk_us, e3]
      · rw [pk_un e]
        exact h2 j (by omega) hj2)
    refine ⟨g', ?_, e5⟩
    rw [f_Num_byFive_5, if_neg (fun h9 => by have := (z_lt0 (by omega) (by omega)).mp h9; omega), z_pn, if_pos (ji_ (by omega) (by decide)), jl_, if_pos (ji_ (by omega) (by decide)), nI_clamp (by omega), h1 m (by omega), e1, e2, show (8 : Int32) = nI 8 from rfl, q_ishl (by decide) (by omega), i_or (k := 8) (by omega) (by omega), show (5 : Int32) = nI 5 from rfl, pk_div (by omega) (by decide) (by decide), q_irem (by omega) (by decide) (by decide), jl_, jl_, jl_, show nI m + (-1 : Int32) = zI ((m : Int) - 1) from z_m1 (m : Int)]
    rw [show (X / 256 % 5 * 2 ^ 8 + X % 256) / 5 = X / 5 % 256 by omega, show (X / 256 % 5 * 2 ^ 8 + X % 256) % 5 = X % 5 by omega, hX]
    rw [hX] at e4
    exact e4
theorem by_ok {N : Nat} {g : Nat → Int32} (hN : N < 256 ^ 28) (h : Row g N) : ∃ g', f_Num_byFive g = some (bI (N % 5 == 0), g') ∧ Row g' (N / 5) := by
  obtain ⟨g', e, r⟩ := by_loop (N := N) 28 5000 g (by decide) (by decide) (fun j h9 => h j h9) (fun j h9 h8 => absurd h8 (by omega))
  rw [Nat.div_eq_of_lt hN, Nat.zero_mod] at e
  exact ⟨g', e, r⟩
theorem gath_loop {how N : Nat} {neg ine : Bool} {E : Int} (hh : how < 3) (hE1 : -1000 ≤ E) (hE2 : E ≤ 1000) {g : Nat → Int32} (hR : Row g N) : ∀ (i n j : Nat), i ≤ 28 → i < n → i ≤ j → j ≤ 28 → N / 256 ^ j < 2 ^ 61 → (j = i ∨ 2 ^ 53 ≤ N / 256 ^ j) → ∃ j' : Nat, (j' = 0 ∨ 2 ^ 53 ≤ N / 256 ^ j') ∧ j' ≤ 28 ∧ f_Num_gathered_13 n (wI how) (lN (N / 256 ^ j)) (zI (E + 8 * ((j - i : Nat) : Int))) (bI (ine || N % 256 ^ j / 256 ^ i != 0)) (zI ((i : Int) - 1)) (bI neg) g = some (lZ (RND neg (stk (N / 256 ^ j') (ine || N % 256 ^ j' != 0)) false (E + 8 * j') how)) := by
  intro i
  induction i with
  | zero =>
    intro n j hi hn hij hj hs hor
    obtain ⟨n', rfl⟩ : ∃ n', n = n' + 1 := ⟨n - 1, by omega⟩
    refine ⟨j, hor, hj, ?_⟩
    rw [f_Num_gathered_13, if_pos ((z_lt0 (by decide) (by decide)).mpr (by decide)), traced_ok _ (Nat.lt_trans hs (by decide)), Option.bind_some, rcls_ok hh (stk_63 _ (Nat.lt_trans hs (by decide))) (by omega) (by omega), Option.bind_some, Nat.pow_zero, Nat.div_one, Nat.sub_zero]
  | succ i ih =>
    intro n j hi hn hij hj hs hor
    obtain ⟨n', rfl⟩ : ∃ n', n = n' + 1 := ⟨n - 1, by omega⟩
    rw [f_Num_gathered_13, if_neg (fun h9 => by have := (z_lt0 (by omega) (by omega)).mp h9; omega), z_pn]
    have em : nI i + (-1 : Int32) = zI ((i : Int) - 1) := z_m1 (i : Int)
    by_cases h53 : 2 ^ 53 ≤ N / 256 ^ j
    · rw [if_pos (show (9007199254740992 : Int64) ≤ lN (N / 256 ^ j) from (pk_lLE (a := 9007199254740992) (by decide) (by omega)).mpr h53), if_pos (ji_ (by omega) (by decide)), nI_clamp (by omega), hR i (by omega)]
      obtain ⟨j', o1, o2, o3⟩ := ih n' j (by omega) (by omega) (by omega) hj hs (Or.inr h53)
      refine ⟨j', o1, o2, ?_⟩
      have eb : bd N i = N % 256 ^ j / 256 ^ i % 256 := by
        have h1 : 256 ^ j = 256 ^ i * 256 ^ (j - i) := by rw [← Nat.pow_add]; congr 1; omega
        rw [h1, Nat.mod_mul_right_div_self]
        obtain ⟨e, he⟩ : ∃ e, j - i = e + 1 := ⟨j - i - 1, by omega⟩
        rw [he, Nat.pow_succ, Nat.mul_comm, Nat.mod_mul_right_mod]
        rfl
      have ed : N % 256 ^ j / 256 ^ (i + 1) = N % 256 ^ j / 256 ^ i / 256 := by rw [Nat.div_div_eq_div_mul, Nat.pow_succ]
      have eu : zI (E + 8 * ((j - (i + 1) : Nat) : Int)) + (8 : Int32) = zI (E + 8 * ((j - i : Nat) : Int)) := by
        rw [show (8 : Int32) = zI 8 by decide, z_add]
        exact congrArg zI (by omega)
      have K : ∀ b : Bool, b = (bd N i != 0) → f_Num_gathered_63 (f_Num_gathered_13 n') (bI b) (bI (ine || N % 256 ^ j / 256 ^ (i + 1) != 0)) (wI how) (lN (N / 256 ^ j)) (zI (E + 8 * ((j - (i + 1) : Nat) : Int))) (nI i) (bI neg) g = some (lZ (RND neg (stk (N / 256 ^ j') (ine || N % 256 ^ j' != 0)) false (E + 8 * j') how)) := by
        intro b hb
        unfold f_Num_gathered_63 f_Num_gathered_69
        rw [jl_, jl_, jl_, eu, em]
        have eo : bI (ine || N % 256 ^ j / 256 ^ (i + 1) != 0) ||| bI b = bI (ine || N % 256 ^ j / 256 ^ i != 0) := by
          rw [show (ine || N % 256 ^ j / 256 ^ i != 0) = ((ine || N % 256 ^ j / 256 ^ (i + 1) != 0) || b) by
            rw [hb, Bool.or_assoc, eb, ed]
            congr 1
            generalize N % 256 ^ j / 256 ^ i = Y
            by_cases h0 : Y = 0
            · subst h0; rfl
            · rw [show (Y != 0) = true from bne_iff_ne.mpr h0]
              by_cases h1 : Y / 256 = 0
              · rw [show (Y % 256 != 0) = true from bne_iff_ne.mpr (by omega), Bool.or_true]
              · rw [show (Y / 256 != 0) = true from bne_iff_ne.mpr h1, Bool.true_or]]
          generalize (ine || N % 256 ^ j / 256 ^ (i + 1) != 0) = b1
          cases b1 <;> cases b <;> decide
        rw [eo]
        exact o3
      by_cases h0 : bd N i = 0
      · rw [h0, if_pos (by decide)]
        exact K false (by rw [h0]; rfl)
      · have := bd_lt N i
        rw [if_neg (fun h9 => h0 ((i_eq0 (by omega)).mp h9))]
        exact K true (bne_iff_ne.mpr h0).symm
    · have hji : j = i + 1 := by omega
      subst hji
      rw [if_neg (show ¬ (9007199254740992 : Int64) ≤ lN (N / 256 ^ (i + 1)) from fun h9 => h53 ((pk_lLE (a := 9007199254740992) (by decide) (by omega)).mp h9)), if_pos (ji_ (by omega) (by decide)), nI_clamp (by omega), hR i (by omega), nI_l (by have := bd_lt N i; omega), jl_]
      have es : N / 256 ^ i = N / 256 ^ (i + 1) * 2 ^ 8 + bd N i := by
        unfold bd
        rw [Nat.pow_succ, ← Nat.div_div_eq_div_mul]
        generalize N / 256 ^ i = Y
        omega
      have hbl := bd_lt N i
      rw [show (8 : Int32) = nI 8 from rfl, q_shl (by decide), q_orD (k := 8) (by omega) (by omega), ← es]
      obtain ⟨j', o1, o2, o3⟩ := ih n' i (by omega) (by omega) (Nat.le_refl _) (by omega) (by omega) (Or.inl rfl)
      refine ⟨j', o1, o2, ?_⟩
      unfold f_Num_gathered_69
      rw [jl_, em]
      rw [Nat.sub_self, Nat.div_eq_of_lt (Nat.mod_lt _ (C_p _))] at o3 ⊢
      exact o3
