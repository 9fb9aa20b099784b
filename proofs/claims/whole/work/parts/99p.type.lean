-- type
def byt (w : Int32) (j : Nat) : Nat := if j = 0 then (w.toInt % 256).toNat else if j = 1 then (w.toInt / 256 % 256).toNat else if j = 2 then (w.toInt / 65536 % 256).toNat else (w.toInt / 16777216 % 256).toNat
theorem byt_lt (w : Int32) (j : Nat) : byt w j < 256 := by
  unfold byt
  split
  · omega
  · split
    · omega
    · split <;> omega
theorem tn_ti (w : Int32) : (w.toBitVec.toNat : Int) = w.toInt % 4294967296 := by
  have := z_tn w.toInt
  rw [← z_of w] at this
  rw [this]
  omega
theorem ush_b {w s : Int32} {k : Nat} (hs : ((s.toUInt32 &&& Int32.toUInt32 31).toBitVec % 32).toNat = k) : (j_iushr w s &&& (255 : Int32)) = nI (w.toBitVec.toNat / 2 ^ k % 256) := by
  rw [pk_and (j_iushr w s) 8 (by decide)]
  congr 1
  have h := pk_ushr w s k hs
  unfold j_iushr
  rw [h]
theorem shr_b {w s : Int32} {k : Nat} (hs : ((s &&& 31).toBitVec.smod 32).toNat = k) : (j_ishr w s &&& (255 : Int32)) = nI ((w.toInt / 2 ^ k % 256).toNat) := by
  rw [pk_and (j_ishr w s) 8 (by decide)]
  congr 1
  have h := pk_shr w (s &&& 31) k hs
  have t := tn_ti (j_ishr w s)
  have e : (j_ishr w s).toInt = w.toInt >>> k := h
  rw [e, Int.shiftRight_eq_div_pow] at t
  have t2 : ((j_ishr w s).toBitVec.toNat : Int) % 256 = w.toInt / ((2 ^ k : Nat) : Int) % 256 := by
    rw [t]
    generalize w.toInt / ((2 ^ k : Nat) : Int) = X
    omega
  have e2 : (w.toInt / 2 ^ k : Int) = w.toInt / ((2 ^ k : Nat) : Int) := by
    congr 1
  rw [e2, ← t2]
  show (j_ishr w s).toBitVec.toNat % 256 = _
  omega
theorem byte_c (w : Int32) : ∀ j, j < 4 → (j_iushr w (nI (8 * j)) &&& (255 : Int32)) = nI (byt w j) ∧ (j_ishr w (nI (8 * j)) &&& (255 : Int32)) = nI (byt w j) := by
  intro j hj
  have t := tn_ti w
  have hc : j = 0 ∨ j = 1 ∨ j = 2 ∨ j = 3 := by omega
  rcases hc with e | e | e | e <;> subst e
  · rw [ush_b (k := 0) (by decide), shr_b (k := 0) (by decide)]
    constructor
    · congr 1
      show w.toBitVec.toNat / 1 % 256 = (w.toInt % 256).toNat
      omega
    · congr 1
      show (w.toInt / 1 % 256).toNat = (w.toInt % 256).toNat
      omega
  · rw [ush_b (k := 8) (by decide), shr_b (k := 8) (by decide)]
    constructor
    · congr 1
      show w.toBitVec.toNat / 256 % 256 = (w.toInt / 256 % 256).toNat
      omega
    · rfl
  · rw [ush_b (k := 16) (by decide), shr_b (k := 16) (by decide)]
    constructor
    · congr 1
      show w.toBitVec.toNat / 65536 % 256 = (w.toInt / 65536 % 256).toNat
      omega
    · rfl
  · rw [ush_b (k := 24) (by decide), shr_b (k := 24) (by decide)]
    constructor
    · congr 1
      show w.toBitVec.toNat / 16777216 % 256 = (w.toInt / 16777216 % 256).toNat
      omega
    · rfl
def nzc (B : Nat → Nat) : Nat → Nat
  | 0 => 0
  | j + 1 => nzc B j + (if B j = 0 then 0 else 1)
def Txt (S : Nat) (a b : Nat → Int32) : Prop := S ≤ 60 ∧ ∃ T : Nat → Nat, ∀ k, k < S → a k = nI (T k) ∧ b k = nI (T k) ∧ 32 ≤ T k ∧ T k ≤ 126
def TyR (F : Option (Int32 × Int32 × (Nat → Int32))) (G : Option (Int32 × Int32 × (Nat → Int32) × Int32)) : Prop := ∃ b S' a' b', F = some (b, nI S', a') ∧ G = some (b, (0 : Int32), b', nI S') ∧ Txt S' a' b'
theorem Txt.add {S : Nat} {a b : Nat → Int32} (h : Txt S a b) {c : Nat} (hS : S < 60) (h1 : 32 ≤ c) (h2 : c ≤ 126) : Txt (S + 1) (upd a S (nI c)) (upd b S (nI c)) := by
  obtain ⟨_, T, hT⟩ := h
  refine ⟨by omega, fun k => if k = S then c else T k, fun k hk => ?_⟩
  by_cases e : k = S
  · subst e
    rw [pk_us, pk_us]
    simp only [if_true]
    exact ⟨trivial, trivial, h1, h2⟩
  · rw [pk_un e, pk_un e]
    simp only [if_neg e]
    exact hT k (by omega)
theorem v3s (j : Nat) : zI (8 * ((j + 1 : Nat) : Int) - 8) = nI (8 * j) := by rw [z_nI]; exact congrArg zI (by omega)
theorem v3m (j : Nat) : nI (8 * j) + (-8 : Int32) = zI (8 * (j : Int) - 8) := by
  rw [z_nI, show (-8 : Int32) = zI (-8) by decide, z_add]
  exact congrArg zI (by omega)
theorem tyB {w : Int32} : ∀ (j n n' S : Nat) (a b : Nat → Int32), j ≤ 4 → j < n → j < n' → S + nzc (byt w) j ≤ 60 → (∀ i, i < j → byt w i = 0 ∨ (32 ≤ byt w i ∧ byt w i ≤ 126)) → Txt S a b → TyR (f_Tape_type_74 n w (zI (8 * (j : Int) - 8)) (nI S) a) (f_Ref_type_79 n' w (zI (8 * (j : Int) - 8)) (0 : Int32) b (nI S)) := by
  intro j
  induction j with
  | zero =>
    intro n n' S a b hj hn hn' hs hv hT
    obtain ⟨m, rfl⟩ : ∃ m, n = m + 1 := ⟨n - 1, by omega⟩
    obtain ⟨m', rfl⟩ : ∃ m', n' = m' + 1 := ⟨n' - 1, by omega⟩
    rw [f_Tape_type_74, if_pos ((z_lt0 (by decide) (by decide)).mpr (by decide)), f_Ref_type_79, if_pos ((z_lt0 (by decide) (by decide)).mpr (by decide))]
    exact ⟨_, S, a, b, rfl, rfl, hT⟩
  | succ j ih =>
    intro n n' S a b hj hn hn' hs hv hT
    obtain ⟨m, rfl⟩ : ∃ m, n = m + 1 := ⟨n - 1, by omega⟩
    obtain ⟨m', rfl⟩ : ∃ m', n' = m' + 1 := ⟨n' - 1, by omega⟩
    obtain ⟨b1, b2⟩ := byte_c w j (by omega)
    have hbl := byt_lt w j
    rw [nzc] at hs
    rw [f_Tape_type_74, if_neg (fun h9 => by have := (z_lt0 (by omega) (by omega)).mp h9; omega), f_Ref_type_79, if_neg (fun h9 => by have := (z_lt0 (by omega) (by omega)).mp h9; omega), v3s, b1, b2, jl_, jl_]
    unfold f_Tape_type_114 f_Ref_type_118
    rw [jl_, jl_, jl_, jl_, v3m]
    by_cases h0 : byt w j = 0
    · rw [h0, if_pos (show nI 0 = 0 from rfl), if_pos (show nI 0 = 0 from rfl)]
      exact ih m m' S a b (by omega) (by omega) (by omega) (by omega) (fun i hi => hv i (by omega)) hT
    · have hv2 := hv j (by omega)
      rw [if_neg h0] at hs
      have e1 : vp_nar .char (j_i2c (nI (byt w j))) = nI (byt w j) := by
        unfold j_i2c
        rw [pk_char, pk_tn (by omega), show byt w j % 65536 = byt w j by omega, nar_c (by omega)]
      rw [if_neg (fun h9 => h0 ((i_eq0 (by omega)).mp h9)), if_neg (fun h9 => h0 ((i_eq0 (by omega)).mp h9)), if_pos (ji_ (by omega) (by decide)), if_pos (ji_ (by omega) (by decide)), nI_clamp (by omega), e1, show (1 : Int32) = nI 1 from rfl, nI_add]
      exact ih m m' (S + 1) _ _ (by omega) (by omega) (by omega) (by omega) (fun i hi => hv i (by omega)) (hT.add (by omega) (by omega) (by omega))
theorem tyA {w : Int32} {S : Nat} {a b : Nat → Int32} (hT : Txt S a b) : ∀ (j n n' more : Nat), j ≤ 4 → j < n → j < n' → more + nzc (byt w) j = nzc (byt w) 4 → more ≤ 4 → (∀ i, j ≤ i → i < 4 → byt w i = 0 ∨ (32 ≤ byt w i ∧ byt w i ≤ 126)) → TyR (f_Tape_type_5 n w (nI more) (zI (8 * (j : Int) - 8)) (nI S) a) (f_Ref_type_10 n' w (nI more) (zI (8 * (j : Int) - 8)) (0 : Int32) b (nI S)) := by
  have hS := hT.1
  intro j
  induction j with
  | zero =>
    intro n n' more hj hn hn' hm hm4 hv
    obtain ⟨m, rfl⟩ : ∃ m, n = m + 1 := ⟨n - 1, by omega⟩
    obtain ⟨m', rfl⟩ : ∃ m', n' = m' + 1 := ⟨n' - 1, by omega⟩
    have e0 : nzc (byt w) 0 = 0 := rfl
    rw [f_Tape_type_5, if_pos ((z_lt0 (by decide) (by decide)).mpr (by decide)), f_Ref_type_10, if_pos ((z_lt0 (by decide) (by decide)).mpr (by decide)), nI_add]
    by_cases hle : S + more ≤ 60
    · rw [if_pos (show nI (S + more) ≤ (60 : Int32) from nI_le (b := 60) hle (by decide)), if_pos (show nI (S + more) ≤ (60 : Int32) from nI_le (b := 60) hle (by decide)), show (24 : Int32) = zI (8 * ((4 : Nat) : Int) - 8) by decide]
      exact tyB 4 5000 5000 S a b (by decide) (by decide) (by decide) (by omega) (fun i hi => hv i (Nat.zero_le _) hi) hT
    · rw [if_neg (show ¬ nI (S + more) ≤ (60 : Int32) from nI_ge (a := 60) (by omega) (by omega)), if_neg (show ¬ nI (S + more) ≤ (60 : Int32) from nI_ge (a := 60) (by omega) (by omega))]
      exact ⟨_, S, a, b, rfl, rfl, hT⟩
  | succ j ih =>
    intro n n' more hj hn hn' hm hm4 hv
    obtain ⟨m, rfl⟩ : ∃ m, n = m + 1 := ⟨n - 1, by omega⟩
    obtain ⟨m', rfl⟩ : ∃ m', n' = m' + 1 := ⟨n' - 1, by omega⟩
    obtain ⟨b1, b2⟩ := byte_c w j (by omega)
    have hbl := byt_lt w j
    rw [nzc] at hm
    have hmx : ∀ k, nzc (byt w) k ≤ k := fun k => by
      induction k with
      | zero => exact Nat.le_refl _
      | succ k ihk =>
        rw [nzc]
        split <;> omega
    have h4 := hmx 4
    rw [f_Tape_type_5, if_neg (fun h9 => by have := (z_lt0 (by omega) (by omega)).mp h9; omega), f_Ref_type_10, if_neg (fun h9 => by have := (z_lt0 (by omega) (by omega)).mp h9; omega), v3s, b1, b2, jl_, jl_]
    unfold f_Tape_type_39 f_Tape_type_50 f_Tape_type_37 f_Ref_type_44 f_Ref_type_56 f_Ref_type_42
    simp only [jl_, v3m]
    by_cases h0 : byt w j = 0
    · rw [if_pos h0, Nat.add_zero] at hm
      rw [h0]
      simp only [if_pos (show nI 0 = 0 from rfl)]
      rw [show nI more + (0 : Int32) = nI more from nI_add more 0]
      exact ih m m' more (by omega) (by omega) (by omega) hm hm4 (fun i h1 h2 => by
        by_cases e : i = j
        · subst e; exact Or.inl h0
        · exact hv i (by omega) h2)
    · rw [if_neg h0] at hm
      have n0 : ¬ nI (byt w j) = 0 := fun h9 => h0 ((i_eq0 (by omega)).mp h9)
      simp only [if_neg n0]
      by_cases h32 : byt w j < 32
      · rw [if_pos (show nI (byt w j) < (32 : Int32) from nI_lt (b := 32) h32 (by decide)), if_pos (show nI (byt w j) < (32 : Int32) from nI_lt (b := 32) h32 (by decide))]
        exact ⟨_, S, a, b, rfl, rfl, hT⟩
      · rw [if_neg (show ¬ nI (byt w j) < (32 : Int32) from nI_nlt (b := 32) (by omega) (by omega)), if_neg (show ¬ nI (byt w j) < (32 : Int32) from nI_nlt (b := 32) (by omega) (by omega))]
        by_cases h126 : byt w j ≤ 126
        · rw [if_pos (show nI (byt w j) ≤ (126 : Int32) from nI_le (b := 126) h126 (by decide)), if_pos (show nI (byt w j) ≤ (126 : Int32) from nI_le (b := 126) h126 (by decide)), show nI more + (1 : Int32) = nI (more + 1) from nI_add more 1]
          exact ih m m' (more + 1) (by omega) (by omega) (by omega) (by omega) (by omega) (fun i h1 h2 => by
            by_cases e : i = j
            · subst e; exact Or.inr ⟨by omega, h126⟩
            · exact hv i (by omega) h2)
        · rw [if_neg (show ¬ nI (byt w j) ≤ (126 : Int32) from nI_ge (a := 126) (by omega) (by omega)), if_neg (show ¬ nI (byt w j) ≤ (126 : Int32) from nI_ge (a := 126) (by omega) (by omega))]
          exact ⟨_, S, a, b, rfl, rfl, hT⟩
theorem type_ok {w g5 : Int32} {S : Nat} {a b : Nat → Int32} (hT : Txt S a b) : TyR (f_Tape_type w (nI S) a) (f_Ref_type w g5 b (nI S)) := by
  have := tyA (w := w) hT 4 5000 5000 0 (by decide) (by decide) (by decide) (by omega) (by decide) (fun i h1 h2 => absurd h2 (by omega))
  exact this
