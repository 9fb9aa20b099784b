-- numbers in texts
def digs (t : Nat → Nat) : Nat → Nat → Nat → Nat → Bool × Nat × Nat × Nat
  | 0, k, D, c => (true, k, D, c)
  | n + 1, k, D, c => if isd (t k) = true then (if D = 0 ∧ t k = 48 then digs t n (k + 1) D c else if 18 ≤ c then (false, k, D, c) else digs t n (k + 1) (D * 10 + (t k - 48)) (c + 1)) else (true, k, D, c)
def IVd (D c : Nat) : Prop := c ≤ 18 ∧ D < 10 ^ c ∧ (D = 0 → c = 0)
theorem IVd.lt {D c : Nat} (h : IVd D c) : D < 1000000000000000000 := Nat.lt_of_lt_of_le h.2.1 (Nat.le_trans (Nat.pow_le_pow_right (by decide) h.1) (by decide))
theorem IVd.step {D c d : Nat} (h : IVd D c) (hc : ¬ 18 ≤ c) (hd : d ≤ 9) (hz : ¬ (D = 0 ∧ d = 0)) : IVd (D * 10 + d) (c + 1) := by
  obtain ⟨h1, h2, h3⟩ := h
  refine ⟨by omega, ?_, fun h9 => absurd h9 (by omega)⟩
  rw [Nat.pow_succ]
  omega
theorem digs_ok {t : Nat → Nat} {S : Nat} (hT : Tx t S) : ∀ (n k D c : Nat), k ≤ S → S ≤ k + n → IVd D c → k ≤ (digs t n k D c).2.1 ∧ (digs t n k D c).2.1 ≤ S ∧ IVd (digs t n k D c).2.2.1 (digs t n k D c).2.2.2 ∧ ((digs t n k D c).1 = true → isd (t (digs t n k D c).2.1) = false) := by
  intro n
  induction n with
  | zero =>
    intro k D c hk hn hI
    rw [digs]
    exact ⟨Nat.le_refl _, hk, hI, fun _ => by show isd (t k) = false; rw [hT.hi k (by omega)]; decide⟩
  | succ n ih =>
    intro k D c hk hn hI
    rw [digs]
    by_cases hd : isd (t k) = true
    · have hd2 := isd_t.mp hd
      have hk1 := hT.lt (k := k) (by omega)
      rw [if_pos hd]
      by_cases hz : D = 0 ∧ t k = 48
      · rw [if_pos hz]
        have := ih (k + 1) D c (by omega) (by omega) hI
        exact ⟨by omega, this.2⟩
      · rw [if_neg hz]
        by_cases hc : 18 ≤ c
        · rw [if_pos hc]
          exact ⟨Nat.le_refl _, hk, hI, fun h => by cases h⟩
        · rw [if_neg hc]
          have := ih (k + 1) (D * 10 + (t k - 48)) (c + 1) (by omega) (by omega) (hI.step hc (by omega) (by omega))
          exact ⟨by omega, this.2⟩
    · rw [if_neg hd]
      exact ⟨Nat.le_refl _, hk, hI, fun _ => by cases h : isd (t k); rfl; exact absurd h hd⟩
theorem addD {d D c : Nat} (hd : d ≤ 9) (hI : IVd D c) : f_Num_addDigit (nI d) (lN D) (nI c) = if D = 0 ∧ d = 0 then some ((1 : Int32), lN D, nI c) else if 18 ≤ c then some ((0 : Int32), lN D, nI c) else some ((1 : Int32), lN (D * 10 + d), nI (c + 1)) := by
  have hl := hI.lt
  have h1 := hI.1
  have K : f_Num_addDigit_15 (nI d) (lN D) (nI c) = if 18 ≤ c then some ((0 : Int32), lN D, nI c) else some ((1 : Int32), lN (D * 10 + d), nI (c + 1)) := by
    unfold f_Num_addDigit_15
    by_cases h : 18 ≤ c
    · rw [if_neg (show ¬ nI c < (18 : Int32) from nI_nlt (b := 18) h (by omega)), if_pos h]
    · rw [if_pos (show nI c < (18 : Int32) from nI_lt (b := 18) (by omega) (by decide)), if_neg h, show (10 : Int64) = lN 10 from rfl, lN_mul, nI_l (by omega), lN_add, jl_, jl_, show (1 : Int32) = nI 1 from rfl, nI_add]
  unfold f_Num_addDigit f_Num_addDigit_0
  by_cases h0 : D = 0
  · rw [if_pos (show lN D = (0 : Int64) by rw [h0]; rfl)]
    by_cases hd0 : d = 0
    · rw [if_pos (show nI d = 0 by rw [hd0]; rfl), if_pos ⟨h0, hd0⟩]
    · rw [if_neg (fun h9 => hd0 ((i_eq0 (by omega)).mp h9)), if_neg (fun h => hd0 h.2), K]
  · rw [if_neg (fun h9 => h0 ((q_eq0 (by omega)).mp h9)), if_neg (fun h => h0 h.1), K]
theorem cdigs_ok {t : Nat → Nat} {S : Nat} (hT : Tx t S) {g : Nat → Int32} (hC : SeenC g S t) : ∀ (n k D c m : Nat), k ≤ S → S ≤ k + n → n < m → IVd D c → f_Rd_readDigits_0 m (nI S) (nI k) g (lN D) (nI c) = some (bI (digs t n k D c).1, nI (digs t n k D c).2.1, lN (digs t n k D c).2.2.1, nI (digs t n k D c).2.2.2) := by
  have hS := hT.hS
  intro n
  induction n with
  | zero =>
    intro k D c m hk hn hm hI
    obtain ⟨m', rfl⟩ : ∃ m', m = m' + 1 := ⟨m - 1, by omega⟩
    rw [f_Rd_readDigits_0, if_pos (nI_le (by omega) (by omega)), digs]
    rfl
  | succ n ih =>
    intro k D c m hk hn hm hI
    obtain ⟨m', rfl⟩ : ∃ m', m = m' + 1 := ⟨m - 1, by omega⟩
    have hu := hT.up k
    rw [f_Rd_readDigits_0, digs]
    by_cases h0 : S ≤ k
    · rw [if_pos (nI_le h0 (by omega)), if_neg (by rw [hT.hi k h0]; decide)]
      rfl
    · rw [if_neg (lt_c (by omega) (by omega)), if_pos (ji_ (by omega) (by decide)), if_pos (ji_ (by omega) (by decide)), nI_clamp (by omega), hC k (by omega), cdig_ok (by omega), Option.bind_some]
      by_cases hd : isd (t k) = true
      · have hd2 := isd_t.mp hd
        rw [if_neg (by rw [hd]; decide), if_pos hd, show (48 : Int32) = nI 48 from rfl, pk_sub (by omega), addD (by omega) hI]
        by_cases hz : D = 0 ∧ t k = 48
        · rw [if_pos (show D = 0 ∧ t k - 48 = 0 by omega), if_pos hz, Option.bind_some, if_neg (show ¬ (1 : Int32) = 0 by decide), jl_, show (1 : Int32) = nI 1 from rfl, nI_add]
          exact ih (k + 1) D c m' (by omega) (by omega) (by omega) hI
        · rw [if_neg (show ¬ (D = 0 ∧ t k - 48 = 0) by omega), if_neg hz]
          by_cases hc : 18 ≤ c
          · rw [if_pos hc, if_pos hc, Option.bind_some, if_pos (show (0 : Int32) = 0 from rfl)]
            rfl
          · rw [if_neg hc, if_neg hc, Option.bind_some, if_neg (show ¬ (1 : Int32) = 0 by decide), jl_, show (1 : Int32) = nI 1 from rfl, nI_add]
            exact ih (k + 1) _ (c + 1) m' (by omega) (by omega) (by omega) (hI.step hc (by omega) (by omega))
      · rw [if_pos (by cases h : isd (t k); rfl; exact absurd h hd), if_neg hd]
        rfl
-- exponents
def rng (p : Int) : Bool := decide (-40 ≤ p) && decide (p ≤ 40)
theorem rng_t {p : Int} : rng p = true ↔ -40 ≤ p ∧ p ≤ 40 := by unfold rng; simp
def exn (t : Nat → Nat) (k : Nat) : Nat := if isd (t k) = true then (if isd (t (k + 1)) = true then 2 else 1) else 0
def exv (t : Nat → Nat) (k : Nat) : Nat := if isd (t k) = true then (if isd (t (k + 1)) = true then 10 * (t k - 48) + (t (k + 1) - 48) else t k - 48) else 0
def sgnp (t : Nat → Nat) (k : Nat) : Nat := if t k = 45 ∨ t k = 43 then k + 1 else k
def EXPo (t : Nat → Nat) (k b : Nat) : Bool × Int × Nat := if t k = 101 then (decide (0 < exn t (sgnp t (k + 1))) && rng ((if t (k + 1) = 45 then -(exv t (sgnp t (k + 1)) : Int) else exv t (sgnp t (k + 1))) - b), (if t (k + 1) = 45 then -(exv t (sgnp t (k + 1)) : Int) else exv t (sgnp t (k + 1))) - b, sgnp t (k + 1) + exn t (sgnp t (k + 1))) else (rng (-(b : Int)), -(b : Int), k)
theorem exv_le (t : Nat → Nat) (k : Nat) : exv t k ≤ 99 := by
  unfold exv
  split
  · next h =>
    have := isd_t.mp h
    split
    · next h2 =>
      have := isd_t.mp h2
      omega
    · omega
  · omega
theorem exn_le (t : Nat → Nat) (k : Nat) : exn t k ≤ 2 := by
  unfold exn
  split
  · split <;> omega
  · omega
theorem scale_ok {p : Int} (h1 : -1000 ≤ p) (h2 : p ≤ 1000) (x : Int32) : f_Num_setScale (zI p) x = some (bI (rng p), zI p) := by
  unfold f_Num_setScale f_Num_setScale_0 f_Num_setScale_21 f_Num_setScale_22
  rw [show (-40 : Int32) = zI (-40) by decide, show (40 : Int32) = zI 40 by decide]
  by_cases h : p < -40
  · rw [if_pos ((z_lt (by omega) (by omega) (by decide) (by decide)).mpr h), if_pos (by decide)]
    have : rng p = false := by cases hr : rng p; rfl; have := rng_t.mp hr; omega
    rw [this]
    rfl
  · rw [if_neg (fun h9 => h ((z_lt (by omega) (by omega) (by decide) (by decide)).mp h9))]
    by_cases h3 : 40 < p
    · rw [if_pos ((z_lt (by decide) (by decide) (by omega) (by omega)).mpr h3), if_pos (by decide)]
      have : rng p = false := by cases hr : rng p; rfl; have := rng_t.mp hr; omega
      rw [this]
      rfl
    · rw [if_neg (fun h9 => h3 ((z_lt (by decide) (by decide) (by omega) (by omega)).mp h9)), if_pos (by decide), rng_t.mpr (by omega)]
      rfl
theorem cexp_98 {e b : Int} (h1 : -500 ≤ e) (h2 : e ≤ 500) (h3 : 0 ≤ b) (h4 : b ≤ 100) {x : Int32} {g : Nat → Int32} {s k : Int32} : f_Rd_readExponent_98 (zI e) (zI b) s k g x = some (bI (rng (e - b)), k, zI (e - b)) := by
  unfold f_Rd_readExponent_98 f_Rd_readExponent_110 f_Rd_readExponent_111
  rw [z_sub, scale_ok (by omega) (by omega), Option.bind_some]
  cases hr : rng (e - b)
  · rw [if_pos (show bI false = 0 from rfl), if_pos (by decide)]
    rfl
  · rw [if_neg (show ¬ bI true = 0 by decide), if_pos (by decide)]
    rfl
theorem cexp_76 {t : Nat → Nat} {k E b k2 : Nat} {neg : Bool} (hE : E ≤ 99) (hb : b ≤ 100) (hk : k2 ≤ k) (hk2 : k ≤ 200) {x s : Int32} {g : Nat → Int32} : (k2 < k → f_Rd_readExponent_76 (nI b) (bI neg) (nI E) (nI k2) s (nI k) g x = some (bI (rng ((if neg = true then -(E : Int) else E) - b)), nI k, zI ((if neg = true then -(E : Int) else E) - b))) ∧ (k2 = k → f_Rd_readExponent_76 (nI b) (bI neg) (nI E) (nI k2) s (nI k) g x = some (bI false, nI k, x)) := by
  unfold f_Rd_readExponent_76
  constructor
  · intro h
    rw [if_neg (lt_c h (by omega))]
    cases neg
    · rw [if_pos (show bI false = 0 from rfl), if_neg (show ¬ false = true by decide)]
      exact cexp_98 (e := (E : Int)) (b := (b : Int)) (by omega) (by omega) (by omega) (by omega)
    · rw [if_neg (show ¬ bI true = 0 by decide), if_pos (show true = true from rfl), z_nI E, z_neg]
      exact cexp_98 (e := -(E : Int)) (b := (b : Int)) (by omega) (by omega) (by omega) (by omega)
  · intro h
    rw [if_pos (nI_le (by omega) (by omega))]
    unfold f_Rd_readExponent_110 f_Rd_readExponent_111
    rw [if_pos (by decide)]
    rfl
theorem cexp_27 {t : Nat → Nat} {S : Nat} (hT : Tx t S) {g : Nat → Int32} (hC : SeenC g S t) {k2 b : Nat} (hk : k2 ≤ S) (hb : b ≤ 100) {neg : Bool} {x : Int32} (m : Nat) : ∃ y, f_Rd_readExponent_27 (m + 3) (nI b) (bI neg) (0 : Int32) (nI k2) (nI S) (nI k2) g x = some (bI (decide (0 < exn t k2) && rng ((if neg = true then -(exv t k2 : Int) else exv t k2) - b)), nI (k2 + exn t k2), y) ∧ ((decide (0 < exn t k2) && rng ((if neg = true then -(exv t k2 : Int) else exv t k2) - b)) = true → y = zI ((if neg = true then -(exv t k2 : Int) else exv t k2) - b)) := by
  have hS := hT.hS
  have u1 := hT.up k2
  have u2 := hT.up (k2 + 1)
  rw [f_Rd_readExponent_27, show (2 : Int32) = nI 2 from rfl, nI_add, if_neg (lt_c (by omega) (by omega)), next_ok hT hC (by omega), Option.bind_some, cdig_ok (by omega), Option.bind_some]
  unfold exn exv
  by_cases h1 : isd (t k2) = true
  · have d1 := isd_t.mp h1
    rw [if_neg (by rw [h1]; decide), Option.bind_some, if_pos h1, if_pos h1, jl_, jl_, show (1 : Int32) = nI 1 from rfl, nI_add, show (0 : Int32) * (10 : Int32) + (nI (t k2) - (48 : Int32)) = nI (t k2 - 48) by rw [show (48 : Int32) = nI 48 from rfl, pk_sub (by omega), show (0 : Int32) * (10 : Int32) = nI 0 by decide, nI_add, Nat.zero_add]]
    rw [f_Rd_readExponent_27, show (2 : Int32) = nI 2 from rfl, nI_add, if_neg (lt_c (by omega) (by omega)), next_ok hT hC (by omega), Option.bind_some, cdig_ok (by omega), Option.bind_some]
    by_cases h2 : isd (t (k2 + 1)) = true
    · have d2 := isd_t.mp h2
      rw [if_neg (by rw [h2]; decide), Option.bind_some, if_pos h2, if_pos h2, jl_, jl_, show (1 : Int32) = nI 1 from rfl, nI_add, show nI (t k2 - 48) * (10 : Int32) + (nI (t (k2 + 1)) - (48 : Int32)) = nI (10 * (t k2 - 48) + (t (k2 + 1) - 48)) by rw [show (48 : Int32) = nI 48 from rfl, pk_sub (by omega), show (10 : Int32) = nI 10 from rfl, pk_mul, nI_add, Nat.mul_comm]]
      rw [f_Rd_readExponent_27, show (2 : Int32) = nI 2 from rfl, nI_add, if_pos (nI_le (by omega) (by omega)), (cexp_76 (t := t) (by omega) hb (by omega) (by omega)).1 (by omega)]
      exact ⟨_, by simp, fun _ => rfl⟩
    · rw [if_pos (by cases h : isd (t (k2 + 1)); rfl; exact absurd h h2), if_neg h2, if_neg h2, (cexp_76 (t := t) (by omega) hb (by omega) (by omega)).1 (by omega)]
      exact ⟨_, by simp, fun _ => rfl⟩
  · rw [if_pos (by cases h : isd (t k2); rfl; exact absurd h h1), if_neg h1, if_neg h1, show (0 : Int32) = nI 0 from rfl, (cexp_76 (t := t) (by omega) hb (by omega) (by omega)).2 rfl]
    exact ⟨x, by simp, fun h => by simp at h⟩
theorem sgnp_le {t : Nat → Nat} {S : Nat} (hT : Tx t S) {k : Nat} (hk : k ≤ S) : k ≤ sgnp t k ∧ sgnp t k ≤ S := by
  unfold sgnp
  split
  · next h =>
    have := hT.lt (k := k) (by omega)
    omega
  · omega
theorem exn_S {t : Nat → Nat} {S : Nat} (hT : Tx t S) {k : Nat} (hk : k ≤ S) : k + exn t k ≤ S := by
  unfold exn
  split
  · next h =>
    have h1 := isd_t.mp h
    have := hT.lt (k := k) (by omega)
    split
    · next h2 =>
      have h3 := isd_t.mp h2
      have := hT.lt (k := k + 1) (by omega)
      omega
    · omega
  · omega
theorem cexp_ok {t : Nat → Nat} {S : Nat} (hT : Tx t S) {g : Nat → Int32} (hC : SeenC g S t) {k b : Nat} (hk : k ≤ S) (hb : b ≤ 100) (x : Int32) : ∃ y, f_Rd_readExponent (nI b) (nI S) (nI k) g x = some (bI (decide (0 < exn t (sgnp t k)) && rng ((if t k = 45 then -(exv t (sgnp t k) : Int) else exv t (sgnp t k)) - b)), nI (sgnp t k + exn t (sgnp t k)), y) ∧ ((decide (0 < exn t (sgnp t k)) && rng ((if t k = 45 then -(exv t (sgnp t k) : Int) else exv t (sgnp t k)) - b)) = true → y = zI ((if t k = 45 then -(exv t (sgnp t k) : Int) else exv t (sgnp t k)) - b)) := by
  have hS := hT.hS
  have hs := sgnp_le hT hk
  unfold f_Rd_readExponent f_Rd_readExponent_0 f_Rd_readExponent_18
  rw [show (45 : Int32) = nI 45 from rfl, take_ok hT hC (by omega) (by decide), Option.bind_some, jl_]
  by_cases h : t k = 45
  · have e1 : sgnp t k = k + 1 := by unfold sgnp; rw [if_pos (Or.inl h)]
    have e2 : adv t 45 k = k + 1 := by unfold adv; rw [if_pos h]
    rw [e1] at hs
    obtain ⟨y, h1, h2⟩ := cexp_27 hT hC (k2 := k + 1) (b := b) hs.2 hb (neg := true) (x := x) 4997
    simp only [if_pos h, decide_eq_true h, e1, e2]
    simp only [if_pos (show true = true from rfl)] at h1 h2
    rw [if_neg (show ¬ bI true = 0 by decide)]
    exact ⟨y, h1, h2⟩
  · have e2 : adv t 45 k = k := by unfold adv; rw [if_neg h]
    have e3 : adv t 43 k = sgnp t k := by
      unfold adv sgnp
      by_cases h4 : t k = 43
      · rw [if_pos h4, if_pos (Or.inr h4)]
      · rw [if_neg h4, if_neg (by omega)]
    obtain ⟨y, h1, h2⟩ := cexp_27 hT hC (k2 := sgnp t k) (b := b) hs.2 hb (neg := false) (x := x) 4997
    simp only [if_neg h, decide_eq_false h, e2]
    simp only [if_neg (show ¬ false = true by decide)] at h1 h2
    rw [if_pos (show bI false = 0 from rfl), show (43 : Int32) = nI 43 from rfl, take_ok hT hC (by omega) (by decide), Option.bind_some]
    simp only [e3]
    exact ⟨y, h1, h2⟩
def NUM (t : Nat → Nat) (k : Nat) : Option (Nat × Int × Nat) :=
  if (digs t 60 k 0 0).1 = false then none
  else if t (digs t 60 k 0 0).2.1 = 46 then
    (if (digs t 60 ((digs t 60 k 0 0).2.1 + 1) (digs t 60 k 0 0).2.2.1 (digs t 60 k 0 0).2.2.2).1 = false then none
    else if ((digs t 60 k 0 0).2.1 - k) + ((digs t 60 ((digs t 60 k 0 0).2.1 + 1) (digs t 60 k 0 0).2.2.1 (digs t 60 k 0 0).2.2.2).2.1 - ((digs t 60 k 0 0).2.1 + 1)) = 0 then none
    else if (EXPo t (digs t 60 ((digs t 60 k 0 0).2.1 + 1) (digs t 60 k 0 0).2.2.1 (digs t 60 k 0 0).2.2.2).2.1 ((digs t 60 ((digs t 60 k 0 0).2.1 + 1) (digs t 60 k 0 0).2.2.1 (digs t 60 k 0 0).2.2.2).2.1 - ((digs t 60 k 0 0).2.1 + 1))).1 = true then some ((digs t 60 ((digs t 60 k 0 0).2.1 + 1) (digs t 60 k 0 0).2.2.1 (digs t 60 k 0 0).2.2.2).2.2.1, (EXPo t (digs t 60 ((digs t 60 k 0 0).2.1 + 1) (digs t 60 k 0 0).2.2.1 (digs t 60 k 0 0).2.2.2).2.1 ((digs t 60 ((digs t 60 k 0 0).2.1 + 1) (digs t 60 k 0 0).2.2.1 (digs t 60 k 0 0).2.2.2).2.1 - ((digs t 60 k 0 0).2.1 + 1))).2)
    else none)
  else if (digs t 60 k 0 0).2.1 - k = 0 then none
  else if (EXPo t (digs t 60 k 0 0).2.1 0).1 = true then some ((digs t 60 k 0 0).2.2.1, (EXPo t (digs t 60 k 0 0).2.1 0).2)
  else none
theorem EXPo_S {t : Nat → Nat} {S : Nat} (hT : Tx t S) {k b : Nat} (hk : k ≤ S) : (EXPo t k b).2.2 ≤ S ∧ ((EXPo t k b).1 = true → -40 ≤ (EXPo t k b).2.1 ∧ (EXPo t k b).2.1 ≤ 40) := by
  unfold EXPo
  split
  · next h =>
    have h1 := hT.lt (k := k) (by omega)
    have h2 := sgnp_le hT (k := k + 1) (by omega)
    refine ⟨exn_S hT h2.2, fun h3 => ?_⟩
    rw [Bool.and_eq_true] at h3
    exact rng_t.mp h3.2
  · exact ⟨hk, fun h3 => rng_t.mp h3⟩
/-- behind the digits -/
theorem cnum_50 {t : Nat → Nat} {S : Nat} (hT : Tx t S) {g : Nat → Int32} (hC : SeenC g S t) {st k D c bf : Nat} (hst : st ≤ k) (hk : k ≤ S) (hbf : bf ≤ 100) {x : Int32} : (bf + (k - st) = 0 → f_Rd_readNumber_50 (nI st) (nI bf) (nI S) (nI k) g (lN D) (nI c) x = some ((0 : Int32), nI k, lN D, nI c, x)) ∧ (bf + (k - st) ≠ 0 → ∃ y, f_Rd_readNumber_50 (nI st) (nI bf) (nI S) (nI k) g (lN D) (nI c) x = some (bI (EXPo t k (k - st)).1, nI (EXPo t k (k - st)).2.2, lN D, nI c, y) ∧ ((EXPo t k (k - st)).1 = true → y = zI (EXPo t k (k - st)).2.1)) := by
  have hS := hT.hS
  unfold f_Rd_readNumber_50
  rw [pk_sub hst, jl_, nI_add]
  have K93 : ∀ (b : Bool) (k' : Int32) (y : Int32), f_Rd_readNumber_93 (bI b) (nI S) k' g (lN D) (nI c) y = some (bI b, k', lN D, nI c, y) := fun b k' y => by
    unfold f_Rd_readNumber_93
    rw [if_pos (by cases b; exact Or.inl rfl; exact Or.inr rfl)]
  constructor
  · intro h
    rw [h, if_pos (by decide)]
  · intro h
    rw [if_neg (fun h9 => h ((i_eq0 (by omega)).mp h9)), show (101 : Int32) = nI 101 from rfl, take_ok hT hC (by omega) (by decide), Option.bind_some]
    by_cases he : t k = 101
    · have e1 : adv t 101 k = k + 1 := by unfold adv; rw [if_pos he]
      have h1 := hT.lt (k := k) (by omega)
      obtain ⟨y, h2, h3⟩ := cexp_ok hT hC (k := k + 1) (b := k - st) (by omega) (by omega) x
      refine ⟨y, ?_, ?_⟩
      · simp only [decide_eq_true he, e1]
        rw [if_neg (show ¬ bI true = 0 by decide), h2, Option.bind_some]
        simp only [K93]
        unfold EXPo
        rw [if_pos he]
      · intro h4
        unfold EXPo at h4 ⊢
        rw [if_pos he] at h4 ⊢
        exact h3 h4
    · have e1 : adv t 101 k = k := by unfold adv; rw [if_neg he]
      refine ⟨zI (-((k - st : Nat) : Int)), ?_, ?_⟩
      · simp only [decide_eq_false he, e1]
        rw [if_pos (show bI false = 0 from rfl), z_nI (k - st), z_neg, scale_ok (by omega) (by omega), Option.bind_some]
        simp only [K93]
        unfold EXPo
        rw [if_neg he]
      · intro _
        unfold EXPo
        rw [if_neg he]
theorem cnum_ok {t : Nat → Nat} {S : Nat} (hT : Tx t S) {g : Nat → Int32} (hC : SeenC g S t) {k : Nat} (hk : k ≤ S) (x : Int32) : (∃ D p k' c, NUM t k = some (D, p, k') ∧ f_Rd_readNumber (nI S) (nI k) g (lN 0) (nI 0) x = some ((1 : Int32), nI k', lN D, nI c, zI p) ∧ k' ≤ S ∧ D < 1000000000000000000 ∧ -40 ≤ p ∧ p ≤ 40) ∨ (NUM t k = none ∧ ∃ k' D c y, f_Rd_readNumber (nI S) (nI k) g (lN 0) (nI 0) x = some ((0 : Int32), nI k', D, c, y) ∧ k' ≤ S) := by
  have hS := hT.hS
  have hI0 : IVd 0 0 := ⟨by decide, by decide, fun _ => rfl⟩
  have d1 := digs_ok hT 60 k 0 0 hk (by omega) hI0
  have c1 := cdigs_ok hT hC 60 k 0 0 5000 hk (by omega) (by decide) hI0
  unfold f_Rd_readNumber f_Rd_readNumber_0 NUM
  rw [show f_Rd_readDigits (nI S) (nI k) g (lN 0) (nI 0) = _ from c1, Option.bind_some]
  obtain ⟨a, ha⟩ : ∃ a, a = digs t 60 k 0 0 := ⟨_, rfl⟩
  rw [← ha] at d1 ⊢
  obtain ⟨b1, k1, D1, e1⟩ := a
  simp only at d1 ⊢
  cases b1
  · rw [if_pos (show bI false = 0 from rfl), if_pos rfl]
    exact Or.inr ⟨rfl, k1, _, _, _, rfl, d1.2.1⟩
  · rw [if_neg (show ¬ bI true = 0 by decide), if_neg (show ¬ true = false by decide), pk_sub d1.1, jl_, show (46 : Int32) = nI 46 from rfl, take_ok hT hC (by omega) (by decide), Option.bind_some]
    by_cases hp : t k1 = 46
    · have ea : adv t 46 k1 = k1 + 1 := by unfold adv; rw [if_pos hp]
      have hk1 := hT.lt (k := k1) (by omega)
      have d2 := digs_ok hT 60 (k1 + 1) D1 e1 (by omega) (by omega) d1.2.2.1
      have c2 := cdigs_ok hT hC 60 (k1 + 1) D1 e1 5000 (by omega) (by omega) (by decide) d1.2.2.1
      simp only [decide_eq_true hp, ea]
      rw [jl_, jl_, if_neg (show ¬ bI true = 0 by decide), show f_Rd_readDigits (nI S) (nI (k1 + 1)) g (lN D1) (nI e1) = _ from c2, Option.bind_some, if_pos hp]
      obtain ⟨a2, ha2⟩ : ∃ a, a = digs t 60 (k1 + 1) D1 e1 := ⟨_, rfl⟩
      rw [← ha2] at d2 ⊢
      obtain ⟨b2, k2, D2, e2⟩ := a2
      simp only at d2 ⊢
      cases b2
      · rw [if_pos (show bI false = 0 from rfl), if_pos rfl]
        exact Or.inr ⟨rfl, k2, _, _, _, rfl, d2.2.1⟩
      · rw [if_neg (show ¬ bI true = 0 by decide), if_neg (show ¬ true = false by decide)]
        have F := cnum_50 hT hC (st := k1 + 1) (k := k2) (D := D2) (c := e2) (bf := k1 - k) d2.1 d2.2.1 (by omega) (x := x)
        by_cases hz : k1 - k + (k2 - (k1 + 1)) = 0
        · rw [F.1 hz, if_pos hz]
          exact Or.inr ⟨rfl, k2, _, _, _, rfl, d2.2.1⟩
        · obtain ⟨y, f1, f2⟩ := F.2 hz
          rw [f1, if_neg hz]
          have es := EXPo_S hT (k := k2) (b := k2 - (k1 + 1)) d2.2.1
          cases he : (EXPo t k2 (k2 - (k1 + 1))).1
          · rw [if_neg (by decide)]
            exact Or.inr ⟨rfl, _, _, _, _, rfl, es.1⟩
          · rw [if_pos rfl, f2 he]
            have := es.2 he
            exact Or.inl ⟨D2, _, _, e2, rfl, rfl, es.1, d2.2.2.1.lt, this.1, this.2⟩
    · have ea : adv t 46 k1 = k1 := by unfold adv; rw [if_neg hp]
      simp only [decide_eq_false hp, ea]
      rw [jl_, jl_, if_pos (show bI false = 0 from rfl), if_neg hp]
      have F := cnum_50 hT hC (st := k1) (k := k1) (D := D1) (c := e1) (bf := k1 - k) (Nat.le_refl _) d1.2.1 (by omega) (x := x)
      rw [Nat.sub_self, Nat.add_zero] at F
      by_cases hz : k1 - k = 0
      · rw [F.1 hz, if_pos hz]
        exact Or.inr ⟨rfl, k1, _, _, _, rfl, d1.2.1⟩
      · obtain ⟨y, f1, f2⟩ := F.2 hz
        rw [f1, if_neg hz]
        have es := EXPo_S hT (k := k1) (b := 0) d1.2.1
        cases he : (EXPo t k1 0).1
        · rw [if_neg (by decide)]
          exact Or.inr ⟨rfl, _, _, _, _, rfl, es.1⟩
        · rw [if_pos rfl, f2 he]
          have := es.2 he
          exact Or.inl ⟨D1, _, _, e1, rfl, rfl, es.1, d1.2.2.1.lt, this.1, this.2⟩
