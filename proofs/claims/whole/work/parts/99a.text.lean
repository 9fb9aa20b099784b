-- texts: t is the text in small letters, 0 behind its end at S
def Tx (t : Nat → Nat) (S : Nat) : Prop := S ≤ 60 ∧ (∀ k, S ≤ k → t k = 0) ∧ (∀ k, k < S → 32 ≤ t k) ∧ ∀ k, t k < 127
theorem Tx.hS {t : Nat → Nat} {S : Nat} (h : Tx t S) : S ≤ 60 := h.1
theorem Tx.hi {t : Nat → Nat} {S : Nat} (h : Tx t S) (k : Nat) (hk : S ≤ k) : t k = 0 := h.2.1 k hk
theorem Tx.lo {t : Nat → Nat} {S : Nat} (h : Tx t S) (k : Nat) (hk : k < S) : 32 ≤ t k := h.2.2.1 k hk
theorem Tx.up {t : Nat → Nat} {S : Nat} (h : Tx t S) (k : Nat) : t k < 127 := h.2.2.2 k
def isd (c : Nat) : Bool := decide (48 ≤ c) && decide (c ≤ 57)
def isl (c : Nat) : Bool := decide (97 ≤ c) && decide (c ≤ 122)
theorem isd_t {c : Nat} : isd c = true ↔ 48 ≤ c ∧ c ≤ 57 := by unfold isd; simp
theorem isl_t {c : Nat} : isl c = true ↔ 97 ≤ c ∧ c ≤ 122 := by unfold isl; simp
theorem isd_f {c : Nat} : isd c = false ↔ ¬ (48 ≤ c ∧ c ≤ 57) := by rw [← isd_t]; simp
theorem isl_f {c : Nat} : isl c = false ↔ ¬ (97 ≤ c ∧ c ≤ 122) := by rw [← isl_t]; simp
theorem Tx.lt {t : Nat → Nat} {S k : Nat} (h : Tx t S) (hk : t k ≠ 0) : k < S := Nat.lt_of_not_le (fun h9 => hk (h.hi k h9))
def SeenR (g6 : Nat → Int32) (S : Nat) (t : Nat → Nat) : Prop := ∀ k, k ≤ 200 → f_Ref_seen (nI k) g6 (nI S) = some (nI (t k))
def SeenC (g : Nat → Int32) (S : Nat) (t : Nat → Nat) : Prop := ∀ k, k < S → g k = nI (t k)
def adv (t : Nat → Nat) (c k : Nat) : Nat := if t k = c then k + 1 else k
theorem eat_ok {t : Nat → Nat} {S : Nat} (hT : Tx t S) {g6 : Nat → Int32} (hR : SeenR g6 S t) {k c : Nat} (hk : k ≤ 200) (hc : c < 128) : f_Ref_eat (nI c) g6 (nI S) (nI k) = some (bI (decide (t k = c)), nI (adv t c k)) := by
  have hu := hT.up k
  unfold f_Ref_eat f_Ref_eat_0 f_Ref_eat_17 f_Ref_eat_36 adv
  rw [hR k hk, Option.bind_some]
  by_cases h : t k = c
  · rw [if_pos (by rw [h]), if_neg (by decide), if_pos (by decide), if_pos h, decide_eq_true h, show (1 : Int32) = nI 1 from rfl, nI_add]
    rfl
  · rw [if_neg (fun h9 => h ((nI_eq (by omega) (by omega)).mp h9)), if_pos rfl, if_pos (by decide), if_neg h, decide_eq_false h]
    rfl
theorem rdig_ok {t : Nat → Nat} {S : Nat} (hT : Tx t S) {g6 : Nat → Int32} (hR : SeenR g6 S t) {k : Nat} (hk : k ≤ 200) : f_Ref_isDigit (nI k) g6 (nI S) = some (bI (isd (t k))) := by
  have hu := hT.up k
  unfold f_Ref_isDigit f_Ref_isDigit_0 f_Ref_isDigit_24 f_Ref_isDigit_25
  rw [hR k hk, Option.bind_some]
  by_cases h : t k < 48
  · rw [if_pos (show nI (t k) < (48 : Int32) from nI_lt (b := 48) h (by decide)), if_pos (by decide), isd_f.mpr (by omega)]
    rfl
  · rw [if_neg (show ¬ nI (t k) < (48 : Int32) from nI_nlt (b := 48) (by omega) (by omega)), Option.bind_some]
    by_cases h2 : 57 < t k
    · rw [if_pos (show (57 : Int32) < nI (t k) from nI_lt (a := 57) h2 (by omega)), if_pos (by decide), isd_f.mpr (by omega)]
      rfl
    · rw [if_neg (show ¬ (57 : Int32) < nI (t k) from nI_nlt (a := 57) (by omega) (by decide)), if_pos (by decide), isd_t.mpr (by omega)]
      rfl
theorem rlet_ok {t : Nat → Nat} {S : Nat} (hT : Tx t S) {g6 : Nat → Int32} (hR : SeenR g6 S t) {k : Nat} (hk : k ≤ 200) : f_Ref_isLetter (nI k) g6 (nI S) = some (bI (isl (t k))) := by
  have hu := hT.up k
  unfold f_Ref_isLetter f_Ref_isLetter_0 f_Ref_isLetter_24 f_Ref_isLetter_25
  rw [hR k hk, Option.bind_some]
  by_cases h : t k < 97
  · rw [if_pos (show nI (t k) < (97 : Int32) from nI_lt (b := 97) h (by decide)), if_pos (by decide), isl_f.mpr (by omega)]
    rfl
  · rw [if_neg (show ¬ nI (t k) < (97 : Int32) from nI_nlt (b := 97) (by omega) (by omega)), Option.bind_some]
    by_cases h2 : 122 < t k
    · rw [if_pos (show (122 : Int32) < nI (t k) from nI_lt (a := 122) h2 (by omega)), if_pos (by decide), isl_f.mpr (by omega)]
      rfl
    · rw [if_neg (show ¬ (122 : Int32) < nI (t k) from nI_nlt (a := 122) (by omega) (by decide)), if_pos (by decide), isl_t.mpr (by omega)]
      rfl
theorem cdig_ok {c : Nat} (hc : c < 128) : f_Rd_isDigit (nI c) = some (bI (isd c)) := by
  unfold f_Rd_isDigit f_Rd_isDigit_0 f_Rd_isDigit_16 f_Rd_isDigit_17
  by_cases h : c < 48
  · rw [if_pos (show nI c < (48 : Int32) from nI_lt (b := 48) h (by decide)), if_pos (by decide), isd_f.mpr (by omega)]
    rfl
  · rw [if_neg (show ¬ nI c < (48 : Int32) from nI_nlt (b := 48) (by omega) (by omega))]
    by_cases h2 : 57 < c
    · rw [if_pos (show (57 : Int32) < nI c from nI_lt (a := 57) h2 (by omega)), if_pos (by decide), isd_f.mpr (by omega)]
      rfl
    · rw [if_neg (show ¬ (57 : Int32) < nI c from nI_nlt (a := 57) (by omega) (by decide)), if_pos (by decide), isd_t.mpr (by omega)]
      rfl
theorem next_ok {t : Nat → Nat} {S : Nat} (hT : Tx t S) {g : Nat → Int32} (hC : SeenC g S t) {k : Nat} (hk : k ≤ 200) : f_Rd_next (nI S) (nI k) g = some (nI (t k)) := by
  have hu := hT.up k
  have hS := hT.hS
  unfold f_Rd_next f_Rd_next_0 f_Rd_next_24
  by_cases h : S ≤ k
  · rw [if_pos (nI_le h (by omega)), if_pos (by decide), hT.hi k h]
    rfl
  · rw [if_neg (lt_c (by omega) (by omega)), if_pos (ji_ (by omega) (by decide)), nI_clamp (by omega), hC k (by omega), if_pos (pk_charN (by omega)).1]
theorem take_ok {t : Nat → Nat} {S : Nat} (hT : Tx t S) {g : Nat → Int32} (hC : SeenC g S t) {k c : Nat} (hk : k ≤ 200) (hc : c < 128) : f_Rd_take (nI c) (nI S) (nI k) g = some (bI (decide (t k = c)), nI (adv t c k)) := by
  have hu := hT.up k
  unfold f_Rd_take f_Rd_take_0 adv
  rw [next_ok hT hC hk, Option.bind_some]
  by_cases h : t k = c
  · rw [if_pos (by rw [h]), if_pos h, decide_eq_true h, show (1 : Int32) = nI 1 from rfl, nI_add, jl_]
    rfl
  · rw [if_neg (fun h9 => h ((nI_eq (by omega) (by omega)).mp h9)), if_neg h, decide_eq_false h]
    rfl
def sp (t : Nat → Nat) : Nat → Nat → Nat
  | 0, k => k
  | n + 1, k => if t k = 32 then sp t n (k + 1) else k
theorem sp_le {t : Nat → Nat} {S : Nat} (hT : Tx t S) : ∀ (n k : Nat), k ≤ S → k ≤ sp t n k ∧ sp t n k ≤ S := by
  intro n
  induction n with
  | zero => intro k h; exact ⟨Nat.le_refl _, h⟩
  | succ n ih =>
    intro k h
    rw [sp]
    split
    · next h9 =>
      have := hT.lt (k := k) (by omega)
      have := ih (k + 1) (by omega)
      omega
    · exact ⟨Nat.le_refl _, h⟩
theorem sp_n {t : Nat → Nat} {S : Nat} (hT : Tx t S) : ∀ (n k : Nat), k ≤ S → S ≤ k + n → t (sp t n k) ≠ 32 := by
  intro n
  induction n with
  | zero =>
    intro k h h2
    rw [sp, hT.hi k (by omega)]
    decide
  | succ n ih =>
    intro k h h2
    rw [sp]
    split
    · next h9 =>
      have := hT.lt (k := k) (by omega)
      exact ih (k + 1) (by omega) (by omega)
    · next h9 => exact h9
theorem rsp_loop {t : Nat → Nat} {S : Nat} (hT : Tx t S) {g6 : Nat → Int32} (hR : SeenR g6 S t) : ∀ (n k m : Nat), k ≤ S → S ≤ k + n → n < m → f_Ref_spaces_0 m g6 (nI S) (nI k) = some (nI (sp t n k)) := by
  have hS := hT.hS
  intro n
  induction n with
  | zero =>
    intro k m hk hn hm
    obtain ⟨m', rfl⟩ : ∃ m', m = m' + 1 := ⟨m - 1, by omega⟩
    rw [f_Ref_spaces_0, hR k (by omega), Option.bind_some, hT.hi k (by omega), if_neg (by decide), sp]
  | succ n ih =>
    intro k m hk hn hm
    obtain ⟨m', rfl⟩ : ∃ m', m = m' + 1 := ⟨m - 1, by omega⟩
    have hu := hT.up k
    rw [f_Ref_spaces_0, hR k (by omega), Option.bind_some, sp]
    by_cases h : t k = 32
    · have := hT.lt (k := k) (by omega)
      rw [if_pos (by rw [h]; rfl), if_pos h, jl_, show (1 : Int32) = nI 1 from rfl, nI_add]
      exact ih (k + 1) m' (by omega) (by omega) (by omega)
    · rw [if_neg (show ¬ nI (t k) = (32 : Int32) from fun h9 => h ((nI_eq (b := 32) (by omega) (by decide)).mp h9)), if_neg h]
theorem rsp_ok {t : Nat → Nat} {S : Nat} (hT : Tx t S) {g6 : Nat → Int32} (hR : SeenR g6 S t) {k : Nat} (hk : k ≤ S) : f_Ref_spaces g6 (nI S) (nI k) = some (nI (sp t 60 k)) := by
  have hS := hT.hS
  exact rsp_loop hT hR 60 k 5000 hk (by omega) (by decide)
theorem csp_loop {t : Nat → Nat} {S : Nat} (hT : Tx t S) {g : Nat → Int32} (hC : SeenC g S t) : ∀ (n k m : Nat), k ≤ S → S ≤ k + n → n < m → f_Rd_takeSpaces_0 m (nI S) (nI k) g = some (nI (sp t n k)) := by
  have hS := hT.hS
  intro n
  induction n with
  | zero =>
    intro k m hk hn hm
    obtain ⟨m', rfl⟩ : ∃ m', m = m' + 1 := ⟨m - 1, by omega⟩
    rw [f_Rd_takeSpaces_0, if_pos (nI_le (by omega) (by omega)), sp]
    rfl
  | succ n ih =>
    intro k m hk hn hm
    obtain ⟨m', rfl⟩ : ∃ m', m = m' + 1 := ⟨m - 1, by omega⟩
    have hu := hT.up k
    rw [f_Rd_takeSpaces_0, sp]
    by_cases h0 : S ≤ k
    · rw [if_pos (nI_le h0 (by omega)), if_neg (by rw [hT.hi k h0]; decide)]
      rfl
    · rw [if_neg (lt_c (by omega) (by omega)), if_pos (ji_ (by omega) (by decide)), nI_clamp (by omega), hC k (by omega)]
      by_cases h : t k = 32
      · rw [if_pos (by rw [h]; rfl), if_pos h, jl_, show (1 : Int32) = nI 1 from rfl, nI_add]
        exact ih (k + 1) m' (by omega) (by omega) (by omega)
      · rw [if_neg (show ¬ nI (t k) = (32 : Int32) from fun h9 => h ((nI_eq (b := 32) (by omega) (by decide)).mp h9)), if_neg h]
        rfl
theorem csp_ok {t : Nat → Nat} {S : Nat} (hT : Tx t S) {g : Nat → Int32} (hC : SeenC g S t) {k : Nat} (hk : k ≤ S) : f_Rd_takeSpaces (nI S) (nI k) g = some (nI (sp t 60 k)) := by
  have hS := hT.hS
  exact csp_loop hT hC 60 k 5000 hk (by omega) (by decide)
theorem clos_ok {t : Nat → Nat} {S : Nat} (hT : Tx t S) {g : Nat → Int32} (hC : SeenC g S t) {k : Nat} (hk : k ≤ S) : f_Rd_takeClosing (nI S) (nI k) g = some (bI (decide (t (sp t 60 k) = 93)), nI (adv t 93 (sp t 60 k))) := by
  have hS := hT.hS
  have h1 := sp_le hT 60 k hk
  unfold f_Rd_takeClosing f_Rd_takeClosing_0
  rw [csp_ok hT hC hk, Option.bind_some, show (93 : Int32) = nI 93 from rfl, take_ok hT hC (by omega) (by decide), Option.bind_some, if_pos (by
    generalize decide (t (sp t 60 k) = 93) = b
    cases b
    · exact Or.inl rfl
    · exact Or.inr rfl)]
theorem adv_le {t : Nat → Nat} {S : Nat} (hT : Tx t S) {c k : Nat} (hc : c ≠ 0) (hk : k ≤ S) : adv t c k ≤ S ∧ k ≤ adv t c k := by
  unfold adv
  split
  · next h =>
    have := hT.lt (k := k) (by omega)
    omega
  · omega
-- words
def pm (t : Nat → Nat) : Nat → List Nat → Bool
  | _, [] => true
  | k, x :: xs => decide (t k = x) && pm t (k + 1) xs
theorem pm_t {t : Nat → Nat} {xs : List Nat} : ∀ {k : Nat}, pm t k xs = true ↔ ∀ i, i < xs.length → t (k + i) = xs.getD i 0 := by
  induction xs with
  | nil => intro k; simp [pm]
  | cons x xs ih =>
    intro k
    simp only [pm, Bool.and_eq_true, decide_eq_true_eq]
    constructor
    · rintro ⟨h1, h2⟩ i hi
      cases i with
      | zero => simpa using h1
      | succ i =>
        have := (ih.mp h2) i (by simpa using hi)
        rw [show k + (i + 1) = k + 1 + i by omega, this]
        simp
    · intro h
      refine ⟨by simpa using h 0 (by simp), ih.mpr (fun i hi => ?_)⟩
      have := h (i + 1) (by simpa using hi)
      rw [show k + 1 + i = k + (i + 1) by omega, this]
      simp

theorem cw_loop {t : Nat → Nat} {S : Nat} (hT : Tx t S) {g : Nat → Int32} (hC : SeenC g S t) {w : Nat} {xs : List Nat} (hw : w < 12) (hl : lenJ.getD w 0 = xs.length) (hx : ∀ i, i < xs.length → chJ w i = nI (xs.getD i 0)) (hx2 : ∀ i, i < xs.length → xs.getD i 0 < 128) {k : Nat} (hk : k + xs.length ≤ S) : ∀ (d i m : Nat), i + d = xs.length → d < m → (∀ j, j < i → t (k + j) = xs.getD j 0) → f_Rd_takeWord_20 m w (nI i) (nI S) (nI k) g = some (bI (pm t k xs), nI (if pm t k xs = true then k + xs.length else k)) := by
  have hS := hT.hS
  intro d
  induction d with
  | zero =>
    intro i m hi hm hp
    obtain ⟨m', rfl⟩ : ∃ m', m = m' + 1 := ⟨m - 1, by omega⟩
    have : pm t k xs = true := pm_t.mpr (fun j hj => hp j (by omega))
    rw [f_Rd_takeWord_20, if_pos hw, hl, if_pos (nI_le (by omega) (by omega)), if_pos hw, this, if_pos rfl, nI_add, jl_]
    rfl
  | succ d ih =>
    intro i m hi hm hp
    obtain ⟨m', rfl⟩ : ∃ m', m = m' + 1 := ⟨m - 1, by omega⟩
    have hu := hT.up (k + i)
    rw [f_Rd_takeWord_20, if_pos hw, hl, if_neg (lt_c (by omega) (by omega)), nI_add, if_pos (ji_ (by omega) (by decide)), if_pos ⟨hw, ji_ (by omega) (by omega)⟩, nI_clamp (by omega), nI_clamp (by omega), hC (k + i) (by omega), hx i (by omega)]
    by_cases h : t (k + i) = xs.getD i 0
    · rw [if_pos (by rw [h]), jl_, show (1 : Int32) = nI 1 from rfl, nI_add]
      exact ih (i + 1) m' (by omega) (by omega) (fun j hj => by
        by_cases e : j = i
        · subst e; exact h
        · exact hp j (by omega))
    · rw [if_neg (fun h9 => h ((nI_eq (by omega) (by have := hx2 i (by omega); omega)).mp h9))]
      have : pm t k xs = false := by
        cases hpm : pm t k xs
        · rfl
        · exact absurd (pm_t.mp hpm i (by omega)) h
      rw [this, if_neg (by decide)]
      rfl
theorem cw_ok {t : Nat → Nat} {S : Nat} (hT : Tx t S) {g : Nat → Int32} (hC : SeenC g S t) {w : Nat} {xs : List Nat} (hw : w < 12) (hl : lenJ.getD w 0 = xs.length) (hx : ∀ i, i < xs.length → chJ w i = nI (xs.getD i 0)) (hx2 : ∀ i, i < xs.length → 0 < xs.getD i 0 ∧ xs.getD i 0 < 128) (hx0 : 0 < xs.length) (hx3 : xs.length < 100) {k : Nat} (hk : k ≤ S) : f_Rd_takeWord w (nI S) (nI k) g = some (bI (pm t k xs), nI (if pm t k xs = true then k + xs.length else k)) := by
  have hS := hT.hS
  unfold f_Rd_takeWord f_Rd_takeWord_0
  rw [if_pos hw, hl, nI_add]
  by_cases h : k + xs.length ≤ S
  · rw [if_pos (nI_le h (by omega))]
    exact cw_loop hT hC hw hl hx (fun i hi => (hx2 i hi).2) h xs.length 0 5000 (by omega) (by omega) (fun j hj => absurd hj (Nat.not_lt_zero _))
  · rw [if_neg (lt_c (by omega) (by omega))]
    have : pm t k xs = false := by
      cases hpm : pm t k xs
      · rfl
      · have h1 := pm_t.mp hpm (xs.length - 1) (by omega)
        have h2 := (hx2 (xs.length - 1) (by omega)).1
        rw [hT.hi _ (by omega)] at h1
        omega
    rw [this, if_neg (by decide)]
    rfl
def wv (t : Nat → Nat) (k : Nat) : Nat → Nat
  | 0 => 0
  | n + 1 => 32 * wv t k n + (t (k + n) - 96)
def WVC (t : Nat → Nat) (k n : Nat) : Int64 := if n ≤ 12 then lN (wv t k n) else -1
theorem wv_lt {t : Nat → Nat} {k n : Nat} (h : ∀ i, i < n → isl (t (k + i)) = true) : wv t k n < 32 ^ n := by
  induction n with
  | zero => simp [wv]
  | succ n ih =>
    rw [wv, Nat.pow_succ]
    have h1 := ih (fun i hi => h i (by omega))
    have h2 := isl_t.mp (h n (by omega))
    omega
theorem word_loop {t : Nat → Nat} {S : Nat} (hT : Tx t S) {g6 : Nat → Int32} (hR : SeenR g6 S t) {k n : Nat} (hkn : k + n ≤ S) (hl : ∀ i, i < n → isl (t (k + i)) = true) (he : isl (t (k + n)) = false) : ∀ (d j m : Nat), j + d = n → d < m → f_Ref_word_4 m (WVC t k j) (nI j) g6 (nI S) (nI (k + j)) = some (WVC t k n, nI (k + n)) := by
  have hS := hT.hS
  intro d
  induction d with
  | zero =>
    intro j m hj hm
    obtain ⟨m', rfl⟩ : ∃ m', m = m' + 1 := ⟨m - 1, by omega⟩
    have : j = n := by omega
    subst this
    rw [f_Ref_word_4, rlet_ok hT hR (by omega), Option.bind_some, he, if_pos (by decide)]
    unfold f_Ref_word_78 WVC
    by_cases h : j ≤ 12
    · rw [if_pos (show nI j ≤ (12 : Int32) from nI_le (b := 12) h (by decide)), if_pos h]
    · rw [if_neg (show ¬ nI j ≤ (12 : Int32) from nI_ge (a := 12) (by omega) (by omega)), if_neg h]
  | succ d ih =>
    intro j m hj hm
    obtain ⟨m', rfl⟩ : ∃ m', m = m' + 1 := ⟨m - 1, by omega⟩
    have h1 := hl j (by omega)
    have h2 := isl_t.mp h1
    have IH := ih (j + 1) m' (by omega) (by omega)
    rw [f_Ref_word_4, rlet_ok hT hR (by omega), Option.bind_some, h1, if_neg (by decide)]
    unfold f_Ref_word_48
    by_cases h : 12 ≤ j
    · rw [if_pos (show (12 : Int32) ≤ nI j from nI_le (a := 12) h (by omega)), jl_, jl_, show (1 : Int32) = nI 1 from rfl, nI_add, nI_add]
      have : WVC t k (j + 1) = -1 := by unfold WVC; rw [if_neg (by omega)]
      rw [this] at IH
      exact IH
    · rw [if_neg (show ¬ (12 : Int32) ≤ nI j from lt_c (n := 12) (by omega) (by decide)), hR (k + j) (by omega), Option.bind_some, jl_, jl_, show (1 : Int32) = nI 1 from rfl, nI_add, nI_add]
      have e1 : WVC t k j = lN (wv t k j) := by unfold WVC; rw [if_pos (by omega)]
      have e2 : WVC t k (j + 1) = lN (32 * wv t k j + (t (k + j) - 96)) := by unfold WVC; rw [if_pos (by omega), wv]
      have e3 : (((((32 : Int64) * WVC t k j) + ((nI (t (k + j))).toInt64)) - (97 : Int64)) + (1 : Int64)) = WVC t k (j + 1) := by
        rw [e1, e2, nI_l (by omega), show (32 : Int64) = lN 32 from rfl, lN_mul, lN_add, show (97 : Int64) = lN 97 from rfl, lN_sub (by omega), show (1 : Int64) = lN 1 from rfl, lN_add]
        congr 1
        omega
      rw [e3]
      exact IH
theorem word_ex {t : Nat → Nat} {S : Nat} (hT : Tx t S) {k : Nat} (hk : k ≤ S) : ∃ n, k + n ≤ S ∧ (∀ i, i < n → isl (t (k + i)) = true) ∧ isl (t (k + n)) = false := by
  have h0 : ∃ n, isl (t (k + n)) = false := ⟨S - k, by rw [hT.hi _ (by omega)]; decide⟩
  obtain ⟨n, h1, h2⟩ := pk_least (fun n => isl (t (k + n)) = false) h0
  refine ⟨n, ?_, fun i hi => ?_, h1⟩
  · apply Nat.le_of_not_lt
    intro h9
    exact h2 (S - k) (by omega) (by rw [hT.hi _ (by omega)]; decide)
  · cases h : isl (t (k + i))
    · exact absurd h (h2 i hi)
    · rfl
theorem word_ok {t : Nat → Nat} {S : Nat} (hT : Tx t S) {g6 : Nat → Int32} (hR : SeenR g6 S t) {k n : Nat} (hkn : k + n ≤ S) (hl : ∀ i, i < n → isl (t (k + i)) = true) (he : isl (t (k + n)) = false) : f_Ref_word g6 (nI S) (nI k) = some (WVC t k n, nI (k + n)) := by
  have hS := hT.hS
  exact word_loop hT hR hkn hl he n 0 5000 (by omega) (by omega)
theorem wv_inj {t s : Nat → Nat} {k : Nat} : ∀ (n m : Nat), (∀ i, i < n → isl (t (k + i)) = true) → (∀ i, i < m → isl (s i) = true) → wv t k n = wv (fun j => s j) 0 m → n = m ∧ ∀ i, i < n → t (k + i) = s i := by
  intro n
  induction n with
  | zero =>
    intro m h1 h2 h
    cases m with
    | zero => exact ⟨rfl, fun i hi => absurd hi (Nat.not_lt_zero _)⟩
    | succ m =>
      rw [wv, wv] at h
      have := isl_t.mp (h2 m (by omega))
      simp only [Nat.zero_add] at h
      omega
  | succ n ih =>
    intro m h1 h2 h
    cases m with
    | zero =>
      rw [wv, wv] at h
      have := isl_t.mp (h1 n (by omega))
      omega
    | succ m =>
      rw [wv, wv] at h
      have a := isl_t.mp (h1 n (by omega))
      have b := isl_t.mp (h2 m (by omega))
      simp only [Nat.zero_add] at h
      have hnm : t (k + n) = s m := by omega
      obtain ⟨e1, e2⟩ := ih m (fun i hi => h1 i (by omega)) (fun i hi => h2 i (by omega)) (by omega)
      refine ⟨by omega, fun i hi => ?_⟩
      by_cases e : i = n
      · subst e
        rw [hnm, e1]
      · exact e2 i (by omega)
/-- the word at k is just xs -/
def ew (t : Nat → Nat) (k : Nat) (xs : List Nat) : Bool := pm t k xs && !isl (t (k + xs.length))
theorem wvc_eq {t : Nat → Nat} {S : Nat} {k n : Nat} (hkn : k + n ≤ S) (hl : ∀ i, i < n → isl (t (k + i)) = true) (he : isl (t (k + n)) = false) {xs : List Nat} (hx : ∀ i, i < xs.length → isl (xs.getD i 0) = true) (hx2 : xs.length ≤ 12) {C : Nat} (hC : wv (fun j => xs.getD j 0) 0 xs.length = C) : WVC t k n = lN C ↔ (ew t k xs = true ∧ n = xs.length) := by
  have hCl : C < 2 ^ 60 := by
    rw [← hC]
    have := wv_lt (t := fun j => xs.getD j 0) (k := 0) (n := xs.length) (fun i hi => by simp only [Nat.zero_add]; exact hx i hi)
    exact Nat.lt_of_lt_of_le this (Nat.le_trans (Nat.pow_le_pow_right (by decide) hx2) (by decide))
  unfold ew
  rw [Bool.and_eq_true, pm_t]
  constructor
  · intro h
    unfold WVC at h
    by_cases h12 : n ≤ 12
    · rw [if_pos h12] at h
      have hlt := wv_lt hl
      have hlt2 : wv t k n < 2 ^ 60 := Nat.lt_of_lt_of_le hlt (Nat.le_trans (Nat.pow_le_pow_right (by decide) h12) (by decide))
      have h2 := (pk_lEQ (by omega) (by omega)).mp h
      rw [← hC] at h2
      obtain ⟨e1, e2⟩ := wv_inj (t := t) (s := fun j => xs.getD j 0) n xs.length hl hx h2
      refine ⟨⟨fun i hi => e2 i (by omega), ?_⟩, e1⟩
      rw [← e1, he]
      rfl
    · rw [if_neg h12] at h
      have h3 := congrArg Int64.toInt h
      rw [pk_lT (by omega)] at h3
      have : (-1 : Int64).toInt = -1 := by decide
      rw [this] at h3
      omega
  · rintro ⟨⟨h1, h2⟩, h3⟩
    unfold WVC
    rw [if_pos (by omega), ← hC, h3]
    congr 1
    have : ∀ m, m ≤ xs.length → wv t k m = wv (fun j => xs.getD j 0) 0 m := by
      intro m
      induction m with
      | zero => intro _; rfl
      | succ m ih =>
        intro hm
        rw [wv, wv, ih (by omega), h1 m (by omega), Nat.zero_add]
    exact this _ (Nat.le_refl _)
theorem ew_n {t : Nat → Nat} {k n : Nat} (hl : ∀ i, i < n → isl (t (k + i)) = true) (he : isl (t (k + n)) = false) {xs : List Nat} (hx : ∀ i, i < xs.length → isl (xs.getD i 0) = true) (h : ew t k xs = true) : n = xs.length := by
  unfold ew at h
  rw [Bool.and_eq_true, pm_t] at h
  apply Nat.le_antisymm
  · apply Nat.le_of_not_lt
    intro h9
    have := hl xs.length h9
    rw [this] at h
    exact absurd h.2 (by decide)
  · apply Nat.le_of_not_lt
    intro h9
    have h1 := h.1 n h9
    rw [h1, hx n h9] at he
    exact absurd he (by decide)
