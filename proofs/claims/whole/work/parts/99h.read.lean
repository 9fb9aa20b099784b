-- literals, the class
theorem between_ok {l h : Int} {m : Nat} (hl : l.natAbs ≤ INF) (hh : h.natAbs ≤ INF) (hlh : l ≤ h) (hl2 : l < INF) (hh2 : -(INF : Int) < h) (hm : m ≤ 4) : f_Cell_between (lZ l) (lZ h) (nI m) = some (if m = 4 ∧ BM l h ≠ 4 then ((0 : Int64), (0 : Int64), (0 : Int32)) else (lZ l, lZ h, nI m)) := by
  have hI : INF = 9218868437227405312 := rfl
  unfold f_Cell_between f_Cell_between_0
  rw [if_neg (fun h9 => by have := (l_lt (by omega) (by omega) (by omega) (by omega)).mp h9; omega), show (-9218868437227405312 : Int64) = lZ (-(INF : Int)) by decide, show (9218868437227405312 : Int64) = lZ (INF : Int) by decide, if_neg (fun h9 => by have := (l_le (by omega) (by omega) (by omega) (by omega)).mp h9; omega), if_neg (fun h9 => by have := (l_le (by omega) (by omega) (by omega) (by omega)).mp h9; omega)]
  unfold f_Cell_between_40 f_Cell_between_66 f_Cell_between_61 f_Cell_between_69
  rw [if_neg (by decide)]
  by_cases h4 : m = 4
  · rw [if_pos (show nI m = (4 : Int32) by rw [h4]; rfl), bnd_ok hl hh hlh, Option.bind_some]
    by_cases hb : l.natAbs < INF ∧ h.natAbs < INF
    · rw [decide_eq_true hb, if_neg (show ¬ bI true = 0 by decide), if_neg (fun h9 => h9.2 (by unfold BM; rw [if_pos hb]))]
    · rw [decide_eq_false hb, if_pos (show bI false = 0 from rfl), if_pos ⟨h4, by unfold BM; rw [if_neg hb]; decide⟩]
      rfl
  · rw [if_neg (show ¬ nI m = (4 : Int32) from fun h9 => h4 ((nI_eq (b := 4) (by omega) (by decide)).mp h9)), if_neg (fun h9 => h4 h9.1)]
theorem nop_ok {l h : Int} {m : Int32} (hl : l.natAbs ≤ INF) (hh : h.natAbs ≤ INF) : f_Cell_hasNoPoint (lZ l) (lZ h) m = some (bI (decide (h < l))) := by
  have hI : INF = 9218868437227405312 := rfl
  unfold f_Cell_hasNoPoint f_Cell_hasNoPoint_0 f_Cell_hasNoPoint_17
  by_cases h1 : l ≤ h
  · rw [if_pos ((l_le (by omega) (by omega) (by omega) (by omega)).mpr h1), if_pos (by decide), decide_eq_false (by omega)]
    rfl
  · rw [if_neg (fun h9 => h1 ((l_le (by omega) (by omega) (by omega) (by omega)).mp h9)), if_pos (by decide), decide_eq_true (by omega)]
    rfl
def fin (tag : Nat) (l h : Int) (d : Nat) : Option (Option (Int × Int × Nat)) := if tag = 1 then (if d ≤ 1 then some none else none) else if d = 4 ∧ BM l h ≠ 4 then none else some (some (l, h, if d = 0 then BM l h else d))
def Bare (tag : Nat) (l h : Int) (x y : Int64) (m : Int32) : Prop := (tag = 1 ∧ x = (9218868437227405312 : Int64) ∧ y = (-9218868437227405312 : Int64) ∧ m = (1 : Int32)) ∨ (tag = 2 ∧ x = lZ l ∧ y = lZ h ∧ m = nI (BM l h) ∧ l.natAbs ≤ INF ∧ h.natAbs ≤ INF ∧ l ≤ h ∧ l < INF ∧ -(INF : Int) < h)
theorem BM_b (l h : Int) : BM l h = 3 ∨ BM l h = 4 := by unfold BM; split <;> simp
theorem marked_ok {tag : Nat} {l h : Int} {x y : Int64} {m : Int32} (hb : Bare tag l h x y m) {d : Nat} (hd0 : d ≠ 0) (hd : d ≤ 4) : f_Rd_marked x y m (nI d) = some (cc (fin tag l h d)) := by
  have hI : INF = 9218868437227405312 := rfl
  unfold f_Rd_marked f_Rd_marked_0 f_Rd_marked_27 fin
  rw [if_neg (fun h9 => hd0 ((i_eq0 (by omega)).mp h9))]
  rcases hb with ⟨h1, h2, h3, h4⟩ | ⟨h1, h2, h3, h4, h5, h6, h7, h8, h9⟩
  · rw [h1, h2, h3, h4, if_pos (show (1 : Nat) = 1 from rfl), show (-9218868437227405312 : Int64) = lZ (-(INF : Int)) by decide, show (9218868437227405312 : Int64) = lZ (INF : Int) by decide, nop_ok (by omega) (by omega), Option.bind_some, decide_eq_true (by omega), if_neg (show ¬ bI true = 0 by decide)]
    by_cases e : d = 1
    · rw [if_pos (show nI d = (1 : Int32) by rw [e]; rfl), if_pos (by omega)]
      rfl
    · rw [if_neg (show ¬ nI d = (1 : Int32) from fun h9 => e ((nI_eq (b := 1) (by omega) (by decide)).mp h9)), if_neg (by omega)]
      rfl
  · rw [h1, h2, h3, h4, if_neg (show ¬ (2 : Nat) = 1 by decide), nop_ok h5 h6, Option.bind_some, decide_eq_false (by omega), if_pos (show bI false = 0 from rfl), between_ok h5 h6 h7 h8 h9 hd, Option.bind_some]
    by_cases e : d = 4 ∧ BM l h ≠ 4
    · rw [if_pos e, if_pos e]
      rfl
    · rw [if_neg e, if_neg e, if_neg hd0]
      rfl
theorem c62_ok {t : Nat → Nat} {S : Nat} (hT : Tx t S) {g : Nat → Int32} (hC : SeenC g S t) {k : Nat} (hk : k ≤ S) {tag : Nat} {l h : Int} {x y : Int64} {m : Int32} (hb : Bare tag l h x y m) {g2 : Nat → Int32} {g7 : Int32} {g8 : Int64} {g9 g10 : Int32} {g11 : Nat → Int32} {g12 : Int32} {g13 : Int64} {g14 g15 : Int32} {g16 : Nat → Int32} : ∃ r, f_Rd_read_62 x y m g2 (nI S) (nI k) g g7 g8 g9 g10 g11 g12 g13 g14 g15 g16 = some ((cc (match MK t S k with | none => none | some d => fin tag l h d)).1, (cc (match MK t S k with | none => none | some d => fin tag l h d)).2.1, (cc (match MK t S k with | none => none | some d => fin tag l h d)).2.2, r) := by
  have hS := hT.hS
  have hm0 : m ≠ 0 := by
    rcases hb with ⟨_, _, _, h4⟩ | ⟨_, _, _, h4, _⟩
    · rw [h4]; decide
    · rw [h4]
      rcases BM_b l h with e | e <;> rw [e] <;> decide
  unfold f_Rd_read_62 f_Rd_read_83
  rw [if_neg hm0]
  by_cases hkS : k = S
  · have e : MK t S k = some 0 := by unfold MK; rw [if_pos hkS]
    rw [if_pos (show nI k = nI S by rw [hkS]), e]
    simp only
    have e2 : cc (fin tag l h 0) = (x, y, m) := by
      unfold fin
      rcases hb with ⟨h1, h2, h3, h4⟩ | ⟨h1, h2, h3, h4, _⟩
      · rw [h1, if_pos rfl, if_pos (by decide), h2, h3, h4]
        rfl
      · rw [h1, if_neg (by decide), if_neg (fun h9 => absurd h9.1 (by decide)), if_pos rfl, h2, h3, h4]
        rfl
    rw [e2]
    exact ⟨_, rfl⟩
  · rw [if_neg (fun h9 => hkS ((nI_eq (by omega) (by omega)).mp h9)), show (95 : Int32) = nI 95 from rfl, take_ok hT hC (by omega) (by decide), Option.bind_some]
    unfold f_Rd_read_103 f_Rd_read_129
    by_cases h95 : t k = 95
    · have ea : adv t 95 k = k + 1 := by unfold adv; rw [if_pos h95]
      have hlt := hT.lt (k := k) (by omega)
      rw [decide_eq_true h95]
      simp only [ea]
      rw [if_neg (show ¬ bI true = 0 by decide), cmark_ok hT hC (by omega), Option.bind_some]
      have hml := mkn_le t (k + 1)
      by_cases hm : mkn t (k + 1) = 0
      · rw [MK_z hkS (Or.inr (Or.inr hm))]
        simp only [hm, if_true]
        by_cases he : k + 1 = S
        · rw [if_pos (show nI (k + 1) = nI S by rw [he])]
          refine ⟨_, rfl⟩
        · rw [if_neg (fun h9 => he ((nI_eq (by omega) (by omega)).mp h9))]
          exact ⟨_, rfl⟩
      · simp only [if_neg hm]
        by_cases he : k + 4 = S
        · rw [MK_n hkS h95 he hm, if_pos (show nI (k + 1 + 3) = nI S by rw [← he]), marked_ok hb hm hml, Option.bind_some]
          exact ⟨_, rfl⟩
        · rw [MK_z hkS (Or.inr (Or.inl he)), if_neg (fun h9 => he ((nI_eq (by omega) (by omega)).mp h9))]
          exact ⟨_, rfl⟩
    · have ea : adv t 95 k = k := by unfold adv; rw [if_neg h95]
      rw [decide_eq_false h95]
      simp only [ea]
      rw [if_pos (show bI false = 0 from rfl), if_neg (fun h9 => hkS ((nI_eq (by omega) (by omega)).mp h9)), MK_z hkS (Or.inl h95)]
      exact ⟨_, rfl⟩
/-- small letters -/
def low (c : Nat) : Nat := if 65 ≤ c ∧ c ≤ 90 then c + 32 else c
def tx (T : Nat → Nat) (S : Nat) : Nat → Nat := fun k => if k < S then low (T k) else 0
theorem tx_T {T : Nat → Nat} {S : Nat} (hS : S ≤ 60) (hT : ∀ k, k < S → 32 ≤ T k ∧ T k ≤ 126) : Tx (tx T S) S := by
  refine ⟨hS, fun k hk => ?_, fun k hk => ?_, fun k => ?_⟩
  · unfold tx; rw [if_neg (by omega)]
  · have := hT k hk
    unfold tx low
    rw [if_pos hk]
    split <;> omega
  · unfold tx
    split
    · next hk =>
      have := hT k hk
      unfold low
      split <;> omega
    · decide
theorem nar_c {n : Nat} (h : n < 65536) : vp_nar .char (nI n) = nI n := by
  unfold vp_nar
  rw [(pk_charN h).1]
theorem beg_loop {T : Nat → Nat} {S : Nat} (hS : S ≤ 60) (hT : ∀ k, k < S → 32 ≤ T k ∧ T k ≤ 126) {g2 : Nat → Int32} (hg : ∀ k, k < S → g2 k = nI (T k)) : ∀ (d k n : Nat) (g : Nat → Int32), k + d = S → d < n → (∀ j, j < k → g j = nI (tx T S j)) → ∃ g', f_Rd_begin_25 n (nI k) g2 (nI S) (0 : Int32) g = some (nI S, (0 : Int32), g') ∧ SeenC g' S (tx T S) := by
  intro d
  induction d with
  | zero =>
    intro k n g hk hn h1
    obtain ⟨m, rfl⟩ : ∃ m, n = m + 1 := ⟨n - 1, by omega⟩
    rw [f_Rd_begin_25, if_pos (nI_le (by omega) (by omega))]
    exact ⟨g, rfl, fun j hj => h1 j (by omega)⟩
  | succ d ih =>
    intro k n g hk hn h1
    obtain ⟨m, rfl⟩ : ∃ m, n = m + 1 := ⟨n - 1, by omega⟩
    have hTk := hT k (by omega)
    have elow : tx T S k = low (T k) := by unfold tx; rw [if_pos (by omega)]
    obtain ⟨g', e1, e2⟩ := ih (k + 1) m (upd g k (nI (low (T k)))) (by omega) (by omega) (by
      intro j hj
      by_cases e : j = k
      · subst e
        rw [pk_us, elow]
      · rw [pk_un e]
        exact h1 j (by omega))
    refine ⟨g', ?_, e2⟩
    have K : ∀ c : Nat, c = low (T k) → f_Rd_begin_71 (f_Rd_begin_25 m) (nI c) (nI k) (nI k) g2 (nI S) (0 : Int32) g = some (nI S, (0 : Int32), g') := fun c hc => by
      have hcl : c < 65536 := by rw [hc]; unfold low; split <;> omega
      unfold f_Rd_begin_71
      rw [if_pos (ji_ (by omega) (by decide)), nI_clamp (by omega), nar_c hcl, jl_, jl_, show (1 : Int32) = nI 1 from rfl, nI_add, hc]
      exact e1
    rw [f_Rd_begin_25, if_neg (lt_c (by omega) (by omega)), if_pos (ji_ (by omega) (by decide)), nI_clamp (by omega), hg k (by omega), jl_]
    unfold f_Rd_begin_69
    by_cases h65 : T k < 65
    · rw [if_pos (show nI (T k) < (65 : Int32) from nI_lt (b := 65) h65 (by decide))]
      exact K (T k) (by unfold low; rw [if_neg (by omega)])
    · rw [if_neg (show ¬ nI (T k) < (65 : Int32) from nI_nlt (b := 65) (by omega) (by omega))]
      by_cases h90 : 90 < T k
      · rw [if_pos (show (90 : Int32) < nI (T k) from nI_lt (a := 90) h90 (by omega))]
        exact K (T k) (by unfold low; rw [if_neg (by omega)])
      · rw [if_neg (show ¬ (90 : Int32) < nI (T k) from nI_nlt (a := 90) (by omega) (by decide))]
        have e3 : j_i2c ((nI (T k) - (65 : Int32)) + (97 : Int32)) = nI (T k + 32) := by
          rw [show (65 : Int32) = nI 65 from rfl, pk_sub (by omega), show (97 : Int32) = nI 97 from rfl, nI_add]
          unfold j_i2c
          rw [pk_char, pk_tn (by omega)]
          congr 1
          omega
        rw [e3]
        exact K (T k + 32) (by unfold low; rw [if_pos (by omega)])
theorem beg_ok {T : Nat → Nat} {S : Nat} (hS : S ≤ 60) (hT : ∀ k, k < S → 32 ≤ T k ∧ T k ≤ 126) {g2 : Nat → Int32} (hg : ∀ k, k < S → g2 k = nI (T k)) (x4 x5 : Int32) (g : Nat → Int32) : ∃ g', f_Rd_begin (nI S) g2 x4 x5 g = some (nI S, (0 : Int32), g') ∧ SeenC g' S (tx T S) := by
  have e : j_minI (nI S) (60 : Int32) = nI S := by
    unfold j_minI
    rw [if_neg (show ¬ (60 : Int32) < nI S from nI_nlt (a := 60) hS (by decide))]
  unfold f_Rd_begin f_Rd_begin_0
  rw [e, jl_, e, jl_]
  exact beg_loop hS hT hg S 0 5000 g (by omega) (by omega) (fun j hj => absurd hj (Nat.not_lt_zero _))
theorem cread_ok {T : Nat → Nat} {S : Nat} (hS : S ≤ 60) (hT : ∀ k, k < S → 32 ≤ T k ∧ T k ≤ 126) {g2 : Nat → Int32} (hg : ∀ k, k < S → g2 k = nI (T k)) (x4 x5 : Int32) (x6 : Nat → Int32) (x7 : Int32) (x8 : Int64) (x9 x10 : Int32) (x11 : Nat → Int32) (x12 : Int32) (x13 : Int64) (x14 x15 : Int32) (x16 : Nat → Int32) : ∃ r, f_Rd_read (nI S) g2 x4 x5 x6 x7 x8 x9 x10 x11 x12 x13 x14 x15 x16 = some ((cc (LIT (tx T S) S)).1, (cc (LIT (tx T S) S)).2.1, (cc (LIT (tx T S) S)).2.2, r) := by
  obtain ⟨g, e1, hC⟩ := beg_ok hS hT hg x4 x5 x6
  have hX := tx_T hS hT
  obtain ⟨t, ht⟩ : ∃ t, t = tx T S := ⟨_, rfl⟩
  rw [← ht] at hC hX ⊢
  unfold f_Rd_read f_Rd_read_0 LIT
  rw [e1, Option.bind_some, show (91 : Int32) = nI 91 from rfl, show (0 : Int32) = nI 0 from rfl, take_ok hX hC (by decide) (by decide), Option.bind_some]
  by_cases h91 : t 0 = 91
  · have ea : adv t 91 0 = 1 := by unfold adv; rw [if_pos h91]
    have hlt := hX.lt (k := 0) (by omega)
    have hk0 := sp_le hX 60 1 (by omega)
    have hk0n := sp_n hX 60 1 (by omega) (by omega)
    rw [decide_eq_true h91, if_neg (show ¬ t 0 ≠ 91 from fun h => h h91)]
    simp only [ea]
    rw [if_neg (show ¬ bI true = nI 0 by decide), csp_ok hX hC (by omega), Option.bind_some, next_ok hX hC (by omega), Option.bind_some, Option.bind_some]
    obtain ⟨k0, hk0e⟩ : ∃ k0, k0 = sp t 60 1 := ⟨_, rfl⟩
    rw [← hk0e] at hk0 hk0n ⊢
    have u := hX.up k0
    have N : (t k0 = 93 ∨ t k0 = 101) → ∃ r, f_Rd_read_41 g2 (nI S) (nI k0) g x7 x8 x9 x10 x11 x12 x13 x14 x15 x16 = some ((cc (match INS t k0 with | none => none | some (tag, l, h, k') => match MK t S k' with | none => none | some d => fin tag l h d)).1, (cc (match INS t k0 with | none => none | some (tag, l, h, k') => match MK t S k' with | none => none | some d => fin tag l h d)).2.1, (cc (match INS t k0 with | none => none | some (tag, l, h, k') => match MK t S k' with | none => none | some d => fin tag l h d)).2.2, r) := fun hn => by
      have M := cnamed_ok hX hC hk0.2 hn
      unfold f_Rd_read_41 f_Rd_read_46
      rw [if_neg (by decide)]
      cases hi : INS t k0 with
      | none =>
        obtain ⟨k', e⟩ := M.1 hi
        rw [e, Option.bind_some]
        exact ⟨_, rfl⟩
      | some q =>
        obtain ⟨tag, l, h, k'⟩ := q
        obtain ⟨m1, m2⟩ := M.2 tag l h k' hi
        have hI : INF = 9218868437227405312 := rfl
        rcases m2 with ⟨m3, m4⟩ | ⟨m3, m4, m5, m6⟩
        · rw [m4, Option.bind_some]
          exact c62_ok hX hC m1 (Or.inl ⟨m3, rfl, rfl, rfl⟩)
        · rw [m6, Option.bind_some]
          exact c62_ok hX hC m1 (Or.inr ⟨m3, rfl, rfl, rfl, by omega, by omega, by omega, by omega, by omega⟩)
    by_cases h93 : t k0 = 93
    · rw [if_pos (show nI (t k0) = (93 : Int32) by rw [h93]; rfl)]
      exact N (Or.inl h93)
    · rw [if_neg (show ¬ nI (t k0) = (93 : Int32) from fun h9 => h93 ((nI_eq (b := 93) (by omega) (by decide)).mp h9))]
      by_cases h101 : t k0 = 101
      · rw [if_pos (show nI (t k0) = (101 : Int32) by rw [h101]; rfl)]
        exact N (Or.inr h101)
      · rw [if_neg (show ¬ nI (t k0) = (101 : Int32) from fun h9 => h101 ((nI_eq (b := 101) (by omega) (by decide)).mp h9))]
        have M := cpair_ok hX hC hk0.2 hk0n (g7 := x7) (g8 := x8) (g9 := x9) (g10 := x10) (g11 := x11) (g12 := x12) (g13 := x13) (g14 := x14) (g15 := x15) (g16 := x16)
        unfold f_Rd_read_46
        rw [if_pos (by decide)]
        cases hp : PR t k0 with
        | none =>
          have ei : INS t k0 = none := by
            unfold INS
            rw [if_neg h93, if_neg h101, hp]
          rw [ei]
          obtain ⟨k', r, e⟩ := M.2 hp
          rw [e, Option.bind_some]
          exact ⟨_, rfl⟩
        | some q =>
          obtain ⟨l, h, k'⟩ := q
          have ei : INS t k0 = some (2, l, h, k') := by
            unfold INS
            rw [if_neg h93, if_neg h101, hp]
          rw [ei]
          obtain ⟨m1, m2, m3, m4, m5, m6, r, e⟩ := M.1 l h k' hp
          rw [e, Option.bind_some]
          exact c62_ok hX hC m1 (Or.inr ⟨rfl, rfl, rfl, rfl, m2, m3, m4, m5, m6⟩)
  · rw [decide_eq_false h91, if_pos (show bI false = nI 0 from rfl), if_pos h91]
    exact ⟨_, rfl⟩
