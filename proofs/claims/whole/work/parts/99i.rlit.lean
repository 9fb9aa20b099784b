-- literals, the reference
theorem WVC_0 {t : Nat → Nat} {k n : Nat} (hl : ∀ i, i < n → isl (t (k + i)) = true) : WVC t k n = 0 ↔ n = 0 := by
  unfold WVC
  constructor
  · intro h
    by_cases h12 : n ≤ 12
    · rw [if_pos h12] at h
      have hlt := wv_lt hl
      have hlt2 : wv t k n < 2 ^ 60 := Nat.lt_of_lt_of_le hlt (Nat.le_trans (Nat.pow_le_pow_right (by decide) h12) (by decide))
      have h2 := (q_eq0 (by omega)).mp h
      cases n with
      | zero => rfl
      | succ n =>
        rw [wv] at h2
        have := isl_t.mp (hl n (by omega))
        omega
    · rw [if_neg h12] at h
      exact absurd h (by decide)
  · intro h
    subst h
    rfl
def RN (F : Option (Int32 × (Nat → Int32) × Int32 × Int64 × Int64 × Int32 × Int32 × Int64 × Int32 × Int32 × Int64 × Int32)) (S : Nat) : Prop := ∃ c g8' N' ov' x y z b r, F = some (c, g8', bI ov', x, y, z, bI b, r) ∧ Big g8' N' ∧ (c = (-1 : Int32) ∨ (c = (0 : Int32) ∧ ∃ z', z = nI z' ∧ z' ≤ S))
def RE (F : Option (Int32 × (Nat → Int32) × Int32 × Int64 × Int64 × Int32 × Int32 × Int64 × Int32 × Int32 × Int64 × Int32)) (k' : Nat) : Prop := ∃ g8' N' ov' x y b r, F = some ((1 : Int32), g8', bI ov', x, y, nI k', bI b, r) ∧ Big g8' N'
theorem PR_none {t : Nat → Nat} {k : Nat} (h1 : t k ≠ 45) (h2 : t k ≠ 43) (h3 : t k ≠ 46) (h4 : isd (t k) = false) (h5 : t k ≠ 105) (h6 : t k ≠ 44) : PR t k = none := by
  unfold PR
  rw [EN_1 h1 h2 h3 h4 h5]
  simp only
  rw [if_neg (by decide), if_neg (by decide), if_pos trivial, if_neg h6]
theorem rins_ok {t : Nat → Nat} {S : Nat} (hT : Tx t S) {g6 : Nat → Int32} (hR : SeenR g6 S t) {g : Nat → Int32} (hC : SeenC g S t) {k : Nat} (hk : k ≤ S) {g8 : Nat → Int32} {N : Nat → Nat} (hB : Big g8 N) {ov b : Bool} {g10 g11 : Int64} {g15 : Int64} {g16 g17 : Int32} {g18 : Int64} {g19 : Int32} :
    (INS t (sp t 60 k) = none → RN (f_Ref_inside g6 (nI S) g8 (bI ov) g10 g11 (nI k) (bI b) g15 g16 g17 g18 g19) S) ∧
    (∀ l h k', INS t (sp t 60 k) = some (1, l, h, k') → RE (f_Ref_inside g6 (nI S) g8 (bI ov) g10 g11 (nI k) (bI b) g15 g16 g17 g18 g19) k') ∧
    (∀ l h k', INS t (sp t 60 k) = some (2, l, h, k') → RO (f_Ref_inside g6 (nI S) g8 (bI ov) g10 g11 (nI k) (bI b) g15 g16 g17 g18 g19) (2 : Int32) l h k') := by
  have hS := hT.hS
  have hk0 := sp_le hT 60 k hk
  have hk0n := sp_n hT 60 k hk (by omega)
  unfold f_Ref_inside f_Ref_inside_0
  rw [rsp_ok hT hR hk, Option.bind_some]
  obtain ⟨k0, hk0e⟩ : ∃ k0, k0 = sp t 60 k := ⟨_, rfl⟩
  rw [← hk0e] at hk0 hk0n ⊢
  have u := hT.up k0
  obtain ⟨n, w1, w2, w3⟩ := word_ex hT hk0.2
  rw [word_ok hT hR w1 w2 w3, Option.bind_some, jl_]
  have e1 := wvc_eq w1 w2 w3 (xs := wEmpty) (by decide) (by decide) (C := 5685913) (by decide)
  have e2 := wvc_eq w1 w2 w3 (xs := wEntire) (by decide) (by decide) (C := 183117381) (by decide)
  have e3 := wvc_eq w1 w2 w3 (xs := wNai) (by decide) (by decide) (C := 14377) (by decide)
  have s1 : f_Ref_spelt (101 : Int32) (109 : Int32) (112 : Int32) = some (lN 5552) := by decide
  have s1' : ((lN 5552 * (1024 : Int64)) + (640 : Int64)) + (25 : Int64) = lN 5685913 := by decide
  have s2 : f_Ref_speltSix (101 : Int32) (110 : Int32) (116 : Int32) (105 : Int32) (114 : Int32) (101 : Int32) = some (lN 183117381) := by decide
  have s3 : f_Ref_spelt (110 : Int32) (97 : Int32) (105 : Int32) = some (lN 14377) := by decide
  have A142 : ∀ x13 : Int32, (INS t k0 = none → t k0 ≠ 93 → PR t k0 = none → RN (f_Ref_inside_142 (nI k0) g6 (nI S) g8 (bI ov) g10 g11 x13 (bI b) g15 g16 g17 g18 g19) S) ∧ (t k0 = 93 → RE (f_Ref_inside_142 (nI k0) g6 (nI S) g8 (bI ov) g10 g11 x13 (bI b) g15 g16 g17 g18 g19) (k0 + 1)) ∧ (t k0 ≠ 93 → ∀ l h k', PR t k0 = some (l, h, k') → RO (f_Ref_inside_142 (nI k0) g6 (nI S) g8 (bI ov) g10 g11 x13 (bI b) g15 g16 g17 g18 g19) (2 : Int32) l h k') := fun x13 => by
    have M := rpair_ok hT hR hC hk0.2 hk0n hB (ov := ov) (b := b) (g10 := g10) (g11 := g11) (g15 := g15) (g16 := g16) (g17 := g17) (g18 := g18) (g19 := g19)
    unfold f_Ref_inside_142
    rw [show (93 : Int32) = nI 93 from rfl, eat_ok hT hR (by omega) (by decide), Option.bind_some]
    refine ⟨fun _ h93 hp => ?_, fun h93 => ?_, fun h93 l h k' hp => ?_⟩
    · have ea : adv t 93 k0 = k0 := by unfold adv; rw [if_neg h93]
      rw [decide_eq_false h93]
      simp only [ea]
      rw [if_pos (show bI false = 0 from rfl)]
      obtain ⟨g8', N', ov', x, y, z, b', r, m1, m2⟩ := M.2 hp
      rw [m1, Option.bind_some]
      exact ⟨_, g8', N', ov', x, y, z, b', _, rfl, m2, Or.inl rfl⟩
    · have ea : adv t 93 k0 = k0 + 1 := by unfold adv; rw [if_pos h93]
      rw [decide_eq_true h93]
      simp only [ea]
      rw [if_neg (show ¬ bI true = 0 by decide)]
      exact ⟨g8, N, ov, _, _, b, _, rfl, hB⟩
    · have ea : adv t 93 k0 = k0 := by unfold adv; rw [if_neg h93]
      rw [decide_eq_false h93]
      simp only [ea]
      rw [if_pos (show bI false = 0 from rfl)]
      obtain ⟨g8', N', ov', b', r, m1, m2⟩ := M.1 l h k' hp
      rw [m1, Option.bind_some]
      exact ⟨g8', N', ov', b', _, rfl, m2⟩
  have f88 : ∀ (w : Int64) (k1 : Nat), k1 ≤ S → f_Ref_inside_88 w (lN 5685913) g6 (nI S) g8 (bI ov) g10 g11 (nI k1) (bI b) g15 g16 g17 g18 g19 = some (if t k1 = 93 then (if w = lN 5685913 then (1 : Int32) else if w = lN 14377 then (0 : Int32) else (2 : Int32)) else (-1 : Int32), g8, bI ov, (-9218868437227405312 : Int64), (9218868437227405312 : Int64), nI (adv t 93 k1), bI b, g15, g16, g17, g18, g19) := fun w k1 hk1 => by
    unfold f_Ref_inside_88 f_Ref_inside_141 f_Ref_result f_Ref_result_0
    rw [Option.bind_some, show (93 : Int32) = nI 93 from rfl, eat_ok hT hR (by omega) (by decide), Option.bind_some]
    by_cases h93 : t k1 = 93
    · rw [decide_eq_true h93, if_neg (show ¬ bI true = 0 by decide), if_pos h93]
      by_cases hw : w = lN 5685913
      · rw [if_pos hw, if_pos hw]
      · rw [if_neg hw, if_neg hw, s3, Option.bind_some]
        by_cases hw2 : w = lN 14377
        · rw [if_pos hw2, if_pos hw2]
        · rw [if_neg hw2, if_neg hw2]
    · rw [decide_eq_false h93, if_pos (show bI false = 0 from rfl), if_neg h93]
  have hks := sp_le hT 60 (k0 + n) w1
  by_cases h93 : t k0 = 93
  · have hn0 : n = 0 := by
      cases n with
      | zero => rfl
      | succ n =>
        have := isl_t.mp (w2 0 (by omega))
        rw [Nat.add_zero] at this
        omega
    have ei : INS t k0 = some (1, 0, 0, k0 + 1) := by unfold INS; rw [if_pos h93]
    rw [if_pos ((WVC_0 w2).mpr hn0), ei]
    refine ⟨fun h => (by cases h), fun l h k' h8 => ?_, fun l h k' h8 => (by cases h8)⟩
    cases h8
    exact (A142 _).2.1 h93
  · by_cases h101 : t k0 = 101
    · have hpn : PR t k0 = none := PR_none (by omega) (by omega) (by omega) (by rw [h101]; decide) (by omega) (by omega)
      have hn0 : n ≠ 0 := by
        intro h9
        subst h9
        rw [Nat.add_zero, h101] at w3
        exact absurd w3 (by decide)
      have ei : INS t k0 = (if ew t k0 wEmpty = true then (if t (sp t 60 (k0 + 5)) = 93 then some (1, 0, 0, sp t 60 (k0 + 5) + 1) else none) else if ew t k0 wEntire = true then (if t (sp t 60 (k0 + 6)) = 93 then some (2, -(INF : Int), (INF : Int), sp t 60 (k0 + 6) + 1) else none) else none) := by
        unfold INS
        rw [if_neg h93, if_pos h101]
      have hnai : ¬ ew t k0 wNai = true := by
        intro h9
        unfold ew at h9
        rw [Bool.and_eq_true, pm_t] at h9
        have h1 := h9.1 0 (by decide)
        rw [Nat.add_zero, h101] at h1
        exact absurd h1 (by decide)
      rw [if_neg (fun h9 => hn0 ((WVC_0 w2).mp h9)), s1, Option.bind_some, s1', jl_, rsp_ok hT hR w1, Option.bind_some]
      by_cases hE : ew t k0 wEmpty = true
      · have hn5 := ew_n w2 w3 (by decide) hE
        have hn5' : n = 5 := hn5
        rw [if_pos (e1.mpr ⟨hE, hn5⟩), f88 _ _ hks.2, ei, if_pos hE, if_pos (e1.mpr ⟨hE, hn5⟩)]
        rw [hn5'] at hks ⊢
        by_cases h9 : t (sp t 60 (k0 + 5)) = 93
        · have ea : adv t 93 (sp t 60 (k0 + 5)) = sp t 60 (k0 + 5) + 1 := by unfold adv; rw [if_pos h9]
          rw [if_pos h9, if_pos h9, ea]
          refine ⟨fun h => (by cases h), fun l h k' h8 => ?_, fun l h k' h8 => (by cases h8)⟩
          cases h8
          exact ⟨g8, N, ov, _, _, b, _, rfl, hB⟩
        · rw [if_neg h9, if_neg h9]
          exact ⟨fun _ => ⟨_, g8, N, ov, _, _, _, b, _, rfl, hB, Or.inl rfl⟩, fun _ _ _ h8 => (by cases h8), fun _ _ _ h8 => (by cases h8)⟩
      · rw [if_neg (fun h9 => hE (e1.mp h9).1), s3, Option.bind_some, if_neg (fun h9 => hnai (e3.mp h9).1), s2, Option.bind_some, ei, if_neg hE]
        by_cases hF : ew t k0 wEntire = true
        · have hn5 := ew_n w2 w3 (by decide) hF
          have hn5' : n = 6 := hn5
          rw [if_pos (e2.mpr ⟨hF, hn5⟩), f88 _ _ hks.2, if_pos hF, if_neg (fun h9 => hE (e1.mp h9).1), if_neg (fun h9 => hnai (e3.mp h9).1)]
          rw [hn5'] at hks ⊢
          by_cases h9 : t (sp t 60 (k0 + 6)) = 93
          · have ea : adv t 93 (sp t 60 (k0 + 6)) = sp t 60 (k0 + 6) + 1 := by unfold adv; rw [if_pos h9]
            rw [if_pos h9, if_pos h9, ea]
            refine ⟨fun h => (by cases h), fun l h k' h8 => (by cases h8), fun l h k' h8 => ?_⟩
            cases h8
            exact ⟨g8, N, ov, b, (g15, g16, g17, g18, g19), by rw [show (-9218868437227405312 : Int64) = lZ (-(INF : Int)) by decide, show (9218868437227405312 : Int64) = lZ (INF : Int) by decide], hB⟩
          · rw [if_neg h9, if_neg h9]
            exact ⟨fun _ => ⟨_, g8, N, ov, _, _, _, b, _, rfl, hB, Or.inl rfl⟩, fun _ _ _ h8 => (by cases h8), fun _ _ _ h8 => (by cases h8)⟩
        · rw [if_neg (fun h9 => hF (e2.mp h9).1), if_neg hF]
          refine ⟨fun _ => (A142 _).1 (by rw [ei, if_neg hE, if_neg hF]) h93 hpn, fun _ _ _ h8 => (by cases h8), fun _ _ _ h8 => (by cases h8)⟩
    · have hE : ¬ ew t k0 wEmpty = true := by
        intro h9
        unfold ew at h9
        rw [Bool.and_eq_true, pm_t] at h9
        exact h101 (h9.1 0 (by decide))
      have hF : ¬ ew t k0 wEntire = true := by
        intro h9
        unfold ew at h9
        rw [Bool.and_eq_true, pm_t] at h9
        exact h101 (h9.1 0 (by decide))
      have P : ∀ x13 : Int32, (INS t k0 = none → RN (f_Ref_inside_142 (nI k0) g6 (nI S) g8 (bI ov) g10 g11 x13 (bI b) g15 g16 g17 g18 g19) S) ∧ (∀ l h k', INS t k0 = some (1, l, h, k') → RE (f_Ref_inside_142 (nI k0) g6 (nI S) g8 (bI ov) g10 g11 x13 (bI b) g15 g16 g17 g18 g19) k') ∧ (∀ l h k', INS t k0 = some (2, l, h, k') → RO (f_Ref_inside_142 (nI k0) g6 (nI S) g8 (bI ov) g10 g11 x13 (bI b) g15 g16 g17 g18 g19) (2 : Int32) l h k') := fun x13 => by
        cases hp : PR t k0 with
        | none =>
          have ei : INS t k0 = none := by unfold INS; rw [if_neg h93, if_neg h101, hp]
          rw [ei]
          exact ⟨fun _ => (A142 x13).1 ei h93 hp, fun _ _ _ h8 => (by cases h8), fun _ _ _ h8 => (by cases h8)⟩
        | some q =>
          obtain ⟨l, h, k'⟩ := q
          have ei : INS t k0 = some (2, l, h, k') := by unfold INS; rw [if_neg h93, if_neg h101, hp]
          rw [ei]
          refine ⟨fun h9 => (by cases h9), fun _ _ _ h8 => (by cases h8), fun l2 h2 k2 h8 => ?_⟩
          cases h8
          exact (A142 x13).2.2 h93 l h k' hp
      by_cases hn0 : n = 0
      · rw [if_pos ((WVC_0 w2).mpr hn0)]
        exact P _
      · rw [if_neg (fun h9 => hn0 ((WVC_0 w2).mp h9)), s1, Option.bind_some, s1', jl_, rsp_ok hT hR w1, Option.bind_some, if_neg (fun h9 => hE (e1.mp h9).1), s3, Option.bind_some]
        by_cases hN : ew t k0 wNai = true
        · have hn3 := ew_n w2 w3 (by decide) hN
          have h110 : t k0 = 110 := by
            unfold ew at hN
            rw [Bool.and_eq_true, pm_t] at hN
            exact hN.1 0 (by decide)
          have hpn : PR t k0 = none := PR_none (by omega) (by omega) (by omega) (by rw [h110]; decide) (by omega) (by omega)
          have ei : INS t k0 = none := by unfold INS; rw [if_neg h93, if_neg h101, hpn]
          rw [if_pos (e3.mpr ⟨hN, hn3⟩), f88 _ _ hks.2, ei, if_neg (fun h9 => hE (e1.mp h9).1), if_pos (e3.mpr ⟨hN, hn3⟩)]
          refine ⟨fun _ => ?_, fun _ _ _ h8 => (by cases h8), fun _ _ _ h8 => (by cases h8)⟩
          have ha := adv_le hT (c := 93) (by decide) hks.2
          by_cases h9 : t (sp t 60 (k0 + n)) = 93
          · rw [if_pos h9]
            exact ⟨_, g8, N, ov, _, _, _, b, _, rfl, hB, Or.inr ⟨rfl, _, rfl, ha.1⟩⟩
          · rw [if_neg h9]
            exact ⟨_, g8, N, ov, _, _, _, b, _, rfl, hB, Or.inl rfl⟩
        · rw [if_neg (fun h9 => hN (e3.mp h9).1), s2, Option.bind_some, if_neg (fun h9 => hF (e2.mp h9).1)]
          exact P _
def dcI (x : Option Nat) : Int32 := match x with
  | none => (-1 : Int32)
  | some d => nI d
theorem ew_pm {t : Nat → Nat} {S : Nat} (hT : Tx t S) {k : Nat} {xs : List Nat} (h : k + xs.length = S) : ew t k xs = pm t k xs := by
  unfold ew
  rw [hT.hi _ (by omega), show isl 0 = false by decide]
  cases pm t k xs <;> rfl
theorem rdeco_ok {t : Nat → Nat} {S : Nat} (hT : Tx t S) {g6 : Nat → Int32} (hR : SeenR g6 S t) {k : Nat} (hk : k ≤ S) : ∃ z, f_Ref_decorated g6 (nI S) (nI k) = some (dcI (MK t S k), z) := by
  have hS := hT.hS
  unfold f_Ref_decorated f_Ref_decorated_0
  by_cases hkS : k = S
  · have e : MK t S k = some 0 := by unfold MK; rw [if_pos hkS]
    rw [if_pos (show nI k = nI S by rw [hkS]), e]
    exact ⟨_, rfl⟩
  · rw [if_neg (fun h9 => hkS ((nI_eq (by omega) (by omega)).mp h9)), show (95 : Int32) = nI 95 from rfl, eat_ok hT hR (by omega) (by decide), Option.bind_some]
    by_cases h95 : t k = 95
    · have ea : adv t 95 k = k + 1 := by unfold adv; rw [if_pos h95]
      have hlt := hT.lt (k := k) (by omega)
      obtain ⟨n, w1, w2, w3⟩ := word_ex hT (k := k + 1) (by omega)
      have c1 := wvc_eq w1 w2 w3 (xs := wCom) (by decide) (by decide) (C := 3565) (by decide)
      have c2 := wvc_eq w1 w2 w3 (xs := wDac) (by decide) (by decide) (C := 4131) (by decide)
      have c3 := wvc_eq w1 w2 w3 (xs := wDef) (by decide) (by decide) (C := 4262) (by decide)
      have c4 := wvc_eq w1 w2 w3 (xs := wTrv) (by decide) (by decide) (C := 21078) (by decide)
      have s1 : f_Ref_spelt (99 : Int32) (111 : Int32) (109 : Int32) = some (lN 3565) := by decide
      have s2 : f_Ref_spelt (100 : Int32) (97 : Int32) (99 : Int32) = some (lN 4131) := by decide
      have s3 : f_Ref_spelt (100 : Int32) (101 : Int32) (102 : Int32) = some (lN 4262) := by decide
      have s4 : f_Ref_spelt (116 : Int32) (114 : Int32) (118 : Int32) = some (lN 21078) := by decide
      rw [decide_eq_true h95]
      simp only [ea]
      rw [if_neg (show ¬ bI true = 0 by decide), word_ok hT hR w1 w2 w3, Option.bind_some, jl_, s1, Option.bind_some]
      have K : ∀ (d : Nat), d ≠ 0 → n = 3 → mkn t (k + 1) = d → ∃ z, f_Ref_decorated_102 (nI d) g6 (nI S) (nI (k + 1 + n)) = some (dcI (MK t S k), z) := fun d hd hn hm => by
        unfold f_Ref_decorated_102 f_Ref_decorated_119
        by_cases he : k + 4 = S
        · rw [if_pos (show nI (k + 1 + n) = nI S by rw [hn, ← he]), MK_n hkS h95 he (by omega), hm]
          exact ⟨_, rfl⟩
        · rw [if_neg (fun h9 => he (by have := (nI_eq (by omega) (by omega)).mp h9; omega)), MK_z hkS (Or.inr (Or.inl he))]
          exact ⟨_, rfl⟩
      have pmn : ∀ (xs : List Nat), ew t (k + 1) xs = true → pm t (k + 1) xs = true := fun xs h => by
        unfold ew at h
        rw [Bool.and_eq_true] at h
        exact h.1
      have ne3 : ∀ (xs ys : List Nat) (i : Nat), i < xs.length → i < ys.length → xs.getD i 0 ≠ ys.getD i 0 → pm t (k + 1) xs = true → pm t (k + 1) ys = false := fun xs ys i h1 h2 h3 h4 => by
        cases h5 : pm t (k + 1) ys
        · rfl
        · have := pm_t.mp h4 i h1
          have h6 := pm_t.mp h5 i h2
          rw [this] at h6
          exact absurd h6 h3
      by_cases q1 : ew t (k + 1) wCom = true
      · have hn := ew_n w2 w3 (by decide) q1
        rw [if_pos (c1.mpr ⟨q1, hn⟩)]
        exact K 4 (by decide) hn (by unfold mkn; rw [if_pos (pmn _ q1)])
      · rw [if_neg (fun h9 => q1 (c1.mp h9).1), s2, Option.bind_some]
        by_cases q2 : ew t (k + 1) wDac = true
        · have hn := ew_n w2 w3 (by decide) q2
          rw [if_pos (c2.mpr ⟨q2, hn⟩)]
          exact K 3 (by decide) hn (by unfold mkn; rw [if_neg (by rw [ne3 wDac wCom 0 (by decide) (by decide) (by decide) (pmn _ q2)]; decide), if_pos (pmn _ q2)])
        · rw [if_neg (fun h9 => q2 (c2.mp h9).1), s3, Option.bind_some]
          by_cases q3 : ew t (k + 1) wDef = true
          · have hn := ew_n w2 w3 (by decide) q3
            rw [if_pos (c3.mpr ⟨q3, hn⟩)]
            exact K 2 (by decide) hn (by unfold mkn; rw [if_neg (by rw [ne3 wDef wCom 0 (by decide) (by decide) (by decide) (pmn _ q3)]; decide), if_neg (by rw [ne3 wDef wDac 1 (by decide) (by decide) (by decide) (pmn _ q3)]; decide), if_pos (pmn _ q3)])
          · rw [if_neg (fun h9 => q3 (c3.mp h9).1), s4, Option.bind_some]
            by_cases q4 : ew t (k + 1) wTrv = true
            · have hn := ew_n w2 w3 (by decide) q4
              rw [if_pos (c4.mpr ⟨q4, hn⟩)]
              exact K 1 (by decide) hn (by unfold mkn; rw [if_neg (by rw [ne3 wTrv wCom 0 (by decide) (by decide) (by decide) (pmn _ q4)]; decide), if_neg (by rw [ne3 wTrv wDac 0 (by decide) (by decide) (by decide) (pmn _ q4)]; decide), if_neg (by rw [ne3 wTrv wDef 0 (by decide) (by decide) (by decide) (pmn _ q4)]; decide), if_pos (pmn _ q4)])
            · rw [if_neg (fun h9 => q4 (c4.mp h9).1)]
              have hz : MK t S k = none := by
                by_cases he : k + 4 = S
                · apply MK_z hkS
                  right; right
                  rw [ew_pm hT (show k + 1 + wCom.length = S from he)] at q1
                  rw [ew_pm hT (show k + 1 + wDac.length = S from he)] at q2
                  rw [ew_pm hT (show k + 1 + wDef.length = S from he)] at q3
                  rw [ew_pm hT (show k + 1 + wTrv.length = S from he)] at q4
                  unfold mkn
                  rw [if_neg q1, if_neg q2, if_neg q3, if_neg q4]
                · exact MK_z hkS (Or.inr (Or.inl he))
              rw [hz]
              unfold f_Ref_decorated_102 f_Ref_decorated_119
              split
              · exact ⟨_, rfl⟩
              · exact ⟨_, rfl⟩
    · rw [decide_eq_false h95, if_pos (show bI false = 0 from rfl), MK_z hkS (Or.inl h95)]
      exact ⟨_, rfl⟩
/-- what the reference puts into its cell -/
def kc (x : Option (Option (Int × Int × Nat))) : Int32 × Int64 × Int64 × Int32 := match x with
  | none => ((0 : Int32), (0 : Int64), (0 : Int64), (0 : Int32))
  | some none => ((1 : Int32), (0 : Int64), (0 : Int64), (1 : Int32))
  | some (some (l, h, m)) => ((2 : Int32), lZ l, lZ h, nI m)
theorem rbnd_ok {l h : Int} (hl : l.natAbs ≤ INF) (hh : h.natAbs ≤ INF) : f_Ref_bounded (lZ l) (lZ h) = some (bI (decide (BM l h = 4))) := by
  unfold f_Ref_bounded f_Ref_bounded_0 f_Ref_bounded_18 f_Ref_bounded_19 BM
  rw [isInf_ok hl, Option.bind_some]
  by_cases h1 : l.natAbs = INF
  · rw [decide_eq_true h1, if_neg (show ¬ bI true = 0 by decide), if_pos (by decide), if_neg (by omega)]
    rfl
  · rw [decide_eq_false h1, if_pos (show bI false = 0 from rfl), isInf_ok hh, Option.bind_some]
    by_cases h2 : h.natAbs = INF
    · rw [decide_eq_true h2, if_neg (show ¬ bI true = 0 by decide), if_pos (by decide), if_neg (by omega)]
      rfl
    · rw [decide_eq_false h2, if_pos (show bI false = 0 from rfl), if_pos (by decide), if_pos (by omega)]
      rfl
theorem r73_ok {tag : Nat} {l h : Int} {v2 v4 : Int64} (htag : tag = 1 ∨ (tag = 2 ∧ v2 = lZ l ∧ v4 = lZ h ∧ l.natAbs ≤ INF ∧ h.natAbs ≤ INF)) {d : Nat} (hd : d ≤ 4) {g0 : Int32} {g1 : Nat → Int32} {g2 g3 : Nat → Int64} {g4 : Nat → Int32} {g5 : Int32} {g6 : Nat → Int32} {g7 : Int32} {g8 : Nat → Int32} {g9 : Int32} {g10 g11 : Int64} {g13 g14 : Int32} {g15 : Int64} {g16 g17 : Int32} {g18 : Int64} {g19 : Int32} : f_Ref_literal_73 (nI d) (nI tag) v2 v4 g0 g1 g2 g3 g4 g5 g6 g7 g8 g9 g10 g11 g13 g14 g15 g16 g17 g18 g19 = (f_Ref_cell (kc (fin tag l h d)).1 (kc (fin tag l h d)).2.1 (kc (fin tag l h d)).2.2.1 (kc (fin tag l h d)).2.2.2 g0 g1 g2 g3 g4).bind fun r1 => some (r1.1, r1.2.1, r1.2.2.1, r1.2.2.2.1, r1.2.2.2.2.1, r1.2.2.2.2.2, g5, g8, g9, g10, g11, g13, g14, g15, g16, g17, g18, g19) := by
  have ILL : ((f_Ref_ill g0 g1 g2 g3 g4).bind fun r1 => some (r1.1, r1.2.1, r1.2.2.1, r1.2.2.2.1, r1.2.2.2.2.1, r1.2.2.2.2.2, g5, g8, g9, g10, g11, g13, g14, g15, g16, g17, g18, g19)) = (f_Ref_cell (0 : Int32) (0 : Int64) (0 : Int64) (0 : Int32) g0 g1 g2 g3 g4).bind fun r1 => some (r1.1, r1.2.1, r1.2.2.1, r1.2.2.2.1, r1.2.2.2.2.1, r1.2.2.2.2.2, g5, g8, g9, g10, g11, g13, g14, g15, g16, g17, g18, g19) := by
    unfold f_Ref_ill f_Ref_ill_0
    cases f_Ref_cell (0 : Int32) (0 : Int64) (0 : Int64) (0 : Int32) g0 g1 g2 g3 g4 <;> rfl
  unfold f_Ref_literal_73 f_Ref_literal_116 fin
  rcases htag with h1 | ⟨h1, h2, h3, h4, h5⟩
  · rw [h1, if_neg (show ¬ nI 1 < (1 : Int32) by decide), if_pos (show (0 : Int32) ≤ nI d from nI_le (a := 0) (Nat.zero_le _) (by omega)), if_pos (show nI 1 = (1 : Int32) from rfl), if_pos (show (1 : Nat) = 1 from rfl)]
    by_cases e : d ≤ 1
    · rw [if_pos (show nI d ≤ (1 : Int32) from nI_le (b := 1) e (by decide)), if_pos e]
      rfl
    · rw [if_neg (show ¬ nI d ≤ (1 : Int32) from nI_ge (a := 1) (by omega) (by omega)), if_neg e, ILL]
      rfl
  · rw [h1, if_neg (show ¬ nI 2 < (1 : Int32) by decide), if_pos (show (0 : Int32) ≤ nI d from nI_le (a := 0) (Nat.zero_le _) (by omega)), if_neg (show ¬ nI 2 = (1 : Int32) by decide), if_neg (show ¬ (2 : Nat) = 1 by decide), h2, h3]
    have F : f_Ref_literal_137 (lZ l) (lZ h) (nI d) g0 g1 g2 g3 g4 g5 g6 g7 g8 g9 g10 g11 g13 g14 g15 g16 g17 g18 g19 = (f_Ref_cell (2 : Int32) (lZ l) (lZ h) (nI (if d = 0 then BM l h else d)) g0 g1 g2 g3 g4).bind fun r1 => some (r1.1, r1.2.1, r1.2.2.1, r1.2.2.2.1, r1.2.2.2.2.1, r1.2.2.2.2.2, g5, g8, g9, g10, g11, g13, g14, g15, g16, g17, g18, g19) := by
      unfold f_Ref_literal_137 f_Ref_literal_166
      by_cases e : d = 0
      · rw [if_pos (show nI d ≤ 0 by rw [e]; decide), rbnd_ok h4 h5, Option.bind_some, if_pos e]
        rcases BM_b l h with b | b
        · rw [b, decide_eq_false (by decide), if_pos (show bI false = 0 from rfl)]
          rfl
        · rw [b, decide_eq_true rfl, if_neg (show ¬ bI true = 0 by decide)]
          rfl
      · rw [if_neg (nI_nle (by omega) (by omega)), if_neg e]
    by_cases e4 : d = 4
    · rw [if_pos (show nI d = (4 : Int32) by rw [e4]; rfl), rbnd_ok h4 h5, Option.bind_some]
      by_cases hb : BM l h = 4
      · rw [decide_eq_true hb, if_neg (show ¬ bI true = 0 by decide), if_neg (fun h9 => h9.2 hb), F]
        rfl
      · rw [decide_eq_false hb, if_pos (show bI false = 0 from rfl), if_pos ⟨e4, hb⟩, ILL]
        rfl
    · rw [if_neg (show ¬ nI d = (4 : Int32) from fun h9 => e4 ((nI_eq (b := 4) (by omega) (by decide)).mp h9)), if_neg (fun h9 => e4 h9.1), F]
      rfl
