-- literals
def INS (t : Nat → Nat) (k0 : Nat) : Option (Nat × Int × Int × Nat) :=
  if t k0 = 93 then some (1, 0, 0, k0 + 1)
  else if t k0 = 101 then (if ew t k0 wEmpty = true then (if t (sp t 60 (k0 + 5)) = 93 then some (1, 0, 0, sp t 60 (k0 + 5) + 1) else none) else if ew t k0 wEntire = true then (if t (sp t 60 (k0 + 6)) = 93 then some (2, -(INF : Int), (INF : Int), sp t 60 (k0 + 6) + 1) else none) else none)
  else match PR t k0 with
  | none => none
  | some (l, h, k') => some (2, l, h, k')
def MK (t : Nat → Nat) (S k : Nat) : Option Nat := if k = S then some 0 else if t k = 95 ∧ k + 4 = S then (if pm t (k + 1) wCom = true then some 4 else if pm t (k + 1) wDac = true then some 3 else if pm t (k + 1) wDef = true then some 2 else if pm t (k + 1) wTrv = true then some 1 else none) else none
def LIT (t : Nat → Nat) (S : Nat) : Option (Option (Int × Int × Nat)) :=
  if t 0 ≠ 91 then none else match INS t (sp t 60 1) with
  | none => none
  | some (tag, l, h, k') => match MK t S k' with
    | none => none
    | some d => if tag = 1 then (if d ≤ 1 then some none else none) else if d = 4 ∧ BM l h ≠ 4 then none else some (some (l, h, if d = 0 then BM l h else d))
def cc (x : Option (Option (Int × Int × Nat))) : Int64 × Int64 × Int32 := match x with
  | none => ((0 : Int64), (0 : Int64), (0 : Int32))
  | some none => ((9218868437227405312 : Int64), (-9218868437227405312 : Int64), (1 : Int32))
  | some (some (l, h, m)) => (lZ l, lZ h, nI m)
/-- the class, inside the brackets -/
theorem cnamed_ok {t : Nat → Nat} {S : Nat} (hT : Tx t S) {g : Nat → Int32} (hC : SeenC g S t) {k : Nat} (hk : k ≤ S) (hn : t k = 93 ∨ t k = 101) :
    (INS t k = none → ∃ k', f_Rd_readNamed (nI S) (nI k) g = some ((0 : Int64), (0 : Int64), (0 : Int32), k')) ∧
    (∀ tag l h k', INS t k = some (tag, l, h, k') → k' ≤ S ∧ ((tag = 1 ∧ f_Rd_readNamed (nI S) (nI k) g = some ((9218868437227405312 : Int64), (-9218868437227405312 : Int64), (1 : Int32), nI k')) ∨ (tag = 2 ∧ l = -(INF : Int) ∧ h = (INF : Int) ∧ f_Rd_readNamed (nI S) (nI k) g = some (lZ l, lZ h, nI (BM l h), nI k')))) := by
  have hS := hT.hS
  have hI : INF = 9218868437227405312 := rfl
  have hlt := hT.lt (k := k) (by omega)
  unfold f_Rd_readNamed f_Rd_readNamed_0 INS
  rw [show (93 : Int32) = nI 93 from rfl, take_ok hT hC (by omega) (by decide), Option.bind_some]
  by_cases h93 : t k = 93
  · have ea : adv t 93 k = k + 1 := by unfold adv; rw [if_pos h93]
    rw [decide_eq_true h93, if_pos h93]
    simp only [ea]
    rw [if_neg (show ¬ bI true = 0 by decide)]
    refine ⟨fun h => (by cases h), fun tag l h k' h8 => ?_⟩
    cases h8
    exact ⟨by omega, Or.inl ⟨rfl, rfl⟩⟩
  · have h101 : t k = 101 := by omega
    have ea : adv t 93 k = k := by unfold adv; rw [if_neg h93]
    rw [decide_eq_false h93, if_neg h93, if_pos h101]
    simp only [ea]
    rw [if_pos (show bI false = 0 from rfl), tw_empty hT hC hk, Option.bind_some]
    cases hp : pm t k wEmpty
    · have he : ¬ ew t k wEmpty = true := by unfold ew; rw [hp]; simp
      simp only [if_neg (show ¬ false = true by decide)]
      rw [if_pos (show bI false = 0 from rfl), tw_entire hT hC hk, Option.bind_some, if_neg he]
      cases hq : pm t k wEntire
      · have he2 : ¬ ew t k wEntire = true := by unfold ew; rw [hq]; simp
        simp only [if_neg (show ¬ false = true by decide)]
        rw [if_pos (show bI false = 0 from rfl), if_neg he2]
        exact ⟨fun _ => ⟨_, rfl⟩, fun _ _ _ _ h8 => (by cases h8)⟩
      · have hkk := pm_S hT (by decide) (by decide) hq
        have hk6 : k + 6 ≤ S := hkk
        simp only [if_true]
        rw [if_neg (show ¬ bI true = 0 by decide), clos_ok hT hC hk6, Option.bind_some]
        have hs6 := sp_le hT 60 (k + 6) hk6
        cases hl : isl (t (k + 6))
        · have he2 : ew t k wEntire = true := by unfold ew; rw [hq, show wEntire.length = 6 from rfl, hl]; rfl
          rw [if_pos he2]
          by_cases h9 : t (sp t 60 (k + 6)) = 93
          · have hlt6 := hT.lt (k := sp t 60 (k + 6)) (by omega)
            have ea2 : adv t 93 (sp t 60 (k + 6)) = sp t 60 (k + 6) + 1 := by unfold adv; rw [if_pos h9]
            rw [decide_eq_true h9, if_pos h9]
            simp only [ea2]
            rw [if_neg (show ¬ bI true = 0 by decide), show (-9218868437227405312 : Int64) = lZ (-(INF : Int)) by decide, show (9218868437227405312 : Int64) = lZ (INF : Int) by decide, strong_ok (by omega) (by omega) (by omega), Option.bind_some]
            refine ⟨fun h => (by cases h), fun tag l h k' h8 => ?_⟩
            cases h8
            exact ⟨by omega, Or.inr ⟨rfl, rfl, rfl, rfl⟩⟩
          · rw [decide_eq_false h9, if_neg h9, if_pos (show bI false = 0 from rfl)]
            exact ⟨fun _ => ⟨_, rfl⟩, fun _ _ _ _ h8 => (by cases h8)⟩
        · have he2 : ¬ ew t k wEntire = true := by unfold ew; rw [hq, show wEntire.length = 6 from rfl, hl]; decide
          have := isl_t.mp hl
          rw [if_neg he2, sp_id (by omega), decide_eq_false (by omega), if_pos (show bI false = 0 from rfl)]
          exact ⟨fun _ => ⟨_, rfl⟩, fun _ _ _ _ h8 => (by cases h8)⟩
    · have hkk := pm_S hT (by decide) (by decide) hp
      have hk6 : k + 5 ≤ S := hkk
      have hs6 := sp_le hT 60 (k + 5) hk6
      have hne : ¬ ew t k wEntire = true := by
        intro h9
        unfold ew at h9
        rw [Bool.and_eq_true, pm_t] at h9
        have h1 := h9.1 1 (by decide)
        have h2 := pm_t.mp hp 1 (by decide)
        rw [h2] at h1
        exact absurd h1 (by decide)
      simp only [if_true]
      rw [if_neg (show ¬ bI true = 0 by decide), clos_ok hT hC hk6, Option.bind_some]
      cases hl : isl (t (k + 5))
      · have he2 : ew t k wEmpty = true := by unfold ew; rw [hp, show wEmpty.length = 5 from rfl, hl]; rfl
        rw [if_pos he2]
        by_cases h9 : t (sp t 60 (k + 5)) = 93
        · have hlt6 := hT.lt (k := sp t 60 (k + 5)) (by omega)
          have ea2 : adv t 93 (sp t 60 (k + 5)) = sp t 60 (k + 5) + 1 := by unfold adv; rw [if_pos h9]
          rw [decide_eq_true h9, if_pos h9]
          simp only [ea2]
          rw [if_neg (show ¬ bI true = 0 by decide)]
          refine ⟨fun h => (by cases h), fun tag l h k' h8 => ?_⟩
          cases h8
          exact ⟨by omega, Or.inl ⟨rfl, rfl⟩⟩
        · rw [decide_eq_false h9, if_neg h9, if_pos (show bI false = 0 from rfl)]
          exact ⟨fun _ => ⟨_, rfl⟩, fun _ _ _ _ h8 => (by cases h8)⟩
      · have he2 : ¬ ew t k wEmpty = true := by unfold ew; rw [hp, show wEmpty.length = 5 from rfl, hl]; decide
        have := isl_t.mp hl
        rw [if_neg he2, if_neg hne, sp_id (by omega), decide_eq_false (by omega), if_pos (show bI false = 0 from rfl)]
        exact ⟨fun _ => ⟨_, rfl⟩, fun _ _ _ _ h8 => (by cases h8)⟩
def mkn (t : Nat → Nat) (k : Nat) : Nat := if pm t k wCom = true then 4 else if pm t k wDac = true then 3 else if pm t k wDef = true then 2 else if pm t k wTrv = true then 1 else 0
theorem cmark_ok {t : Nat → Nat} {S : Nat} (hT : Tx t S) {g : Nat → Int32} (hC : SeenC g S t) {k : Nat} (hk : k ≤ S) : f_Rd_readMark (nI S) (nI k) g = some (nI (mkn t k), nI (if mkn t k = 0 then k else k + 3)) := by
  unfold f_Rd_readMark f_Rd_readMark_0 f_Rd_readMark_47 mkn
  rw [tw_com hT hC hk, Option.bind_some]
  cases h1 : pm t k wCom
  · simp only [if_neg (show ¬ false = true by decide)]
    rw [if_pos (show bI false = 0 from rfl), tw_dac hT hC hk, Option.bind_some]
    cases h2 : pm t k wDac
    · simp only [if_neg (show ¬ false = true by decide)]
      rw [if_pos (show bI false = 0 from rfl), tw_def hT hC hk, Option.bind_some]
      cases h3 : pm t k wDef
      · simp only [if_neg (show ¬ false = true by decide)]
        rw [if_pos (show bI false = 0 from rfl), tw_trv hT hC hk, Option.bind_some]
        cases h4 : pm t k wTrv
        · rfl
        · rfl
      · rfl
    · rfl
  · rfl
theorem mkn_le (t : Nat → Nat) (k : Nat) : mkn t k ≤ 4 := by
  unfold mkn
  split
  · omega
  · split
    · omega
    · split
      · omega
      · split <;> omega
theorem MK_n {t : Nat → Nat} {S k : Nat} (hk : k ≠ S) (h : t k = 95) (h4 : k + 4 = S) (hm : mkn t (k + 1) ≠ 0) : MK t S k = some (mkn t (k + 1)) := by
  unfold MK
  rw [if_neg hk, if_pos ⟨h, h4⟩]
  unfold mkn at hm ⊢
  split
  · rfl
  · split
    · rfl
    · split
      · rfl
      · split
        · rfl
        · next h1 h2 h3 h4 => rw [if_neg h1, if_neg h2, if_neg h3, if_neg h4] at hm; exact absurd rfl hm
theorem MK_z {t : Nat → Nat} {S k : Nat} (hk : k ≠ S) (h : t k ≠ 95 ∨ k + 4 ≠ S ∨ mkn t (k + 1) = 0) : MK t S k = none := by
  unfold MK
  rw [if_neg hk]
  split
  · next h9 =>
    have hm : mkn t (k + 1) = 0 := by
      rcases h with h | h | h
      · exact absurd h9.1 h
      · exact absurd h9.2 h
      · exact h
    unfold mkn at hm
    split
    · next h1 => rw [if_pos h1] at hm; omega
    · next h1 =>
      rw [if_neg h1] at hm
      split
      · next h2 => rw [if_pos h2] at hm; omega
      · next h2 =>
        rw [if_neg h2] at hm
        split
        · next h3 => rw [if_pos h3] at hm; omega
        · next h3 =>
          rw [if_neg h3] at hm
          split
          · next h4 => rw [if_pos h4] at hm; omega
          · rfl
  · rfl
theorem MK_le {t : Nat → Nat} {S k d : Nat} (h : MK t S k = some d) : d ≤ 4 := by
  unfold MK at h
  split at h
  · cases h; decide
  · split at h
    · split at h
      · cases h; decide
      · split at h
        · cases h; decide
        · split at h
          · cases h; decide
          · split at h
            · cases h; decide
            · cases h
    · cases h
