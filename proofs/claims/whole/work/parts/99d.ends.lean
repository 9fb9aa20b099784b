-- the ends of an interval in a text
def wInf : List Nat := [105, 110, 102]
def wInfinity : List Nat := [105, 110, 102, 105, 110, 105, 116, 121]
def wEmpty : List Nat := [101, 109, 112, 116, 121]
def wEntire : List Nat := [101, 110, 116, 105, 114, 101]
def wNai : List Nat := [110, 97, 105]
def wCom : List Nat := [99, 111, 109]
def wDac : List Nat := [100, 97, 99]
def wDef : List Nat := [100, 101, 102]
def wTrv : List Nat := [116, 114, 118]
theorem tw_inf {t : Nat → Nat} {S : Nat} (hT : Tx t S) {g : Nat → Int32} (hC : SeenC g S t) {k : Nat} (hk : k ≤ S) : f_Rd_takeWord 4 (nI S) (nI k) g = some (bI (pm t k wInf), nI (if pm t k wInf = true then k + 3 else k)) := cw_ok hT hC (xs := wInf) (by decide) (by decide) (by decide) (by decide) (by decide) (by decide) hk
theorem tw_infinity {t : Nat → Nat} {S : Nat} (hT : Tx t S) {g : Nat → Int32} (hC : SeenC g S t) {k : Nat} (hk : k ≤ S) : f_Rd_takeWord 3 (nI S) (nI k) g = some (bI (pm t k wInfinity), nI (if pm t k wInfinity = true then k + 8 else k)) := cw_ok hT hC (xs := wInfinity) (by decide) (by decide) (by decide) (by decide) (by decide) (by decide) hk
theorem tw_empty {t : Nat → Nat} {S : Nat} (hT : Tx t S) {g : Nat → Int32} (hC : SeenC g S t) {k : Nat} (hk : k ≤ S) : f_Rd_takeWord 1 (nI S) (nI k) g = some (bI (pm t k wEmpty), nI (if pm t k wEmpty = true then k + 5 else k)) := cw_ok hT hC (xs := wEmpty) (by decide) (by decide) (by decide) (by decide) (by decide) (by decide) hk
theorem tw_entire {t : Nat → Nat} {S : Nat} (hT : Tx t S) {g : Nat → Int32} (hC : SeenC g S t) {k : Nat} (hk : k ≤ S) : f_Rd_takeWord 2 (nI S) (nI k) g = some (bI (pm t k wEntire), nI (if pm t k wEntire = true then k + 6 else k)) := cw_ok hT hC (xs := wEntire) (by decide) (by decide) (by decide) (by decide) (by decide) (by decide) hk
theorem tw_com {t : Nat → Nat} {S : Nat} (hT : Tx t S) {g : Nat → Int32} (hC : SeenC g S t) {k : Nat} (hk : k ≤ S) : f_Rd_takeWord 5 (nI S) (nI k) g = some (bI (pm t k wCom), nI (if pm t k wCom = true then k + 3 else k)) := cw_ok hT hC (xs := wCom) (by decide) (by decide) (by decide) (by decide) (by decide) (by decide) hk
theorem tw_dac {t : Nat → Nat} {S : Nat} (hT : Tx t S) {g : Nat → Int32} (hC : SeenC g S t) {k : Nat} (hk : k ≤ S) : f_Rd_takeWord 6 (nI S) (nI k) g = some (bI (pm t k wDac), nI (if pm t k wDac = true then k + 3 else k)) := cw_ok hT hC (xs := wDac) (by decide) (by decide) (by decide) (by decide) (by decide) (by decide) hk
theorem tw_def {t : Nat → Nat} {S : Nat} (hT : Tx t S) {g : Nat → Int32} (hC : SeenC g S t) {k : Nat} (hk : k ≤ S) : f_Rd_takeWord 7 (nI S) (nI k) g = some (bI (pm t k wDef), nI (if pm t k wDef = true then k + 3 else k)) := cw_ok hT hC (xs := wDef) (by decide) (by decide) (by decide) (by decide) (by decide) (by decide) hk
theorem tw_trv {t : Nat → Nat} {S : Nat} (hT : Tx t S) {g : Nat → Int32} (hC : SeenC g S t) {k : Nat} (hk : k ≤ S) : f_Rd_takeWord 8 (nI S) (nI k) g = some (bI (pm t k wTrv), nI (if pm t k wTrv = true then k + 3 else k)) := cw_ok hT hC (xs := wTrv) (by decide) (by decide) (by decide) (by decide) (by decide) (by decide) hk
theorem pm_S {t : Nat → Nat} {S : Nat} (hT : Tx t S) {k : Nat} {xs : List Nat} (hx0 : 0 < xs.length) (hx : ∀ i, i < xs.length → 0 < xs.getD i 0) (h : pm t k xs = true) : k + xs.length ≤ S := by
  have h1 := pm_t.mp h (xs.length - 1) (by omega)
  have h2 := hx (xs.length - 1) (by omega)
  have := hT.lt (k := k + (xs.length - 1)) (by omega)
  omega
/-- behind the word for infinity, as a prefix -/
def ik (t : Nat → Nat) (k : Nat) : Option Nat := if pm t k wInfinity = true then some (k + 8) else if pm t k wInf = true then some (k + 3) else none
theorem ik_S {t : Nat → Nat} {S : Nat} (hT : Tx t S) {k k' : Nat} (h : ik t k = some k') : k' ≤ S ∧ t k = 105 := by
  unfold ik at h
  by_cases h1 : pm t k wInfinity = true
  · rw [if_pos h1] at h
    have := pm_S hT (by decide) (by decide) h1
    have h2 := pm_t.mp h1 0 (by decide)
    cases h
    exact ⟨this, h2⟩
  · rw [if_neg h1] at h
    by_cases h2 : pm t k wInf = true
    · rw [if_pos h2] at h
      have := pm_S hT (by decide) (by decide) h2
      have h3 := pm_t.mp h2 0 (by decide)
      cases h
      exact ⟨this, h3⟩
    · rw [if_neg h2] at h
      cases h
/-- 0 wrong, 1 nothing, 2 a number, 3 minus infinity, 4 plus infinity, 5 a longer word -/
def EN (t : Nat → Nat) (k : Nat) : Nat × Nat × Int × Nat :=
  match ik t (sgnp t k) with
  | some k' => if isl (t k') = true then (5, 0, 0, k') else (if t k = 45 then 3 else 4, 0, 0, k')
  | none => if sgnp t k = k ∧ t k ≠ 46 ∧ isd (t k) = false then (1, 0, 0, k) else
    match NUM t (sgnp t k) with
    | none => (0, 0, 0, k)
    | some (D, p, k') => (2, D, p, k')
theorem NUM_none {t : Nat → Nat} {k : Nat} (h1 : t k ≠ 46) (h2 : isd (t k) = false) : NUM t k = none := by
  have e : digs t 60 k 0 0 = (true, k, 0, 0) := by
    show digs t (59 + 1) k 0 0 = _
    rw [digs, if_neg (by rw [h2]; decide)]
  unfold NUM
  rw [e]
  simp only
  rw [if_neg (by decide), if_neg h1, Nat.sub_self, if_pos rfl]
theorem cend_25 {t : Nat → Nat} {S : Nat} (hT : Tx t S) {g : Nat → Int32} (hC : SeenC g S t) {k : Nat} (hk : k ≤ S) (neg sg : Bool) (x7 : Int32) (x8 : Int64) (x9 x10 : Int32) :
    (∀ k', ik t k = some k' → ∃ r, f_Rd_readEnd_25 (bI sg) (bI neg) (nI S) (nI k) g x7 x8 x9 x10 = some (if neg = true then (3 : Int32) else (4 : Int32), nI k', r)) ∧
    (ik t k = none → sg = false → t k ≠ 46 → isd (t k) = false → ∃ r, f_Rd_readEnd_25 (bI sg) (bI neg) (nI S) (nI k) g x7 x8 x9 x10 = some ((1 : Int32), nI k, r)) ∧
    (ik t k = none → (sg = true ∨ t k = 46 ∨ isd (t k) = true) → (NUM t k = none → ∃ k' r, f_Rd_readEnd_25 (bI sg) (bI neg) (nI S) (nI k) g x7 x8 x9 x10 = some ((0 : Int32), nI k', r) ∧ k' ≤ S) ∧ (∀ D p k', NUM t k = some (D, p, k') → k' ≤ S ∧ D < 1000000000000000000 ∧ -40 ≤ p ∧ p ≤ 40 ∧ ∃ c, f_Rd_readEnd_25 (bI sg) (bI neg) (nI S) (nI k) g x7 x8 x9 x10 = some ((2 : Int32), nI k', bI neg, lN D, c, zI p))) := by
  have hS := hT.hS
  have u := hT.up k
  have K44 : ∀ k' : Int32, f_Rd_readEnd_44 (bI neg) (nI S) k' g x7 x8 x9 x10 = some (if neg = true then (3 : Int32) else (4 : Int32), k', x7, x8, x9, x10) := fun k' => by
    unfold f_Rd_readEnd_44 f_Rd_readEnd_53
    cases neg
    · rw [if_pos (show bI false = 0 from rfl), if_neg (by decide)]
    · rw [if_neg (show ¬ bI true = 0 by decide), if_pos rfl]
  have B : ∀ (h1 : pm t k wInfinity = false) (h2 : pm t k wInf = false), f_Rd_readEnd_25 (bI sg) (bI neg) (nI S) (nI k) g x7 x8 x9 x10 = (if bI sg = 0 then (if nI (t k) = (46 : Int32) then f_Rd_readEnd_79 (bI neg) (nI S) (nI k) g x7 x8 x9 x10 else (if bI (isd (t k)) = 0 then some ((1 : Int32), nI k, x7, x8, x9, x10) else f_Rd_readEnd_79 (bI neg) (nI S) (nI k) g x7 x8 x9 x10)) else f_Rd_readEnd_79 (bI neg) (nI S) (nI k) g x7 x8 x9 x10) := fun h1 h2 => by
    unfold f_Rd_readEnd_25
    rw [tw_infinity hT hC hk, Option.bind_some, h1]
    simp only [if_neg (show ¬ false = true by decide)]
    rw [if_pos (show bI false = 0 from rfl), tw_inf hT hC hk, Option.bind_some, h2]
    simp only [if_neg (show ¬ false = true by decide)]
    rw [if_pos (show bI false = 0 from rfl), next_ok hT hC (by omega)]
    simp only [Option.bind_some, cdig_ok (show t k < 128 by omega)]
  have G : ik t k = none → pm t k wInfinity = false ∧ pm t k wInf = false := fun h => by
    unfold ik at h
    cases h1 : pm t k wInfinity
    · rw [h1, if_neg (by decide)] at h
      cases h2 : pm t k wInf
      · exact ⟨rfl, rfl⟩
      · rw [h2, if_pos rfl] at h
        cases h
    · rw [h1, if_pos rfl] at h
      cases h
  refine ⟨fun k' h => ?_, fun h h1 h2 h3 => ?_, fun h h1 => ?_⟩
  · unfold ik at h
    unfold f_Rd_readEnd_25
    rw [tw_infinity hT hC hk, Option.bind_some]
    cases h1 : pm t k wInfinity
    · rw [h1, if_neg (by decide)] at h
      simp only [if_neg (show ¬ false = true by decide)]
      rw [if_pos (show bI false = 0 from rfl), tw_inf hT hC hk, Option.bind_some]
      cases h2 : pm t k wInf
      · rw [h2, if_neg (by decide)] at h
        cases h
      · rw [h2, if_pos rfl] at h
        cases h
        simp only [if_pos (show true = true from rfl)]
        rw [if_neg (show ¬ bI true = 0 by decide), K44]
        exact ⟨_, rfl⟩
    · rw [h1, if_pos rfl] at h
      cases h
      simp only [if_pos (show true = true from rfl)]
      rw [if_neg (show ¬ bI true = 0 by decide), K44]
      exact ⟨_, rfl⟩
  · obtain ⟨g1, g2⟩ := G h
    rw [B g1 g2, h1, if_pos (show bI false = 0 from rfl), if_neg (show ¬ nI (t k) = (46 : Int32) from fun h9 => h2 ((nI_eq (b := 46) (by omega) (by decide)).mp h9)), h3, if_pos (show bI false = 0 from rfl)]
    exact ⟨_, rfl⟩
  · obtain ⟨g1, g2⟩ := G h
    have E79 : f_Rd_readEnd_25 (bI sg) (bI neg) (nI S) (nI k) g x7 x8 x9 x10 = f_Rd_readEnd_79 (bI neg) (nI S) (nI k) g x7 x8 x9 x10 := by
      rw [B g1 g2]
      cases sg
      · rw [if_pos (show bI false = 0 from rfl)]
        by_cases h4 : t k = 46
        · rw [if_pos (show nI (t k) = (46 : Int32) by rw [h4]; rfl)]
        · have h5 : isd (t k) = true := by
            rcases h1 with h1 | h1 | h1
            · cases h1
            · exact absurd h1 h4
            · exact h1
          rw [if_neg (show ¬ nI (t k) = (46 : Int32) from fun h9 => h4 ((nI_eq (b := 46) (by omega) (by decide)).mp h9)), h5, if_neg (show ¬ bI true = 0 by decide)]
      · rw [if_neg (show ¬ bI true = 0 by decide)]
    have N := cnum_ok hT hC hk (0 : Int32)
    rw [E79]
    unfold f_Rd_readEnd_79 f_Num_begin f_Num_begin_0 f_Rd_readEnd_97
    rw [if_pos (by cases neg; exact Or.inl rfl; exact Or.inr rfl), Option.bind_some]
    rcases N with ⟨D, p, k', c, n1, n2, n3, n4, n5, n6⟩ | ⟨n1, k', D, c, y, n2, n3⟩
    · refine ⟨fun h9 => absurd (n1.symm.trans h9) (by simp), fun D' p' k2 h9 => ?_⟩
      rw [n1] at h9
      cases h9
      refine ⟨n3, n4, n5, n6, nI c, ?_⟩
      rw [show f_Rd_readNumber (nI S) (nI k) g (0 : Int64) (0 : Int32) (0 : Int32) = _ from n2, Option.bind_some, if_neg (show ¬ (1 : Int32) = 0 by decide)]
    · refine ⟨fun _ => ⟨k', (bI neg, D, c, y), ?_, n3⟩, fun D' p' k2 h9 => absurd (n1.symm.trans h9) (by simp)⟩
      rw [show f_Rd_readNumber (nI S) (nI k) g (0 : Int64) (0 : Int32) (0 : Int32) = _ from n2, Option.bind_some, if_pos rfl]
theorem cend_0 {t : Nat → Nat} {S : Nat} (hT : Tx t S) {g : Nat → Int32} (hC : SeenC g S t) {k : Nat} (hk : k ≤ S) (x7 : Int32) (x8 : Int64) (x9 x10 : Int32) : f_Rd_readEnd (nI S) (nI k) g x7 x8 x9 x10 = f_Rd_readEnd_25 (bI (decide (t k = 45 ∨ t k = 43))) (bI (decide (t k = 45))) (nI S) (nI (sgnp t k)) g x7 x8 x9 x10 := by
  have hS := hT.hS
  unfold f_Rd_readEnd f_Rd_readEnd_0 f_Rd_readEnd_20
  rw [show (45 : Int32) = nI 45 from rfl, take_ok hT hC (by omega) (by decide), Option.bind_some, jl_]
  by_cases h : t k = 45
  · have e1 : sgnp t k = k + 1 := by unfold sgnp; rw [if_pos (Or.inl h)]
    have e2 : adv t 45 k = k + 1 := by unfold adv; rw [if_pos h]
    simp only [decide_eq_true h, e1, e2, decide_eq_true (show t k = 45 ∨ t k = 43 from Or.inl h)]
    rw [if_neg (show ¬ bI true = 0 by decide)]
    rfl
  · have e2 : adv t 45 k = k := by unfold adv; rw [if_neg h]
    simp only [decide_eq_false h, e2]
    rw [if_pos (show bI false = 0 from rfl), show (43 : Int32) = nI 43 from rfl, take_ok hT hC (by omega) (by decide), Option.bind_some]
    by_cases h3 : t k = 43
    · have e1 : sgnp t k = k + 1 := by unfold sgnp; rw [if_pos (Or.inr h3)]
      have e4 : adv t 43 k = k + 1 := by unfold adv; rw [if_pos h3]
      simp only [decide_eq_true h3, e4, e1, decide_eq_true (show t k = 45 ∨ t k = 43 from Or.inr h3)]
      rw [if_neg (show ¬ bI true = 0 by decide)]
      rfl
    · have e1 : sgnp t k = k := by unfold sgnp; rw [if_neg (by omega)]
      have e4 : adv t 43 k = k := by unfold adv; rw [if_neg h3]
      simp only [decide_eq_false h3, e4, e1, decide_eq_false (show ¬ (t k = 45 ∨ t k = 43) by omega)]
      rw [if_pos (show bI false = 0 from rfl)]
      rfl
theorem sgnp_k {t : Nat → Nat} {k : Nat} : sgnp t k = k ↔ ¬ (t k = 45 ∨ t k = 43) := by
  unfold sgnp
  split
  · next h => constructor <;> intro h2 <;> first | omega | exact absurd h h2
  · next h => exact ⟨fun _ => h, fun _ => rfl⟩
/-- what the class reads as an end -/
theorem cend_ok {t : Nat → Nat} {S : Nat} (hT : Tx t S) {g : Nat → Int32} (hC : SeenC g S t) {k : Nat} (hk : k ≤ S) (x7 : Int32) (x8 : Int64) (x9 x10 : Int32) :
    ((EN t k).1 = 0 ∧ ∃ k' r, f_Rd_readEnd (nI S) (nI k) g x7 x8 x9 x10 = some ((0 : Int32), nI k', r) ∧ k' ≤ S) ∨
    ((EN t k).1 = 1 ∧ (EN t k).2.2.2 = k ∧ ∃ r, f_Rd_readEnd (nI S) (nI k) g x7 x8 x9 x10 = some ((1 : Int32), nI k, r)) ∨
    ((EN t k).1 = 2 ∧ (EN t k).2.2.2 ≤ S ∧ (EN t k).2.1 < 1000000000000000000 ∧ -40 ≤ (EN t k).2.2.1 ∧ (EN t k).2.2.1 ≤ 40 ∧ ∃ c, f_Rd_readEnd (nI S) (nI k) g x7 x8 x9 x10 = some ((2 : Int32), nI (EN t k).2.2.2, bI (decide (t k = 45)), lN (EN t k).2.1, c, zI (EN t k).2.2.1)) ∨
    ((EN t k).1 = 3 ∧ (EN t k).2.2.2 ≤ S ∧ ∃ r, f_Rd_readEnd (nI S) (nI k) g x7 x8 x9 x10 = some ((3 : Int32), nI (EN t k).2.2.2, r)) ∨
    ((EN t k).1 = 4 ∧ (EN t k).2.2.2 ≤ S ∧ ∃ r, f_Rd_readEnd (nI S) (nI k) g x7 x8 x9 x10 = some ((4 : Int32), nI (EN t k).2.2.2, r)) ∨
    ((EN t k).1 = 5 ∧ (EN t k).2.2.2 ≤ S ∧ isl (t (EN t k).2.2.2) = true ∧ ∃ ct r, f_Rd_readEnd (nI S) (nI k) g x7 x8 x9 x10 = some (ct, nI (EN t k).2.2.2, r) ∧ (ct = (3 : Int32) ∨ ct = (4 : Int32))) := by
  have h1 := sgnp_le hT hk
  have M := cend_25 hT hC h1.2 (decide (t k = 45)) (decide (t k = 45 ∨ t k = 43)) x7 x8 x9 x10
  rw [← cend_0 hT hC hk] at M
  obtain ⟨M1, M2, M3⟩ := M
  unfold EN
  cases hi : ik t (sgnp t k) with
  | some k' =>
    have hs := (ik_S hT hi).1
    obtain ⟨r, hr⟩ := M1 k' hi
    simp only
    cases hl : isl (t k')
    · rw [if_neg (by decide)]
      by_cases h45 : t k = 45
      · rw [if_pos h45]
        rw [decide_eq_true h45, if_pos rfl] at hr
        exact Or.inr (Or.inr (Or.inr (Or.inl ⟨rfl, hs, r, hr⟩)))
      · rw [if_neg h45]
        rw [decide_eq_false h45, if_neg (by decide)] at hr
        exact Or.inr (Or.inr (Or.inr (Or.inr (Or.inl ⟨rfl, hs, r, hr⟩))))
    · rw [if_pos rfl]
      refine Or.inr (Or.inr (Or.inr (Or.inr (Or.inr ⟨rfl, hs, hl, _, r, hr, ?_⟩))))
      split
      · exact Or.inl rfl
      · exact Or.inr rfl
  | none =>
    simp only
    by_cases hn : sgnp t k = k ∧ t k ≠ 46 ∧ isd (t k) = false
    · rw [if_pos hn]
      obtain ⟨r, hr⟩ := M2 hi (decide_eq_false (sgnp_k.mp hn.1)) (by rw [hn.1]; exact hn.2.1) (by rw [hn.1]; exact hn.2.2)
      rw [hn.1] at hr
      exact Or.inr (Or.inl ⟨rfl, rfl, r, hr⟩)
    · rw [if_neg hn]
      have hd : decide (t k = 45 ∨ t k = 43) = true ∨ t (sgnp t k) = 46 ∨ isd (t (sgnp t k)) = true := by
        by_cases hs : sgnp t k = k
        · rw [hs]
          right
          by_cases h46 : t k = 46
          · exact Or.inl h46
          · right
            cases hd : isd (t k)
            · exact absurd ⟨hs, h46, hd⟩ hn
            · rfl
        · left
          apply decide_eq_true
          apply Classical.byContradiction
          intro h9
          exact hs (sgnp_k.mpr h9)
      obtain ⟨M4, M5⟩ := M3 hi hd
      cases hN : NUM t (sgnp t k) with
      | none =>
        obtain ⟨k', r, e1, e2⟩ := M4 hN
        exact Or.inl ⟨rfl, k', r, e1, e2⟩
      | some q =>
        obtain ⟨D, p, k'⟩ := q
        obtain ⟨e1, e2, e3, e4, c, e5⟩ := M5 D p k' hN
        exact Or.inr (Or.inr (Or.inl ⟨rfl, e1, e2, e3, e4, c, e5⟩))
theorem ew_inf {t : Nat → Nat} {k : Nat} : ew t k wInf = true ↔ (ik t k = some (k + 3) ∧ isl (t (k + 3)) = false) := by
  unfold ew ik
  rw [Bool.and_eq_true, show wInf.length = 3 from rfl]
  constructor
  · rintro ⟨h1, h2⟩
    have h3 : isl (t (k + 3)) = false := by
      cases h : isl (t (k + 3))
      · rfl
      · rw [h] at h2
        exact absurd h2 (by decide)
    refine ⟨?_, h3⟩
    rw [if_neg, if_pos h1]
    intro h9
    have := pm_t.mp h9 3 (by decide)
    rw [this] at h3
    exact absurd h3 (by decide)
  · rintro ⟨h1, h2⟩
    rw [h2]
    refine ⟨?_, rfl⟩
    by_cases h3 : pm t k wInfinity = true
    · rw [if_pos h3] at h1
      simp at h1
    · rw [if_neg h3] at h1
      cases h4 : pm t k wInf
      · rw [h4, if_neg (by decide)] at h1
        cases h1
      · rfl
theorem ew_infinity {t : Nat → Nat} {k : Nat} : ew t k wInfinity = true ↔ (ik t k = some (k + 8) ∧ isl (t (k + 8)) = false) := by
  unfold ew ik
  rw [Bool.and_eq_true, show wInfinity.length = 8 from rfl]
  constructor
  · rintro ⟨h1, h2⟩
    have h3 : isl (t (k + 8)) = false := by
      cases h : isl (t (k + 8))
      · rfl
      · rw [h] at h2
        exact absurd h2 (by decide)
    refine ⟨?_, h3⟩
    rw [if_pos h1]
  · rintro ⟨h1, h2⟩
    rw [h2]
    refine ⟨?_, rfl⟩
    by_cases h3 : pm t k wInfinity = true
    · exact h3
    · rw [if_neg h3] at h1
      by_cases h4 : pm t k wInf = true
      · rw [if_pos h4] at h1
        simp at h1
      · rw [if_neg h4] at h1
        cases h1
theorem ik_38 {t : Nat → Nat} {k k' : Nat} (h : ik t k = some k') : k' = k + 3 ∨ k' = k + 8 := by
  unfold ik at h
  by_cases h3 : pm t k wInfinity = true
  · rw [if_pos h3] at h
    cases h
    exact Or.inr rfl
  · rw [if_neg h3] at h
    by_cases h4 : pm t k wInf = true
    · rw [if_pos h4] at h
      cases h
      exact Or.inl rfl
    · rw [if_neg h4] at h
      cases h
theorem rinf_55 {t : Nat → Nat} {S : Nat} (hT : Tx t S) {g6 : Nat → Int32} (hR : SeenR g6 S t) {k from' : Nat} (hk : k ≤ S) (dn : Bool) : (∀ k', ik t k = some k' → isl (t k') = false → f_Ref_infinity_55 (nI k) (nI from') (bI dn) g6 (nI S) (nI from') = some (if dn = true then (-1 : Int32) else (1 : Int32), nI k')) ∧ ((ik t k = none ∨ ∃ k', ik t k = some k' ∧ isl (t k') = true) → f_Ref_infinity_55 (nI k) (nI from') (bI dn) g6 (nI S) (nI from') = some ((0 : Int32), nI from')) := by
  obtain ⟨n, w1, w2, w3⟩ := word_ex hT hk
  have W := word_ok hT hR w1 w2 w3
  have e1 := wvc_eq w1 w2 w3 (xs := wInf) (by decide) (by decide) (C := 9670) (by decide)
  have e2 := wvc_eq w1 w2 w3 (xs := wInfinity) (by decide) (by decide) (C := 324481263257) (by decide)
  have P : ∀ k' : Int32, f_Ref_infinity_109 (nI from') (bI dn) g6 (nI S) k' = some (if dn = true then (-1 : Int32) else (1 : Int32), k') := fun k' => by
    unfold f_Ref_infinity_109 f_Ref_infinity_114 f_Ref_infinity_130 f_Ref_infinity_151
    rw [if_neg (by decide), if_neg (by decide)]
    cases dn
    · rw [if_pos (show bI false = 0 from rfl), if_neg (by decide)]
    · rw [if_neg (show ¬ bI true = 0 by decide), if_pos rfl]
  have sI : f_Ref_spelt (105 : Int32) (110 : Int32) (102 : Int32) = some (lN 9670) := by decide
  have sY : f_Ref_speltSix (105 : Int32) (110 : Int32) (102 : Int32) (105 : Int32) (110 : Int32) (105 : Int32) = some (lN 316876233) := by decide
  have sZ : ((lN 316876233 * (1024 : Int64)) + (640 : Int64)) + (25 : Int64) = lN 324481263257 := by decide
  unfold f_Ref_infinity_55
  rw [W, Option.bind_some, jl_, sI, Option.bind_some]
  constructor
  · intro k' h1 h2
    rcases ik_38 h1 with h3 | h3
    · subst h3
      have h4 := ew_inf.mpr ⟨h1, h2⟩
      have h5 := ew_n w2 w3 (by decide) h4
      rw [if_pos (e1.mpr ⟨h4, h5⟩), P, h5]
      rfl
    · subst h3
      have h4 := ew_infinity.mpr ⟨h1, h2⟩
      have h5 := ew_n w2 w3 (by decide) h4
      rw [if_neg (fun h9 => by
        have h6 := (e1.mp h9).2
        rw [h5] at h6
        exact absurd h6 (by decide)), sY, Option.bind_some, sZ, if_pos (e2.mpr ⟨h4, h5⟩), P, h5]
      rfl
  · intro h
    have n1 : ¬ ew t k wInf = true := by
      intro h9
      have h8 := ew_inf.mp h9
      rcases h with h | ⟨k', h, h'⟩
      · rw [h8.1] at h; cases h
      · rw [h8.1] at h
        cases h
        rw [h8.2] at h'
        cases h'
    have n2 : ¬ ew t k wInfinity = true := by
      intro h9
      have h8 := ew_infinity.mp h9
      rcases h with h | ⟨k', h, h'⟩
      · rw [h8.1] at h; cases h
      · rw [h8.1] at h
        cases h
        rw [h8.2] at h'
        cases h'
    rw [if_neg (fun h9 => n1 (e1.mp h9).1), sY, Option.bind_some, sZ, if_neg (fun h9 => n2 (e2.mp h9).1)]
    unfold f_Ref_infinity_114 f_Ref_infinity_130 f_Ref_infinity_151
    rw [if_pos rfl, if_pos rfl]
theorem rinf_0 {t : Nat → Nat} {S : Nat} (hT : Tx t S) {g6 : Nat → Int32} (hR : SeenR g6 S t) {k : Nat} (hk : k ≤ S) : f_Ref_infinity g6 (nI S) (nI k) = f_Ref_infinity_55 (nI (sgnp t k)) (nI k) (bI (decide (t k = 45))) g6 (nI S) (nI k) := by
  have hS := hT.hS
  have u := hT.up k
  unfold f_Ref_infinity f_Ref_infinity_0 f_Ref_infinity_23 f_Ref_infinity_42
  rw [hR k (by omega), Option.bind_some]
  by_cases h45 : t k = 45
  · have e1 : sgnp t k = k + 1 := by unfold sgnp; rw [if_pos (Or.inl h45)]
    rw [if_pos (show nI (t k) = (45 : Int32) by rw [h45]; rfl), if_neg (by decide), e1, decide_eq_true h45, show nI k + (1 : Int32) = nI (k + 1) from nI_add k 1]
    rfl
  · rw [if_neg (show ¬ nI (t k) = (45 : Int32) from fun h9 => h45 ((nI_eq (b := 45) (by omega) (by decide)).mp h9)), if_pos rfl, Option.bind_some, decide_eq_false h45]
    by_cases h43 : t k = 43
    · have e1 : sgnp t k = k + 1 := by unfold sgnp; rw [if_pos (Or.inr h43)]
      rw [if_pos (show nI (t k) = (43 : Int32) by rw [h43]; rfl), e1, show nI k + (1 : Int32) = nI (k + 1) from nI_add k 1]
      rfl
    · have e1 : sgnp t k = k := by unfold sgnp; rw [if_neg (by omega)]
      rw [if_neg (show ¬ nI (t k) = (43 : Int32) from fun h9 => h43 ((nI_eq (b := 43) (by omega) (by decide)).mp h9)), e1]
      rfl
/-- what the reference reads as an end: its infinity, and where that is 0 its decimalHere -/
theorem rend_ok {t : Nat → Nat} {S : Nat} (hT : Tx t S) {g6 : Nat → Int32} (hR : SeenR g6 S t) {k : Nat} (hk : k ≤ S) (x14 x16 : Int32) (x15 : Int64) :
    (((EN t k).1 = 0 ∨ (EN t k).1 = 1 ∨ (EN t k).1 = 5) ∧ f_Ref_infinity g6 (nI S) (nI k) = some ((0 : Int32), nI k) ∧ ∃ k' D p, f_Ref_decimalHere g6 (nI S) (nI k) x14 x15 x16 = some ((0 : Int32), k', bI (decide (t k = 45)), D, p)) ∨
    ((EN t k).1 = 2 ∧ f_Ref_infinity g6 (nI S) (nI k) = some ((0 : Int32), nI k) ∧ f_Ref_decimalHere g6 (nI S) (nI k) x14 x15 x16 = some ((1 : Int32), nI (EN t k).2.2.2, bI (decide (t k = 45)), lN (EN t k).2.1, zI (EN t k).2.2.1)) ∨
    ((EN t k).1 = 3 ∧ f_Ref_infinity g6 (nI S) (nI k) = some ((-1 : Int32), nI (EN t k).2.2.2)) ∨
    ((EN t k).1 = 4 ∧ f_Ref_infinity g6 (nI S) (nI k) = some ((1 : Int32), nI (EN t k).2.2.2)) := by
  have h1 := sgnp_le hT hk
  obtain ⟨M1, M2⟩ := rinf_55 hT hR (k := sgnp t k) (from' := k) h1.2 (decide (t k = 45))
  rw [← rinf_0 hT hR hk] at M1 M2
  have N := rdh_ok hT hR hk (g14 := x14) (g16 := x16) (g15 := x15)
  unfold EN
  cases hi : ik t (sgnp t k) with
  | some k' =>
    simp only
    cases hl : isl (t k')
    · rw [if_neg (by decide)]
      have hr := M1 k' hi hl
      by_cases h45 : t k = 45
      · rw [if_pos h45]
        rw [decide_eq_true h45, if_pos rfl] at hr
        exact Or.inr (Or.inr (Or.inl ⟨rfl, hr⟩))
      · rw [if_neg h45]
        rw [decide_eq_false h45, if_neg (by decide)] at hr
        exact Or.inr (Or.inr (Or.inr ⟨rfl, hr⟩))
    · rw [if_pos rfl]
      have hr := M2 (Or.inr ⟨k', hi, hl⟩)
      have h105 := (ik_S hT hi).2
      have hN : NUM t (sgnp t k) = none := NUM_none (by rw [h105]; decide) (by rw [h105]; decide)
      rcases N with ⟨D, p, k2, n1, n2⟩ | ⟨n1, n2⟩
      · rw [hN] at n1
        cases n1
      · exact Or.inl ⟨Or.inr (Or.inr rfl), hr, n2⟩
  | none =>
    simp only
    have hr := M2 (Or.inl hi)
    by_cases hn : sgnp t k = k ∧ t k ≠ 46 ∧ isd (t k) = false
    · rw [if_pos hn]
      have hN : NUM t (sgnp t k) = none := by rw [hn.1]; exact NUM_none hn.2.1 hn.2.2
      rcases N with ⟨D, p, k2, n1, n2⟩ | ⟨n1, n2⟩
      · rw [hN] at n1
        cases n1
      · exact Or.inl ⟨Or.inr (Or.inl rfl), hr, n2⟩
    · rw [if_neg hn]
      rcases N with ⟨D, p, k2, n1, n2⟩ | ⟨n1, n2⟩
      · rw [n1]
        exact Or.inr (Or.inl ⟨rfl, hr, n2⟩)
      · rw [n1]
        exact Or.inl ⟨Or.inl rfl, hr, n2⟩
