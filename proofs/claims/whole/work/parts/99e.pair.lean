-- the inside of the brackets
def BM (l h : Int) : Nat := if l.natAbs < INF ∧ h.natAbs < INF then 4 else 3
theorem bnd_ok {l h : Int} {m : Int32} (hl : l.natAbs ≤ INF) (hh : h.natAbs ≤ INF) (hlh : l ≤ h) : f_Cell_isBounded (lZ l) (lZ h) m = some (bI (decide (l.natAbs < INF ∧ h.natAbs < INF))) := by
  have hI : INF = 9218868437227405312 := rfl
  unfold f_Cell_isBounded f_Cell_isBounded_0 f_Cell_isBounded_36 f_Cell_isBounded_37
  rw [if_neg (fun h9 => by have := (l_lt (by omega) (by omega) (by omega) (by omega)).mp h9; omega), isFin_ok hl, Option.bind_some]
  by_cases h1 : l.natAbs < INF
  · rw [decide_eq_true h1, if_neg (show ¬ bI true = 0 by decide), isFin_ok hh, Option.bind_some]
    by_cases h2 : h.natAbs < INF
    · rw [decide_eq_true h2, if_neg (show ¬ bI true = 0 by decide), if_pos (by decide), decide_eq_true ⟨h1, h2⟩]
      rfl
    · rw [decide_eq_false h2, if_pos (show bI false = 0 from rfl), if_pos (by decide), decide_eq_false (fun h => h2 h.2)]
      rfl
  · rw [decide_eq_false h1, if_pos (show bI false = 0 from rfl), if_pos (by decide), decide_eq_false (fun h => h1 h.1)]
    rfl
theorem strong_ok {l h : Int} (hl : l.natAbs ≤ INF) (hh : h.natAbs ≤ INF) (hlh : l ≤ h) : f_Rd_strongest (lZ l) (lZ h) = some (lZ l, lZ h, nI (BM l h)) := by
  unfold f_Rd_strongest f_Rd_strongest_0 f_Cell_value f_Cell_value_0 f_Cell_value_48 f_Cell_value_50
  rw [show j_minI (4 : Int32) (4 : Int32) = 4 by decide, jl_, if_pos (by decide), bnd_ok hl hh hlh, Option.bind_some]
  unfold BM
  by_cases h1 : l.natAbs < INF ∧ h.natAbs < INF
  · rw [decide_eq_true h1, if_neg (show ¬ bI true = 0 by decide), if_pos h1]
    rfl
  · rw [decide_eq_false h1, if_pos (show bI false = 0 from rfl), if_neg h1]
    rfl
def lok (left : Option (Bool × Nat × Int)) (n : Bool) (D : Nat) (p : Int) : Bool := match left with
  | none => true
  | some (n1, D1, p1) => ORD n1 D1 p1 n D p
def SEC (t : Nat → Nat) (l : Int) (left : Option (Bool × Nat × Int)) (k2 : Nat) : Option (Int × Int × Nat) :=
  if (EN t (sp t 60 k2)).1 = 2 then (if t (sp t 60 (EN t (sp t 60 k2)).2.2.2) = 93 ∧ lok left (decide (t (sp t 60 k2) = 45)) (EN t (sp t 60 k2)).2.1 (EN t (sp t 60 k2)).2.2.1 = true then some (l, DEC (decide (t (sp t 60 k2) = 45)) (EN t (sp t 60 k2)).2.1 (EN t (sp t 60 k2)).2.2.1 1, sp t 60 (EN t (sp t 60 k2)).2.2.2 + 1) else none)
  else if (EN t (sp t 60 k2)).1 = 4 then (if t (sp t 60 (EN t (sp t 60 k2)).2.2.2) = 93 then some (l, (INF : Int), sp t 60 (EN t (sp t 60 k2)).2.2.2 + 1) else none)
  else if (EN t (sp t 60 k2)).1 = 1 then (if t (sp t 60 k2) = 93 then some (l, (INF : Int), sp t 60 k2 + 1) else none)
  else none
def PR (t : Nat → Nat) (k : Nat) : Option (Int × Int × Nat) :=
  if (EN t k).1 = 2 then (if t (sp t 60 (EN t k).2.2.2) = 93 then some (DEC (decide (t k = 45)) (EN t k).2.1 (EN t k).2.2.1 0, DEC (decide (t k = 45)) (EN t k).2.1 (EN t k).2.2.1 1, sp t 60 (EN t k).2.2.2 + 1) else if t (sp t 60 (EN t k).2.2.2) = 44 then SEC t (DEC (decide (t k = 45)) (EN t k).2.1 (EN t k).2.2.1 0) (some (decide (t k = 45), (EN t k).2.1, (EN t k).2.2.1)) (sp t 60 (EN t k).2.2.2 + 1) else none)
  else if (EN t k).1 = 3 then (if t (sp t 60 (EN t k).2.2.2) = 44 then SEC t (-(INF : Int)) none (sp t 60 (EN t k).2.2.2 + 1) else none)
  else if (EN t k).1 = 1 then (if t k = 44 then SEC t (-(INF : Int)) none (k + 1) else none)
  else none
theorem sp_id {t : Nat → Nat} {k : Nat} (h : t k ≠ 32) : sp t 60 k = k := by
  show sp t (59 + 1) k = k
  rw [sp, if_neg h]
/-- the left end as the class holds it -/
def LeftC (left : Option (Bool × Nat × Int)) (l : Int) (v1 : Int32) (g7 : Int32) (g8 : Int64) (g10 : Int32) : Prop := (left = none ∧ l = -(INF : Int) ∧ (v1 = (1 : Int32) ∨ v1 = (3 : Int32))) ∨ ∃ n D p, left = some (n, D, p) ∧ l = DEC n D p 0 ∧ v1 = (2 : Int32) ∧ g7 = bI n ∧ g8 = lN D ∧ g10 = zI p ∧ D < 1000000000000000000 ∧ -40 ≤ p ∧ p ≤ 40
theorem cfin_ok {left : Option (Bool × Nat × Int)} {l h : Int} {v1 v2 g4 g5 : Int32} {g6 : Nat → Int32} {g7 : Int32} {g8 : Int64} {g9 g10 : Int32} {g11 : Nat → Int32} {g12 : Int32} {g13 : Int64} {g14 g15 : Int32} {g16 : Nat → Int32} (hL : LeftC left l v1 g7 g8 g10) (hH : (v2 ≠ (2 : Int32) ∧ h = (INF : Int)) ∨ ∃ n D p, v2 = (2 : Int32) ∧ h = DEC n D p 1 ∧ g12 = bI n ∧ g13 = lN D ∧ g15 = zI p ∧ D < 1000000000000000000 ∧ -40 ≤ p ∧ p ≤ 40) (hlh : l ≤ h) (hl : l.natAbs ≤ INF) (hh : h.natAbs ≤ INF) : ∃ r, f_Rd_readEnds_128 v1 v2 g4 g5 g6 g7 g8 g9 g10 g11 g12 g13 g14 g15 g16 = some (lZ l, lZ h, nI (BM l h), g5, r) := by
  have K147 : ∀ g11' : Nat → Int32, ∃ r, f_Rd_readEnds_147 (lZ l) v2 g4 g5 g6 g7 g8 g9 g10 g11' g12 g13 g14 g15 g16 = some (lZ l, lZ h, nI (BM l h), g5, r) := fun g11' => by
    unfold f_Rd_readEnds_147 f_Rd_readEnds_168
    rcases hH with ⟨h1, h2⟩ | ⟨n, D, p, h1, h2, h3, h4, h5, h6, h7, h8⟩
    · rw [if_neg h1, show (9218868437227405312 : Int64) = lZ (INF : Int) from rfl, ← h2, strong_ok hl hh hlh, Option.bind_some]
      exact ⟨_, rfl⟩
    · obtain ⟨g', e⟩ := cdec_ok (neg := n) (D := D) (how := 1) (p := p) (by decide) (by omega) h7 h8 g16
      rw [if_pos h1, h3, h4, h5, show f_Num_rounded (1 : Int32) (bI n) (lN D) (zI p) g16 = _ from e, Option.bind_some, ← h2, strong_ok hl hh hlh, Option.bind_some]
      exact ⟨_, rfl⟩
  unfold f_Rd_readEnds_128
  rcases hL with ⟨_, h2, h3⟩ | ⟨n, D, p, _, h2, h1, h3, h4, h5, h6, h7, h8⟩
  · rw [if_neg (by rcases h3 with h3 | h3 <;> rw [h3] <;> decide), show (-9218868437227405312 : Int64) = lZ (-(INF : Int)) by decide, ← h2]
    exact K147 g11
  · obtain ⟨g', e⟩ := cdec_ok (neg := n) (D := D) (how := 0) (p := p) (by decide) (by omega) h7 h8 g11
    have e2 : f_Num_rounded (-1 : Int32) g7 g8 g10 g11 = some (lZ l, g') := by
      rw [h3, h4, h5, h2]
      exact e
    rw [if_pos h1, e2, Option.bind_some]
    exact K147 g'
theorem LeftC.abs {left : Option (Bool × Nat × Int)} {l : Int} {v1 g7 : Int32} {g8 : Int64} {g10 : Int32} (h : LeftC left l v1 g7 g8 g10) : l.natAbs ≤ INF ∧ l < INF := by
  have hI : INF = 9218868437227405312 := rfl
  rcases h with ⟨_, h2, _⟩ | ⟨n, D, p, _, h2, _⟩
  · omega
  · rw [h2]
    exact ⟨DEC_abs _ _ _ _, DEC_lt0 _ _ _⟩
/-- behind the first end -/
theorem csec_ok {t : Nat → Nat} {S : Nat} (hT : Tx t S) {g : Nat → Int32} (hC : SeenC g S t) {k : Nat} (hk : k ≤ S) {left : Option (Bool × Nat × Int)} {l : Int} {v1 : Int32} {g7 : Int32} {g8 : Int64} {g9 g10 : Int32} {g11 : Nat → Int32} {g12 : Int32} {g13 : Int64} {g14 g15 : Int32} {g16 : Nat → Int32} (hL : LeftC left l v1 g7 g8 g10) (h44 : t (sp t 60 k) = 44) :
    (∀ h k', SEC t l left (sp t 60 k + 1) = some (l, h, k') → k' ≤ S ∧ h.natAbs ≤ INF ∧ l ≤ h ∧ -(INF : Int) < h ∧ ∃ r, f_Rd_readEnds_41 v1 (nI S) (nI k) g g7 g8 g9 g10 g11 g12 g13 g14 g15 g16 = some (lZ l, lZ h, nI (BM l h), nI k', r)) ∧
    (SEC t l left (sp t 60 k + 1) = none → ∃ k' r, f_Rd_readEnds_41 v1 (nI S) (nI k) g g7 g8 g9 g10 g11 g12 g13 g14 g15 g16 = some ((0 : Int64), (0 : Int64), (0 : Int32), k', r)) := by
  have hI : INF = 9218868437227405312 := rfl
  have hS := hT.hS
  have hLa := hL.abs
  have hks := sp_le hT 60 k hk
  have hlt := hT.lt (k := sp t 60 k) (by omega)
  have hk3 := sp_le hT 60 (sp t 60 k + 1) (by omega)
  have hk3n := sp_n hT 60 (sp t 60 k + 1) (by omega) (by omega)
  have hv : v1 ≠ 0 ∧ v1 ≠ (4 : Int32) := by
    rcases hL with ⟨_, _, h3⟩ | ⟨_, _, _, _, _, h1, _⟩
    · rcases h3 with h3 | h3 <;> rw [h3] <;> exact ⟨by decide, by decide⟩
    · rw [h1]; exact ⟨by decide, by decide⟩
  unfold SEC
  obtain ⟨k3, hk3e⟩ : ∃ k3, k3 = sp t 60 (sp t 60 k + 1) := ⟨_, rfl⟩
  have ea : adv t 44 (sp t 60 k) = sp t 60 k + 1 := by unfold adv; rw [if_pos h44]
  have E1 : f_Rd_readEnds_41 v1 (nI S) (nI k) g g7 g8 g9 g10 g11 g12 g13 g14 g15 g16 = (f_Rd_readEnd (nI S) (nI k3) g g12 g13 g14 g15).bind fun r7 => jlet r7.1 fun t8 => (if t8 = 0 then f_Rd_readEnds_96 (nI S) r7.2.1 g g7 g8 g9 g10 g11 r7.2.2.1 r7.2.2.2.1 r7.2.2.2.2.1 r7.2.2.2.2.2 g16 else (if t8 = (3 : Int32) then f_Rd_readEnds_96 (nI S) r7.2.1 g g7 g8 g9 g10 g11 r7.2.2.1 r7.2.2.2.1 r7.2.2.2.2.1 r7.2.2.2.2.2 g16 else (f_Rd_takeClosing (nI S) r7.2.1 g).bind fun r11 => (if r11.1 = 0 then f_Rd_readEnds_96 (nI S) r11.2 g g7 g8 g9 g10 g11 r7.2.2.1 r7.2.2.2.1 r7.2.2.2.2.1 r7.2.2.2.2.2 g16 else (if v1 = (2 : Int32) then (if t8 = (2 : Int32) then (f_Num_isGreaterThan g7 g8 g10 r7.2.2.1 r7.2.2.2.1 r7.2.2.2.2.2).bind fun r15 => (if r15 = 0 then f_Rd_readEnds_128 v1 t8 (nI S) r11.2 g g7 g8 g9 g10 g11 r7.2.2.1 r7.2.2.2.1 r7.2.2.2.2.1 r7.2.2.2.2.2 g16 else (f_Cell_ill ).bind fun r17 => some (r17.1, r17.2.1, r17.2.2, r11.2, g7, g8, g9, g10, g11, r7.2.2.1, r7.2.2.2.1, r7.2.2.2.2.1, r7.2.2.2.2.2, g16)) else f_Rd_readEnds_128 v1 t8 (nI S) r11.2 g g7 g8 g9 g10 g11 r7.2.2.1 r7.2.2.2.1 r7.2.2.2.2.1 r7.2.2.2.2.2 g16) else f_Rd_readEnds_128 v1 t8 (nI S) r11.2 g g7 g8 g9 g10 g11 r7.2.2.1 r7.2.2.2.1 r7.2.2.2.2.1 r7.2.2.2.2.2 g16)))) := by
    unfold f_Rd_readEnds_41
    rw [csp_ok hT hC hk, Option.bind_some, if_neg hv.1, if_neg hv.2, show (44 : Int32) = nI 44 from rfl, take_ok hT hC (by omega) (by decide), Option.bind_some, decide_eq_true h44]
    simp only [ea]
    rw [if_neg (show ¬ bI true = 0 by decide), csp_ok hT hC (by omega), Option.bind_some, ← hk3e]
  rw [← hk3e] at hk3 hk3n ⊢
  rw [E1]
  have cl0 : ∀ k', k' ≤ S → t (sp t 60 k') = 93 → sp t 60 k' + 1 ≤ S := fun k' hk' h9 => by
    have := hT.lt (k := sp t 60 k') (by omega)
    omega
  rcases cend_ok hT hC hk3.2 g12 g13 g14 g15 with ⟨c0, k', r, e, _⟩ | ⟨c0, c1, r, e⟩ | ⟨c0, c1, c2, c3, c4, c, e⟩ | ⟨c0, c1, r, e⟩ | ⟨c0, c1, r, e⟩ | ⟨c0, c1, c2, ct, r, e, hct⟩
  · rw [e, Option.bind_some, jl_, if_pos rfl, if_neg (by omega), if_neg (by omega), if_neg (by omega)]
    exact ⟨fun _ _ h9 => (by cases h9), fun _ => ⟨_, _, rfl⟩⟩
  · rw [e, Option.bind_some, jl_, if_neg (show ¬ (1 : Int32) = 0 by decide), if_neg (show ¬ (1 : Int32) = 3 by decide), clos_ok hT hC hk3.2, Option.bind_some, sp_id hk3n, if_neg (by omega), if_neg (by omega), if_pos c0]
    by_cases h9 : t k3 = 93
    · have ea2 : adv t 93 k3 = k3 + 1 := by unfold adv; rw [if_pos h9]
      have hlt3 := hT.lt (k := k3) (by omega)
      rw [if_pos h9, decide_eq_true h9]
      simp only [ea2]
      rw [if_neg (show ¬ bI true = 0 by decide)]
      refine ⟨fun h k' h8 => ?_, fun h8 => by cases h8⟩
      cases h8
      refine ⟨by omega, by omega, by omega, by omega, ?_⟩
      have F := cfin_ok (left := left) (l := l) (h := (INF : Int)) (v1 := v1) (v2 := (1 : Int32)) (g4 := nI S) (g5 := nI (k3 + 1)) (g6 := g) (g9 := g9) (g11 := g11) (g12 := r.1) (g13 := r.2.1) (g14 := r.2.2.1) (g15 := r.2.2.2) (g16 := g16) hL (Or.inl ⟨by decide, rfl⟩) (by omega) hLa.1 (by omega)
      by_cases hv2 : v1 = (2 : Int32)
      · rw [if_pos hv2, if_neg (show ¬ (1 : Int32) = 2 by decide)]
        exact F
      · rw [if_neg hv2]
        exact F
    · rw [if_neg h9, decide_eq_false h9]
      rw [if_pos (show bI false = 0 from rfl)]
      exact ⟨fun _ _ h8 => (by cases h8), fun _ => ⟨_, _, rfl⟩⟩
  · rw [e, Option.bind_some, jl_, if_neg (show ¬ (2 : Int32) = 0 by decide), if_neg (show ¬ (2 : Int32) = 3 by decide), clos_ok hT hC c1, Option.bind_some, if_pos c0]
    by_cases h9 : t (sp t 60 (EN t k3).2.2.2) = 93
    · have ea2 : adv t 93 (sp t 60 (EN t k3).2.2.2) = sp t 60 (EN t k3).2.2.2 + 1 := by unfold adv; rw [if_pos h9]
      have hb := cl0 _ c1 h9
      rw [decide_eq_true h9]
      simp only [ea2]
      rw [if_neg (show ¬ bI true = 0 by decide)]
      have habs := DEC_abs (decide (t k3 = 45)) (EN t k3).2.1 (EN t k3).2.2.1 1
      have hgt := DEC_gt1 (decide (t k3 = 45)) (EN t k3).2.1 (EN t k3).2.2.1
      have F : l ≤ DEC (decide (t k3 = 45)) (EN t k3).2.1 (EN t k3).2.2.1 1 → ∃ r, f_Rd_readEnds_128 v1 (2 : Int32) (nI S) (nI (sp t 60 (EN t k3).2.2.2 + 1)) g g7 g8 g9 g10 g11 (bI (decide (t k3 = 45))) (lN (EN t k3).2.1) c (zI (EN t k3).2.2.1) g16 = some (lZ l, lZ (DEC (decide (t k3 = 45)) (EN t k3).2.1 (EN t k3).2.2.1 1), nI (BM l (DEC (decide (t k3 = 45)) (EN t k3).2.1 (EN t k3).2.2.1 1)), nI (sp t 60 (EN t k3).2.2.2 + 1), r) := fun hle => cfin_ok hL (Or.inr ⟨_, _, _, rfl, rfl, rfl, rfl, rfl, c2, c3, c4⟩) hle hLa.1 habs
      have hL2 := hL
      rcases hL2 with ⟨l1, l2, l3⟩ | ⟨n, D, p, l1, l2, l3, l4, l5, l6, l7, l8, l9⟩
      · have hv2 : v1 ≠ (2 : Int32) := by rcases l3 with l3 | l3 <;> rw [l3] <;> decide
        rw [if_neg hv2, if_pos ⟨h9, by rw [l1]; rfl⟩]
        refine ⟨fun h k' h8 => ?_, fun h8 => by cases h8⟩
        cases h8
        have hle : l ≤ DEC (decide (t k3 = 45)) (EN t k3).2.1 (EN t k3).2.2.1 1 := by omega
        exact ⟨by omega, habs, hle, hgt, F hle⟩
      · have G := greater_ok (n1 := n) (n2 := decide (t k3 = 45)) (D1 := D) (D2 := (EN t k3).2.1) (q1 := p) (q2 := (EN t k3).2.2.1) l7 c2 l8 l9 c3 c4
        rw [← l4, ← l5, ← l6] at G
        rw [if_pos l3, if_pos trivial, G, Option.bind_some]
        cases ho : ORD n D p (decide (t k3 = 45)) (EN t k3).2.1 (EN t k3).2.2.1
        · rw [if_neg (show ¬ bI (!false) = 0 by decide), if_neg (fun h8 => by have h7 := h8.2; rw [l1] at h7; unfold lok at h7; simp only at h7; rw [ho] at h7; cases h7)]
          exact ⟨fun _ _ h8 => (by cases h8), fun _ => ⟨_, _, rfl⟩⟩
        · rw [if_pos (show bI (!true) = 0 by decide), if_pos ⟨h9, by rw [l1]; unfold lok; simp only; exact ho⟩]
          refine ⟨fun h k' h8 => ?_, fun h8 => by cases h8⟩
          cases h8
          have hle : l ≤ DEC (decide (t k3 = 45)) (EN t k3).2.1 (EN t k3).2.2.1 1 := by
            rw [l2]
            exact dec_mono l8 l9 c3 c4 ho
          exact ⟨by omega, habs, hle, hgt, F hle⟩
    · rw [decide_eq_false h9, if_pos (show bI false = 0 from rfl), if_neg (fun h8 => h9 h8.1)]
      exact ⟨fun _ _ h8 => (by cases h8), fun _ => ⟨_, _, rfl⟩⟩
  · rw [e, Option.bind_some, jl_, if_neg (show ¬ (3 : Int32) = 0 by decide), if_pos (show (3 : Int32) = 3 from rfl), if_neg (by omega), if_neg (by omega), if_neg (by omega)]
    exact ⟨fun _ _ h8 => (by cases h8), fun _ => ⟨_, _, rfl⟩⟩
  · rw [e, Option.bind_some, jl_, if_neg (show ¬ (4 : Int32) = 0 by decide), if_neg (show ¬ (4 : Int32) = 3 by decide), clos_ok hT hC c1, Option.bind_some, if_neg (by omega), if_pos c0]
    by_cases h9 : t (sp t 60 (EN t k3).2.2.2) = 93
    · have ea2 : adv t 93 (sp t 60 (EN t k3).2.2.2) = sp t 60 (EN t k3).2.2.2 + 1 := by unfold adv; rw [if_pos h9]
      have hb := cl0 _ c1 h9
      rw [if_pos h9, decide_eq_true h9]
      simp only [ea2]
      rw [if_neg (show ¬ bI true = 0 by decide)]
      refine ⟨fun h k' h8 => ?_, fun h8 => by cases h8⟩
      cases h8
      refine ⟨by omega, by omega, by omega, by omega, ?_⟩
      have F := cfin_ok (left := left) (l := l) (h := (INF : Int)) (v1 := v1) (v2 := (4 : Int32)) (g4 := nI S) (g5 := nI (sp t 60 (EN t k3).2.2.2 + 1)) (g6 := g) (g9 := g9) (g11 := g11) (g12 := r.1) (g13 := r.2.1) (g14 := r.2.2.1) (g15 := r.2.2.2) (g16 := g16) hL (Or.inl ⟨by decide, rfl⟩) (by omega) hLa.1 (by omega)
      by_cases hv2 : v1 = (2 : Int32)
      · rw [if_pos hv2, if_neg (show ¬ (4 : Int32) = 2 by decide)]
        exact F
      · rw [if_neg hv2]
        exact F
    · rw [if_neg h9, decide_eq_false h9, if_pos (show bI false = 0 from rfl)]
      exact ⟨fun _ _ h8 => (by cases h8), fun _ => ⟨_, _, rfl⟩⟩
  · rw [e, Option.bind_some, jl_, if_neg (by omega), if_neg (by omega), if_neg (by omega)]
    have hlet := isl_t.mp c2
    rcases hct with hct | hct
    · rw [hct, if_neg (show ¬ (3 : Int32) = 0 by decide), if_pos (show (3 : Int32) = 3 from rfl)]
      exact ⟨fun _ _ h8 => (by cases h8), fun _ => ⟨_, _, rfl⟩⟩
    · rw [hct, if_neg (show ¬ (4 : Int32) = 0 by decide), if_neg (show ¬ (4 : Int32) = 3 by decide), clos_ok hT hC c1, Option.bind_some, sp_id (by omega), decide_eq_false (by omega), if_pos (show bI false = 0 from rfl)]
      exact ⟨fun _ _ h8 => (by cases h8), fun _ => ⟨_, _, rfl⟩⟩
theorem PR_no {t : Nat → Nat} {l : Int} {left : Option (Bool × Nat × Int)} {k : Nat} {l' h : Int} {k' : Nat} (hs : SEC t l left k = some (l', h, k')) : l' = l := by
  unfold SEC at hs
  split at hs
  · split at hs
    · cases hs; rfl
    · cases hs
  · split at hs
    · split at hs
      · cases hs; rfl
      · cases hs
    · split at hs
      · split at hs
        · cases hs; rfl
        · cases hs
      · cases hs
theorem cpair_ok {t : Nat → Nat} {S : Nat} (hT : Tx t S) {g : Nat → Int32} (hC : SeenC g S t) {k : Nat} (hk : k ≤ S) (hsp : t k ≠ 32) {g7 : Int32} {g8 : Int64} {g9 g10 : Int32} {g11 : Nat → Int32} {g12 : Int32} {g13 : Int64} {g14 g15 : Int32} {g16 : Nat → Int32} :
    (∀ l h k', PR t k = some (l, h, k') → k' ≤ S ∧ l.natAbs ≤ INF ∧ h.natAbs ≤ INF ∧ l ≤ h ∧ l < INF ∧ -(INF : Int) < h ∧ ∃ r, f_Rd_readEnds (nI S) (nI k) g g7 g8 g9 g10 g11 g12 g13 g14 g15 g16 = some (lZ l, lZ h, nI (BM l h), nI k', r)) ∧
    (PR t k = none → ∃ k' r, f_Rd_readEnds (nI S) (nI k) g g7 g8 g9 g10 g11 g12 g13 g14 g15 g16 = some ((0 : Int64), (0 : Int64), (0 : Int32), k', r)) := by
  have hI : INF = 9218868437227405312 := rfl
  have hS := hT.hS
  have R63 : ∀ (v1 : Int32) (k1 : Nat) (x7 : Int32) (x8 : Int64) (x9 x10 : Int32), k1 ≤ S → (v1 = 0 ∨ v1 = (4 : Int32) ∨ t (sp t 60 k1) ≠ 44) → ∃ k' r, f_Rd_readEnds_41 v1 (nI S) (nI k1) g x7 x8 x9 x10 g11 g12 g13 g14 g15 g16 = some ((0 : Int64), (0 : Int64), (0 : Int32), k', r) := fun v1 k1 x7 x8 x9 x10 hk1 h => by
    unfold f_Rd_readEnds_41 f_Rd_readEnds_63
    rw [csp_ok hT hC hk1, Option.bind_some]
    by_cases h0 : v1 = 0
    · rw [if_pos h0]
      exact ⟨_, _, rfl⟩
    · rw [if_neg h0]
      by_cases h4 : v1 = (4 : Int32)
      · rw [if_pos h4]
        exact ⟨_, _, rfl⟩
      · have h5 : t (sp t 60 k1) ≠ 44 := by
          rcases h with h | h | h
          · exact absurd h h0
          · exact absurd h h4
          · exact h
        have := sp_le hT 60 k1 hk1
        rw [if_neg h4, show (44 : Int32) = nI 44 from rfl, take_ok hT hC (by omega) (by decide), Option.bind_some, decide_eq_false h5, if_pos (show bI false = 0 from rfl)]
        exact ⟨_, _, rfl⟩
  unfold f_Rd_readEnds f_Rd_readEnds_0 PR
  rcases cend_ok hT hC hk g7 g8 g9 g10 with ⟨c0, k', r, e, c1⟩ | ⟨c0, c1, r, e⟩ | ⟨c0, c1, c2, c3, c4, c, e⟩ | ⟨c0, c1, r, e⟩ | ⟨c0, c1, r, e⟩ | ⟨c0, c1, c2, ct, r, e, hct⟩
  · rw [e, Option.bind_some, jl_, if_neg (show ¬ (0 : Int32) = 2 by decide), if_neg (by omega), if_neg (by omega), if_neg (by omega)]
    exact ⟨fun _ _ _ h8 => (by cases h8), fun _ => R63 _ _ _ _ _ _ c1 (Or.inl rfl)⟩
  · rw [e, Option.bind_some, jl_, if_neg (show ¬ (1 : Int32) = 2 by decide), if_neg (by omega), if_neg (by omega), if_pos c0]
    by_cases h44 : t k = 44
    · rw [if_pos h44]
      have M := csec_ok hT hC hk (left := none) (l := -(INF : Int)) (v1 := (1 : Int32)) (g7 := r.1) (g8 := r.2.1) (g9 := r.2.2.1) (g10 := r.2.2.2) (g11 := g11) (g12 := g12) (g13 := g13) (g14 := g14) (g15 := g15) (g16 := g16) (Or.inl ⟨rfl, rfl, Or.inl rfl⟩) (by rw [sp_id hsp]; exact h44)
      rw [sp_id hsp] at M
      refine ⟨fun l h k' h8 => ?_, M.2⟩
      have hl := PR_no h8
      subst hl
      obtain ⟨m1, m2, m3, m4, m5⟩ := M.1 h k' h8
      exact ⟨m1, by omega, m2, m3, by omega, m4, m5⟩
    · rw [if_neg h44]
      exact ⟨fun _ _ _ h8 => (by cases h8), fun _ => R63 _ _ _ _ _ _ hk (Or.inr (Or.inr (by rw [sp_id hsp]; exact h44)))⟩
  · rw [e, Option.bind_some, jl_, if_pos (show (2 : Int32) = 2 from rfl), clos_ok hT hC c1, Option.bind_some, if_pos c0]
    have hks := sp_le hT 60 (EN t k).2.2.2 c1
    have hksn := sp_n hT 60 (EN t k).2.2.2 c1 (by omega)
    by_cases h9 : t (sp t 60 (EN t k).2.2.2) = 93
    · have ea2 : adv t 93 (sp t 60 (EN t k).2.2.2) = sp t 60 (EN t k).2.2.2 + 1 := by unfold adv; rw [if_pos h9]
      have hlt := hT.lt (k := sp t 60 (EN t k).2.2.2) (by omega)
      rw [if_pos h9, decide_eq_true h9]
      simp only [ea2]
      rw [if_neg (show ¬ bI true = 0 by decide)]
      refine ⟨fun l h k' h8 => ?_, fun h8 => (by cases h8)⟩
      cases h8
      have a1 := DEC_abs (decide (t k = 45)) (EN t k).2.1 (EN t k).2.2.1 0
      have a2 := DEC_abs (decide (t k = 45)) (EN t k).2.1 (EN t k).2.2.1 1
      have a3 := DEC_same (decide (t k = 45)) (EN t k).2.1 (EN t k).2.2.1
      refine ⟨by omega, a1, a2, a3, DEC_lt0 _ _ _, DEC_gt1 _ _ _, ?_⟩
      obtain ⟨g1, e1⟩ := cdec_ok (neg := decide (t k = 45)) (D := (EN t k).2.1) (how := 0) (p := (EN t k).2.2.1) (by decide) (by omega) c3 c4 g11
      obtain ⟨g2, e2⟩ := cdec_ok (neg := decide (t k = 45)) (D := (EN t k).2.1) (how := 1) (p := (EN t k).2.2.1) (by decide) (by omega) c3 c4 g1
      rw [show f_Num_rounded (-1 : Int32) (bI (decide (t k = 45))) (lN (EN t k).2.1) (zI (EN t k).2.2.1) g11 = _ from e1, Option.bind_some, show f_Num_rounded (1 : Int32) (bI (decide (t k = 45))) (lN (EN t k).2.1) (zI (EN t k).2.2.1) g1 = _ from e2, Option.bind_some, strong_ok a1 a2 a3, Option.bind_some]
      exact ⟨_, rfl⟩
    · have ea2 : adv t 93 (sp t 60 (EN t k).2.2.2) = sp t 60 (EN t k).2.2.2 := by unfold adv; rw [if_neg h9]
      rw [if_neg h9, decide_eq_false h9]
      simp only [ea2]
      rw [if_pos (show bI false = 0 from rfl)]
      by_cases h44 : t (sp t 60 (EN t k).2.2.2) = 44
      · rw [if_pos h44]
        have a3 := DEC_lt0 (decide (t k = 45)) (EN t k).2.1 (EN t k).2.2.1
        have a1 := DEC_abs (decide (t k = 45)) (EN t k).2.1 (EN t k).2.2.1 0
        have M := csec_ok hT hC hks.2 (left := some (decide (t k = 45), (EN t k).2.1, (EN t k).2.2.1)) (l := DEC (decide (t k = 45)) (EN t k).2.1 (EN t k).2.2.1 0) (v1 := (2 : Int32)) (g7 := bI (decide (t k = 45))) (g8 := lN (EN t k).2.1) (g9 := c) (g10 := zI (EN t k).2.2.1) (g11 := g11) (g12 := g12) (g13 := g13) (g14 := g14) (g15 := g15) (g16 := g16) (Or.inr ⟨_, _, _, rfl, rfl, rfl, rfl, rfl, rfl, c2, c3, c4⟩) (by rw [sp_id hksn]; exact h44)
        rw [sp_id hksn] at M
        refine ⟨fun l h k' h8 => ?_, M.2⟩
        have hl := PR_no h8
        subst hl
        obtain ⟨m1, m2, m3, m4, m5⟩ := M.1 h k' h8
        exact ⟨m1, a1, m2, m3, a3, m4, m5⟩
      · rw [if_neg h44]
        exact ⟨fun _ _ _ h8 => (by cases h8), fun _ => R63 _ _ _ _ _ _ hks.2 (Or.inr (Or.inr (by rw [sp_id hksn]; exact h44)))⟩
  · have hks := sp_le hT 60 (EN t k).2.2.2 c1
    rw [e, Option.bind_some, jl_, if_neg (show ¬ (3 : Int32) = 2 by decide), if_neg (by omega), if_pos c0]
    by_cases h44 : t (sp t 60 (EN t k).2.2.2) = 44
    · rw [if_pos h44]
      have M := csec_ok hT hC c1 (left := none) (l := -(INF : Int)) (v1 := (3 : Int32)) (g7 := r.1) (g8 := r.2.1) (g9 := r.2.2.1) (g10 := r.2.2.2) (g11 := g11) (g12 := g12) (g13 := g13) (g14 := g14) (g15 := g15) (g16 := g16) (Or.inl ⟨rfl, rfl, Or.inr rfl⟩) h44
      refine ⟨fun l h k' h8 => ?_, M.2⟩
      have hl := PR_no h8
      subst hl
      obtain ⟨m1, m2, m3, m4, m5⟩ := M.1 h k' h8
      exact ⟨m1, by omega, m2, m3, by omega, m4, m5⟩
    · rw [if_neg h44]
      exact ⟨fun _ _ _ h8 => (by cases h8), fun _ => R63 _ _ _ _ _ _ c1 (Or.inr (Or.inr h44))⟩
  · rw [e, Option.bind_some, jl_, if_neg (show ¬ (4 : Int32) = 2 by decide), if_neg (by omega), if_neg (by omega), if_neg (by omega)]
    exact ⟨fun _ _ _ h8 => (by cases h8), fun _ => R63 _ _ _ _ _ _ c1 (Or.inr (Or.inl rfl))⟩
  · have hlet := isl_t.mp c2
    rw [e, Option.bind_some, jl_, if_neg (show ¬ ct = 2 by rcases hct with hct | hct <;> rw [hct] <;> decide), if_neg (by omega), if_neg (by omega), if_neg (by omega)]
    exact ⟨fun _ _ _ h8 => (by cases h8), fun _ => R63 _ _ _ _ _ _ c1 (Or.inr (Or.inr (by rw [sp_id (by omega)]; omega)))⟩
