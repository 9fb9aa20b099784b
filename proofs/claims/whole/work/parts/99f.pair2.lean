-- the inside of the brackets, the reference
def RO (F : Option (Int32 × (Nat → Int32) × Int32 × Int64 × Int64 × Int32 × Int32 × Int64 × Int32 × Int32 × Int64 × Int32)) (c : Int32) (l h : Int) (k' : Nat) : Prop := ∃ g8' N' ov' b r, F = some (c, g8', bI ov', lZ l, lZ h, nI k', bI b, r) ∧ Big g8' N'
def RF (F : Option (Int32 × (Nat → Int32) × Int32 × Int64 × Int64 × Int32 × Int32 × Int64 × Int32 × Int32 × Int64 × Int32)) : Prop := ∃ g8' N' ov' x y z b r, F = some ((-1 : Int32), g8', bI ov', x, y, z, bI b, r) ∧ Big g8' N'
def LeftR (left : Option (Bool × Nat × Int)) (l : Int) (v1 : Int32) (g17 : Int32) (g18 : Int64) (g19 : Int32) : Prop := (left = none ∧ l = -(INF : Int) ∧ v1 = (1 : Int32)) ∨ ∃ n D p, left = some (n, D, p) ∧ l = DEC n D p 0 ∧ v1 = (0 : Int32) ∧ g17 = bI n ∧ g18 = lN D ∧ g19 = zI p ∧ D < 1000000000000000000 ∧ -40 ≤ p ∧ p ≤ 40
theorem EN_1 {t : Nat → Nat} {k : Nat} (h1 : t k ≠ 45) (h2 : t k ≠ 43) (h3 : t k ≠ 46) (h4 : isd (t k) = false) (h5 : t k ≠ 105) : EN t k = (1, 0, 0, k) := by
  have e1 : sgnp t k = k := sgnp_k.mpr (by omega)
  have e2 : ik t k = none := by
    unfold ik
    rw [if_neg, if_neg]
    · intro h9
      exact h5 (pm_t.mp h9 0 (by decide))
    · intro h9
      exact h5 (pm_t.mp h9 0 (by decide))
  unfold EN
  rw [e1, e2]
  simp only
  rw [if_pos ⟨trivial, h3, h4⟩]
theorem r241 {t : Nat → Nat} {S : Nat} (hT : Tx t S) {g6 : Nat → Int32} (hR : SeenR g6 S t) {k : Nat} (hk : k ≤ S) {l h : Int} {g8 : Nat → Int32} {N : Nat → Nat} (hB : Big g8 N) {ov b : Bool} {g10 g11 : Int64} {g15 : Int64} {g16 g17 : Int32} {g18 : Int64} {g19 : Int32} : (t (sp t 60 k) = 93 → RO (f_Ref_pair_241 (lZ l) (lZ h) g6 (nI S) g8 (bI ov) g10 g11 (nI k) (bI b) g15 g16 g17 g18 g19) (2 : Int32) l h (sp t 60 k + 1)) ∧ (t (sp t 60 k) ≠ 93 → RF (f_Ref_pair_241 (lZ l) (lZ h) g6 (nI S) g8 (bI ov) g10 g11 (nI k) (bI b) g15 g16 g17 g18 g19)) := by
  have hS := hT.hS
  have hks := sp_le hT 60 k hk
  unfold f_Ref_pair_241 f_Ref_pair_266 f_Ref_result f_Ref_result_0
  rw [rsp_ok hT hR hk, Option.bind_some, Option.bind_some, show (93 : Int32) = nI 93 from rfl, eat_ok hT hR (by omega) (by decide), Option.bind_some]
  constructor
  · intro h9
    have ea : adv t 93 (sp t 60 k) = sp t 60 k + 1 := by unfold adv; rw [if_pos h9]
    rw [decide_eq_true h9]
    simp only [ea]
    rw [if_neg (show ¬ bI true = 0 by decide)]
    exact ⟨g8, N, ov, b, _, rfl, hB⟩
  · intro h9
    rw [decide_eq_false h9, if_pos (show bI false = 0 from rfl)]
    exact ⟨g8, N, ov, _, _, _, b, _, rfl, hB⟩
theorem rsec_ok {t : Nat → Nat} {S : Nat} (hT : Tx t S) {g6 : Nat → Int32} (hR : SeenR g6 S t) {g : Nat → Int32} (hC : SeenC g S t) {k : Nat} (hk : k ≤ S) {left : Option (Bool × Nat × Int)} {l : Int} {v1 : Int32} {g8 : Nat → Int32} {N : Nat → Nat} (hB : Big g8 N) {ov b : Bool} {g10 g11 : Int64} {g15 : Int64} {g16 g17 : Int32} {g18 : Int64} {g19 : Int32} (hL : LeftR left l v1 g17 g18 g19) :
    (t k = 44 → (∀ h k', SEC t l left (k + 1) = some (l, h, k') → RO (f_Ref_pair_134 v1 (lZ l) g6 (nI S) g8 (bI ov) g10 g11 (nI k) (bI b) g15 g16 g17 g18 g19) (2 : Int32) l h k') ∧ (SEC t l left (k + 1) = none → RF (f_Ref_pair_134 v1 (lZ l) g6 (nI S) g8 (bI ov) g10 g11 (nI k) (bI b) g15 g16 g17 g18 g19))) ∧ (t k ≠ 44 → RF (f_Ref_pair_134 v1 (lZ l) g6 (nI S) g8 (bI ov) g10 g11 (nI k) (bI b) g15 g16 g17 g18 g19)) := by
  have hS := hT.hS
  unfold f_Ref_pair_134
  rw [show (44 : Int32) = nI 44 from rfl, eat_ok hT hR (by omega) (by decide), Option.bind_some]
  constructor
  · intro h44
    have hlt := hT.lt (k := k) (by omega)
    have hk3 := sp_le hT 60 (k + 1) (by omega)
    have hk3n := sp_n hT 60 (k + 1) (by omega) (by omega)
    have ea : adv t 44 k = k + 1 := by unfold adv; rw [if_pos h44]
    rw [decide_eq_true h44]
    simp only [ea]
    rw [if_neg (show ¬ bI true = 0 by decide), rsp_ok hT hR (by omega), Option.bind_some, hR _ (by omega), Option.bind_some]
    unfold SEC
    obtain ⟨k3, hk3e⟩ : ∃ k3, k3 = sp t 60 (k + 1) := ⟨_, rfl⟩
    rw [← hk3e] at hk3 hk3n ⊢
    have u := hT.up k3
    by_cases h93 : t k3 = 93
    · have e1 : EN t k3 = (1, 0, 0, k3) := EN_1 (by omega) (by omega) (by omega) (by rw [h93]; decide) (by omega)
      rw [if_pos (show nI (t k3) = (93 : Int32) by rw [h93]; rfl), e1]
      simp only
      rw [if_neg (by decide), if_neg (by decide), if_pos (show True from trivial), if_pos h93]
      have F := (r241 hT hR hk3.2 (l := l) (h := (INF : Int)) hB (ov := ov) (b := b) (g10 := g10) (g11 := g11) (g15 := g15) (g16 := g16) (g17 := g17) (g18 := g18) (g19 := g19)).1 (by rw [sp_id hk3n]; exact h93)
      rw [sp_id hk3n] at F
      refine ⟨fun h k' h8 => ?_, fun h8 => (by cases h8)⟩
      cases h8
      exact F
    · rw [if_neg (show ¬ nI (t k3) = (93 : Int32) from fun h9 => h93 ((nI_eq (b := 93) (by omega) (by decide)).mp h9))]
      rcases rend_ok hT hR hk3.2 (bI b) g16 g15 with ⟨c0, e1, k', D, p, e2⟩ | ⟨c0, e1, e2⟩ | ⟨c0, e1⟩ | ⟨c0, e1⟩
      · rw [e1, Option.bind_some, jl_, if_neg (show ¬ (0 : Int32) < 0 by decide), if_pos (show (0 : Int32) = 0 from rfl), e2, Option.bind_some, if_pos (show (0 : Int32) = 0 from rfl)]
        have hn : ((if (EN t k3).1 = 2 then (if t (sp t 60 (EN t k3).2.2.2) = 93 ∧ lok left (decide (t k3 = 45)) (EN t k3).2.1 (EN t k3).2.2.1 = true then some (l, DEC (decide (t k3 = 45)) (EN t k3).2.1 (EN t k3).2.2.1 1, sp t 60 (EN t k3).2.2.2 + 1) else none) else if (EN t k3).1 = 4 then (if t (sp t 60 (EN t k3).2.2.2) = 93 then some (l, (INF : Int), sp t 60 (EN t k3).2.2.2 + 1) else none) else if (EN t k3).1 = 1 then (if t k3 = 93 then some (l, (INF : Int), k3 + 1) else none) else none) : Option (Int × Int × Nat)) = none := by
          rw [if_neg (by omega), if_neg (by omega), if_neg h93]
          split <;> rfl
        rw [hn]
        exact ⟨fun _ _ h8 => (by cases h8), fun _ => ⟨g8, N, ov, _, _, _, _, _, rfl, hB⟩⟩
      · have C := cend_ok hT hC hk3.2 (0 : Int32) (0 : Int64) (0 : Int32) (0 : Int32)
        have hb : (EN t k3).2.2.2 ≤ S ∧ (EN t k3).2.1 < 1000000000000000000 ∧ -40 ≤ (EN t k3).2.2.1 ∧ (EN t k3).2.2.1 ≤ 40 := by
          rcases C with ⟨c, _⟩ | ⟨c, _⟩ | ⟨c, c1, c2, c3, c4, _⟩ | ⟨c, _⟩ | ⟨c, _⟩ | ⟨c, _⟩
          · omega
          · omega
          · exact ⟨c1, c2, c3, c4⟩
          · omega
          · omega
          · omega
        obtain ⟨b1, b2, b3, b4⟩ := hb
        rw [e1, Option.bind_some, jl_, if_neg (show ¬ (0 : Int32) < 0 by decide), if_pos (show (0 : Int32) = 0 from rfl), e2, Option.bind_some, if_neg (show ¬ (1 : Int32) = 0 by decide), if_pos c0]
        have F222 : ∀ (g8' : Nat → Int32) (N' : Nat → Nat) (hB' : Big g8' N'), (t (sp t 60 (EN t k3).2.2.2) = 93 → RO (f_Ref_pair_222 (lZ l) g6 (nI S) g8' (bI ov) g10 g11 (nI (EN t k3).2.2.2) (bI (decide (t k3 = 45))) (lN (EN t k3).2.1) (zI (EN t k3).2.2.1) g17 g18 g19) (2 : Int32) l (DEC (decide (t k3 = 45)) (EN t k3).2.1 (EN t k3).2.2.1 1) (sp t 60 (EN t k3).2.2.2 + 1)) ∧ (t (sp t 60 (EN t k3).2.2.2) ≠ 93 → RF (f_Ref_pair_222 (lZ l) g6 (nI S) g8' (bI ov) g10 g11 (nI (EN t k3).2.2.2) (bI (decide (t k3 = 45))) (lN (EN t k3).2.1) (zI (EN t k3).2.2.1) g17 g18 g19)) := fun g8' N' hB' => by
          obtain ⟨ga, Na, oa, d1, d2⟩ := rdec_ok (neg := decide (t k3 = 45)) (ov := ov) (D := (EN t k3).2.1) (how := 1) (p := (EN t k3).2.2.1) (by decide) (by omega) b3 b4 hB'
          unfold f_Ref_pair_222
          rw [show f_Ref_decimal (bI (decide (t k3 = 45))) (lN (EN t k3).2.1) (zI (EN t k3).2.2.1) (1 : Int32) g8' (bI ov) = _ from d1, Option.bind_some, jl_]
          exact r241 hT hR b1 d2
        unfold f_Ref_pair_192
        rw [if_pos (show (0 : Int32) = 0 from rfl)]
        rcases hL with ⟨l1, l2, l3⟩ | ⟨n, D, p, l1, l2, l3, l4, l5, l6, l7, l8, l9⟩
        · rw [l3, if_neg (show ¬ (1 : Int32) = 0 by decide)]
          by_cases h9 : t (sp t 60 (EN t k3).2.2.2) = 93
          · rw [if_pos ⟨h9, by rw [l1]; rfl⟩]
            refine ⟨fun h k' h8 => ?_, fun h8 => (by cases h8)⟩
            cases h8
            exact (F222 g8 N hB).1 h9
          · rw [if_neg (fun h8 => h9 h8.1)]
            exact ⟨fun _ _ h8 => (by cases h8), fun _ => (F222 g8 N hB).2 h9⟩
        · obtain ⟨gi, Ni, i1, i2⟩ := inord_ok (n1 := n) (n2 := decide (t k3 = 45)) (D1 := D) (D2 := (EN t k3).2.1) (q1 := p) (q2 := (EN t k3).2.2.1) l7 b2 l8 l9 b3 b4 hB
          rw [← l4, ← l5, ← l6] at i1
          rw [l3, if_pos (show (0 : Int32) = 0 from rfl), i1, Option.bind_some]
          cases ho : ORD n D p (decide (t k3 = 45)) (EN t k3).2.1 (EN t k3).2.2.1
          · rw [if_pos (show bI false = 0 from rfl), if_neg (fun h8 => by have h7 := h8.2; rw [l1] at h7; unfold lok at h7; simp only at h7; rw [ho] at h7; cases h7)]
            exact ⟨fun _ _ h8 => (by cases h8), fun _ => ⟨gi, Ni, ov, _, _, _, _, _, rfl, i2⟩⟩
          · rw [if_neg (show ¬ bI true = 0 by decide)]
            by_cases h9 : t (sp t 60 (EN t k3).2.2.2) = 93
            · rw [if_pos ⟨h9, by rw [l1]; unfold lok; simp only; exact ho⟩]
              refine ⟨fun h k' h8 => ?_, fun h8 => (by cases h8)⟩
              cases h8
              exact (F222 gi Ni i2).1 h9
            · rw [if_neg (fun h8 => h9 h8.1)]
              exact ⟨fun _ _ h8 => (by cases h8), fun _ => (F222 gi Ni i2).2 h9⟩
      · rw [e1, Option.bind_some, jl_, if_pos (show (-1 : Int32) < 0 by decide), if_neg (by omega), if_neg (by omega), if_neg (by omega)]
        exact ⟨fun _ _ h8 => (by cases h8), fun _ => ⟨g8, N, ov, _, _, _, b, _, rfl, hB⟩⟩
      · have C := cend_ok hT hC hk3.2 (0 : Int32) (0 : Int64) (0 : Int32) (0 : Int32)
        have b1 : (EN t k3).2.2.2 ≤ S := by
          rcases C with ⟨c, _⟩ | ⟨c, _⟩ | ⟨c, c1, _⟩ | ⟨c, c1, _⟩ | ⟨c, c1, _⟩ | ⟨c, c1, _⟩
          · omega
          · omega
          · omega
          · omega
          · exact c1
          · omega
        rw [e1, Option.bind_some, jl_, if_neg (show ¬ (1 : Int32) < 0 by decide), if_neg (show ¬ (1 : Int32) = 0 by decide), if_neg (by omega), if_pos c0]
        unfold f_Ref_pair_192
        rw [if_neg (show ¬ (1 : Int32) = 0 by decide)]
        have F := r241 hT hR b1 (l := l) (h := (INF : Int)) hB (ov := ov) (b := b) (g10 := g10) (g11 := g11) (g15 := g15) (g16 := g16) (g17 := g17) (g18 := g18) (g19 := g19)
        by_cases h9 : t (sp t 60 (EN t k3).2.2.2) = 93
        · rw [if_pos h9]
          refine ⟨fun h k' h8 => ?_, fun h8 => (by cases h8)⟩
          cases h8
          exact F.1 h9
        · rw [if_neg h9]
          exact ⟨fun _ _ h8 => (by cases h8), fun _ => F.2 h9⟩
  · intro h44
    rw [decide_eq_false h44, if_pos (show bI false = 0 from rfl)]
    exact ⟨g8, N, ov, _, _, _, b, _, rfl, hB⟩
theorem rpair_ok {t : Nat → Nat} {S : Nat} (hT : Tx t S) {g6 : Nat → Int32} (hR : SeenR g6 S t) {g : Nat → Int32} (hC : SeenC g S t) {k : Nat} (hk : k ≤ S) (hsp : t k ≠ 32) {g8 : Nat → Int32} {N : Nat → Nat} (hB : Big g8 N) {ov b : Bool} {g10 g11 : Int64} {g15 : Int64} {g16 g17 : Int32} {g18 : Int64} {g19 : Int32} :
    (∀ l h k', PR t k = some (l, h, k') → RO (f_Ref_pair g6 (nI S) g8 (bI ov) g10 g11 (nI k) (bI b) g15 g16 g17 g18 g19) (2 : Int32) l h k') ∧ (PR t k = none → RF (f_Ref_pair g6 (nI S) g8 (bI ov) g10 g11 (nI k) (bI b) g15 g16 g17 g18 g19)) := by
  have hS := hT.hS
  have u := hT.up k
  have mi : (-9218868437227405312 : Int64) = lZ (-(INF : Int)) := by decide
  have O : ∀ (k1 : Nat) (b1 : Bool) (x15 : Int64) (x16 x17 : Int32) (x18 : Int64) (x19 : Int32), k1 ≤ S → (t (sp t 60 k1) = 44 → (∀ h k', SEC t (-(INF : Int)) none (sp t 60 k1 + 1) = some (-(INF : Int), h, k') → RO (f_Ref_pair_41 (1 : Int32) g6 (nI S) g8 (bI ov) g10 g11 (nI k1) (bI b1) x15 x16 x17 x18 x19) (2 : Int32) (-(INF : Int)) h k') ∧ (SEC t (-(INF : Int)) none (sp t 60 k1 + 1) = none → RF (f_Ref_pair_41 (1 : Int32) g6 (nI S) g8 (bI ov) g10 g11 (nI k1) (bI b1) x15 x16 x17 x18 x19))) ∧ (t (sp t 60 k1) ≠ 44 → RF (f_Ref_pair_41 (1 : Int32) g6 (nI S) g8 (bI ov) g10 g11 (nI k1) (bI b1) x15 x16 x17 x18 x19)) := fun k1 b1 x15 x16 x17 x18 x19 hk1 => by
    unfold f_Ref_pair_41 f_Ref_pair_96
    rw [if_pos (bz b1), rsp_ok hT hR hk1, Option.bind_some, if_neg (show ¬ (1 : Int32) = 0 by decide), if_neg (show ¬ (1 : Int32) = 0 by decide), mi]
    exact rsec_ok hT hR hC (sp_le hT 60 k1 hk1).2 hB (Or.inl ⟨rfl, rfl, rfl⟩)
  unfold f_Ref_pair f_Ref_pair_0 PR
  rw [hR k (by omega), Option.bind_some]
  by_cases h44 : t k = 44
  · have e1 : EN t k = (1, 0, 0, k) := EN_1 (by omega) (by omega) (by omega) (by rw [h44]; decide) (by omega)
    rw [if_pos (show nI (t k) = (44 : Int32) by rw [h44]; rfl), e1]
    simp only
    rw [if_neg (by decide), if_neg (by decide), if_pos (show True from trivial), if_pos h44]
    have F := (O k b g15 g16 g17 g18 g19 hk).1 (by rw [sp_id hsp]; exact h44)
    rw [sp_id hsp] at F
    refine ⟨fun l h k' h8 => ?_, F.2⟩
    have hl := PR_no h8
    subst hl
    exact F.1 h k' h8
  · rw [if_neg (show ¬ nI (t k) = (44 : Int32) from fun h9 => h44 ((nI_eq (b := 44) (by omega) (by decide)).mp h9))]
    have C := cend_ok hT hC hk (0 : Int32) (0 : Int64) (0 : Int32) (0 : Int32)
    rcases rend_ok hT hR hk (bI b) g16 g15 with ⟨c0, e1, k', D, p, e2⟩ | ⟨c0, e1, e2⟩ | ⟨c0, e1⟩ | ⟨c0, e1⟩
    · rw [e1, Option.bind_some, jl_, if_pos (show (0 : Int32) ≤ 0 by decide), if_pos (show (0 : Int32) = 0 from rfl), e2, Option.bind_some, if_pos (show (0 : Int32) = 0 from rfl), if_neg (by omega), if_neg (by omega)]
      have hn : ((if (EN t k).1 = 1 then (if t k = 44 then SEC t (-(INF : Int)) none (k + 1) else none) else none) : Option (Int × Int × Nat)) = none := by
        rw [if_neg h44]
        split <;> rfl
      rw [hn]
      exact ⟨fun _ _ _ h8 => (by cases h8), fun _ => ⟨g8, N, ov, _, _, _, _, _, rfl, hB⟩⟩
    · have hb : (EN t k).2.2.2 ≤ S ∧ (EN t k).2.1 < 1000000000000000000 ∧ -40 ≤ (EN t k).2.2.1 ∧ (EN t k).2.2.1 ≤ 40 := by
        rcases C with ⟨c, _⟩ | ⟨c, _⟩ | ⟨c, c1, c2, c3, c4, _⟩ | ⟨c, _⟩ | ⟨c, _⟩ | ⟨c, _⟩
        · omega
        · omega
        · exact ⟨c1, c2, c3, c4⟩
        · omega
        · omega
        · omega
      obtain ⟨b1, b2, b3, b4⟩ := hb
      have hks := sp_le hT 60 (EN t k).2.2.2 b1
      rw [e1, Option.bind_some, jl_, if_pos (show (0 : Int32) ≤ 0 by decide), if_pos (show (0 : Int32) = 0 from rfl), e2, Option.bind_some, if_neg (show ¬ (1 : Int32) = 0 by decide), if_pos c0]
      unfold f_Ref_pair_41
      obtain ⟨ga, Na, oa, d1, d2⟩ := rdec_ok (neg := decide (t k = 45)) (ov := ov) (D := (EN t k).2.1) (how := 0) (p := (EN t k).2.2.1) (by decide) (by omega) b3 b4 hB
      rw [if_pos (bz _), rsp_ok hT hR b1, Option.bind_some, if_pos (show (0 : Int32) = 0 from rfl), show f_Ref_decimal (bI (decide (t k = 45))) (lN (EN t k).2.1) (zI (EN t k).2.2.1) (0 : Int32) g8 (bI ov) = _ from d1, Option.bind_some]
      unfold f_Ref_pair_96
      rw [if_pos (show (0 : Int32) = 0 from rfl), show (93 : Int32) = nI 93 from rfl, eat_ok hT hR (by omega) (by decide), Option.bind_some]
      by_cases h9 : t (sp t 60 (EN t k).2.2.2) = 93
      · have ea : adv t 93 (sp t 60 (EN t k).2.2.2) = sp t 60 (EN t k).2.2.2 + 1 := by unfold adv; rw [if_pos h9]
        obtain ⟨gb, Nb, ob, d3, d4⟩ := rdec_ok (neg := decide (t k = 45)) (ov := oa) (D := (EN t k).2.1) (how := 1) (p := (EN t k).2.2.1) (by decide) (by omega) b3 b4 d2
        rw [if_pos h9, decide_eq_true h9]
        simp only [ea]
        rw [if_neg (show ¬ bI true = 0 by decide), show f_Ref_decimal (bI (decide (t k = 45))) (lN (EN t k).2.1) (zI (EN t k).2.2.1) (1 : Int32) ga (bI oa) = _ from d3, Option.bind_some]
        refine ⟨fun l h k' h8 => ?_, fun h8 => (by cases h8)⟩
        cases h8
        exact ⟨gb, Nb, ob, decide (t k = 45), _, rfl, d4⟩
      · have ea : adv t 93 (sp t 60 (EN t k).2.2.2) = sp t 60 (EN t k).2.2.2 := by unfold adv; rw [if_neg h9]
        rw [if_neg h9, decide_eq_false h9]
        simp only [ea]
        rw [if_pos (show bI false = 0 from rfl)]
        have M := rsec_ok hT hR hC hks.2 (left := some (decide (t k = 45), (EN t k).2.1, (EN t k).2.2.1)) (l := DEC (decide (t k = 45)) (EN t k).2.1 (EN t k).2.2.1 0) (v1 := (0 : Int32)) d2 (ov := oa) (b := decide (t k = 45)) (g10 := g10) (g11 := g11) (g15 := lN (EN t k).2.1) (g16 := zI (EN t k).2.2.1) (g17 := bI (decide (t k = 45))) (g18 := lN (EN t k).2.1) (g19 := zI (EN t k).2.2.1) (Or.inr ⟨_, _, _, rfl, rfl, rfl, rfl, rfl, rfl, b2, b3, b4⟩)
        by_cases h4 : t (sp t 60 (EN t k).2.2.2) = 44
        · rw [if_pos h4]
          refine ⟨fun l h k' h8 => ?_, (M.1 h4).2⟩
          have hl := PR_no h8
          subst hl
          exact (M.1 h4).1 h k' h8
        · rw [if_neg h4]
          exact ⟨fun _ _ _ h8 => (by cases h8), fun _ => M.2 h4⟩
    · have b1 : (EN t k).2.2.2 ≤ S := by
        rcases C with ⟨c, _⟩ | ⟨c, _⟩ | ⟨c, c1, _⟩ | ⟨c, c1, _⟩ | ⟨c, c1, _⟩ | ⟨c, c1, _⟩
        · omega
        · omega
        · omega
        · exact c1
        · omega
        · omega
      rw [e1, Option.bind_some, jl_, if_pos (show (-1 : Int32) ≤ 0 by decide), if_neg (show ¬ (-1 : Int32) = 0 by decide), if_neg (by omega), if_pos c0]
      have F := O (EN t k).2.2.2 b g15 g16 g17 g18 g19 b1
      by_cases h4 : t (sp t 60 (EN t k).2.2.2) = 44
      · rw [if_pos h4]
        refine ⟨fun l h k' h8 => ?_, (F.1 h4).2⟩
        have hl := PR_no h8
        subst hl
        exact (F.1 h4).1 h k' h8
      · rw [if_neg h4]
        exact ⟨fun _ _ _ h8 => (by cases h8), fun _ => F.2 h4⟩
    · rw [e1, Option.bind_some, jl_, if_neg (show ¬ (1 : Int32) ≤ 0 by decide), if_neg (by omega), if_neg (by omega), if_neg (by omega)]
      exact ⟨fun _ _ _ h8 => (by cases h8), fun _ => ⟨g8, N, ov, _, _, _, b, _, rfl, hB⟩⟩
