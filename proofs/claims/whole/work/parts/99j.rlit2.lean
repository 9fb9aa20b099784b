-- literals, the reference, whole
theorem seenR_ok {T : Nat → Nat} {S : Nat} (hS : S ≤ 60) (hT : ∀ k, k < S → 32 ≤ T k ∧ T k ≤ 126) {g6 : Nat → Int32} (hg : ∀ k, k < S → g6 k = nI (T k)) : SeenR g6 S (tx T S) := by
  intro k hk
  unfold f_Ref_seen f_Ref_seen_0 f_Ref_seen_18 f_Ref_seen_38 f_Ref_seen_39 tx
  by_cases h : k < S
  · have := hT k h
    rw [if_neg (lt_c h (by omega)), if_pos (ji_ (by omega) (by decide)), nI_clamp (by omega), hg k h, if_pos h]
    unfold low
    by_cases h65 : T k < 65
    · rw [if_pos (show nI (T k) < (65 : Int32) from nI_lt (b := 65) h65 (by decide)), if_neg (by omega)]
    · rw [if_neg (show ¬ nI (T k) < (65 : Int32) from nI_nlt (b := 65) (by omega) (by omega))]
      by_cases h90 : 90 < T k
      · rw [if_pos (show (90 : Int32) < nI (T k) from nI_lt (a := 90) h90 (by omega)), if_neg (by omega)]
      · rw [if_neg (show ¬ (90 : Int32) < nI (T k) from nI_nlt (a := 90) (by omega) (by decide)), if_pos (by omega), show (32 : Int32) = nI 32 from rfl, nI_add]
  · rw [if_pos (nI_le (by omega) (by omega)), if_neg h, if_pos (by decide)]
    rfl
theorem INS_F {t : Nat → Nat} {S : Nat} (hT : Tx t S) {k : Nat} (hk : k ≤ S) (hsp : t k ≠ 32) {tag : Nat} {l h : Int} {k' : Nat} (hi : INS t k = some (tag, l, h, k')) : k' ≤ S ∧ (tag = 1 ∨ (tag = 2 ∧ l.natAbs ≤ INF ∧ h.natAbs ≤ INF ∧ l ≤ h ∧ l < INF ∧ -(INF : Int) < h)) := by
  have hI : INF = 9218868437227405312 := rfl
  have hC : SeenC (fun j => nI (t j)) S t := fun j _ => rfl
  by_cases hn : t k = 93 ∨ t k = 101
  · obtain ⟨m1, m2⟩ := (cnamed_ok hT hC hk hn).2 tag l h k' hi
    rcases m2 with ⟨m3, _⟩ | ⟨m3, m4, m5, _⟩
    · exact ⟨m1, Or.inl m3⟩
    · exact ⟨m1, Or.inr ⟨m3, by omega, by omega, by omega, by omega, by omega⟩⟩
  · have M := cpair_ok hT hC hk hsp (g7 := (0 : Int32)) (g8 := (0 : Int64)) (g9 := (0 : Int32)) (g10 := (0 : Int32)) (g11 := fun _ => 0) (g12 := (0 : Int32)) (g13 := (0 : Int64)) (g14 := (0 : Int32)) (g15 := (0 : Int32)) (g16 := fun _ => 0)
    unfold INS at hi
    rw [if_neg (fun h9 => hn (Or.inl h9)), if_neg (fun h9 => hn (Or.inr h9))] at hi
    cases hp : PR t k with
    | none =>
      rw [hp] at hi
      cases hi
    | some q =>
      obtain ⟨l2, h2, k2⟩ := q
      rw [hp] at hi
      cases hi
      obtain ⟨m1, m2, m3, m4, m5, m6, _⟩ := M.1 l h k' hp
      exact ⟨m1, Or.inr ⟨rfl, m2, m3, m4, m5, m6⟩⟩
/-- a cell as it should be -/
def CellOk (x : Option (Option (Int × Int × Nat))) : Prop := match x with
  | none => True
  | some none => True
  | some (some (l, h, m)) => l.natAbs ≤ INF ∧ h.natAbs ≤ INF ∧ l ≤ h ∧ l < INF ∧ -(INF : Int) < h ∧ 1 ≤ m ∧ m ≤ 4 ∧ (m = 4 → BM l h = 4)
theorem LIT_F {t : Nat → Nat} {S : Nat} (hT : Tx t S) : CellOk (LIT t S) := by
  unfold LIT
  split
  · trivial
  · next h0 =>
    have h91 : t 0 = 91 := Classical.byContradiction h0
    have hlt := hT.lt (k := 0) (by omega)
    have hS := hT.hS
    have hk0 := sp_le hT 60 1 (by omega)
    have hk0n := sp_n hT 60 1 (by omega) (by omega)
    cases hi : INS t (sp t 60 1) with
    | none => trivial
    | some q =>
      obtain ⟨tag, l, h, k'⟩ := q
      obtain ⟨f1, f2⟩ := INS_F hT hk0.2 hk0n hi
      simp only
      cases hm : MK t S k' with
      | none => trivial
      | some d =>
        have hd := MK_le hm
        simp only
        split
        · split <;> trivial
        · next ht =>
          split
          · trivial
          · next hb =>
            rcases f2 with f2 | ⟨_, f3, f4, f5, f6, f7⟩
            · exact absurd f2 ht
            · have b := BM_b l h
              refine ⟨f3, f4, f5, f6, f7, ?_, ?_, ?_⟩
              · split <;> omega
              · split <;> omega
              · split
                · exact fun h => h
                · next hd0 =>
                  intro h4
                  apply Classical.byContradiction
                  intro h9
                  exact hb ⟨h4, h9⟩
theorem rcell_ok {c : Nat} (hc : c < 40) (k : Int32) (l h : Int64) (m : Int32) (g1 : Nat → Int32) (g2 g3 : Nat → Int64) (g4 : Nat → Int32) : f_Ref_cell k l h m (nI c) g1 g2 g3 g4 = some (nI c, nI (c + 1), upd g1 c k, vp_updL g2 c l, vp_updL g3 c h, upd g4 c m) := by
  unfold f_Ref_cell f_Ref_cell_0
  rw [if_pos (ji_ hc (by decide)), jl_, if_pos (ji_ hc (by decide)), jl_, if_pos (ji_ hc (by decide)), jl_, if_pos (ji_ hc (by decide)), jl_, nI_clamp (by omega), show (1 : Int32) = nI 1 from rfl, nI_add, jl_, pk_sub (by omega), Nat.add_sub_cancel]
def LitR (K : Int32 × Int64 × Int64 × Int32) (c : Nat) (g1 : Nat → Int32) (g2 g3 : Nat → Int64) (g4 : Nat → Int32) (F : Option (Int32 × Int32 × (Nat → Int32) × (Nat → Int64) × (Nat → Int64) × (Nat → Int32) × Int32 × (Nat → Int32) × Int32 × Int64 × Int64 × Int32 × Int32 × Int64 × Int32 × Int32 × Int64 × Int32)) : Prop := ∃ g8' N' ov' y10 y11 y13 b' r, F = some (nI c, nI (c + 1), upd g1 c K.1, vp_updL g2 c K.2.1, vp_updL g3 c K.2.2.1, upd g4 c K.2.2.2, (0 : Int32), g8', bI ov', y10, y11, y13, bI b', r) ∧ Big g8' N'
theorem rlit_ok {T : Nat → Nat} {S : Nat} (hS : S ≤ 60) (hT : ∀ k, k < S → 32 ≤ T k ∧ T k ≤ 126) {g6 : Nat → Int32} (hg : ∀ k, k < S → g6 k = nI (T k)) {c : Nat} (hc : c < 40) {g1 : Nat → Int32} {g2 g3 : Nat → Int64} {g4 : Nat → Int32} {g5 : Int32} {g8 : Nat → Int32} {N : Nat → Nat} (hB : Big g8 N) {ov b : Bool} {g10 g11 : Int64} {g13 : Int32} {g15 : Int64} {g16 g17 : Int32} {g18 : Int64} {g19 : Int32} : LitR (kc (LIT (tx T S) S)) c g1 g2 g3 g4 (f_Ref_literal (nI c) g1 g2 g3 g4 g5 g6 (nI S) g8 (bI ov) g10 g11 g13 (bI b) g15 g16 g17 g18 g19) := by
  have hR := seenR_ok hS hT hg
  have hX := tx_T hS hT
  obtain ⟨t, ht⟩ : ∃ t, t = tx T S := ⟨_, rfl⟩
  rw [← ht] at hR hX ⊢
  have hC : SeenC (fun j => nI (t j)) S t := fun j _ => rfl
  have ILL : ∀ (s0 v1 : Int32) (v2 v4 : Int64) (x8 : Nat → Int32) (x9 : Int32) (x10 x11 : Int64) (x13 x14 : Int32) (x15 : Int64) (x16 x17 : Int32) (x18 : Int64) (x19 : Int32), (v1 < (1 : Int32) ∨ ¬ (0 : Int32) ≤ s0) → f_Ref_literal_73 s0 v1 v2 v4 (nI c) g1 g2 g3 g4 (0 : Int32) g6 (nI S) x8 x9 x10 x11 x13 x14 x15 x16 x17 x18 x19 = some (nI c, nI (c + 1), upd g1 c (0 : Int32), vp_updL g2 c (0 : Int64), vp_updL g3 c (0 : Int64), upd g4 c (0 : Int32), (0 : Int32), x8, x9, x10, x11, x13, x14, x15, x16, x17, x18, x19) := fun s0 v1 v2 v4 x8 x9 x10 x11 x13 x14 x15 x16 x17 x18 x19 h => by
    have e : f_Ref_literal_85 (nI c) g1 g2 g3 g4 (0 : Int32) g6 (nI S) x8 x9 x10 x11 x13 x14 x15 x16 x17 x18 x19 = some (nI c, nI (c + 1), upd g1 c (0 : Int32), vp_updL g2 c (0 : Int64), vp_updL g3 c (0 : Int64), upd g4 c (0 : Int32), (0 : Int32), x8, x9, x10, x11, x13, x14, x15, x16, x17, x18, x19) := by
      unfold f_Ref_literal_85 f_Ref_ill f_Ref_ill_0
      rw [rcell_ok hc, Option.bind_some, Option.bind_some]
    unfold f_Ref_literal_73
    by_cases h1 : v1 < (1 : Int32)
    · rw [if_pos h1, e]
    · rw [if_neg h1]
      rcases h with h | h
      · exact absurd h h1
      · rw [if_neg h, e]
  unfold f_Ref_literal f_Ref_literal_0 f_Ref_literal_15 LIT
  rw [if_neg (show ¬ nI c = (40 : Int32) from fun h9 => by have := (nI_eq (b := 40) (by omega) (by decide)).mp h9; omega), if_pos (show (0 : Int32) ≤ 0 by decide), show (91 : Int32) = nI 91 from rfl, show f_Ref_eat (nI 91) g6 (nI S) (0 : Int32) = _ from eat_ok hX hR (k := 0) (c := 91) (by decide) (by decide), Option.bind_some]
  by_cases h91 : t 0 = 91
  · have ea : adv t 91 0 = 1 := by unfold adv; rw [if_pos h91]
    have hlt := hX.lt (k := 0) (by omega)
    have hk0 := sp_le hX 60 1 (by omega)
    have hk0n := sp_n hX 60 1 (by omega) (by omega)
    have M := rins_ok hX hR hC (k := 1) (by omega) hB (ov := ov) (b := b) (g10 := g10) (g11 := g11) (g15 := g15) (g16 := g16) (g17 := g17) (g18 := g18) (g19 := g19)
    rw [decide_eq_true h91, if_neg (show ¬ t 0 ≠ 91 from fun h => h h91)]
    simp only [ea]
    rw [if_neg (show ¬ bI true = 0 by decide)]
    cases hi : INS t (sp t 60 1) with
    | none =>
      obtain ⟨cd, g8', N', ov', x, y, z, b', r, m1, m2, m3⟩ := M.1 hi
      rw [m1, Option.bind_some]
      unfold f_Ref_literal_49
      rcases m3 with m3 | ⟨m3, z', m4, m5⟩
      · rw [m3, if_neg (show ¬ (0 : Int32) ≤ -1 by decide), ILL _ _ _ _ _ _ _ _ _ _ _ _ _ _ _ (Or.inl (show (-1 : Int32) < 1 by decide))]
        exact ⟨g8', N', ov', _, _, _, b', _, rfl, m2⟩
      · obtain ⟨zz, e⟩ := rdeco_ok hX hR m5
        rw [m3, if_pos (show (0 : Int32) ≤ 0 by decide)]
        simp only
        rw [m4, e, Option.bind_some, ILL _ _ _ _ _ _ _ _ _ _ _ _ _ _ _ (Or.inl (by decide))]
        exact ⟨g8', N', ov', _, _, _, b', _, rfl, m2⟩
    | some q =>
      obtain ⟨tag, l, h, k'⟩ := q
      obtain ⟨f1, f2⟩ := INS_F hX hk0.2 hk0n hi
      obtain ⟨zz, e⟩ := rdeco_ok hX hR f1
      simp only
      have Fin : ∀ (x y : Int64) (x8 : Nat → Int32) (x9 : Int32) (x14 : Int32) (x15 : Int64) (x16 x17 : Int32) (x18 : Int64) (x19 : Int32), (tag = 1 ∨ (tag = 2 ∧ x = lZ l ∧ y = lZ h ∧ l.natAbs ≤ INF ∧ h.natAbs ≤ INF)) → f_Ref_literal_49 (nI tag) (nI c) g1 g2 g3 g4 (0 : Int32) g6 (nI S) x8 x9 x y (nI k') x14 x15 x16 x17 x18 x19 = some (nI c, nI (c + 1), upd g1 c (kc (match MK t S k' with | none => none | some d => fin tag l h d)).1, vp_updL g2 c (kc (match MK t S k' with | none => none | some d => fin tag l h d)).2.1, vp_updL g3 c (kc (match MK t S k' with | none => none | some d => fin tag l h d)).2.2.1, upd g4 c (kc (match MK t S k' with | none => none | some d => fin tag l h d)).2.2.2, (0 : Int32), x8, x9, x, y, zz, x14, x15, x16, x17, x18, x19) := fun x y x8 x9 x14 x15 x16 x17 x18 x19 ht => by
        have htag : tag ≤ 2 := by omega
        unfold f_Ref_literal_49
        rw [if_pos (show (0 : Int32) ≤ nI tag from nI_le (a := 0) (Nat.zero_le _) (by omega)), e, Option.bind_some]
        cases hm : MK t S k' with
        | none =>
          rw [show dcI none = (-1 : Int32) from rfl, ILL _ _ _ _ _ _ _ _ _ _ _ _ _ _ _ (Or.inr (show ¬ (0 : Int32) ≤ -1 by decide))]
          rfl
        | some d =>
          rw [show dcI (some d) = nI d from rfl, r73_ok (l := l) (h := h) ht (MK_le hm), rcell_ok hc, Option.bind_some]
      rcases f2 with f2 | ⟨f2, f3, f4, _⟩
      · rw [f2] at hi Fin ⊢
        obtain ⟨g8', N', ov', x, y, b', r, m1, m2⟩ := M.2.1 l h k' hi
        rw [m1, Option.bind_some]
        have F := Fin x y g8' (bI ov') (bI b') r.1 r.2.1 r.2.2.1 r.2.2.2.1 r.2.2.2.2 (Or.inl rfl)
        exact ⟨g8', N', ov', _, _, _, b', _, F, m2⟩
      · rw [f2] at hi Fin ⊢
        obtain ⟨g8', N', ov', b', r, m1, m2⟩ := M.2.2 l h k' hi
        rw [m1, Option.bind_some]
        have F := Fin (lZ l) (lZ h) g8' (bI ov') (bI b') r.1 r.2.1 r.2.2.1 r.2.2.2.1 r.2.2.2.2 (Or.inr ⟨rfl, rfl, rfl, f3, f4⟩)
        exact ⟨g8', N', ov', _, _, _, b', _, F, m2⟩
  · rw [decide_eq_false h91, if_pos (show bI false = 0 from rfl), if_pos h91]
    unfold f_Ref_literal_49
    rw [if_neg (by decide), ILL _ _ _ _ _ _ _ _ _ _ _ _ _ _ _ (Or.inl (by decide))]
    exact ⟨g8, N, ov, _, _, _, b, _, rfl, hB⟩
theorem rlit_full {g1 : Nat → Int32} {g2 g3 : Nat → Int64} {g4 : Nat → Int32} {g5 : Int32} {g6 : Nat → Int32} {g7 : Int32} {g8 : Nat → Int32} {g9 : Int32} {g10 g11 : Int64} {g13 g14 : Int32} {g15 : Int64} {g16 g17 : Int32} {g18 : Int64} {g19 : Int32} : f_Ref_literal (nI 40) g1 g2 g3 g4 g5 g6 g7 g8 g9 g10 g11 g13 g14 g15 g16 g17 g18 g19 = some ((0 : Int32), nI 40, g1, g2, g3, g4, (1 : Int32), g8, g9, g10, g11, g13, g14, g15, g16, g17, g18, g19) := by
  unfold f_Ref_literal f_Ref_literal_0 f_Ref_literal_15
  rw [if_pos (by decide), if_neg (by decide)]
