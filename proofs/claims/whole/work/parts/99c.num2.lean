-- numbers in texts, the reference
theorem bz (b : Bool) : j_z (bI b) := by
  cases b
  · exact Or.inl rfl
  · exact Or.inr rfl
theorem d385 {b : Nat} {e : Int} {gd : Bool} (h1 : -500 ≤ e) (h2 : e ≤ 500) (hb : b ≤ 200) {g6 : Nat → Int32} {S k g14 g16 : Int32} {g15 : Int64} : f_Ref_decimalHere_385 (nI b) (zI e) (bI gd) g6 S k g14 g15 g16 = some (bI (gd && rng (e - b)), k, g14, g15, zI (e - b)) := by
  unfold f_Ref_decimalHere_385 f_Ref_decimalHere_421 f_Ref_decimalHere_422
  rw [z_nI, z_sub, jl_]
  cases gd
  · rw [if_pos (show bI false = 0 from rfl), if_pos (by decide), Bool.false_and]
    rfl
  · rw [if_neg (show ¬ bI true = 0 by decide), Bool.true_and, show (-40 : Int32) = zI (-40) by decide, show (40 : Int32) = zI 40 by decide]
    by_cases h : e - b < -40
    · rw [if_pos ((z_lt (by omega) (by omega) (by decide) (by decide)).mpr h), if_pos (by decide)]
      have : rng (e - b) = false := by cases hr : rng (e - b); rfl; have := rng_t.mp hr; omega
      rw [this]
      rfl
    · rw [if_neg (fun h9 => h ((z_lt (by omega) (by omega) (by decide) (by decide)).mp h9))]
      by_cases h3 : 40 < e - b
      · rw [if_pos ((z_lt (by decide) (by decide) (by omega) (by omega)).mpr h3), if_pos (by decide)]
        have : rng (e - b) = false := by cases hr : rng (e - b); rfl; have := rng_t.mp hr; omega
        rw [this]
        rfl
      · rw [if_neg (fun h9 => h3 ((z_lt (by decide) (by decide) (by omega) (by omega)).mp h9)), if_pos (by decide), rng_t.mpr (by omega)]
        rfl
theorem d368 {b E : Nat} {gd neg : Bool} (hE : E ≤ 99) (hb : b ≤ 200) {g6 : Nat → Int32} {S k g14 g16 : Int32} {g15 : Int64} : f_Ref_decimalHere_368 (bI gd) (nI b) (nI E) (bI neg) g6 S k g14 g15 g16 = some (bI (gd && rng ((if neg = true then -(E : Int) else E) - b)), k, g14, g15, zI ((if neg = true then -(E : Int) else E) - b)) := by
  unfold f_Ref_decimalHere_368 f_Ref_decimalHere_383
  cases neg
  · rw [if_pos (show bI false = 0 from rfl), if_neg (show ¬ false = true by decide)]
    exact d385 (e := (E : Int)) (by omega) (by omega) hb
  · rw [if_neg (show ¬ bI true = 0 by decide), if_pos (show true = true from rfl), z_nI E, z_neg]
    exact d385 (e := -(E : Int)) (by omega) (by omega) hb
theorem d353 {b E n : Nat} {gd neg : Bool} (hE : E ≤ 99) (hb : b ≤ 200) (hn : n ≤ 2) {g6 : Nat → Int32} {S k g14 g16 : Int32} {g15 : Int64} : f_Ref_decimalHere_353 (nI b) (nI E) (bI gd) (bI neg) (nI n) g6 S k g14 g15 g16 = some (bI (gd && (decide (0 < n) && rng ((if neg = true then -(E : Int) else E) - b))), k, g14, g15, zI ((if neg = true then -(E : Int) else E) - b)) := by
  unfold f_Ref_decimalHere_353 f_Ref_decimalHere_367
  cases gd
  · rw [if_pos (show bI false = 0 from rfl), show (0 : Int32) = bI false from rfl, d368 hE hb, Bool.false_and, Bool.false_and]
  · rw [if_neg (show ¬ bI true = 0 by decide), Bool.true_and]
    by_cases h : n = 0
    · rw [if_pos (show nI n ≤ 0 by rw [h]; decide), show (0 : Int32) = bI false from rfl, d368 hE hb, Bool.false_and, h, decide_eq_false (by omega), Bool.false_and]
    · rw [if_neg (nI_nle (by omega) (by omega)), show (1 : Int32) = bI true from rfl, d368 hE hb, decide_eq_true (show 0 < n by omega), Bool.true_and]
theorem d301 {t : Nat → Nat} {S : Nat} (hT : Tx t S) {g6 : Nat → Int32} (hR : SeenR g6 S t) {k2 b : Nat} (hk : k2 ≤ S) (hb : b ≤ 200) {gd neg : Bool} {g14 g16 : Int32} {g15 : Int64} (m : Nat) : f_Ref_decimalHere_301 (m + 3) (nI b) (0 : Int32) (bI gd) (bI neg) (0 : Int32) g6 (nI S) (nI k2) g14 g15 g16 = some (bI (gd && (decide (0 < exn t k2) && rng ((if neg = true then -(exv t k2 : Int) else exv t k2) - b))), nI (k2 + exn t k2), g14, g15, zI ((if neg = true then -(exv t k2 : Int) else exv t k2) - b)) := by
  have hS := hT.hS
  have u1 := hT.up k2
  have u2 := hT.up (k2 + 1)
  rw [f_Ref_decimalHere_301, rdig_ok hT hR (by omega), Option.bind_some]
  unfold exn exv
  by_cases h1 : isd (t k2) = true
  · have d1 := isd_t.mp h1
    rw [if_neg (by rw [h1]; decide), if_neg (by decide), hR k2 (by omega), Option.bind_some, if_pos h1, if_pos h1, jl_, jl_, jl_, show (0 : Int32) + (1 : Int32) = nI 1 by decide, show (1 : Int32) = nI 1 from rfl, nI_add, show ((10 : Int32) * (0 : Int32)) + nI (t k2) - (48 : Int32) = nI (t k2 - 48) by rw [show (10 : Int32) * (0 : Int32) = nI 0 by decide, nI_add, show (48 : Int32) = nI 48 from rfl, pk_sub (by omega), Nat.zero_add]]
    rw [f_Ref_decimalHere_301, rdig_ok hT hR (by omega), Option.bind_some]
    by_cases h2 : isd (t (k2 + 1)) = true
    · have d2 := isd_t.mp h2
      rw [if_neg (by rw [h2]; decide), if_neg (by decide), hR (k2 + 1) (by omega), Option.bind_some, if_pos h2, if_pos h2, jl_, jl_, jl_, show (1 : Int32) = nI 1 from rfl, nI_add, nI_add, show ((10 : Int32) * nI (t k2 - 48)) + nI (t (k2 + 1)) - (48 : Int32) = nI (10 * (t k2 - 48) + (t (k2 + 1) - 48)) by rw [show (10 : Int32) = nI 10 from rfl, pk_mul, nI_add, show (48 : Int32) = nI 48 from rfl, pk_sub (by omega)]; congr 1; omega]
      rw [f_Ref_decimalHere_301, rdig_ok hT hR (by omega), Option.bind_some]
      have F := d353 (b := b) (E := 10 * (t k2 - 48) + (t (k2 + 1) - 48)) (n := 2) (gd := gd) (neg := neg) (by omega) hb (by decide) (g6 := g6) (S := nI S) (k := nI (k2 + 2)) (g14 := g14) (g16 := g16) (g15 := g15)
      by_cases h3 : isd (t (k2 + 1 + 1)) = true
      · rw [if_neg (by rw [h3]; decide), if_pos (by decide)]
        exact F
      · rw [if_pos (by cases h : isd (t (k2 + 1 + 1)); rfl; exact absurd h h3)]
        exact F
    · rw [if_pos (by cases h : isd (t (k2 + 1)); rfl; exact absurd h h2), if_neg h2, if_neg h2]
      exact d353 (by omega) hb (by decide)
  · rw [if_pos (by cases h : isd (t k2); rfl; exact absurd h h1), if_neg h1, if_neg h1]
    exact d353 (n := 0) (E := 0) (by omega) hb (by decide)
theorem d218 {t : Nat → Nat} {S : Nat} (hT : Tx t S) {g6 : Nat → Int32} (hR : SeenR g6 S t) {k b : Nat} (hk : k ≤ S) (hb : b ≤ 200) {gd : Bool} {g14 g16 : Int32} {g15 : Int64} : f_Ref_decimalHere_218 (bI gd) (nI b) (0 : Int32) g6 (nI S) (nI k) g14 g15 g16 = some (bI (gd && (EXPo t k b).1), nI (EXPo t k b).2.2, g14, g15, zI (EXPo t k b).2.1) := by
  have hS := hT.hS
  have u1 := hT.up k
  have u2 := hT.up (k + 1)
  unfold f_Ref_decimalHere_218 EXPo
  rw [hR k (by omega), Option.bind_some]
  by_cases he : t k = 101
  · have h1 := hT.lt (k := k) (by omega)
    have h2 := sgnp_le hT (k := k + 1) (by omega)
    rw [if_pos (show nI (t k) = (101 : Int32) by rw [he]; rfl), if_pos he, jl_, show (1 : Int32) = nI 1 from rfl, nI_add, hR (k + 1) (by omega), Option.bind_some]
    by_cases h45 : t (k + 1) = 45
    · rw [if_pos (show nI (t (k + 1)) = (45 : Int32) by rw [h45]; rfl)]
      unfold f_Ref_decimalHere_261 f_Ref_decimalHere_282 f_Ref_decimalHere_295
      have e1 : sgnp t (k + 1) = k + 1 + 1 := by unfold sgnp; rw [if_pos (Or.inl h45)]
      rw [if_neg (by decide), show (1 : Int32) = nI 1 from rfl, nI_add, e1, if_pos h45]
      rw [e1] at h2
      exact d301 hT hR (k2 := k + 1 + 1) (neg := true) h2.2 hb 4997
    · rw [if_neg (show ¬ nI (t (k + 1)) = (45 : Int32) from fun h9 => h45 ((nI_eq (b := 45) (by omega) (by decide)).mp h9))]
      unfold f_Ref_decimalHere_261 f_Ref_decimalHere_282 f_Ref_decimalHere_295
      rw [if_pos rfl, hR (k + 1) (by omega), Option.bind_some, if_neg h45]
      by_cases h43 : t (k + 1) = 43
      · have e1 : sgnp t (k + 1) = k + 1 + 1 := by unfold sgnp; rw [if_pos (Or.inr h43)]
        rw [if_pos (show nI (t (k + 1)) = (43 : Int32) by rw [h43]; rfl), show (1 : Int32) = nI 1 from rfl, nI_add, e1]
        rw [e1] at h2
        exact d301 hT hR (k2 := k + 1 + 1) (neg := false) h2.2 hb 4997
      · have e1 : sgnp t (k + 1) = k + 1 := by unfold sgnp; rw [if_neg (by omega)]
        rw [if_neg (show ¬ nI (t (k + 1)) = (43 : Int32) from fun h9 => h43 ((nI_eq (b := 43) (by omega) (by decide)).mp h9)), e1]
        rw [e1] at h2
        exact d301 hT hR (k2 := k + 1) (neg := false) h2.2 hb 4997
  · rw [if_neg (show ¬ nI (t k) = (101 : Int32) from fun h9 => he ((nI_eq (b := 101) (by omega) (by decide)).mp h9)), if_neg he]
    have := d385 (b := b) (e := 0) (gd := gd) (by decide) (by decide) hb (g6 := g6) (S := nI S) (k := nI k) (g14 := g14) (g16 := g16) (g15 := g15)
    rw [Int.zero_sub] at this
    exact this
theorem d200 {t : Nat → Nat} {S : Nat} (hT : Tx t S) {g6 : Nat → Int32} (hR : SeenR g6 S t) {k b c a : Nat} (hk : k ≤ S) (hb : b ≤ 200) (hc : c ≤ 200) (ha : a ≤ 200) {g14 g16 : Int32} {g15 : Int64} : f_Ref_decimalHere_200 (nI c) (nI a) (nI b) g6 (nI S) (nI k) g14 g15 g16 = some (bI ((decide (0 < a) && decide (c ≤ 18)) && (EXPo t k b).1), nI (EXPo t k b).2.2, g14, g15, zI (EXPo t k b).2.1) := by
  unfold f_Ref_decimalHere_200 f_Ref_decimalHere_217
  by_cases h1 : a = 0
  · rw [if_pos (show nI a ≤ 0 by rw [h1]; decide), show f_Ref_decimalHere_218 (0 : Int32) (nI b) (0 : Int32) g6 (nI S) (nI k) g14 g15 g16 = _ from d218 hT hR (gd := false) hk hb, decide_eq_false (show ¬ 0 < a by omega)]
    rfl
  · rw [if_neg (nI_nle (by omega) (by omega)), decide_eq_true (show 0 < a by omega)]
    by_cases h2 : 18 < c
    · rw [if_pos (show (18 : Int32) < nI c from nI_lt (a := 18) h2 (by omega)), show f_Ref_decimalHere_218 (0 : Int32) (nI b) (0 : Int32) g6 (nI S) (nI k) g14 g15 g16 = _ from d218 hT hR (gd := false) hk hb, decide_eq_false (show ¬ c ≤ 18 by omega)]
      rfl
    · rw [if_neg (show ¬ (18 : Int32) < nI c from nI_nlt (a := 18) (by omega) (by decide)), show f_Ref_decimalHere_218 (1 : Int32) (nI b) (0 : Int32) g6 (nI S) (nI k) g14 g15 g16 = _ from d218 hT hR (gd := true) hk hb, decide_eq_true (show c ≤ 18 by omega)]
      rfl
/-- one digit -/
theorem d101 {t : Nat → Nat} {S : Nat} (hT : Tx t S) {g6 : Nat → Int32} (hR : SeenR g6 S t) {k : Nat} (hk : k ≤ S) (hd : isd (t k) = true) {c a p b : Nat} (hc : c ≤ 200) {K} {g14 g16 : Int32} {g15 : Int64} : f_Ref_decimalHere_101 K (nI c) (nI a) (nI p) (nI b) g6 (nI S) (nI k) g14 g15 g16 = K (nI (if c = 0 ∧ t k = 48 then 0 else c + 1)) (nI (a + 1)) (nI p) (nI (b + p)) g6 (nI S) (nI (k + 1)) g14 (if (if c = 0 ∧ t k = 48 then 0 else c + 1) ≤ 18 then (10 : Int64) * g15 + lN (t k - 48) else g15) g16 := by
  have hS := hT.hS
  have d1 := isd_t.mp hd
  have K148 : ∀ c' : Nat, c' ≤ 300 → f_Ref_decimalHere_148 K (nI c') (nI a) (nI p) (nI b) (nI (t k - 48)) g6 (nI S) (nI k) g14 g15 g16 = K (nI c') (nI (a + 1)) (nI p) (nI (b + p)) g6 (nI S) (nI (k + 1)) g14 (if c' ≤ 18 then (10 : Int64) * g15 + lN (t k - 48) else g15) g16 := fun c' hc' => by
    unfold f_Ref_decimalHere_148 f_Ref_decimalHere_175 f_Ref_decimalHere_187
    by_cases h : c' ≤ 18
    · rw [if_neg (show ¬ (18 : Int32) < nI c' from nI_nlt (a := 18) h (by decide)), jl_, jl_, jl_, show (1 : Int32) = nI 1 from rfl, nI_add, nI_add, nI_add, if_pos h, nI_l (by omega)]
    · rw [if_pos (show (18 : Int32) < nI c' from nI_lt (a := 18) (by omega) (by omega)), jl_, jl_, jl_, show (1 : Int32) = nI 1 from rfl, nI_add, nI_add, nI_add, if_neg h]
  unfold f_Ref_decimalHere_101 f_Ref_decimalHere_141
  rw [hR k (by omega), Option.bind_some, if_neg (show ¬ nI (t k) = (46 : Int32) from fun h9 => by have := (nI_eq (b := 46) (by omega) (by decide)).mp h9; omega), Option.bind_some, show (48 : Int32) = nI 48 from rfl, pk_sub (by omega), jl_]
  by_cases h0 : c = 0
  · rw [if_neg (show ¬ (0 : Int32) < nI c by rw [h0]; decide)]
    by_cases h48 : t k = 48
    · rw [if_pos (show nI (t k - 48) ≤ 0 by rw [h48]; decide), show (0 : Int32) = nI 0 from rfl, K148 0 (by decide), if_pos (show c = 0 ∧ t k = 48 from ⟨h0, h48⟩)]
    · rw [if_neg (nI_nle (by omega) (by omega)), show (1 : Int32) = nI 1 from rfl, nI_add, K148 (c + 1) (by omega), if_neg (show ¬ (c = 0 ∧ t k = 48) from fun h => h48 h.2)]
  · rw [if_pos (show (0 : Int32) < nI c from nI_lt (a := 0) (by omega) (by omega)), show (1 : Int32) = nI 1 from rfl, nI_add, K148 (c + 1) (by omega), if_neg (show ¬ (c = 0 ∧ t k = 48) from fun h => h0 h.1)]
/-- too many figures: false in the end -/
theorem dbad {t : Nat → Nat} {S : Nat} (hT : Tx t S) {g6 : Nat → Int32} (hR : SeenR g6 S t) {g14 g16 : Int32} : ∀ (d k m c a p b : Nat) (g15 : Int64), k + d = S → d < m → 18 < c → c + d ≤ 150 → a + d ≤ 150 → b + d ≤ 150 → p ≤ 1 → ∃ k' D' q', f_Ref_decimalHere_73 m (nI c) (nI a) (nI p) (nI b) g6 (nI S) (nI k) g14 g15 g16 = some ((0 : Int32), k', g14, D', q') := by
  have hS := hT.hS
  intro d
  have E : ∀ (k c a b : Nat) (g15 : Int64), k ≤ S → 18 < c → c ≤ 150 → a ≤ 150 → b ≤ 150 → ∃ k' D' q', f_Ref_decimalHere_200 (nI c) (nI a) (nI b) g6 (nI S) (nI k) g14 g15 g16 = some ((0 : Int32), k', g14, D', q') := fun k c a b g15 hk hc hc2 ha hb => by
    refine ⟨nI (EXPo t k b).2.2, g15, zI (EXPo t k b).2.1, ?_⟩
    rw [d200 hT hR hk (by omega) (by omega) (by omega), decide_eq_false (show ¬ c ≤ 18 by omega), Bool.and_false, Bool.false_and]
    rfl
  induction d with
  | zero =>
    intro k m c a p b g15 hk hm hc hc2 ha hb hp
    obtain ⟨m', rfl⟩ : ∃ m', m = m' + 1 := ⟨m - 1, by omega⟩
    have e0 : t k = 0 := hT.hi k (by omega)
    rw [f_Ref_decimalHere_73, rdig_ok hT hR (by omega), Option.bind_some, e0, if_pos (by decide), hR k (by omega), Option.bind_some, e0, if_neg (by decide)]
    exact E k c a b g15 (by omega) hc (by omega) (by omega) (by omega)
  | succ d ih =>
    intro k m c a p b g15 hk hm hc hc2 ha hb hp
    obtain ⟨m', rfl⟩ : ∃ m', m = m' + 1 := ⟨m - 1, by omega⟩
    have u := hT.up k
    rw [f_Ref_decimalHere_73, rdig_ok hT hR (by omega), Option.bind_some]
    by_cases hd : isd (t k) = true
    · rw [if_neg (by rw [hd]; decide), d101 hT hR (by omega) hd (by omega), if_neg (show ¬ (c = 0 ∧ t k = 48) by omega)]
      exact ih (k + 1) m' (c + 1) (a + 1) p (b + p) _ (by omega) (by omega) (by omega) (by omega) (by omega) (by omega) hp
    · rw [if_pos (by cases h : isd (t k); rfl; exact absurd h hd), hR k (by omega), Option.bind_some]
      by_cases h46 : t k = 46
      · rw [if_pos (show nI (t k) = (46 : Int32) by rw [h46]; rfl)]
        by_cases hp0 : p = 0
        · rw [if_pos (show nI p = 0 by rw [hp0]; rfl)]
          unfold f_Ref_decimalHere_101 f_Ref_decimalHere_187
          rw [hR k (by omega), Option.bind_some, if_pos (show nI (t k) = (46 : Int32) by rw [h46]; rfl), jl_, show (1 : Int32) = nI 1 from rfl, nI_add]
          exact ih (k + 1) m' c a 1 b g15 (by omega) (by omega) hc (by omega) (by omega) (by omega) (by decide)
        · rw [if_neg (fun h9 => hp0 ((i_eq0 (by omega)).mp h9))]
          exact E k c a b g15 (by omega) hc (by omega) (by omega) (by omega)
      · rw [if_neg (show ¬ nI (t k) = (46 : Int32) from fun h9 => h46 ((nI_eq (b := 46) (by omega) (by decide)).mp h9))]
        exact E k c a b g15 (by omega) hc (by omega) (by omega) (by omega)
/-- the digits, in either part -/
def DR (r : Bool × Nat × Nat × Nat) (k a p b m : Nat) (g6 : Nat → Int32) (S : Nat) (g14 g16 : Int32) (F : Option (Int32 × Int32 × Int32 × Int64 × Int32)) : Prop := (r.1 = false → ∃ k' D' q', F = some ((0 : Int32), k', g14, D', q')) ∧ (r.1 = true → ∃ m', F = f_Ref_decimalHere_73 (m' + 1) (nI r.2.2.2) (nI (a + (r.2.1 - k))) (nI p) (nI (b + p * (r.2.1 - k))) g6 (nI S) (nI r.2.1) g14 (lN r.2.2.1) g16 ∧ m ≤ m' + 1 + (r.2.1 - k))
theorem DR.step {r : Bool × Nat × Nat × Nat} {k a p b m : Nat} {g6 : Nat → Int32} {S : Nat} {g14 g16 : Int32} {F : Option (Int32 × Int32 × Int32 × Int64 × Int32)} (h : DR r (k + 1) (a + 1) p (b + p) m g6 S g14 g16 F) (hk : k + 1 ≤ r.2.1) : DR r k a p b (m + 1) g6 S g14 g16 F := by
  refine ⟨h.1, fun h1 => ?_⟩
  obtain ⟨m', e1, e2⟩ := h.2 h1
  refine ⟨m', ?_, by omega⟩
  rw [e1]
  have e3 : b + p + p * (r.2.1 - (k + 1)) = b + p * (r.2.1 - k) := by
    rw [show r.2.1 - k = (r.2.1 - (k + 1)) + 1 by omega, Nat.mul_add, Nat.mul_one]
    omega
  rw [e3, show a + 1 + (r.2.1 - (k + 1)) = a + (r.2.1 - k) by omega]
theorem dgood {t : Nat → Nat} {S : Nat} (hT : Tx t S) {g6 : Nat → Int32} (hR : SeenR g6 S t) {g14 g16 : Int32} : ∀ (n k m c a p b D : Nat), k ≤ S → S ≤ k + n → n + 5 < m → IVd D c → a + n ≤ 130 → b + n ≤ 130 → p ≤ 1 → DR (digs t n k D c) k a p b m g6 S g14 g16 (f_Ref_decimalHere_73 m (nI c) (nI a) (nI p) (nI b) g6 (nI S) (nI k) g14 (lN D) g16) := by
  have hS := hT.hS
  have Z : ∀ (k m c a p b D : Nat), 0 < m → DR (true, k, D, c) k a p b m g6 S g14 g16 (f_Ref_decimalHere_73 m (nI c) (nI a) (nI p) (nI b) g6 (nI S) (nI k) g14 (lN D) g16) := fun k m c a p b D hm => by
    obtain ⟨m', rfl⟩ : ∃ m', m = m' + 1 := ⟨m - 1, by omega⟩
    refine ⟨fun h => absurd (show true = false from h) (by decide), fun _ => ⟨m', ?_, ?_⟩⟩
    · simp only [Nat.sub_self, Nat.mul_zero, Nat.add_zero]
    · simp only [Nat.sub_self]
      omega
  intro n
  induction n with
  | zero =>
    intro k m c a p b D hk hn hm hI ha hb hp
    rw [digs]
    exact Z k m c a p b D (by omega)
  | succ n ih =>
    intro k m c a p b D hk hn hm hI ha hb hp
    by_cases hd : isd (t k) = true
    · obtain ⟨m', rfl⟩ : ∃ m', m = m' + 1 := ⟨m - 1, by omega⟩
      have d1 := isd_t.mp hd
      have hk1 := hT.lt (k := k) (by omega)
      have hc18 := hI.1
      have hDl := hI.lt
      have eF : f_Ref_decimalHere_73 (m' + 1) (nI c) (nI a) (nI p) (nI b) g6 (nI S) (nI k) g14 (lN D) g16 = f_Ref_decimalHere_73 m' (nI (if c = 0 ∧ t k = 48 then 0 else c + 1)) (nI (a + 1)) (nI p) (nI (b + p)) g6 (nI S) (nI (k + 1)) g14 (if (if c = 0 ∧ t k = 48 then 0 else c + 1) ≤ 18 then (10 : Int64) * lN D + lN (t k - 48) else lN D) g16 := by
        rw [f_Ref_decimalHere_73, rdig_ok hT hR (by omega), Option.bind_some, if_neg (by rw [hd]; decide), d101 hT hR (by omega) hd (by omega)]
      rw [eF]
      by_cases hz : D = 0 ∧ t k = 48
      · have hc0 := hI.2.2 hz.1
        have e1 : (10 : Int64) * lN D + lN (t k - 48) = lN D := by rw [hz.1, hz.2]; rfl
        have e2 : digs t (n + 1) k D c = digs t n (k + 1) D 0 := by rw [digs, if_pos hd, if_pos hz, hc0]
        have hI2 : IVd D 0 := by rw [← hc0]; exact hI
        rw [e2, if_pos (show c = 0 ∧ t k = 48 from ⟨hc0, hz.2⟩), if_pos (by omega), e1]
        exact (ih (k + 1) m' 0 (a + 1) p (b + p) D (by omega) (by omega) (by omega) hI2 (by omega) (by omega) hp).step (digs_ok hT n (k + 1) D 0 (by omega) (by omega) hI2).1
      · have hz2 : ¬ (c = 0 ∧ t k = 48) := by
          rintro ⟨h1, h2⟩
          apply hz
          refine ⟨?_, h2⟩
          have := hI.2.1
          rw [h1] at this
          simpa using this
        rw [if_neg hz2]
        by_cases hc : 18 ≤ c
        · have e2 : digs t (n + 1) k D c = (false, k, D, c) := by rw [digs, if_pos hd, if_neg hz, if_pos hc]
          rw [e2, if_neg (by omega)]
          refine ⟨fun _ => ?_, fun h => absurd (show false = true from h) (by decide)⟩
          exact dbad hT hR (S - (k + 1)) (k + 1) m' (c + 1) (a + 1) p (b + p) (lN D) (by omega) (by omega) (by omega) (by omega) (by omega) (by omega) hp
        · have e1 : (10 : Int64) * lN D + lN (t k - 48) = lN (D * 10 + (t k - 48)) := by
            rw [show (10 : Int64) = lN 10 from rfl, lN_mul, lN_add, Nat.mul_comm]
          have e2 : digs t (n + 1) k D c = digs t n (k + 1) (D * 10 + (t k - 48)) (c + 1) := by rw [digs, if_pos hd, if_neg hz, if_neg hc]
          have hI2 := hI.step (d := t k - 48) hc (by omega) (by omega)
          rw [e2, if_pos (by omega), e1]
          exact (ih (k + 1) m' (c + 1) (a + 1) p (b + p) _ (by omega) (by omega) (by omega) hI2 (by omega) (by omega) hp).step (digs_ok hT n (k + 1) _ _ (by omega) (by omega) hI2).1
    · have e2 : digs t (n + 1) k D c = (true, k, D, c) := by rw [digs, if_neg hd]
      rw [e2]
      exact Z k m c a p b D (by omega)
theorem d73_end {t : Nat → Nat} {S : Nat} (hT : Tx t S) {g6 : Nat → Int32} (hR : SeenR g6 S t) {k c a b p : Nat} (hk : k ≤ S) (hb : b ≤ 200) (hc : c ≤ 18) (ha : a ≤ 200) (hp : p ≤ 1) (hd : isd (t k) = false) (h46 : p = 1 ∨ t k ≠ 46) (m : Nat) {g14 g16 : Int32} {g15 : Int64} : f_Ref_decimalHere_73 (m + 1) (nI c) (nI a) (nI p) (nI b) g6 (nI S) (nI k) g14 g15 g16 = some (bI (decide (0 < a) && (EXPo t k b).1), nI (EXPo t k b).2.2, g14, g15, zI (EXPo t k b).2.1) := by
  have hS := hT.hS
  have u := hT.up k
  have F := d200 hT hR (k := k) (b := b) (c := c) (a := a) hk hb (by omega) ha (g14 := g14) (g15 := g15) (g16 := g16)
  rw [decide_eq_true hc, Bool.and_true] at F
  rw [f_Ref_decimalHere_73, rdig_ok hT hR (by omega), Option.bind_some, if_pos (by rw [hd]; rfl), hR k (by omega), Option.bind_some]
  by_cases h4 : t k = 46
  · rw [if_pos (show nI (t k) = (46 : Int32) by rw [h4]; rfl), if_neg (fun h9 => by have := (i_eq0 (by omega)).mp h9; omega)]
    exact F
  · rw [if_neg (show ¬ nI (t k) = (46 : Int32) from fun h9 => h4 ((nI_eq (b := 46) (by omega) (by decide)).mp h9))]
    exact F
theorem rnum_ok {t : Nat → Nat} {S : Nat} (hT : Tx t S) {g6 : Nat → Int32} (hR : SeenR g6 S t) {k : Nat} (hk : k ≤ S) {g14 g16 : Int32} : (∃ D p k', NUM t k = some (D, p, k') ∧ f_Ref_decimalHere_73 5000 (nI 0) (nI 0) (nI 0) (nI 0) g6 (nI S) (nI k) g14 (lN 0) g16 = some ((1 : Int32), nI k', g14, lN D, zI p)) ∨ (NUM t k = none ∧ ∃ k' D p, f_Ref_decimalHere_73 5000 (nI 0) (nI 0) (nI 0) (nI 0) g6 (nI S) (nI k) g14 (lN 0) g16 = some ((0 : Int32), k', g14, D, p)) := by
  have hS := hT.hS
  have hI0 : IVd 0 0 := ⟨by decide, by decide, fun _ => rfl⟩
  have d1 := digs_ok hT 60 k 0 0 hk (by omega) hI0
  have G := dgood hT hR (g14 := g14) (g16 := g16) 60 k 5000 0 0 0 0 0 hk (by omega) (by decide) hI0 (by decide) (by decide) (by decide)
  unfold NUM
  obtain ⟨a, ha⟩ : ∃ a, a = digs t 60 k 0 0 := ⟨_, rfl⟩
  rw [← ha] at d1 G ⊢
  obtain ⟨b1, k1, D1, e1⟩ := a
  simp only at d1 ⊢
  cases b1
  · rw [if_pos rfl]
    exact Or.inr ⟨rfl, G.1 rfl⟩
  · rw [if_neg (show ¬ true = false by decide)]
    obtain ⟨m1, f1, f2⟩ := G.2 rfl
    simp only [Nat.zero_add, Nat.zero_mul] at f1 f2
    rw [f1]
    have he1 := d1.2.2.1.1
    by_cases hp : t k1 = 46
    · have hk1 := hT.lt (k := k1) (by omega)
      have d2 := digs_ok hT 60 (k1 + 1) D1 e1 (by omega) (by omega) d1.2.2.1
      have G2 := dgood hT hR (g14 := g14) (g16 := g16) 60 (k1 + 1) m1 e1 (k1 - k) 1 0 D1 (by omega) (by omega) (by omega) d1.2.2.1 (by omega) (by omega) (by decide)
      have eS : f_Ref_decimalHere_73 (m1 + 1) (nI e1) (nI (k1 - k)) (nI 0) (nI 0) g6 (nI S) (nI k1) g14 (lN D1) g16 = f_Ref_decimalHere_73 m1 (nI e1) (nI (k1 - k)) (nI 1) (nI 0) g6 (nI S) (nI (k1 + 1)) g14 (lN D1) g16 := by
        rw [f_Ref_decimalHere_73, rdig_ok hT hR (by omega), Option.bind_some, if_pos (by rw [d1.2.2.2 rfl]; rfl), hR k1 (by omega), Option.bind_some, if_pos (show nI (t k1) = (46 : Int32) by rw [hp]; rfl), if_pos (show nI 0 = 0 from rfl)]
        unfold f_Ref_decimalHere_101 f_Ref_decimalHere_187
        rw [hR k1 (by omega), Option.bind_some, if_pos (show nI (t k1) = (46 : Int32) by rw [hp]; rfl), jl_, show (1 : Int32) = nI 1 from rfl, nI_add]
      rw [eS, if_pos hp]
      obtain ⟨a2, ha2⟩ : ∃ a, a = digs t 60 (k1 + 1) D1 e1 := ⟨_, rfl⟩
      rw [← ha2] at d2 G2 ⊢
      obtain ⟨b2, k2, D2, e2⟩ := a2
      simp only at d2 ⊢
      cases b2
      · rw [if_pos rfl]
        exact Or.inr ⟨rfl, G2.1 rfl⟩
      · rw [if_neg (show ¬ true = false by decide)]
        obtain ⟨m2, h1, h2⟩ := G2.2 rfl
        simp only [Nat.zero_add, Nat.one_mul] at h1
        have he2 := d2.2.2.1.1
        rw [h1, d73_end hT hR d2.2.1 (by omega) he2 (by omega) (by decide) (d2.2.2.2 rfl) (Or.inl rfl)]
        by_cases hz : k1 - k + (k2 - (k1 + 1)) = 0
        · rw [if_pos hz, decide_eq_false (by omega), Bool.false_and]
          exact Or.inr ⟨rfl, _, _, _, rfl⟩
        · rw [if_neg hz, decide_eq_true (show 0 < k1 - k + (k2 - (k1 + 1)) by omega), Bool.true_and]
          cases he : (EXPo t k2 (k2 - (k1 + 1))).1
          · rw [if_neg (by decide)]
            exact Or.inr ⟨rfl, _, _, _, rfl⟩
          · rw [if_pos rfl]
            exact Or.inl ⟨D2, _, _, rfl, rfl⟩
    · rw [if_neg hp, d73_end hT hR d1.2.1 (by omega) he1 (by omega) (by decide) (d1.2.2.2 rfl) (Or.inr hp)]
      by_cases hz : k1 - k = 0
      · rw [if_pos hz, decide_eq_false (by omega), Bool.false_and]
        exact Or.inr ⟨rfl, _, _, _, rfl⟩
      · rw [if_neg hz, decide_eq_true (show 0 < k1 - k by omega), Bool.true_and]
        cases he : (EXPo t k1 0).1
        · rw [if_neg (by decide)]
          exact Or.inr ⟨rfl, _, _, _, rfl⟩
        · rw [if_pos rfl]
          exact Or.inl ⟨D1, _, _, rfl, rfl⟩
theorem rdh_ok {t : Nat → Nat} {S : Nat} (hT : Tx t S) {g6 : Nat → Int32} (hR : SeenR g6 S t) {k : Nat} (hk : k ≤ S) {g14 g16 : Int32} {g15 : Int64} : (∃ D p k', NUM t (sgnp t k) = some (D, p, k') ∧ f_Ref_decimalHere g6 (nI S) (nI k) g14 g15 g16 = some ((1 : Int32), nI k', bI (decide (t k = 45)), lN D, zI p)) ∨ (NUM t (sgnp t k) = none ∧ ∃ k' D p, f_Ref_decimalHere g6 (nI S) (nI k) g14 g15 g16 = some ((0 : Int32), k', bI (decide (t k = 45)), D, p)) := by
  have hS := hT.hS
  have u := hT.up k
  have h1 := sgnp_le hT hk
  have E : f_Ref_decimalHere g6 (nI S) (nI k) g14 g15 g16 = f_Ref_decimalHere_73 5000 (nI 0) (nI 0) (nI 0) (nI 0) g6 (nI S) (nI (sgnp t k)) (bI (decide (t k = 45))) (lN 0) g16 := by
    unfold f_Ref_decimalHere f_Ref_decimalHere_0 f_Ref_decimalHere_19 f_Ref_decimalHere_43 f_Ref_decimalHere_56
    rw [hR k (by omega), Option.bind_some]
    by_cases h45 : t k = 45
    · have e1 : sgnp t k = k + 1 := by unfold sgnp; rw [if_pos (Or.inl h45)]
      rw [if_pos (show nI (t k) = (45 : Int32) by rw [h45]; rfl), if_pos (by decide), if_neg (by decide), e1, decide_eq_true h45, show nI k + (1 : Int32) = nI (k + 1) from nI_add k 1]
      rfl
    · rw [if_neg (show ¬ nI (t k) = (45 : Int32) from fun h9 => h45 ((nI_eq (b := 45) (by omega) (by decide)).mp h9)), if_pos (by decide), if_pos rfl, Option.bind_some, decide_eq_false h45]
      by_cases h43 : t k = 43
      · have e1 : sgnp t k = k + 1 := by unfold sgnp; rw [if_pos (Or.inr h43)]
        rw [if_pos (show nI (t k) = (43 : Int32) by rw [h43]; rfl), e1, show nI k + (1 : Int32) = nI (k + 1) from nI_add k 1]
        rfl
      · have e1 : sgnp t k = k := by unfold sgnp; rw [if_neg (by omega)]
        rw [if_neg (show ¬ nI (t k) = (43 : Int32) from fun h9 => h43 ((nI_eq (b := 43) (by omega) (by decide)).mp h9)), e1]
        rfl
  rw [E]
  exact rnum_ok hT hR h1.2
