-- calls that look at cells
theorem there_eq (v g : Int32) : f_Tape_isThere v g = f_Ref_there v g := rfl
theorem there_ok {c : Nat} (hc : c ≤ 40) (v : Int32) : f_Ref_there v (nI c) = some (0 : Int32) ∨ ∃ i, i < c ∧ v = nI i ∧ f_Ref_there v (nI c) = some (1 : Int32) := by
  unfold f_Ref_there f_Ref_there_0 f_Ref_there_16 f_Ref_there_17
  rcases pk_ix v (n := c) (by omega) with h | h | ⟨j, hj, e⟩
  · rw [if_pos h, if_pos (by decide)]
    exact Or.inl rfl
  · by_cases h0 : v < 0
    · rw [if_pos h0, if_pos (by decide)]
      exact Or.inl rfl
    · rw [if_neg h0, if_pos h, if_pos (by decide)]
      exact Or.inl rfl
  · right
    refine ⟨j, hj, e, ?_⟩
    rw [e, if_neg (show ¬ nI j < 0 from nI_nlt (b := 0) (Nat.zero_le _) (by omega)), if_neg (lt_c hj (by omega)), if_pos (by decide)]
theorem tb_eq (r : Int64) : f_Rank_toBits r = f_Ref_bits r := by
  unfold f_Rank_toBits f_Rank_toBits_0 f_Rank_toBits_16 f_Ref_bits f_Ref_bits_0 f_Ref_bits_16
  split
  · rfl
  · congr 1
    apply Int64.toBitVec_inj.1
    show (-r).toBitVec ||| (-9223372036854775808 : Int64).toBitVec = (-9223372036854775808 : Int64).toBitVec ||| (-r).toBitVec
    exact BitVec.or_comm _ _
theorem tb_some (r : Int64) : ∃ b, f_Ref_bits r = some b := by
  unfold f_Ref_bits f_Ref_bits_0 f_Ref_bits_16
  split
  · exact ⟨_, rfl⟩
  · exact ⟨_, rfl⟩
theorem tb_pos {r : Int} (h0 : 0 ≤ r) (h : r.natAbs ≤ INF) : f_Ref_bits (lZ r) = some (lZ r) := by
  have hI : INF = 9218868437227405312 := rfl
  unfold f_Ref_bits f_Ref_bits_0 f_Ref_bits_16
  rw [if_pos ((l_le0 (by omega) (by omega)).mpr h0)]
theorem bits_ok (v : Int64) : ∃ a : Nat, a < 2 ^ 63 ∧ v &&& (9223372036854775807 : Int64) = lN a ∧ f_Rank_ofBits v = some (if (0 : Int64) ≤ v then lN a else -(lN a)) ∧ f_Ref_order v = some (if (0 : Int64) ≤ v then lN a else -(lN a)) := by
  by_cases h : (0 : Int64) ≤ v
  · obtain ⟨k, hk, e⟩ := pk_lOf (x := v) (by
      intro h9
      rw [Int64.lt_iff_toInt_lt] at h9
      rw [Int64.le_iff_toInt_le] at h
      omega)
    have e2 : v &&& (9223372036854775807 : Int64) = lN k := by
      rw [e, q_and (by omega) 63 (by decide), Nat.mod_eq_of_lt hk]
    refine ⟨k, hk, e2, ?_, ?_⟩
    · unfold f_Rank_ofBits f_Rank_ofBits_0 f_Rank_ofBits_18
      rw [e2, jl_, if_pos h, if_pos h]
    · unfold f_Ref_order f_Ref_order_0 f_Ref_order_16
      rw [if_pos h, if_pos h, e]
  · have e2 : v &&& (9223372036854775807 : Int64) = lN (v.toBitVec.toNat % 2 ^ 63) := by
      apply Int64.toBitVec_inj.1
      apply BitVec.eq_of_toNat_eq
      show (v.toBitVec &&& (9223372036854775807 : Int64).toBitVec).toNat = _
      rw [BitVec.toNat_and, show (9223372036854775807 : Int64).toBitVec.toNat = 2 ^ 63 - 1 by decide, Nat.and_two_pow_sub_one_eq_mod, q_tn (by omega)]
    refine ⟨_, Nat.mod_lt _ (by decide), e2, ?_, ?_⟩
    · unfold f_Rank_ofBits f_Rank_ofBits_0 f_Rank_ofBits_18
      rw [e2, jl_, if_neg h, if_neg h]
    · unfold f_Ref_order f_Ref_order_0 f_Ref_order_16
      rw [if_neg h, if_neg h, e2]
/-- a number's rank -/
theorem rank_ok (v : Int64) : (f_Rank_isNumber v = some (0 : Int32) ∧ (9218868437227405312 : Int64) < (v &&& (9223372036854775807 : Int64))) ∨ ∃ r : Int, r.natAbs ≤ INF ∧ f_Rank_isNumber v = some (1 : Int32) ∧ ¬ (9218868437227405312 : Int64) < (v &&& (9223372036854775807 : Int64)) ∧ f_Rank_ofBits v = some (lZ r) ∧ f_Ref_order v = some (lZ r) := by
  have hI : INF = 9218868437227405312 := rfl
  obtain ⟨a, ha, e1, e2, e3⟩ := bits_ok v
  unfold f_Rank_isNumber f_Rank_isNumber_0 f_Rank_isNumber_17
  rw [e1]
  by_cases h : (9218868437227405312 : Int64) < lN a
  · rw [if_pos h, if_pos (by decide)]
    exact Or.inl ⟨rfl, h⟩
  · have hle : a ≤ INF := Nat.le_of_not_lt (fun h9 => h ((pk_lLT (a := 9218868437227405312) (by decide) (by omega)).mpr h9))
    rw [if_neg h, if_pos (by decide)]
    right
    by_cases h0 : (0 : Int64) ≤ v
    · rw [if_pos h0] at e2 e3
      exact ⟨(a : Int), by omega, rfl, h, e2, e3⟩
    · rw [if_neg h0, lN_Z, lZ_neg] at e2 e3
      exact ⟨-(a : Int), by omega, rfl, h, e2, e3⟩
def BND (v1 v3 : Int64) (l h : Int) (d : Nat) : Option (Option (Int × Int × Nat)) := if l < INF ∧ -(INF : Int) < h ∧ l ≤ h ∧ (d = 4 → BM l h = 4) then some (some (l, h, d)) else none
theorem CellOk_BND {v1 v3 : Int64} {l h : Int} {d : Nat} (hl : l.natAbs ≤ INF) (hh : h.natAbs ≤ INF) (h1 : 1 ≤ d) (h4 : d ≤ 4) : CellOk (BND v1 v3 l h d) := by
  unfold BND
  split
  · next hc => exact ⟨hl, hh, hc.2.2.1, hc.1, hc.2.1, h1, h4, hc.2.2.2⟩
  · trivial
theorem cbnd_ok {v1 v3 : Int64} {l h : Int} {d : Nat} (hl : l.natAbs ≤ INF) (hh : h.natAbs ≤ INF) (h4 : d ≤ 4) : f_Cell_between (lZ l) (lZ h) (nI d) = some (cc (BND v1 v3 l h d)) := by
  have hI : INF = 9218868437227405312 := rfl
  have ILL : f_Cell_between_39 (nI d) (lZ l) (lZ h) (nI d) = some (cc none) := by
    unfold f_Cell_between_39 f_Cell_between_40 f_Cell_between_66
    rw [if_pos rfl]
    rfl
  unfold BND
  by_cases hle : l ≤ h
  · by_cases h1 : l < INF
    · by_cases h2 : -(INF : Int) < h
      · rw [between_ok hl hh hle h1 h2 h4]
        by_cases hb : d = 4 → BM l h = 4
        · rw [if_neg (fun h9 => h9.2 (hb h9.1)), if_pos ⟨h1, h2, hle, hb⟩]
          rfl
        · have hd : d = 4 := Classical.byContradiction (fun h9 => hb (fun h8 => absurd h8 h9))
          rw [if_pos ⟨hd, fun h9 => hb (fun _ => h9)⟩, if_neg (fun h9 => hb h9.2.2.2)]
          rfl
      · rw [if_neg (fun h9 => h2 h9.2.1)]
        unfold f_Cell_between f_Cell_between_0
        rw [show (-9218868437227405312 : Int64) = lZ (-(INF : Int)) by decide, show (9218868437227405312 : Int64) = lZ (INF : Int) by decide, if_neg (fun h9 => by have := (l_lt (by omega) (by omega) (by omega) (by omega)).mp h9; omega), if_neg (fun h9 => by have := (l_le (by omega) (by omega) (by omega) (by omega)).mp h9; omega), if_pos ((l_le (by omega) (by omega) (by omega) (by omega)).mpr (by omega)), ILL]
    · rw [if_neg (fun h9 => h1 h9.1)]
      unfold f_Cell_between f_Cell_between_0
      rw [show (-9218868437227405312 : Int64) = lZ (-(INF : Int)) by decide, show (9218868437227405312 : Int64) = lZ (INF : Int) by decide, if_neg (fun h9 => by have := (l_lt (by omega) (by omega) (by omega) (by omega)).mp h9; omega), if_pos ((l_le (by omega) (by omega) (by omega) (by omega)).mpr (by omega)), ILL]
  · rw [if_neg (fun h9 => hle h9.2.2.1)]
    unfold f_Cell_between f_Cell_between_0
    rw [if_pos ((l_lt (by omega) (by omega) (by omega) (by omega)).mpr (by omega)), ILL]
theorem rbd_ok {v1 v3 : Int64} {l h : Int} {d c : Nat} (hl : l.natAbs ≤ INF) (hh : h.natAbs ≤ INF) (h4 : d ≤ 4) (hc : c < 40) (e1 : f_Ref_order v1 = some (lZ l)) (e3 : f_Ref_order v3 = some (lZ h)) (g1 : Nat → Int32) (g2 g3 : Nat → Int64) (g4 : Nat → Int32) : f_Ref_bounds_72 (1 : Int32) v1 v3 (nI d) (nI c) g1 g2 g3 g4 (0 : Int32) = some (nI c, nI (c + 1), upd g1 c (kc (BND v1 v3 l h d)).1, vp_updL g2 c (kc (BND v1 v3 l h d)).2.1, vp_updL g3 c (kc (BND v1 v3 l h d)).2.2.1, upd g4 c (kc (BND v1 v3 l h d)).2.2.2, (0 : Int32)) := by
  have hI : INF = 9218868437227405312 := rfl
  have ILL : f_Ref_bounds_133 (nI c) g1 g2 g3 g4 (0 : Int32) = some (nI c, nI (c + 1), upd g1 c (0 : Int32), vp_updL g2 c (0 : Int64), vp_updL g3 c (0 : Int64), upd g4 c (0 : Int32), (0 : Int32)) := by
    unfold f_Ref_bounds_133 f_Ref_ill f_Ref_ill_0
    rw [rcell_ok hc, Option.bind_some, Option.bind_some]
  have FUL : f_Ref_bounds_138 (nI d) (lZ l) (lZ h) (nI c) g1 g2 g3 g4 (0 : Int32) = some (nI c, nI (c + 1), upd g1 c (2 : Int32), vp_updL g2 c (lZ l), vp_updL g3 c (lZ h), upd g4 c (nI d), (0 : Int32)) := by
    unfold f_Ref_bounds_138
    rw [rcell_ok hc, Option.bind_some]
  unfold f_Ref_bounds_72 BND
  rw [e1, Option.bind_some, e3, Option.bind_some, if_neg (by decide), show (-9218868437227405312 : Int64) = lZ (-(INF : Int)) by decide, show (9218868437227405312 : Int64) = lZ (INF : Int) by decide]
  by_cases h1 : l = INF
  · rw [if_pos (show lZ l = lZ (INF : Int) by rw [h1]), if_neg (by omega), ILL]
    rfl
  · rw [if_neg (fun h9 => h1 ((l_eq (by omega) (by omega) (by omega) (by omega)).mp h9))]
    by_cases h2 : h = -(INF : Int)
    · rw [if_pos (show lZ h = lZ (-(INF : Int)) by rw [h2]), if_neg (by omega), ILL]
      rfl
    · rw [if_neg (fun h9 => h2 ((l_eq (by omega) (by omega) (by omega) (by omega)).mp h9))]
      by_cases h3 : h < l
      · rw [if_pos ((l_lt (by omega) (by omega) (by omega) (by omega)).mpr h3), if_neg (by omega), ILL]
        rfl
      · rw [if_neg (fun h9 => h3 ((l_lt (by omega) (by omega) (by omega) (by omega)).mp h9))]
        by_cases hd : d = 4
        · rw [if_pos (show nI d = (4 : Int32) by rw [hd]; rfl), rbnd_ok hl hh, Option.bind_some]
          by_cases hb : BM l h = 4
          · rw [decide_eq_true hb, if_neg (show ¬ bI true = 0 by decide), if_pos ⟨by omega, by omega, by omega, fun _ => hb⟩, FUL]
            rfl
          · rw [decide_eq_false hb, if_pos (show bI false = 0 from rfl), if_neg (fun h9 => hb (h9.2.2.2 hd)), ILL]
            rfl
        · rw [if_neg (show ¬ nI d = (4 : Int32) from fun h9 => hd ((nI_eq (b := 4) (by omega) (by decide)).mp h9)), if_pos ⟨by omega, by omega, by omega, fun h9 => absurd h9 hd⟩, FUL]
          rfl
