-- number and clamp
theorem SUM_nn {l h : Int} (hlh : l ≤ h) : 0 ≤ SUM h (-l) 1 := by
  obtain ⟨s1, s2, s3⟩ := sabs_S h (-l)
  have m := SV_mono hlh
  rw [SV_neg] at s1 s2 s3
  unfold SUM
  cases hs : sneg h (-l)
  · exact RND_p _ _ _ _
  · have := s2 hs
    rw [show sabs h (-l) = 0 by omega, RND_0]
    exact Int.le_refl _
theorem BM_f {l h : Int} : decide (l.natAbs < INF ∧ h.natAbs < INF) = decide (BM l h = 4) := by
  unfold BM
  by_cases e : l.natAbs < INF ∧ h.natAbs < INF
  · rw [if_pos e, decide_eq_true e]; rfl
  · rw [if_neg e, decide_eq_false e]; rfl
theorem BM4 {l h : Int} (e : BM l h = 4) : l.natAbs < INF ∧ h.natAbs < INF := by
  unfold BM at e
  split at e
  · next h1 => exact h1
  · cases e
theorem BM3 {l h : Int} (e : ¬ BM l h = 4) : ¬ (l.natAbs < INF ∧ h.natAbs < INF) := fun h9 => e (by unfold BM; rw [if_pos h9])
/-- what the reference answers for a full cell -/
def RNum (k : Nat) (l h : Int64) (g8 : Nat → Int32) (g9 : Int32) : Option (Int64 × Int32 × (Nat → Int32) × Int32) := if nI k = (1 : Int32) then (if nI k = (1 : Int32) then (f_Ref_magnitude l h).bind fun r3 => some (r3, (0 : Int32), g8, g9) else (f_Ref_mignitude l h).bind fun r2 => some (r2, (0 : Int32), g8, g9)) else (if nI k = (2 : Int32) then (if nI k = (1 : Int32) then (f_Ref_magnitude l h).bind fun r3 => some (r3, (0 : Int32), g8, g9) else (f_Ref_mignitude l h).bind fun r2 => some (r2, (0 : Int32), g8, g9)) else (if nI k = 0 then (f_Ref_bounded l h).bind fun r22 => (if r22 = 0 then some ((9218868437227405312 : Int64), (0 : Int32), g8, g9) else (f_Ref_sum h (-l) (0 : Int32) (1 : Int32) g8 g9).bind fun r24 => some (r24.1, (0 : Int32), r24.2.1, r24.2.2)) else (f_Ref_bounded l h).bind fun r14 => (if r14 = 0 then (f_Ref_infinite l).bind fun r16 => (if r16 = 0 then (f_Ref_infinite h).bind fun r1 => (if r1 = 0 then (f_Ref_bits (-9218868437227405311 : Int64)).bind fun r3 => some (r3, (0 : Int32), g8, g9) else some ((9218868437227405311 : Int64), (0 : Int32), g8, g9)) else (f_Ref_infinite h).bind fun r18 => (if r18 = 0 then (f_Ref_infinite h).bind fun r1 => (if r1 = 0 then (f_Ref_bits (-9218868437227405311 : Int64)).bind fun r3 => some (r3, (0 : Int32), g8, g9) else some ((9218868437227405311 : Int64), (0 : Int32), g8, g9)) else some ((0 : Int64), (0 : Int32), g8, g9))) else (f_Ref_sum l h (-1 : Int32) (2 : Int32) g8 g9).bind fun r20 => (f_Ref_bits r20.1).bind fun r21 => some (r21, (0 : Int32), r20.2.1, r20.2.2))))
def CNum (k : Nat) (l h : Int64) (m : Int32) : Option Int64 := if nI k = (0 : Int32) then (f_Cell_width l h m).bind fun r10 => (f_Rank_toBits r10).bind fun r11 => some r11 else if nI k = (1 : Int32) then (f_Cell_magnitude l h m).bind fun r15 => (f_Rank_toBits r15).bind fun r16 => some r16 else if nI k = (2 : Int32) then (f_Cell_mignitude l h m).bind fun r20 => (f_Rank_toBits r20).bind fun r21 => some r21 else if nI k = (3 : Int32) then (f_Cell_middle l h m).bind fun r25 => (f_Rank_toBits r25).bind fun r26 => some r26 else some (9221120237041090560 : Int64)
theorem num_ok {k : Nat} (hk : k < 4) {l h : Int} {m : Int32} (hi : Iok l h) {g : Nat → Int32} {N : Nat → Nat} (hB : Big g N) (ov : Bool) : ∃ z g' N' ov', CNum k (lZ l) (lZ h) m = some z ∧ RNum k (lZ l) (lZ h) g (bI ov) = some (z, (0 : Int32), g', bI ov') ∧ Big g' N' := by
  have hI : INF = 9218868437227405312 := rfl
  obtain ⟨a1, a2, a3, a4, a5⟩ := id hi
  have mb := mag_b a1 a2
  have hc : k = 0 ∨ k = 1 ∨ k = 2 ∨ k = 3 := by omega
  unfold CNum RNum
  rcases hc with e | e | e | e <;> subst e
  · rw [if_pos (show nI 0 = (0 : Int32) from rfl), if_neg (show ¬ nI 0 = (1 : Int32) by decide), if_neg (show ¬ nI 0 = (2 : Int32) by decide), if_pos (show nI 0 = 0 from rfl), rbnd_ok a1 a2, Option.bind_some]
    unfold f_Cell_width f_Cell_width_0 f_Cell_width_26
    rw [bnd_ok a1 a2 a3, Option.bind_some, BM_f]
    by_cases hb : BM l h = 4
    · obtain ⟨b1, b2⟩ := BM4 hb
      obtain ⟨g', N', e, b'⟩ := rsumL (a := h) (c := -l) (how := 1) b2 (by omega) (by decide) hB (bI ov)
      have nn := SUM_nn a3
      have ab := SUM_b h (-l) 1
      rw [decide_eq_true hb, if_neg (show ¬ bI true = 0 by decide), if_neg (show ¬ bI true = 0 by decide), lZ_neg, show f_Exact_sum (lZ h) (lZ (-l)) (1 : Int32) = _ from csum_ok (how := 1) (by decide) b2 (by omega), Option.bind_some, Option.bind_some, show f_Ref_sum (lZ h) (lZ (-l)) (0 : Int32) (1 : Int32) g (bI ov) = _ from e, Option.bind_some]
      refine ⟨lZ (SUM h (-l) 1), g', N', false, ?_, rfl, b'⟩
      rw [tb_eq, show f_Ref_bits (lZ (RND (sneg h (-l)) (sabs h (-l)) false (-1074) 1)) = _ from tb_pos nn ab, Option.bind_some]
      rfl
    · rw [decide_eq_false hb, if_pos (show bI false = 0 from rfl), if_pos (show bI false = 0 from rfl)]
      exact ⟨_, g, N, ov, rfl, rfl, hB⟩
  · rw [if_neg (show ¬ nI 1 = (0 : Int32) by decide), if_pos (show nI 1 = (1 : Int32) from rfl), if_pos (show nI 1 = (1 : Int32) from rfl), if_pos (show nI 1 = (1 : Int32) from rfl), cmag_ok a1 a2, Option.bind_some, rmag_ok a1 a2, Option.bind_some, tb_eq, tb_pos mb.1 (by omega), Option.bind_some]
    exact ⟨_, g, N, ov, rfl, rfl, hB⟩
  · rw [if_neg (show ¬ nI 2 = (0 : Int32) by decide), if_neg (show ¬ nI 2 = (1 : Int32) by decide), if_pos (show nI 2 = (2 : Int32) from rfl), if_neg (show ¬ nI 2 = (1 : Int32) by decide), if_pos (show nI 2 = (2 : Int32) from rfl), if_neg (show ¬ nI 2 = (1 : Int32) by decide), cmig_ok a1 a2, Option.bind_some, rmig_ok a1 a2, Option.bind_some, tb_eq, tb_pos mb.2.2.1 (by omega), Option.bind_some]
    exact ⟨_, g, N, ov, rfl, rfl, hB⟩
  · rw [if_neg (show ¬ nI 3 = (0 : Int32) by decide), if_neg (show ¬ nI 3 = (1 : Int32) by decide), if_neg (show ¬ nI 3 = (2 : Int32) by decide), if_pos (show nI 3 = (3 : Int32) from rfl), if_neg (show ¬ nI 3 = (1 : Int32) by decide), if_neg (show ¬ nI 3 = (2 : Int32) by decide), if_neg (show ¬ nI 3 = 0 by decide), rbnd_ok a1 a2, Option.bind_some]
    unfold f_Cell_middle f_Cell_middle_0 f_Cell_middle_50
    rw [bnd_ok a1 a2 a3, Option.bind_some, BM_f]
    by_cases hb : BM l h = 4
    · obtain ⟨b1, b2⟩ := BM4 hb
      obtain ⟨g', N', e, b'⟩ := rsum_ok (x := l) (y := h) (how := 2) (hf := -1) (by decide) b1 b2 (by decide) (by decide) hB (bI ov)
      obtain ⟨bb, hbb⟩ := tb_some (lZ (RND (sneg l h) (sabs l h) false (-1 - 1074) 2))
      unfold f_Exact_halfSum f_Exact_halfSum_0
      have e0 := ssum_ok (a := l) (b := h) (how := 2) (sc := -1) (by decide) b1 b2 (by decide) (by decide)
      rw [show zI (-1) = (-1 : Int32) by decide, show wI 2 = (0 : Int32) by decide] at e0
      rw [show zI (-1) = (-1 : Int32) by decide, show nI 2 = (2 : Int32) from rfl] at e
      rw [decide_eq_true hb, if_neg (show ¬ bI true = 0 by decide), if_neg (show ¬ bI true = 0 by decide), e0, Option.bind_some, Option.bind_some, Option.bind_some, e, Option.bind_some, tb_eq, hbb, Option.bind_some, Option.bind_some]
      exact ⟨bb, g', N', false, rfl, rfl, b'⟩
    · have nb := BM3 hb
      rw [decide_eq_false hb, if_pos (show bI false = 0 from rfl), if_pos (show bI false = 0 from rfl), isFin_ok a1, Option.bind_some, isInf_ok a1, Option.bind_some]
      by_cases i1 : l.natAbs = INF
      · rw [decide_eq_false (show ¬ l.natAbs < INF by omega), if_pos (show bI false = 0 from rfl), isFin_ok a2, Option.bind_some, decide_eq_true i1, if_neg (show ¬ bI true = 0 by decide), isInf_ok a2, Option.bind_some]
        by_cases i2 : h.natAbs = INF
        · rw [decide_eq_false (show ¬ h.natAbs < INF by omega), if_pos (show bI false = 0 from rfl), decide_eq_true i2, if_neg (show ¬ bI true = 0 by decide)]
          exact ⟨_, g, N, ov, rfl, rfl, hB⟩
        · rw [decide_eq_true (show h.natAbs < INF by omega), if_neg (show ¬ bI true = 0 by decide), decide_eq_false i2, if_pos (show bI false = 0 from rfl), Option.bind_some, Option.bind_some, if_pos (show bI false = 0 from rfl), tb_eq]
          exact ⟨_, g, N, ov, rfl, rfl, hB⟩
      · rw [decide_eq_true (show l.natAbs < INF by omega), if_neg (show ¬ bI true = 0 by decide), decide_eq_false i1, if_pos (show bI false = 0 from rfl), isInf_ok a2, Option.bind_some, Option.bind_some, decide_eq_true (show h.natAbs = INF by omega), if_neg (show ¬ bI true = 0 by decide)]
        exact ⟨_, g, N, ov, rfl, rfl, hB⟩
theorem clamp_ok {l h r : Int} (hi : Iok l h) (hr : r.natAbs ≤ INF) : ∃ z : Int64, (f_Rank_toBits (j_minL (lZ h) (j_maxL (lZ l) (lZ r)))) = some z ∧ (if lZ l ≤ lZ r then (if lZ r ≤ lZ h then f_Ref_bits (lZ r) else f_Ref_bits (lZ h)) else f_Ref_bits (lZ l)) = some z := by
  have hI : INF = 9218868437227405312 := rfl
  obtain ⟨a1, a2, a3, a4, a5⟩ := hi
  have mx := MX_ge l r
  rw [lmax a1 hr, lmin a2 (by omega), tb_eq]
  obtain ⟨b1, e1⟩ := tb_some (lZ r)
  obtain ⟨b2, e2⟩ := tb_some (lZ h)
  obtain ⟨b3, e3⟩ := tb_some (lZ l)
  by_cases h1 : l ≤ r
  · rw [if_pos ((l_le (by omega) (by omega) (by omega) (by omega)).mpr h1), show MX l r = r by unfold MX; rw [if_pos h1]]
    by_cases h2 : r ≤ h
    · rw [if_pos ((l_le (by omega) (by omega) (by omega) (by omega)).mpr h2), show MN h r = r by unfold MN; split <;> omega]
      exact ⟨b1, e1, e1⟩
    · rw [if_neg (fun h9 => h2 ((l_le (by omega) (by omega) (by omega) (by omega)).mp h9)), show MN h r = h by unfold MN; split <;> omega]
      exact ⟨b2, e2, e2⟩
  · rw [if_neg (fun h9 => h1 ((l_le (by omega) (by omega) (by omega) (by omega)).mp h9)), show MX l r = l by unfold MX; rw [if_neg h1], show MN h l = l by unfold MN; split <;> omega]
    exact ⟨b3, e3, e3⟩
