-- written by wip/gen/pure.py: their walks
abbrev rm_Rank_isNumber : Room := { frames := 0, cells := 0, slots := 0, locals := 0 }
set_option maxRecDepth 100000 in
set_option maxHeartbeats 4000000 in
theorem k_Rank_isNumber_17 {p : Program} {l : Launch} {e : Env} {s : State} {m : MethodId} {args : Array Value} {below : List Frame} {meth : Method} {c : Code} (hC : CX p s m args meth c prog_8_method_2_code 2 "OutwardTape$Rank" (some .boolean)) {r0 : Int32} : ∀ (s0 : Int32) (ls : Array Slot), lv_has ls 2 [] → f_Rank_isNumber_17  s0 = some r0 → W p l e rm_Rank_isNumber s m args below meth c s.heap [] 0 0 (MQ below (vp_Si (fun r => r = r0)) args s 0 0 (fun _ => False)) (F0 m 17 ls [.int s0]) := by
  obtain ⟨hx, hb, hml, hown, hts, hr, hlocks⟩ := id hC
  intro s0 ls hl h
  rw [f_Rank_isNumber_17] at h
  obtain ⟨hz, h⟩ := og_of h
  have h := os_of h
  exact W.zret (v := s0) (ty := .boolean) hx hb hr (j_z_nar hz) (fun t ht hW => ⟨_, rfl, h, ht⟩) (fun q hq => absurd hq List.not_mem_nil) (dt_at dt_Rank_isNumber 9 rfl)
set_option maxRecDepth 100000 in
set_option maxHeartbeats 4000000 in
theorem k_Rank_isNumber_0 {p : Program} {l : Launch} {e : Env} {s : State} {m : MethodId} {args : Array Value} {below : List Frame} {meth : Method} {c : Code} (hC : CX p s m args meth c prog_8_method_2_code 2 "OutwardTape$Rank" (some .boolean)) {r0 : Int32} : ∀ (v0 : Int64) (ls : Array Slot), lv_has ls 2 [(0, .long v0)] → f_Rank_isNumber_0  v0 = some r0 → W p l e rm_Rank_isNumber s m args below meth c s.heap [] 0 0 (MQ below (vp_Si (fun r => r = r0)) args s 0 0 (fun _ => False)) (F0 m 0 ls []) := by
  obtain ⟨hx, hb, hml, hown, hts, hr, hlocks⟩ := id hC
  intro v0 ls hl h
  rw [f_Rank_isNumber_0] at h
  refine lv_lload_n hx hb (dt_at dt_Rank_isNumber 0 rfl) rfl (lv_at hl 0 rfl) ?_
  refine lv_ldc2 (v := 9223372036854775807) hx hb hown (hts (Cond.constantLong "OutwardTape$Rank" 9 (9223372036854775807)) (m_2 3 rfl rfl)) (dt_at dt_Rank_isNumber 1 rfl) ?_
  refine lv_land hx hb (dt_at dt_Rank_isNumber 2 rfl) ?_
  refine lv_ldc2 (v := 9218868437227405312) hx hb hown (hts (Cond.constantLong "OutwardTape$Rank" 11 (9218868437227405312)) (m_1 156 rfl rfl)) (dt_at dt_Rank_isNumber 3 rfl) ?_
  refine lc_gt (tgt := 16) hx hb (dt_at dt_Rank_isNumber 4 rfl) (dt_at dt_Rank_isNumber 5 rfl) (by decide) (fun c1 => ?_) (fun c1 => ?_)
  · have h := if_p h c1
    refine lv_iconst (v := 0) hx hb (dt_at dt_Rank_isNumber 8 rfl) (by decide) ?_
    exact k_Rank_isNumber_17 hC   (0 : Int32) ls (lv_sub hl [] rfl) h
  · have h := if_n h c1
    refine lv_iconst (v := 1) hx hb (dt_at dt_Rank_isNumber 6 rfl) (by decide) ?_
    refine lv_goto (tgt := 17) hx hb (dt_at dt_Rank_isNumber 7 rfl) (by decide) ?_
    exact k_Rank_isNumber_17 hC   (1 : Int32) ls (lv_sub hl [] rfl) h
set_option maxRecDepth 100000 in
set_option maxHeartbeats 4000000 in
theorem c_Rank_isNumber (l : Launch) (a0 : Int64) (r0 : Int32) (h : f_Rank_isNumber a0 = some r0) : Met l (⟨"OutwardTape$Rank", "isNumber", "(J)Z"⟩ : MethodName) (WSm (⟨"OutwardTape$Rank", "isNumber", "(J)Z"⟩ : MethodName) prog_8_method_2_code 2 (some .boolean)) rm_Rank_isNumber (va_Pc [.long a0] (fun _ => True)) (vp_Si (fun r => r = r0)) 0 0 (fun _ => False) := by
  refine Met.ofW (cc := prog_8_method_2_code) (maxL := 2) (ret := (some .boolean)) (by decide) rfl ?_
  intro p e s m args below meth c s₁ B hml hv
  obtain ⟨rfl, -⟩ := hv
  have hC := CX.of B hml rfl
  have hl := lv_entry [.long a0] (n := 2) (Nat.le_of_ble_eq_true rfl)
  rw [lg_entry_eq]
  generalize (lg_sl [.long a0] ++ List.replicate (2 - (lg_sl [.long a0]).length) Slot.unset).toArray = ls at hl ⊢
  have hl : lv_has ls 2 [(0, .long a0)] := hl
  exact k_Rank_isNumber_0 hC a0 ls (lv_sub hl [0] rfl) h
abbrev rm_Rank_ofBits : Room := { frames := 0, cells := 0, slots := 0, locals := 0 }
set_option maxRecDepth 100000 in
set_option maxHeartbeats 4000000 in
theorem k_Rank_ofBits_18 {p : Program} {l : Launch} {e : Env} {s : State} {m : MethodId} {args : Array Value} {below : List Frame} {meth : Method} {c : Code} (hC : CX p s m args meth c prog_8_method_3_code 4 "OutwardTape$Rank" (some .long)) {r0 : Int64} : ∀ (s0 : Int64) (ls : Array Slot), lv_has ls 4 [] → f_Rank_ofBits_18  s0 = some r0 → W p l e rm_Rank_ofBits s m args below meth c s.heap [] 0 0 (MQ below (vp_Sl (fun r => r = r0)) args s 0 0 (fun _ => False)) (F0 m 18 ls [.long s0]) := by
  obtain ⟨hx, hb, hml, hown, hts, hr, hlocks⟩ := id hC
  intro s0 ls hl h
  rw [f_Rank_ofBits_18] at h
  have h := os_of h
  exact W.lret (v := s0) hx hb hr (fun t ht hW => ⟨_, rfl, h, ht⟩) (fun q hq => absurd hq List.not_mem_nil) (dt_at dt_Rank_ofBits 12 rfl)
set_option maxRecDepth 100000 in
set_option maxHeartbeats 4000000 in
theorem k_Rank_ofBits_0 {p : Program} {l : Launch} {e : Env} {s : State} {m : MethodId} {args : Array Value} {below : List Frame} {meth : Method} {c : Code} (hC : CX p s m args meth c prog_8_method_3_code 4 "OutwardTape$Rank" (some .long)) {r0 : Int64} : ∀ (v0 : Int64) (ls : Array Slot), lv_has ls 4 [(0, .long v0)] → f_Rank_ofBits_0  v0 = some r0 → W p l e rm_Rank_ofBits s m args below meth c s.heap [] 0 0 (MQ below (vp_Sl (fun r => r = r0)) args s 0 0 (fun _ => False)) (F0 m 0 ls []) := by
  obtain ⟨hx, hb, hml, hown, hts, hr, hlocks⟩ := id hC
  intro v0 ls hl h
  rw [f_Rank_ofBits_0] at h
  refine lv_lload_n hx hb (dt_at dt_Rank_ofBits 0 rfl) rfl (lv_at hl 0 rfl) ?_
  refine lv_ldc2 (v := 9223372036854775807) hx hb hown (hts (Cond.constantLong "OutwardTape$Rank" 9 (9223372036854775807)) (m_2 3 rfl rfl)) (dt_at dt_Rank_ofBits 1 rfl) ?_
  refine lv_land hx hb (dt_at dt_Rank_ofBits 2 rfl) ?_
  obtain ⟨t1, e_t1, h⟩ := ol_of h
  refine lv_topl (fun u_t1 q_t1 => ?_)
  obtain rfl : t1 = u_t1 := e_t1.trans q_t1.symm
  refine lv_lstore_n (lv' := [(2, .long t1), (0, .long v0)]) hx hb (dt_at dt_Rank_ofBits 3 rfl) rfl hl (by decide) rfl (fun ls hl => ?_)
  refine lv_lload_n hx hb (dt_at dt_Rank_ofBits 4 rfl) rfl (lv_at hl 1 rfl) ?_
  refine lv_lconst (v := 0) hx hb (dt_at dt_Rank_ofBits 5 rfl) (by decide) ?_
  refine lc_ge (tgt := 17) hx hb (dt_at dt_Rank_ofBits 6 rfl) (dt_at dt_Rank_ofBits 7 rfl) (by decide) (fun c2 => ?_) (fun c2 => ?_)
  · have h := if_p h c2
    refine lv_lload_n hx hb (dt_at dt_Rank_ofBits 11 rfl) rfl (lv_at hl 0 rfl) ?_
    exact k_Rank_ofBits_18 hC   t1 ls (lv_sub hl [] rfl) h
  · have h := if_n h c2
    refine lv_lload_n hx hb (dt_at dt_Rank_ofBits 8 rfl) rfl (lv_at hl 0 rfl) ?_
    refine lv_lneg hx hb (dt_at dt_Rank_ofBits 9 rfl) ?_
    refine lv_goto (tgt := 18) hx hb (dt_at dt_Rank_ofBits 10 rfl) (by decide) ?_
    exact k_Rank_ofBits_18 hC   (-t1) ls (lv_sub hl [] rfl) h
set_option maxRecDepth 100000 in
set_option maxHeartbeats 4000000 in
theorem c_Rank_ofBits (l : Launch) (a0 : Int64) (r0 : Int64) (h : f_Rank_ofBits a0 = some r0) : Met l (⟨"OutwardTape$Rank", "ofBits", "(J)J"⟩ : MethodName) (WSm (⟨"OutwardTape$Rank", "ofBits", "(J)J"⟩ : MethodName) prog_8_method_3_code 4 (some .long)) rm_Rank_ofBits (va_Pc [.long a0] (fun _ => True)) (vp_Sl (fun r => r = r0)) 0 0 (fun _ => False) := by
  refine Met.ofW (cc := prog_8_method_3_code) (maxL := 4) (ret := (some .long)) (by decide) rfl ?_
  intro p e s m args below meth c s₁ B hml hv
  obtain ⟨rfl, -⟩ := hv
  have hC := CX.of B hml rfl
  have hl := lv_entry [.long a0] (n := 4) (Nat.le_of_ble_eq_true rfl)
  rw [lg_entry_eq]
  generalize (lg_sl [.long a0] ++ List.replicate (4 - (lg_sl [.long a0]).length) Slot.unset).toArray = ls at hl ⊢
  have hl : lv_has ls 4 [(0, .long a0)] := hl
  exact k_Rank_ofBits_0 hC a0 ls (lv_sub hl [0] rfl) h
abbrev rm_Rank_toBits : Room := { frames := 0, cells := 0, slots := 0, locals := 0 }
set_option maxRecDepth 100000 in
set_option maxHeartbeats 4000000 in
theorem k_Rank_toBits_16 {p : Program} {l : Launch} {e : Env} {s : State} {m : MethodId} {args : Array Value} {below : List Frame} {meth : Method} {c : Code} (hC : CX p s m args meth c prog_8_method_4_code 2 "OutwardTape$Rank" (some .long)) {r0 : Int64} : ∀ (s0 : Int64) (ls : Array Slot), lv_has ls 2 [] → f_Rank_toBits_16  s0 = some r0 → W p l e rm_Rank_toBits s m args below meth c s.heap [] 0 0 (MQ below (vp_Sl (fun r => r = r0)) args s 0 0 (fun _ => False)) (F0 m 16 ls [.long s0]) := by
  obtain ⟨hx, hb, hml, hown, hts, hr, hlocks⟩ := id hC
  intro s0 ls hl h
  rw [f_Rank_toBits_16] at h
  have h := os_of h
  exact W.lret (v := s0) hx hb hr (fun t ht hW => ⟨_, rfl, h, ht⟩) (fun q hq => absurd hq List.not_mem_nil) (dt_at dt_Rank_toBits 10 rfl)
set_option maxRecDepth 100000 in
set_option maxHeartbeats 4000000 in
theorem k_Rank_toBits_0 {p : Program} {l : Launch} {e : Env} {s : State} {m : MethodId} {args : Array Value} {below : List Frame} {meth : Method} {c : Code} (hC : CX p s m args meth c prog_8_method_4_code 2 "OutwardTape$Rank" (some .long)) {r0 : Int64} : ∀ (v0 : Int64) (ls : Array Slot), lv_has ls 2 [(0, .long v0)] → f_Rank_toBits_0  v0 = some r0 → W p l e rm_Rank_toBits s m args below meth c s.heap [] 0 0 (MQ below (vp_Sl (fun r => r = r0)) args s 0 0 (fun _ => False)) (F0 m 0 ls []) := by
  obtain ⟨hx, hb, hml, hown, hts, hr, hlocks⟩ := id hC
  intro v0 ls hl h
  rw [f_Rank_toBits_0] at h
  refine lv_lload_n hx hb (dt_at dt_Rank_toBits 0 rfl) rfl (lv_at hl 0 rfl) ?_
  refine lv_lconst (v := 0) hx hb (dt_at dt_Rank_toBits 1 rfl) (by decide) ?_
  refine lc_ge (tgt := 15) hx hb (dt_at dt_Rank_toBits 2 rfl) (dt_at dt_Rank_toBits 3 rfl) (by decide) (fun c1 => ?_) (fun c1 => ?_)
  · have h := if_p h c1
    refine lv_lload_n hx hb (dt_at dt_Rank_toBits 9 rfl) rfl (lv_at hl 0 rfl) ?_
    exact k_Rank_toBits_16 hC   v0 ls (lv_sub hl [] rfl) h
  · have h := if_n h c1
    refine lv_lload_n hx hb (dt_at dt_Rank_toBits 4 rfl) rfl (lv_at hl 0 rfl) ?_
    refine lv_lneg hx hb (dt_at dt_Rank_toBits 5 rfl) ?_
    refine lv_ldc2 (v := -9223372036854775808) hx hb hown (hts (Cond.constantLong "OutwardTape$Rank" 13 (-9223372036854775808)) (m_1 136 rfl rfl)) (dt_at dt_Rank_toBits 6 rfl) ?_
    refine lv_lor hx hb (dt_at dt_Rank_toBits 7 rfl) ?_
    refine lv_goto (tgt := 16) hx hb (dt_at dt_Rank_toBits 8 rfl) (by decide) ?_
    exact k_Rank_toBits_16 hC   ((-v0) ||| (-9223372036854775808 : Int64)) ls (lv_sub hl [] rfl) h
set_option maxRecDepth 100000 in
set_option maxHeartbeats 4000000 in
theorem c_Rank_toBits (l : Launch) (a0 : Int64) (r0 : Int64) (h : f_Rank_toBits a0 = some r0) : Met l (⟨"OutwardTape$Rank", "toBits", "(J)J"⟩ : MethodName) (WSm (⟨"OutwardTape$Rank", "toBits", "(J)J"⟩ : MethodName) prog_8_method_4_code 2 (some .long)) rm_Rank_toBits (va_Pc [.long a0] (fun _ => True)) (vp_Sl (fun r => r = r0)) 0 0 (fun _ => False) := by
  refine Met.ofW (cc := prog_8_method_4_code) (maxL := 2) (ret := (some .long)) (by decide) rfl ?_
  intro p e s m args below meth c s₁ B hml hv
  obtain ⟨rfl, -⟩ := hv
  have hC := CX.of B hml rfl
  have hl := lv_entry [.long a0] (n := 2) (Nat.le_of_ble_eq_true rfl)
  rw [lg_entry_eq]
  generalize (lg_sl [.long a0] ++ List.replicate (2 - (lg_sl [.long a0]).length) Slot.unset).toArray = ls at hl ⊢
  have hl : lv_has ls 2 [(0, .long a0)] := hl
  exact k_Rank_toBits_0 hC a0 ls (lv_sub hl [0] rfl) h
abbrev rm_Rank_isFinite : Room := { frames := 0, cells := 0, slots := 0, locals := 0 }
set_option maxRecDepth 100000 in
set_option maxHeartbeats 4000000 in
theorem k_Rank_isFinite_21 {p : Program} {l : Launch} {e : Env} {s : State} {m : MethodId} {args : Array Value} {below : List Frame} {meth : Method} {c : Code} (hC : CX p s m args meth c prog_8_method_5_code 2 "OutwardTape$Rank" (some .boolean)) {r0 : Int32} : ∀ (s0 : Int32) (ls : Array Slot), lv_has ls 2 [] → f_Rank_isFinite_21  s0 = some r0 → W p l e rm_Rank_isFinite s m args below meth c s.heap [] 0 0 (MQ below (vp_Si (fun r => r = r0)) args s 0 0 (fun _ => False)) (F0 m 21 ls [.int s0]) := by
  obtain ⟨hx, hb, hml, hown, hts, hr, hlocks⟩ := id hC
  intro s0 ls hl h
  rw [f_Rank_isFinite_21] at h
  obtain ⟨hz, h⟩ := og_of h
  have h := os_of h
  exact W.zret (v := s0) (ty := .boolean) hx hb hr (j_z_nar hz) (fun t ht hW => ⟨_, rfl, h, ht⟩) (fun q hq => absurd hq List.not_mem_nil) (dt_at dt_Rank_isFinite 11 rfl)
set_option maxRecDepth 100000 in
set_option maxHeartbeats 4000000 in
theorem k_Rank_isFinite_20 {p : Program} {l : Launch} {e : Env} {s : State} {m : MethodId} {args : Array Value} {below : List Frame} {meth : Method} {c : Code} (hC : CX p s m args meth c prog_8_method_5_code 2 "OutwardTape$Rank" (some .boolean)) {r0 : Int32} : ∀  (ls : Array Slot), lv_has ls 2 [] → f_Rank_isFinite_20   = some r0 → W p l e rm_Rank_isFinite s m args below meth c s.heap [] 0 0 (MQ below (vp_Si (fun r => r = r0)) args s 0 0 (fun _ => False)) (F0 m 20 ls []) := by
  obtain ⟨hx, hb, hml, hown, hts, hr, hlocks⟩ := id hC
  intro ls hl h
  rw [f_Rank_isFinite_20] at h
  refine lv_iconst (v := 0) hx hb (dt_at dt_Rank_isFinite 10 rfl) (by decide) ?_
  exact k_Rank_isFinite_21 hC   (0 : Int32) ls (lv_sub hl [] rfl) h
set_option maxRecDepth 100000 in
set_option maxHeartbeats 4000000 in
theorem k_Rank_isFinite_0 {p : Program} {l : Launch} {e : Env} {s : State} {m : MethodId} {args : Array Value} {below : List Frame} {meth : Method} {c : Code} (hC : CX p s m args meth c prog_8_method_5_code 2 "OutwardTape$Rank" (some .boolean)) {r0 : Int32} : ∀ (v0 : Int64) (ls : Array Slot), lv_has ls 2 [(0, .long v0)] → f_Rank_isFinite_0  v0 = some r0 → W p l e rm_Rank_isFinite s m args below meth c s.heap [] 0 0 (MQ below (vp_Si (fun r => r = r0)) args s 0 0 (fun _ => False)) (F0 m 0 ls []) := by
  obtain ⟨hx, hb, hml, hown, hts, hr, hlocks⟩ := id hC
  intro v0 ls hl h
  rw [f_Rank_isFinite_0] at h
  refine lv_lload_n hx hb (dt_at dt_Rank_isFinite 0 rfl) rfl (lv_at hl 0 rfl) ?_
  refine lv_ldc2 (v := -9218868437227405312) hx hb hown (hts (Cond.constantLong "OutwardTape$Rank" 15 (-9218868437227405312)) (m_1 155 rfl rfl)) (dt_at dt_Rank_isFinite 1 rfl) ?_
  refine lc_le (tgt := 20) hx hb (dt_at dt_Rank_isFinite 2 rfl) (dt_at dt_Rank_isFinite 3 rfl) (by decide) (fun c1 => ?_) (fun c1 => ?_)
  · have h := if_p h c1
    exact k_Rank_isFinite_20 hC    ls (lv_sub hl [] rfl) h
  · have h := if_n h c1
    refine lv_lload_n hx hb (dt_at dt_Rank_isFinite 4 rfl) rfl (lv_at hl 0 rfl) ?_
    refine lv_ldc2 (v := 9218868437227405312) hx hb hown (hts (Cond.constantLong "OutwardTape$Rank" 11 (9218868437227405312)) (m_1 156 rfl rfl)) (dt_at dt_Rank_isFinite 5 rfl) ?_
    refine lc_ge (tgt := 20) hx hb (dt_at dt_Rank_isFinite 6 rfl) (dt_at dt_Rank_isFinite 7 rfl) (by decide) (fun c2 => ?_) (fun c2 => ?_)
    · have h := if_p h c2
      exact k_Rank_isFinite_20 hC    ls (lv_sub hl [] rfl) h
    · have h := if_n h c2
      refine lv_iconst (v := 1) hx hb (dt_at dt_Rank_isFinite 8 rfl) (by decide) ?_
      refine lv_goto (tgt := 21) hx hb (dt_at dt_Rank_isFinite 9 rfl) (by decide) ?_
      exact k_Rank_isFinite_21 hC   (1 : Int32) ls (lv_sub hl [] rfl) h
set_option maxRecDepth 100000 in
set_option maxHeartbeats 4000000 in
theorem c_Rank_isFinite (l : Launch) (a0 : Int64) (r0 : Int32) (h : f_Rank_isFinite a0 = some r0) : Met l (⟨"OutwardTape$Rank", "isFinite", "(J)Z"⟩ : MethodName) (WSm (⟨"OutwardTape$Rank", "isFinite", "(J)Z"⟩ : MethodName) prog_8_method_5_code 2 (some .boolean)) rm_Rank_isFinite (va_Pc [.long a0] (fun _ => True)) (vp_Si (fun r => r = r0)) 0 0 (fun _ => False) := by
  refine Met.ofW (cc := prog_8_method_5_code) (maxL := 2) (ret := (some .boolean)) (by decide) rfl ?_
  intro p e s m args below meth c s₁ B hml hv
  obtain ⟨rfl, -⟩ := hv
  have hC := CX.of B hml rfl
  have hl := lv_entry [.long a0] (n := 2) (Nat.le_of_ble_eq_true rfl)
  rw [lg_entry_eq]
  generalize (lg_sl [.long a0] ++ List.replicate (2 - (lg_sl [.long a0]).length) Slot.unset).toArray = ls at hl ⊢
  have hl : lv_has ls 2 [(0, .long a0)] := hl
  exact k_Rank_isFinite_0 hC a0 ls (lv_sub hl [0] rfl) h
abbrev rm_Rank_significand : Room := { frames := 1, cells := 0, slots := 0, locals := 24 }
set_option maxRecDepth 100000 in
set_option maxHeartbeats 4000000 in
theorem k_Rank_significand_26 {p : Program} {l : Launch} {e : Env} {s : State} {m : MethodId} {args : Array Value} {below : List Frame} {meth : Method} {c : Code} (hC : CX p s m args meth c prog_8_method_6_code 4 "OutwardTape$Rank" (some .long)) {r0 : Int64} : ∀ (s0 : Int64) (ls : Array Slot), lv_has ls 4 [] → f_Rank_significand_26  s0 = some r0 → W p l e rm_Rank_significand s m args below meth c s.heap [] 0 0 (MQ below (vp_Sl (fun r => r = r0)) args s 0 0 (fun _ => False)) (F0 m 26 ls [.long s0]) := by
  obtain ⟨hx, hb, hml, hown, hts, hr, hlocks⟩ := id hC
  intro s0 ls hl h
  rw [f_Rank_significand_26] at h
  have h := os_of h
  exact W.lret (v := s0) hx hb hr (fun t ht hW => ⟨_, rfl, h, ht⟩) (fun q hq => absurd hq List.not_mem_nil) (dt_at dt_Rank_significand 14 rfl)
set_option maxRecDepth 100000 in
set_option maxHeartbeats 4000000 in
theorem k_Rank_significand_0 {p : Program} {l : Launch} {e : Env} {s : State} {m : MethodId} {args : Array Value} {below : List Frame} {meth : Method} {c : Code} (hC : CX p s m args meth c prog_8_method_6_code 4 "OutwardTape$Rank" (some .long)) {r0 : Int64} : ∀ (v0 : Int64) (ls : Array Slot), lv_has ls 4 [(0, .long v0)] → f_Rank_significand_0  v0 = some r0 → W p l e rm_Rank_significand s m args below meth c s.heap [] 0 0 (MQ below (vp_Sl (fun r => r = r0)) args s 0 0 (fun _ => False)) (F0 m 0 ls []) := by
  obtain ⟨hx, hb, hml, hown, hts, hr, hlocks⟩ := id hC
  intro v0 ls hl h
  rw [f_Rank_significand_0] at h
  refine lv_lload_n hx hb (dt_at dt_Rank_significand 0 rfl) rfl (lv_at hl 0 rfl) ?_
  obtain ⟨t1, e_t1, h⟩ := ol_of h
  refine va_mabs_long hx hb (hml.trans hl.1.symm) hown (hts (Cond.methodLink "OutwardTape$Rank" 17 Lib.MathLoose.abs_long.x) (m_1 183 rfl rfl)) (hts (Cond.static Lib.MathLoose.abs_long.x) (m_1 178 rfl rfl)) (hts (Cond.initialized "java/lang/Math") (m_1 9 rfl rfl)) (hts (Cond.code Lib.MathLoose.abs_long.x Lib.MathLoose.abs_long.code 2 (some .long)) (m_1 179 rfl rfl)) (Nat.le_of_ble_eq_true rfl) (Nat.le_of_ble_eq_true rfl) (Nat.le_of_ble_eq_true rfl) (Nat.le_of_ble_eq_true rfl) (dt_at dt_Rank_significand 1 rfl) ?_
  refine lv_topl (fun u_t1 q_t1 => ?_)
  obtain rfl : t1 = u_t1 := e_t1.trans q_t1.symm
  refine lv_lstore_n (lv' := [(2, .long t1), (0, .long v0)]) hx hb (dt_at dt_Rank_significand 2 rfl) rfl hl (by decide) rfl (fun ls hl => ?_)
  refine lv_lload_n hx hb (dt_at dt_Rank_significand 3 rfl) rfl (lv_at hl 0 rfl) ?_
  refine lv_ldc2 (v := 4503599627370496) hx hb hown (hts (Cond.constantLong "OutwardTape$Rank" 23 (4503599627370496)) (m_1 190 rfl rfl)) (dt_at dt_Rank_significand 4 rfl) ?_
  refine lc_ge (tgt := 17) hx hb (dt_at dt_Rank_significand 5 rfl) (dt_at dt_Rank_significand 6 rfl) (by decide) (fun c2 => ?_) (fun c2 => ?_)
  · have h := if_p h c2
    refine lv_lload_n hx hb (dt_at dt_Rank_significand 9 rfl) rfl (lv_at hl 0 rfl) ?_
    refine lv_ldc2 (v := 4503599627370495) hx hb hown (hts (Cond.constantLong "OutwardTape$Rank" 25 (4503599627370495)) (m_1 191 rfl rfl)) (dt_at dt_Rank_significand 10 rfl) ?_
    refine lv_land hx hb (dt_at dt_Rank_significand 11 rfl) ?_
    refine lv_ldc2 (v := 4503599627370496) hx hb hown (hts (Cond.constantLong "OutwardTape$Rank" 23 (4503599627370496)) (m_1 190 rfl rfl)) (dt_at dt_Rank_significand 12 rfl) ?_
    refine lv_lor hx hb (dt_at dt_Rank_significand 13 rfl) ?_
    exact k_Rank_significand_26 hC   ((t1 &&& (4503599627370495 : Int64)) ||| (4503599627370496 : Int64)) ls (lv_sub hl [] rfl) h
  · have h := if_n h c2
    refine lv_lload_n hx hb (dt_at dt_Rank_significand 7 rfl) rfl (lv_at hl 0 rfl) ?_
    refine lv_goto (tgt := 26) hx hb (dt_at dt_Rank_significand 8 rfl) (by decide) ?_
    exact k_Rank_significand_26 hC   t1 ls (lv_sub hl [] rfl) h
set_option maxRecDepth 100000 in
set_option maxHeartbeats 4000000 in
theorem c_Rank_significand (l : Launch) (a0 : Int64) (r0 : Int64) (h : f_Rank_significand a0 = some r0) : Met l (⟨"OutwardTape$Rank", "significand", "(J)J"⟩ : MethodName) (WSm (⟨"OutwardTape$Rank", "significand", "(J)J"⟩ : MethodName) prog_8_method_6_code 4 (some .long)) rm_Rank_significand (va_Pc [.long a0] (fun _ => True)) (vp_Sl (fun r => r = r0)) 0 0 (fun _ => False) := by
  refine Met.ofW (cc := prog_8_method_6_code) (maxL := 4) (ret := (some .long)) (by decide) rfl ?_
  intro p e s m args below meth c s₁ B hml hv
  obtain ⟨rfl, -⟩ := hv
  have hC := CX.of B hml rfl
  have hl := lv_entry [.long a0] (n := 4) (Nat.le_of_ble_eq_true rfl)
  rw [lg_entry_eq]
  generalize (lg_sl [.long a0] ++ List.replicate (4 - (lg_sl [.long a0]).length) Slot.unset).toArray = ls at hl ⊢
  have hl : lv_has ls 4 [(0, .long a0)] := hl
  exact k_Rank_significand_0 hC a0 ls (lv_sub hl [0] rfl) h
abbrev rm_Rank_exponent : Room := { frames := 1, cells := 0, slots := 0, locals := 24 }
set_option maxRecDepth 100000 in
set_option maxHeartbeats 4000000 in
theorem k_Rank_exponent_0 {p : Program} {l : Launch} {e : Env} {s : State} {m : MethodId} {args : Array Value} {below : List Frame} {meth : Method} {c : Code} (hC : CX p s m args meth c prog_8_method_7_code 3 "OutwardTape$Rank" (some .int)) {r0 : Int32} : ∀ (v0 : Int64) (ls : Array Slot), lv_has ls 3 [(0, .long v0)] → f_Rank_exponent_0  v0 = some r0 → W p l e rm_Rank_exponent s m args below meth c s.heap [] 0 0 (MQ below (vp_Si (fun r => r = r0)) args s 0 0 (fun _ => False)) (F0 m 0 ls []) := by
  obtain ⟨hx, hb, hml, hown, hts, hr, hlocks⟩ := id hC
  intro v0 ls hl h
  rw [f_Rank_exponent_0] at h
  refine lv_lload_n hx hb (dt_at dt_Rank_exponent 0 rfl) rfl (lv_at hl 0 rfl) ?_
  obtain ⟨t1, e_t1, h⟩ := ol_of h
  refine va_mabs_long hx hb (hml.trans hl.1.symm) hown (hts (Cond.methodLink "OutwardTape$Rank" 17 Lib.MathLoose.abs_long.x) (m_1 183 rfl rfl)) (hts (Cond.static Lib.MathLoose.abs_long.x) (m_1 178 rfl rfl)) (hts (Cond.initialized "java/lang/Math") (m_1 9 rfl rfl)) (hts (Cond.code Lib.MathLoose.abs_long.x Lib.MathLoose.abs_long.code 2 (some .long)) (m_1 179 rfl rfl)) (Nat.le_of_ble_eq_true rfl) (Nat.le_of_ble_eq_true rfl) (Nat.le_of_ble_eq_true rfl) (Nat.le_of_ble_eq_true rfl) (dt_at dt_Rank_exponent 1 rfl) ?_
  refine lv_topl (fun u_t1 q_t1 => ?_)
  obtain rfl : t1 = u_t1 := e_t1.trans q_t1.symm
  refine lv_bipush (v := 52) hx hb (dt_at dt_Rank_exponent 2 rfl) (by decide) ?_
  refine lv_lushr (v := (j_lushr t1 (52 : Int32))) hx hb (dt_at dt_Rank_exponent 3 rfl) rfl ?_
  refine lv_l2i (v := (j_lushr t1 (52 : Int32)).toInt32) hx hb (dt_at dt_Rank_exponent 4 rfl) rfl ?_
  obtain ⟨t2, e_t2, h⟩ := ol_of h
  refine lv_topi (fun u_t2 q_t2 => ?_)
  obtain rfl : t2 = u_t2 := e_t2.trans q_t2.symm
  refine lv_istore_n (lv' := [(2, .int t2), (0, .long v0)]) hx hb (dt_at dt_Rank_exponent 5 rfl) rfl hl (by decide) rfl (fun ls hl => ?_)
  refine lv_iload_n hx hb (dt_at dt_Rank_exponent 6 rfl) rfl (lv_at hl 0 rfl) ?_
  refine lv_iconst (v := 1) hx hb (dt_at dt_Rank_exponent 7 rfl) (by decide) ?_
  obtain ⟨t3, e_t3, h⟩ := ol_of h
  refine va_mmax hx hb (hml.trans hl.1.symm) hown (hts (Cond.methodLink "OutwardTape$Rank" 27 Lib.Math.max.name) (m_1 184 rfl rfl)) (hts (Cond.static Lib.Math.max.name) (m_1 185 rfl rfl)) (hts (Cond.initialized "java/lang/Math") (m_1 9 rfl rfl)) (hts (Cond.code Lib.Math.max.name Lib.Math.max.code 2 (some .int)) (m_1 186 rfl rfl)) (Nat.le_of_ble_eq_true rfl) (Nat.le_of_ble_eq_true rfl) (Nat.le_of_ble_eq_true rfl) (Nat.le_of_ble_eq_true rfl) (dt_at dt_Rank_exponent 8 rfl) ?_
  refine lv_topi (fun u_t3 q_t3 => ?_)
  obtain rfl : t3 = u_t3 := e_t3.trans q_t3.symm
  refine lv_iconst (v := 1) hx hb (dt_at dt_Rank_exponent 9 rfl) (by decide) ?_
  refine lv_isub hx hb (dt_at dt_Rank_exponent 10 rfl) ?_
  refine lv_sipush (v := -1074) hx hb (dt_at dt_Rank_exponent 11 rfl) (by decide) ?_
  refine lv_iadd hx hb (dt_at dt_Rank_exponent 12 rfl) ?_
  have h := os_of h
  exact W.iret (v := ((t3 - (1 : Int32)) + (-1074 : Int32))) hx hb hr (fun t ht hW => ⟨_, rfl, h, ht⟩) (fun q hq => absurd hq List.not_mem_nil) (dt_at dt_Rank_exponent 13 rfl)
set_option maxRecDepth 100000 in
set_option maxHeartbeats 4000000 in
theorem c_Rank_exponent (l : Launch) (a0 : Int64) (r0 : Int32) (h : f_Rank_exponent a0 = some r0) : Met l (⟨"OutwardTape$Rank", "exponent", "(J)I"⟩ : MethodName) (WSm (⟨"OutwardTape$Rank", "exponent", "(J)I"⟩ : MethodName) prog_8_method_7_code 3 (some .int)) rm_Rank_exponent (va_Pc [.long a0] (fun _ => True)) (vp_Si (fun r => r = r0)) 0 0 (fun _ => False) := by
  refine Met.ofW (cc := prog_8_method_7_code) (maxL := 3) (ret := (some .int)) (by decide) rfl ?_
  intro p e s m args below meth c s₁ B hml hv
  obtain ⟨rfl, -⟩ := hv
  have hC := CX.of B hml rfl
  have hl := lv_entry [.long a0] (n := 3) (Nat.le_of_ble_eq_true rfl)
  rw [lg_entry_eq]
  generalize (lg_sl [.long a0] ++ List.replicate (3 - (lg_sl [.long a0]).length) Slot.unset).toArray = ls at hl ⊢
  have hl : lv_has ls 3 [(0, .long a0)] := hl
  exact k_Rank_exponent_0 hC a0 ls (lv_sub hl [0] rfl) h
abbrev rm_Rank_sign : Room := { frames := 0, cells := 0, slots := 0, locals := 0 }
set_option maxRecDepth 100000 in
set_option maxHeartbeats 4000000 in
theorem k_Rank_sign_25 {p : Program} {l : Launch} {e : Env} {s : State} {m : MethodId} {args : Array Value} {below : List Frame} {meth : Method} {c : Code} (hC : CX p s m args meth c prog_8_method_8_code 2 "OutwardTape$Rank" (some .long)) {r0 : Int64} : ∀ (s0 : Int64) (ls : Array Slot), lv_has ls 2 [] → f_Rank_sign_25  s0 = some r0 → W p l e rm_Rank_sign s m args below meth c s.heap [] 0 0 (MQ below (vp_Sl (fun r => r = r0)) args s 0 0 (fun _ => False)) (F0 m 25 ls [.long s0]) := by
  obtain ⟨hx, hb, hml, hown, hts, hr, hlocks⟩ := id hC
  intro s0 ls hl h
  rw [f_Rank_sign_25] at h
  have h := os_of h
  exact W.lret (v := s0) hx hb hr (fun t ht hW => ⟨_, rfl, h, ht⟩) (fun q hq => absurd hq List.not_mem_nil) (dt_at dt_Rank_sign 13 rfl)
set_option maxRecDepth 100000 in
set_option maxHeartbeats 4000000 in
theorem k_Rank_sign_0 {p : Program} {l : Launch} {e : Env} {s : State} {m : MethodId} {args : Array Value} {below : List Frame} {meth : Method} {c : Code} (hC : CX p s m args meth c prog_8_method_8_code 2 "OutwardTape$Rank" (some .long)) {r0 : Int64} : ∀ (v0 : Int64) (ls : Array Slot), lv_has ls 2 [(0, .long v0)] → f_Rank_sign_0  v0 = some r0 → W p l e rm_Rank_sign s m args below meth c s.heap [] 0 0 (MQ below (vp_Sl (fun r => r = r0)) args s 0 0 (fun _ => False)) (F0 m 0 ls []) := by
  obtain ⟨hx, hb, hml, hown, hts, hr, hlocks⟩ := id hC
  intro v0 ls hl h
  rw [f_Rank_sign_0] at h
  refine lv_lload_n hx hb (dt_at dt_Rank_sign 0 rfl) rfl (lv_at hl 0 rfl) ?_
  refine lv_lconst (v := 0) hx hb (dt_at dt_Rank_sign 1 rfl) (by decide) ?_
  refine lc_ge (tgt := 12) hx hb (dt_at dt_Rank_sign 2 rfl) (dt_at dt_Rank_sign 3 rfl) (by decide) (fun c1 => ?_) (fun c1 => ?_)
  · have h := if_p h c1
    refine lv_lload_n hx hb (dt_at dt_Rank_sign 6 rfl) rfl (lv_at hl 0 rfl) ?_
    refine lv_lconst (v := 0) hx hb (dt_at dt_Rank_sign 7 rfl) (by decide) ?_
    refine lc_le (tgt := 24) hx hb (dt_at dt_Rank_sign 8 rfl) (dt_at dt_Rank_sign 9 rfl) (by decide) (fun c2 => ?_) (fun c2 => ?_)
    · have h := if_p h c2
      refine lv_lconst (v := 0) hx hb (dt_at dt_Rank_sign 12 rfl) (by decide) ?_
      exact k_Rank_sign_25 hC   (0 : Int64) ls (lv_sub hl [] rfl) h
    · have h := if_n h c2
      refine lv_ldc2 (v := 4607182418800017408) hx hb hown (hts (Cond.constantLong "OutwardTape$Rank" 33 (4607182418800017408)) (m_3 186 rfl rfl)) (dt_at dt_Rank_sign 10 rfl) ?_
      refine lv_goto (tgt := 25) hx hb (dt_at dt_Rank_sign 11 rfl) (by decide) ?_
      exact k_Rank_sign_25 hC   (4607182418800017408 : Int64) ls (lv_sub hl [] rfl) h
  · have h := if_n h c1
    refine lv_ldc2 (v := -4607182418800017408) hx hb hown (hts (Cond.constantLong "OutwardTape$Rank" 31 (-4607182418800017408)) (m_3 177 rfl rfl)) (dt_at dt_Rank_sign 4 rfl) ?_
    refine lv_goto (tgt := 25) hx hb (dt_at dt_Rank_sign 5 rfl) (by decide) ?_
    exact k_Rank_sign_25 hC   (-4607182418800017408 : Int64) ls (lv_sub hl [] rfl) h
set_option maxRecDepth 100000 in
set_option maxHeartbeats 4000000 in
theorem c_Rank_sign (l : Launch) (a0 : Int64) (r0 : Int64) (h : f_Rank_sign a0 = some r0) : Met l (⟨"OutwardTape$Rank", "sign", "(J)J"⟩ : MethodName) (WSm (⟨"OutwardTape$Rank", "sign", "(J)J"⟩ : MethodName) prog_8_method_8_code 2 (some .long)) rm_Rank_sign (va_Pc [.long a0] (fun _ => True)) (vp_Sl (fun r => r = r0)) 0 0 (fun _ => False) := by
  refine Met.ofW (cc := prog_8_method_8_code) (maxL := 2) (ret := (some .long)) (by decide) rfl ?_
  intro p e s m args below meth c s₁ B hml hv
  obtain ⟨rfl, -⟩ := hv
  have hC := CX.of B hml rfl
  have hl := lv_entry [.long a0] (n := 2) (Nat.le_of_ble_eq_true rfl)
  rw [lg_entry_eq]
  generalize (lg_sl [.long a0] ++ List.replicate (2 - (lg_sl [.long a0]).length) Slot.unset).toArray = ls at hl ⊢
  have hl : lv_has ls 2 [(0, .long a0)] := hl
  exact k_Rank_sign_0 hC a0 ls (lv_sub hl [0] rfl) h
abbrev rm_Rank_towardsZero : Room := { frames := 2, cells := 0, slots := 0, locals := 46 }
set_option maxRecDepth 100000 in
set_option maxHeartbeats 4000000 in
theorem k_Rank_towardsZero_53 {p : Program} {l : Launch} {e : Env} {s : State} {m : MethodId} {args : Array Value} {below : List Frame} {meth : Method} {c : Code} (hC : CX p s m args meth c prog_8_method_9_code 7 "OutwardTape$Rank" (some .long)) {r0 : Int64} : ∀ (s0 : Int64) (ls : Array Slot), lv_has ls 7 [] → f_Rank_towardsZero_53  s0 = some r0 → W p l e rm_Rank_towardsZero s m args below meth c s.heap [] 0 0 (MQ below (vp_Sl (fun r => r = r0)) args s 0 0 (fun _ => False)) (F0 m 53 ls [.long s0]) := by
  obtain ⟨hx, hb, hml, hown, hts, hr, hlocks⟩ := id hC
  intro s0 ls hl h
  rw [f_Rank_towardsZero_53] at h
  have h := os_of h
  exact W.lret (v := s0) hx hb hr (fun t ht hW => ⟨_, rfl, h, ht⟩) (fun q hq => absurd hq List.not_mem_nil) (dt_at dt_Rank_towardsZero 30 rfl)
set_option maxRecDepth 100000 in
set_option maxHeartbeats 4000000 in
theorem k_Rank_towardsZero_37 {p : Program} {l : Launch} {e : Env} {s : State} {m : MethodId} {args : Array Value} {below : List Frame} {meth : Method} {c : Code} (hC : CX p s m args meth c prog_8_method_9_code 7 "OutwardTape$Rank" (some .long)) {r0 : Int64} : ∀ (s0 : Int64) (v0 : Int64) (ls : Array Slot), lv_has ls 7 [(0, .long v0)] → f_Rank_towardsZero_37  s0 v0 = some r0 → W p l e rm_Rank_towardsZero s m args below meth c s.heap [] 0 0 (MQ below (vp_Sl (fun r => r = r0)) args s 0 0 (fun _ => False)) (F0 m 37 ls [.long s0]) := by
  obtain ⟨hx, hb, hml, hown, hts, hr, hlocks⟩ := id hC
  intro s0 v0 ls hl h
  rw [f_Rank_towardsZero_37] at h
  refine lv_lstore (lv' := [(5, .long s0), (0, .long v0)]) hx hb (dt_at dt_Rank_towardsZero 21 rfl) hl (by decide) rfl (fun ls hl => ?_)
  refine lv_lload_n hx hb (dt_at dt_Rank_towardsZero 22 rfl) rfl (lv_at hl 1 rfl) ?_
  refine lv_lconst (v := 0) hx hb (dt_at dt_Rank_towardsZero 23 rfl) (by decide) ?_
  refine lc_ge (tgt := 51) hx hb (dt_at dt_Rank_towardsZero 24 rfl) (dt_at dt_Rank_towardsZero 25 rfl) (by decide) (fun c1 => ?_) (fun c1 => ?_)
  · have h := if_p h c1
    refine lv_lload hx hb (dt_at dt_Rank_towardsZero 29 rfl) (lv_at hl 0 rfl) ?_
    exact k_Rank_towardsZero_53 hC   s0 ls (lv_sub hl [] rfl) h
  · have h := if_n h c1
    refine lv_lload hx hb (dt_at dt_Rank_towardsZero 26 rfl) (lv_at hl 0 rfl) ?_
    refine lv_lneg hx hb (dt_at dt_Rank_towardsZero 27 rfl) ?_
    refine lv_goto (tgt := 53) hx hb (dt_at dt_Rank_towardsZero 28 rfl) (by decide) ?_
    exact k_Rank_towardsZero_53 hC   (-s0) ls (lv_sub hl [] rfl) h
set_option maxRecDepth 100000 in
set_option maxHeartbeats 4000000 in
theorem k_Rank_towardsZero_0 {p : Program} {l : Launch} {e : Env} {s : State} {m : MethodId} {args : Array Value} {below : List Frame} {meth : Method} {c : Code} (hC : CX p s m args meth c prog_8_method_9_code 7 "OutwardTape$Rank" (some .long)) {r0 : Int64} : ∀ (v0 : Int64) (ls : Array Slot), lv_has ls 7 [(0, .long v0)] → f_Rank_towardsZero_0  v0 = some r0 → W p l e rm_Rank_towardsZero s m args below meth c s.heap [] 0 0 (MQ below (vp_Sl (fun r => r = r0)) args s 0 0 (fun _ => False)) (F0 m 0 ls []) := by
  obtain ⟨hx, hb, hml, hown, hts, hr, hlocks⟩ := id hC
  intro v0 ls hl h
  rw [f_Rank_towardsZero_0] at h
  refine lv_lload_n hx hb (dt_at dt_Rank_towardsZero 0 rfl) rfl (lv_at hl 0 rfl) ?_
  obtain ⟨t1, e_t1, h⟩ := ol_of h
  refine va_mabs_long hx hb (hml.trans hl.1.symm) hown (hts (Cond.methodLink "OutwardTape$Rank" 17 Lib.MathLoose.abs_long.x) (m_1 183 rfl rfl)) (hts (Cond.static Lib.MathLoose.abs_long.x) (m_1 178 rfl rfl)) (hts (Cond.initialized "java/lang/Math") (m_1 9 rfl rfl)) (hts (Cond.code Lib.MathLoose.abs_long.x Lib.MathLoose.abs_long.code 2 (some .long)) (m_1 179 rfl rfl)) (Nat.le_of_ble_eq_true rfl) (Nat.le_of_ble_eq_true rfl) (Nat.le_of_ble_eq_true rfl) (Nat.le_of_ble_eq_true rfl) (dt_at dt_Rank_towardsZero 1 rfl) ?_
  refine lv_topl (fun u_t1 q_t1 => ?_)
  obtain rfl : t1 = u_t1 := e_t1.trans q_t1.symm
  refine lv_lstore_n (lv' := [(2, .long t1), (0, .long v0)]) hx hb (dt_at dt_Rank_towardsZero 2 rfl) rfl hl (by decide) rfl (fun ls hl => ?_)
  refine lv_lload_n hx hb (dt_at dt_Rank_towardsZero 3 rfl) rfl (lv_at hl 1 rfl) ?_
  obtain ⟨r2, h_r2, h⟩ := ob_of h
  refine vp_callSi (W.runS (As := [.long v0]) (rest := []) ⟨hx, hb, hml, hown, hts⟩ (c_Rank_exponent l v0 r2 h_r2) (va_cwS 1 hts (gd_S (m_3 176 rfl rfl) (m_1 181 rfl rfl) (m_1 15 rfl rfl) (m_1 182 rfl rfl)) rfl rfl rfl (by decide +kernel) ⟨Nat.le_of_ble_eq_true rfl, Nat.le_of_ble_eq_true rfl⟩) ⟨fun _ _ _ _ q => q, fun U hU hW => ⟨rfl, trivial⟩⟩ rfl rfl hl.1 rfl (lv_room (Nat.le_of_ble_eq_true rfl)) (dt_at dt_Rank_towardsZero 4 rfl) ⟨Nat.le_of_ble_eq_true rfl, Nat.le_of_ble_eq_true rfl⟩) (fun u_r2 q_r2 => ?_)
  obtain rfl : r2 = u_r2 := q_r2.symm
  refine lv_ineg hx hb (dt_at dt_Rank_towardsZero 5 rfl) ?_
  obtain ⟨t3, e_t3, h⟩ := ol_of h
  refine lv_topi (fun u_t3 q_t3 => ?_)
  obtain rfl : t3 = u_t3 := e_t3.trans q_t3.symm
  refine lv_istore (lv' := [(4, .int t3), (2, .long t1), (0, .long v0)]) hx hb (dt_at dt_Rank_towardsZero 6 rfl) hl (by decide) rfl (fun ls hl => ?_)
  refine lv_iload hx hb (dt_at dt_Rank_towardsZero 7 rfl) (lv_at hl 0 rfl) ?_
  refine lv_if_gt (tgt := 19) hx hb (dt_at dt_Rank_towardsZero 8 rfl) (by decide) (fun c4 => ?_) (fun c4 => ?_)
  · have h := if_p h c4
    refine lv_iload hx hb (dt_at dt_Rank_towardsZero 11 rfl) (lv_at hl 0 rfl) ?_
    refine lv_bipush (v := 52) hx hb (dt_at dt_Rank_towardsZero 12 rfl) (by decide) ?_
    refine lv_icmp_le (tgt := 30) hx hb (dt_at dt_Rank_towardsZero 13 rfl) (by decide) (fun c5 => ?_) (fun c5 => ?_)
    · have h := if_p h c5
      refine lv_lload_n hx hb (dt_at dt_Rank_towardsZero 16 rfl) rfl (lv_at hl 1 rfl) ?_
      refine lv_iload hx hb (dt_at dt_Rank_towardsZero 17 rfl) (lv_at hl 0 rfl) ?_
      refine lv_lushr (v := (j_lushr t1 t3)) hx hb (dt_at dt_Rank_towardsZero 18 rfl) rfl ?_
      refine lv_iload hx hb (dt_at dt_Rank_towardsZero 19 rfl) (lv_at hl 0 rfl) ?_
      refine lv_lshl (v := (j_lshl (j_lushr t1 t3) t3)) hx hb (dt_at dt_Rank_towardsZero 20 rfl) rfl ?_
      exact k_Rank_towardsZero_37 hC   (j_lshl (j_lushr t1 t3) t3) v0 ls (lv_sub hl [2] rfl) h
    · have h := if_n h c5
      refine lv_lconst (v := 0) hx hb (dt_at dt_Rank_towardsZero 14 rfl) (by decide) ?_
      refine lv_goto (tgt := 37) hx hb (dt_at dt_Rank_towardsZero 15 rfl) (by decide) ?_
      exact k_Rank_towardsZero_37 hC   (0 : Int64) v0 ls (lv_sub hl [2] rfl) h
  · have h := if_n h c4
    refine lv_lload_n hx hb (dt_at dt_Rank_towardsZero 9 rfl) rfl (lv_at hl 2 rfl) ?_
    have h := os_of h
    exact W.lret (v := v0) hx hb hr (fun t ht hW => ⟨_, rfl, h, ht⟩) (fun q hq => absurd hq List.not_mem_nil) (dt_at dt_Rank_towardsZero 10 rfl)
set_option maxRecDepth 100000 in
set_option maxHeartbeats 4000000 in
theorem c_Rank_towardsZero (l : Launch) (a0 : Int64) (r0 : Int64) (h : f_Rank_towardsZero a0 = some r0) : Met l (⟨"OutwardTape$Rank", "towardsZero", "(J)J"⟩ : MethodName) (WSm (⟨"OutwardTape$Rank", "towardsZero", "(J)J"⟩ : MethodName) prog_8_method_9_code 7 (some .long)) rm_Rank_towardsZero (va_Pc [.long a0] (fun _ => True)) (vp_Sl (fun r => r = r0)) 0 0 (fun _ => False) := by
  refine Met.ofW (cc := prog_8_method_9_code) (maxL := 7) (ret := (some .long)) (by decide) rfl ?_
  intro p e s m args below meth c s₁ B hml hv
  obtain ⟨rfl, -⟩ := hv
  have hC := CX.of B hml rfl
  have hl := lv_entry [.long a0] (n := 7) (Nat.le_of_ble_eq_true rfl)
  rw [lg_entry_eq]
  generalize (lg_sl [.long a0] ++ List.replicate (7 - (lg_sl [.long a0]).length) Slot.unset).toArray = ls at hl ⊢
  have hl : lv_has ls 7 [(0, .long a0)] := hl
  exact k_Rank_towardsZero_0 hC a0 ls (lv_sub hl [0] rfl) h
abbrev rm_Exact_isCut : Room := { frames := 0, cells := 0, slots := 0, locals := 0 }
set_option maxRecDepth 100000 in
set_option maxHeartbeats 4000000 in
theorem k_Exact_isCut_23 {p : Program} {l : Launch} {e : Env} {s : State} {m : MethodId} {args : Array Value} {below : List Frame} {meth : Method} {c : Code} (hC : CX p s m args meth c prog_4_method_3_code 3 "OutwardTape$Exact" (some .boolean)) {r0 : Int32} : ∀ (s0 : Int32) (ls : Array Slot), lv_has ls 3 [] → f_Exact_isCut_23  s0 = some r0 → W p l e rm_Exact_isCut s m args below meth c s.heap [] 0 0 (MQ below (vp_Si (fun r => r = r0)) args s 0 0 (fun _ => False)) (F0 m 23 ls [.int s0]) := by
  obtain ⟨hx, hb, hml, hown, hts, hr, hlocks⟩ := id hC
  intro s0 ls hl h
  rw [f_Exact_isCut_23] at h
  obtain ⟨hz, h⟩ := og_of h
  have h := os_of h
  exact W.zret (v := s0) (ty := .boolean) hx hb hr (j_z_nar hz) (fun t ht hW => ⟨_, rfl, h, ht⟩) (fun q hq => absurd hq List.not_mem_nil) (dt_at dt_Exact_isCut 16 rfl)
set_option maxRecDepth 100000 in
set_option maxHeartbeats 4000000 in
theorem k_Exact_isCut_18 {p : Program} {l : Launch} {e : Env} {s : State} {m : MethodId} {args : Array Value} {below : List Frame} {meth : Method} {c : Code} (hC : CX p s m args meth c prog_4_method_3_code 3 "OutwardTape$Exact" (some .boolean)) {r0 : Int32} : ∀  (ls : Array Slot), lv_has ls 3 [] → f_Exact_isCut_18   = some r0 → W p l e rm_Exact_isCut s m args below meth c s.heap [] 0 0 (MQ below (vp_Si (fun r => r = r0)) args s 0 0 (fun _ => False)) (F0 m 18 ls []) := by
  obtain ⟨hx, hb, hml, hown, hts, hr, hlocks⟩ := id hC
  intro ls hl h
  rw [f_Exact_isCut_18] at h
  refine lv_iconst (v := 1) hx hb (dt_at dt_Exact_isCut 13 rfl) (by decide) ?_
  refine lv_goto (tgt := 23) hx hb (dt_at dt_Exact_isCut 14 rfl) (by decide) ?_
  exact k_Exact_isCut_23 hC   (1 : Int32) ls (lv_sub hl [] rfl) h
set_option maxRecDepth 100000 in
set_option maxHeartbeats 4000000 in
theorem k_Exact_isCut_0 {p : Program} {l : Launch} {e : Env} {s : State} {m : MethodId} {args : Array Value} {below : List Frame} {meth : Method} {c : Code} (hC : CX p s m args meth c prog_4_method_3_code 3 "OutwardTape$Exact" (some .boolean)) {r0 : Int32} : ∀ (v0 : Int64) (v2 : Int32) (ls : Array Slot), lv_has ls 3 [(0, .long v0), (2, .int v2)] → f_Exact_isCut_0  v0 v2 = some r0 → W p l e rm_Exact_isCut s m args below meth c s.heap [] 0 0 (MQ below (vp_Si (fun r => r = r0)) args s 0 0 (fun _ => False)) (F0 m 0 ls []) := by
  obtain ⟨hx, hb, hml, hown, hts, hr, hlocks⟩ := id hC
  intro v0 v2 ls hl h
  rw [f_Exact_isCut_0] at h
  refine lv_iload_n hx hb (dt_at dt_Exact_isCut 0 rfl) rfl (lv_at hl 1 rfl) ?_
  refine lv_bipush (v := 64) hx hb (dt_at dt_Exact_isCut 1 rfl) (by decide) ?_
  refine lv_icmp_ge (tgt := 18) hx hb (dt_at dt_Exact_isCut 2 rfl) (by decide) (fun c1 => ?_) (fun c1 => ?_)
  · have h := if_p h c1
    exact k_Exact_isCut_18 hC    ls (lv_sub hl [] rfl) h
  · have h := if_n h c1
    refine lv_lload_n hx hb (dt_at dt_Exact_isCut 3 rfl) rfl (lv_at hl 0 rfl) ?_
    refine lv_lconst (v := 1) hx hb (dt_at dt_Exact_isCut 4 rfl) (by decide) ?_
    refine lv_iload_n hx hb (dt_at dt_Exact_isCut 5 rfl) rfl (lv_at hl 1 rfl) ?_
    refine lv_lshl (v := (j_lshl (1 : Int64) v2)) hx hb (dt_at dt_Exact_isCut 6 rfl) rfl ?_
    refine lv_lconst (v := 1) hx hb (dt_at dt_Exact_isCut 7 rfl) (by decide) ?_
    refine lv_lsub hx hb (dt_at dt_Exact_isCut 8 rfl) ?_
    refine lv_land hx hb (dt_at dt_Exact_isCut 9 rfl) ?_
    refine lv_lconst (v := 0) hx hb (dt_at dt_Exact_isCut 10 rfl) (by decide) ?_
    refine lc_eq (tgt := 22) hx hb (dt_at dt_Exact_isCut 11 rfl) (dt_at dt_Exact_isCut 12 rfl) (by decide) (fun c2 => ?_) (fun c2 => ?_)
    · have h := if_p h c2
      refine lv_iconst (v := 0) hx hb (dt_at dt_Exact_isCut 15 rfl) (by decide) ?_
      exact k_Exact_isCut_23 hC   (0 : Int32) ls (lv_sub hl [] rfl) h
    · have h := if_n h c2
      exact k_Exact_isCut_18 hC    ls (lv_sub hl [] rfl) h
set_option maxRecDepth 100000 in
set_option maxHeartbeats 4000000 in
theorem c_Exact_isCut (l : Launch) (a0 : Int64) (a2 : Int32) (r0 : Int32) (h : f_Exact_isCut a0 a2 = some r0) : Met l (⟨"OutwardTape$Exact", "isCut", "(JI)Z"⟩ : MethodName) (WSm (⟨"OutwardTape$Exact", "isCut", "(JI)Z"⟩ : MethodName) prog_4_method_3_code 3 (some .boolean)) rm_Exact_isCut (va_Pc [.long a0, .int a2] (fun _ => True)) (vp_Si (fun r => r = r0)) 0 0 (fun _ => False) := by
  refine Met.ofW (cc := prog_4_method_3_code) (maxL := 3) (ret := (some .boolean)) (by decide) rfl ?_
  intro p e s m args below meth c s₁ B hml hv
  obtain ⟨rfl, -⟩ := hv
  have hC := CX.of B hml rfl
  have hl := lv_entry [.long a0, .int a2] (n := 3) (Nat.le_of_ble_eq_true rfl)
  rw [lg_entry_eq]
  generalize (lg_sl [.long a0, .int a2] ++ List.replicate (3 - (lg_sl [.long a0, .int a2]).length) Slot.unset).toArray = ls at hl ⊢
  have hl : lv_has ls 3 [(0, .long a0), (2, .int a2)] := hl
  exact k_Exact_isCut_0 hC a0 a2 ls (lv_sub hl [0, 1] rfl) h
abbrev rm_Exact_isNearerAbove : Room := { frames := 0, cells := 0, slots := 0, locals := 0 }
set_option maxRecDepth 100000 in
set_option maxHeartbeats 4000000 in
theorem k_Exact_isNearerAbove_64 {p : Program} {l : Launch} {e : Env} {s : State} {m : MethodId} {args : Array Value} {below : List Frame} {meth : Method} {c : Code} (hC : CX p s m args meth c prog_4_method_4_code 8 "OutwardTape$Exact" (some .boolean)) {r0 : Int32} : ∀ (s0 : Int32) (ls : Array Slot), lv_has ls 8 [] → f_Exact_isNearerAbove_64  s0 = some r0 → W p l e rm_Exact_isNearerAbove s m args below meth c s.heap [] 0 0 (MQ below (vp_Si (fun r => r = r0)) args s 0 0 (fun _ => False)) (F0 m 64 ls [.int s0]) := by
  obtain ⟨hx, hb, hml, hown, hts, hr, hlocks⟩ := id hC
  intro s0 ls hl h
  rw [f_Exact_isNearerAbove_64] at h
  obtain ⟨hz, h⟩ := og_of h
  have h := os_of h
  exact W.zret (v := s0) (ty := .boolean) hx hb hr (j_z_nar hz) (fun t ht hW => ⟨_, rfl, h, ht⟩) (fun q hq => absurd hq List.not_mem_nil) (dt_at dt_Exact_isNearerAbove 44 rfl)
set_option maxRecDepth 100000 in
set_option maxHeartbeats 4000000 in
theorem k_Exact_isNearerAbove_63 {p : Program} {l : Launch} {e : Env} {s : State} {m : MethodId} {args : Array Value} {below : List Frame} {meth : Method} {c : Code} (hC : CX p s m args meth c prog_4_method_4_code 8 "OutwardTape$Exact" (some .boolean)) {r0 : Int32} : ∀  (ls : Array Slot), lv_has ls 8 [] → f_Exact_isNearerAbove_63   = some r0 → W p l e rm_Exact_isNearerAbove s m args below meth c s.heap [] 0 0 (MQ below (vp_Si (fun r => r = r0)) args s 0 0 (fun _ => False)) (F0 m 63 ls []) := by
  obtain ⟨hx, hb, hml, hown, hts, hr, hlocks⟩ := id hC
  intro ls hl h
  rw [f_Exact_isNearerAbove_63] at h
  refine lv_iconst (v := 0) hx hb (dt_at dt_Exact_isNearerAbove 43 rfl) (by decide) ?_
  exact k_Exact_isNearerAbove_64 hC   (0 : Int32) ls (lv_sub hl [] rfl) h
set_option maxRecDepth 100000 in
set_option maxHeartbeats 4000000 in
theorem k_Exact_isNearerAbove_59 {p : Program} {l : Launch} {e : Env} {s : State} {m : MethodId} {args : Array Value} {below : List Frame} {meth : Method} {c : Code} (hC : CX p s m args meth c prog_4_method_4_code 8 "OutwardTape$Exact" (some .boolean)) {r0 : Int32} : ∀  (ls : Array Slot), lv_has ls 8 [] → f_Exact_isNearerAbove_59   = some r0 → W p l e rm_Exact_isNearerAbove s m args below meth c s.heap [] 0 0 (MQ below (vp_Si (fun r => r = r0)) args s 0 0 (fun _ => False)) (F0 m 59 ls []) := by
  obtain ⟨hx, hb, hml, hown, hts, hr, hlocks⟩ := id hC
  intro ls hl h
  rw [f_Exact_isNearerAbove_59] at h
  refine lv_iconst (v := 1) hx hb (dt_at dt_Exact_isNearerAbove 41 rfl) (by decide) ?_
  refine lv_goto (tgt := 64) hx hb (dt_at dt_Exact_isNearerAbove 42 rfl) (by decide) ?_
  exact k_Exact_isNearerAbove_64 hC   (1 : Int32) ls (lv_sub hl [] rfl) h
set_option maxRecDepth 100000 in
set_option maxHeartbeats 4000000 in
theorem k_Exact_isNearerAbove_38 {p : Program} {l : Launch} {e : Env} {s : State} {m : MethodId} {args : Array Value} {below : List Frame} {meth : Method} {c : Code} (hC : CX p s m args meth c prog_4_method_4_code 8 "OutwardTape$Exact" (some .boolean)) {r0 : Int32} : ∀ (s0 : Int32) (v3 : Int64) (v5 : Int64) (ls : Array Slot), lv_has ls 8 [(3, .long v3), (5, .long v5)] → f_Exact_isNearerAbove_38  s0 v3 v5 = some r0 → W p l e rm_Exact_isNearerAbove s m args below meth c s.heap [] 0 0 (MQ below (vp_Si (fun r => r = r0)) args s 0 0 (fun _ => False)) (F0 m 38 ls [.int s0]) := by
  obtain ⟨hx, hb, hml, hown, hts, hr, hlocks⟩ := id hC
  intro s0 v3 v5 ls hl h
  rw [f_Exact_isNearerAbove_38] at h
  refine lv_istore (lv' := [(7, .int s0), (3, .long v3), (5, .long v5)]) hx hb (dt_at dt_Exact_isNearerAbove 30 rfl) hl (by decide) rfl (fun ls hl => ?_)
  refine lv_lload hx hb (dt_at dt_Exact_isNearerAbove 31 rfl) (lv_at hl 2 rfl) ?_
  refine lv_lload_n hx hb (dt_at dt_Exact_isNearerAbove 32 rfl) rfl (lv_at hl 1 rfl) ?_
  refine lc_gt (tgt := 59) hx hb (dt_at dt_Exact_isNearerAbove 33 rfl) (dt_at dt_Exact_isNearerAbove 34 rfl) (by decide) (fun c1 => ?_) (fun c1 => ?_)
  · have h := if_p h c1
    exact k_Exact_isNearerAbove_59 hC    ls (lv_sub hl [] rfl) h
  · have h := if_n h c1
    refine lv_lload hx hb (dt_at dt_Exact_isNearerAbove 35 rfl) (lv_at hl 2 rfl) ?_
    refine lv_lload_n hx hb (dt_at dt_Exact_isNearerAbove 36 rfl) rfl (lv_at hl 1 rfl) ?_
    refine lc_ne (tgt := 63) hx hb (dt_at dt_Exact_isNearerAbove 37 rfl) (dt_at dt_Exact_isNearerAbove 38 rfl) (by decide) (fun c2 => ?_) (fun c2 => ?_)
    · have h := if_n h c2
      exact k_Exact_isNearerAbove_63 hC    ls (lv_sub hl [] rfl) h
    · have h := if_p h c2
      refine lv_iload hx hb (dt_at dt_Exact_isNearerAbove 39 rfl) (lv_at hl 0 rfl) ?_
      refine lv_if_eq (tgt := 63) hx hb (dt_at dt_Exact_isNearerAbove 40 rfl) (by decide) (fun c3 => ?_) (fun c3 => ?_)
      · have h := if_p h c3
        exact k_Exact_isNearerAbove_63 hC    ls (lv_sub hl [] rfl) h
      · have h := if_n h c3
        exact k_Exact_isNearerAbove_59 hC    ls (lv_sub hl [] rfl) h
set_option maxRecDepth 100000 in
set_option maxHeartbeats 4000000 in
theorem k_Exact_isNearerAbove_0 {p : Program} {l : Launch} {e : Env} {s : State} {m : MethodId} {args : Array Value} {below : List Frame} {meth : Method} {c : Code} (hC : CX p s m args meth c prog_4_method_4_code 8 "OutwardTape$Exact" (some .boolean)) {r0 : Int32} : ∀ (v0 : Int64) (v2 : Int32) (ls : Array Slot), lv_has ls 8 [(0, .long v0), (2, .int v2)] → f_Exact_isNearerAbove_0  v0 v2 = some r0 → W p l e rm_Exact_isNearerAbove s m args below meth c s.heap [] 0 0 (MQ below (vp_Si (fun r => r = r0)) args s 0 0 (fun _ => False)) (F0 m 0 ls []) := by
  obtain ⟨hx, hb, hml, hown, hts, hr, hlocks⟩ := id hC
  intro v0 v2 ls hl h
  rw [f_Exact_isNearerAbove_0] at h
  refine lv_iload_n hx hb (dt_at dt_Exact_isNearerAbove 0 rfl) rfl (lv_at hl 1 rfl) ?_
  refine lv_bipush (v := 64) hx hb (dt_at dt_Exact_isNearerAbove 1 rfl) (by decide) ?_
  refine lv_icmp_lt (tgt := 8) hx hb (dt_at dt_Exact_isNearerAbove 2 rfl) (by decide) (fun c1 => ?_) (fun c1 => ?_)
  · have h := if_p h c1
    refine lv_lconst (v := 1) hx hb (dt_at dt_Exact_isNearerAbove 5 rfl) (by decide) ?_
    refine lv_iload_n hx hb (dt_at dt_Exact_isNearerAbove 6 rfl) rfl (lv_at hl 1 rfl) ?_
    refine lv_iconst (v := 1) hx hb (dt_at dt_Exact_isNearerAbove 7 rfl) (by decide) ?_
    refine lv_isub hx hb (dt_at dt_Exact_isNearerAbove 8 rfl) ?_
    refine lv_lshl (v := (j_lshl (1 : Int64) (v2 - (1 : Int32)))) hx hb (dt_at dt_Exact_isNearerAbove 9 rfl) rfl ?_
    obtain ⟨t2, e_t2, h⟩ := ol_of h
    refine lv_topl (fun u_t2 q_t2 => ?_)
    obtain rfl : t2 = u_t2 := e_t2.trans q_t2.symm
    refine lv_lstore_n (lv' := [(3, .long t2), (0, .long v0), (2, .int v2)]) hx hb (dt_at dt_Exact_isNearerAbove 10 rfl) rfl hl (by decide) rfl (fun ls hl => ?_)
    refine lv_lload_n hx hb (dt_at dt_Exact_isNearerAbove 11 rfl) rfl (lv_at hl 1 rfl) ?_
    refine lv_lconst (v := 1) hx hb (dt_at dt_Exact_isNearerAbove 12 rfl) (by decide) ?_
    refine lv_iload_n hx hb (dt_at dt_Exact_isNearerAbove 13 rfl) rfl (lv_at hl 2 rfl) ?_
    refine lv_lshl (v := (j_lshl (1 : Int64) v2)) hx hb (dt_at dt_Exact_isNearerAbove 14 rfl) rfl ?_
    refine lv_lconst (v := 1) hx hb (dt_at dt_Exact_isNearerAbove 15 rfl) (by decide) ?_
    refine lv_lsub hx hb (dt_at dt_Exact_isNearerAbove 16 rfl) ?_
    refine lv_land hx hb (dt_at dt_Exact_isNearerAbove 17 rfl) ?_
    obtain ⟨t3, e_t3, h⟩ := ol_of h
    refine lv_topl (fun u_t3 q_t3 => ?_)
    obtain rfl : t3 = u_t3 := e_t3.trans q_t3.symm
    refine lv_lstore (lv' := [(5, .long t3), (3, .long t2), (0, .long v0), (2, .int v2)]) hx hb (dt_at dt_Exact_isNearerAbove 18 rfl) hl (by decide) rfl (fun ls hl => ?_)
    refine lv_lload_n hx hb (dt_at dt_Exact_isNearerAbove 19 rfl) rfl (lv_at hl 2 rfl) ?_
    refine lv_iload_n hx hb (dt_at dt_Exact_isNearerAbove 20 rfl) rfl (lv_at hl 3 rfl) ?_
    refine lv_lushr (v := (j_lushr v0 v2)) hx hb (dt_at dt_Exact_isNearerAbove 21 rfl) rfl ?_
    refine lv_lconst (v := 1) hx hb (dt_at dt_Exact_isNearerAbove 22 rfl) (by decide) ?_
    refine lv_land hx hb (dt_at dt_Exact_isNearerAbove 23 rfl) ?_
    refine lv_lconst (v := 0) hx hb (dt_at dt_Exact_isNearerAbove 24 rfl) (by decide) ?_
    refine lc_eq (tgt := 37) hx hb (dt_at dt_Exact_isNearerAbove 25 rfl) (dt_at dt_Exact_isNearerAbove 26 rfl) (by decide) (fun c4 => ?_) (fun c4 => ?_)
    · have h := if_p h c4
      refine lv_iconst (v := 0) hx hb (dt_at dt_Exact_isNearerAbove 29 rfl) (by decide) ?_
      exact k_Exact_isNearerAbove_38 hC   (0 : Int32) t2 t3 ls (lv_sub hl [1, 0] rfl) h
    · have h := if_n h c4
      refine lv_iconst (v := 1) hx hb (dt_at dt_Exact_isNearerAbove 27 rfl) (by decide) ?_
      refine lv_goto (tgt := 38) hx hb (dt_at dt_Exact_isNearerAbove 28 rfl) (by decide) ?_
      exact k_Exact_isNearerAbove_38 hC   (1 : Int32) t2 t3 ls (lv_sub hl [1, 0] rfl) h
  · have h := if_n h c1
    refine lv_iconst (v := 0) hx hb (dt_at dt_Exact_isNearerAbove 3 rfl) (by decide) ?_
    have h := os_of h
    exact W.zret (v := (0 : Int32)) (ty := .boolean) hx hb hr (by decide) (fun t ht hW => ⟨_, rfl, h, ht⟩) (fun q hq => absurd hq List.not_mem_nil) (dt_at dt_Exact_isNearerAbove 4 rfl)
set_option maxRecDepth 100000 in
set_option maxHeartbeats 4000000 in
theorem c_Exact_isNearerAbove (l : Launch) (a0 : Int64) (a2 : Int32) (r0 : Int32) (h : f_Exact_isNearerAbove a0 a2 = some r0) : Met l (⟨"OutwardTape$Exact", "isNearerAbove", "(JI)Z"⟩ : MethodName) (WSm (⟨"OutwardTape$Exact", "isNearerAbove", "(JI)Z"⟩ : MethodName) prog_4_method_4_code 8 (some .boolean)) rm_Exact_isNearerAbove (va_Pc [.long a0, .int a2] (fun _ => True)) (vp_Si (fun r => r = r0)) 0 0 (fun _ => False) := by
  refine Met.ofW (cc := prog_4_method_4_code) (maxL := 8) (ret := (some .boolean)) (by decide) rfl ?_
  intro p e s m args below meth c s₁ B hml hv
  obtain ⟨rfl, -⟩ := hv
  have hC := CX.of B hml rfl
  have hl := lv_entry [.long a0, .int a2] (n := 8) (Nat.le_of_ble_eq_true rfl)
  rw [lg_entry_eq]
  generalize (lg_sl [.long a0, .int a2] ++ List.replicate (8 - (lg_sl [.long a0, .int a2]).length) Slot.unset).toArray = ls at hl ⊢
  have hl : lv_has ls 8 [(0, .long a0), (2, .int a2)] := hl
  exact k_Exact_isNearerAbove_0 hC a0 a2 ls (lv_sub hl [0, 1] rfl) h
abbrev rm_Exact_rounded : Room := { frames := 1, cells := 0, slots := 0, locals := 27 }
set_option maxRecDepth 100000 in
set_option maxHeartbeats 4000000 in
theorem k_Exact_rounded_221 {p : Program} {l : Launch} {e : Env} {s : State} {m : MethodId} {args : Array Value} {below : List Frame} {meth : Method} {c : Code} (hC : CX p s m args meth c prog_4_method_2_code 14 "OutwardTape$Exact" (some .long)) {r0 : Int64} : ∀ (s0 : Int64) (ls : Array Slot), lv_has ls 14 [] → f_Exact_rounded_221  s0 = some r0 → W p l e rm_Exact_rounded s m args below meth c s.heap [] 0 0 (MQ below (vp_Sl (fun r => r = r0)) args s 0 0 (fun _ => False)) (F0 m 221 ls [.long s0]) := by
  obtain ⟨hx, hb, hml, hown, hts, hr, hlocks⟩ := id hC
  intro s0 ls hl h
  rw [f_Exact_rounded_221] at h
  have h := os_of h
  exact W.lret (v := s0) hx hb hr (fun t ht hW => ⟨_, rfl, h, ht⟩) (fun q hq => absurd hq List.not_mem_nil) (dt_at dt_Exact_rounded 108 rfl)
set_option maxRecDepth 100000 in
set_option maxHeartbeats 4000000 in
theorem k_Exact_rounded_209 {p : Program} {l : Launch} {e : Env} {s : State} {m : MethodId} {args : Array Value} {below : List Frame} {meth : Method} {c : Code} (hC : CX p s m args meth c prog_4_method_2_code 14 "OutwardTape$Exact" (some .long)) {r0 : Int64} : ∀ (v0 : Int32) (v12 : Int64) (ls : Array Slot), lv_has ls 14 [(0, .int v0), (12, .long v12)] → f_Exact_rounded_209  v0 v12 = some r0 → W p l e rm_Exact_rounded s m args below meth c s.heap [] 0 0 (MQ below (vp_Sl (fun r => r = r0)) args s 0 0 (fun _ => False)) (F0 m 209 ls []) := by
  obtain ⟨hx, hb, hml, hown, hts, hr, hlocks⟩ := id hC
  intro v0 v12 ls hl h
  rw [f_Exact_rounded_209] at h
  refine lv_iload_n hx hb (dt_at dt_Exact_rounded 102 rfl) rfl (lv_at hl 0 rfl) ?_
  refine lv_if_eq (tgt := 219) hx hb (dt_at dt_Exact_rounded 103 rfl) (by decide) (fun c1 => ?_) (fun c1 => ?_)
  · have h := if_p h c1
    refine lv_lload hx hb (dt_at dt_Exact_rounded 107 rfl) (lv_at hl 1 rfl) ?_
    exact k_Exact_rounded_221 hC   v12 ls (lv_sub hl [] rfl) h
  · have h := if_n h c1
    refine lv_lload hx hb (dt_at dt_Exact_rounded 104 rfl) (lv_at hl 1 rfl) ?_
    refine lv_lneg hx hb (dt_at dt_Exact_rounded 105 rfl) ?_
    refine lv_goto (tgt := 221) hx hb (dt_at dt_Exact_rounded 106 rfl) (by decide) ?_
    exact k_Exact_rounded_221 hC   (-v12) ls (lv_sub hl [] rfl) h
set_option maxRecDepth 100000 in
set_option maxHeartbeats 4000000 in
theorem k_Exact_rounded_207 {p : Program} {l : Launch} {e : Env} {s : State} {m : MethodId} {args : Array Value} {below : List Frame} {meth : Method} {c : Code} (hC : CX p s m args meth c prog_4_method_2_code 14 "OutwardTape$Exact" (some .long)) {r0 : Int64} : ∀ (s0 : Int64) (v0 : Int32) (ls : Array Slot), lv_has ls 14 [(0, .int v0)] → f_Exact_rounded_207  s0 v0 = some r0 → W p l e rm_Exact_rounded s m args below meth c s.heap [] 0 0 (MQ below (vp_Sl (fun r => r = r0)) args s 0 0 (fun _ => False)) (F0 m 207 ls [.long s0]) := by
  obtain ⟨hx, hb, hml, hown, hts, hr, hlocks⟩ := id hC
  intro s0 v0 ls hl h
  rw [f_Exact_rounded_207] at h
  refine lv_lstore (lv' := [(12, .long s0), (0, .int v0)]) hx hb (dt_at dt_Exact_rounded 101 rfl) hl (by decide) rfl (fun ls hl => ?_)
  exact k_Exact_rounded_209 hC   v0 s0 ls (lv_sub hl [1, 0] rfl) h
set_option maxRecDepth 100000 in
set_option maxHeartbeats 4000000 in
theorem k_Exact_rounded_184 {p : Program} {l : Launch} {e : Env} {s : State} {m : MethodId} {args : Array Value} {below : List Frame} {meth : Method} {c : Code} (hC : CX p s m args meth c prog_4_method_2_code 14 "OutwardTape$Exact" (some .long)) {r0 : Int64} : ∀ (v0 : Int32) (v9 : Int32) (v12 : Int64) (ls : Array Slot), lv_has ls 14 [(0, .int v0), (9, .int v9), (12, .long v12)] → f_Exact_rounded_184  v0 v9 v12 = some r0 → W p l e rm_Exact_rounded s m args below meth c s.heap [] 0 0 (MQ below (vp_Sl (fun r => r = r0)) args s 0 0 (fun _ => False)) (F0 m 184 ls []) := by
  obtain ⟨hx, hb, hml, hown, hts, hr, hlocks⟩ := id hC
  intro v0 v9 v12 ls hl h
  rw [f_Exact_rounded_184] at h
  refine lv_lload hx hb (dt_at dt_Exact_rounded 92 rfl) (lv_at hl 2 rfl) ?_
  refine lv_ldc2 (v := 9218868437227405312) hx hb hown (hts (Cond.constantLong "OutwardTape$Exact" 26 (9218868437227405312)) (m_1 209 rfl rfl)) (dt_at dt_Exact_rounded 93 rfl) ?_
  refine lc_lt (tgt := 209) hx hb (dt_at dt_Exact_rounded 94 rfl) (dt_at dt_Exact_rounded 95 rfl) (by decide) (fun c1 => ?_) (fun c1 => ?_)
  · have h := if_p h c1
    exact k_Exact_rounded_209 hC   v0 v12 ls (lv_sub hl [0, 2] rfl) h
  · have h := if_n h c1
    refine lv_iload hx hb (dt_at dt_Exact_rounded 96 rfl) (lv_at hl 1 rfl) ?_
    refine lv_if_eq (tgt := 204) hx hb (dt_at dt_Exact_rounded 97 rfl) (by decide) (fun c2 => ?_) (fun c2 => ?_)
    · have h := if_p h c2
      refine lv_ldc2 (v := 9218868437227405311) hx hb hown (hts (Cond.constantLong "OutwardTape$Exact" 28 (9218868437227405311)) (m_1 210 rfl rfl)) (dt_at dt_Exact_rounded 100 rfl) ?_
      exact k_Exact_rounded_207 hC   (9218868437227405311 : Int64) v0 ls (lv_sub hl [0] rfl) h
    · have h := if_n h c2
      refine lv_ldc2 (v := 9218868437227405312) hx hb hown (hts (Cond.constantLong "OutwardTape$Exact" 26 (9218868437227405312)) (m_1 209 rfl rfl)) (dt_at dt_Exact_rounded 98 rfl) ?_
      refine lv_goto (tgt := 207) hx hb (dt_at dt_Exact_rounded 99 rfl) (by decide) ?_
      exact k_Exact_rounded_207 hC   (9218868437227405312 : Int64) v0 ls (lv_sub hl [0] rfl) h
set_option maxRecDepth 100000 in
set_option maxHeartbeats 4000000 in
theorem k_Exact_rounded_156 {p : Program} {l : Launch} {e : Env} {s : State} {m : MethodId} {args : Array Value} {below : List Frame} {meth : Method} {c : Code} (hC : CX p s m args meth c prog_4_method_2_code 14 "OutwardTape$Exact" (some .long)) {r0 : Int64} : ∀ (v0 : Int32) (v7 : Int32) (v9 : Int32) (v10 : Int64) (ls : Array Slot), lv_has ls 14 [(0, .int v0), (7, .int v7), (9, .int v9), (10, .long v10)] → f_Exact_rounded_156  v0 v7 v9 v10 = some r0 → W p l e rm_Exact_rounded s m args below meth c s.heap [] 0 0 (MQ below (vp_Sl (fun r => r = r0)) args s 0 0 (fun _ => False)) (F0 m 156 ls []) := by
  obtain ⟨hx, hb, hml, hown, hts, hr, hlocks⟩ := id hC
  intro v0 v7 v9 v10 ls hl h
  rw [f_Exact_rounded_156] at h
  refine lv_ldc2 (v := 9218868437227405312) hx hb hown (hts (Cond.constantLong "OutwardTape$Exact" 26 (9218868437227405312)) (m_1 209 rfl rfl)) (dt_at dt_Exact_rounded 78 rfl) ?_
  refine lv_lstore (lv' := [(12, .long (9218868437227405312 : Int64)), (0, .int v0), (7, .int v7), (9, .int v9), (10, .long v10)]) hx hb (dt_at dt_Exact_rounded 79 rfl) hl (by decide) rfl (fun ls hl => ?_)
  refine lv_iload hx hb (dt_at dt_Exact_rounded 80 rfl) (lv_at hl 2 rfl) ?_
  refine lv_sipush (v := 971) hx hb (dt_at dt_Exact_rounded 81 rfl) (by decide) ?_
  refine lv_icmp_gt (tgt := 184) hx hb (dt_at dt_Exact_rounded 82 rfl) (by decide) (fun c1 => ?_) (fun c1 => ?_)
  · have h := if_p h c1
    exact k_Exact_rounded_184 hC   v0 v9 (9218868437227405312 : Int64) ls (lv_sub hl [1, 3, 0] rfl) h
  · have h := if_n h c1
    refine lv_iload hx hb (dt_at dt_Exact_rounded 83 rfl) (lv_at hl 2 rfl) ?_
    refine lv_sipush (v := -1074) hx hb (dt_at dt_Exact_rounded 84 rfl) (by decide) ?_
    refine lv_isub hx hb (dt_at dt_Exact_rounded 85 rfl) ?_
    refine lv_i2l (v := (v7 - (-1074 : Int32)).toInt64) hx hb (dt_at dt_Exact_rounded 86 rfl) rfl ?_
    refine lv_bipush (v := 52) hx hb (dt_at dt_Exact_rounded 87 rfl) (by decide) ?_
    refine lv_lshl (v := (j_lshl ((v7 - (-1074 : Int32)).toInt64) (52 : Int32))) hx hb (dt_at dt_Exact_rounded 88 rfl) rfl ?_
    refine lv_lload hx hb (dt_at dt_Exact_rounded 89 rfl) (lv_at hl 4 rfl) ?_
    refine lv_ladd hx hb (dt_at dt_Exact_rounded 90 rfl) ?_
    obtain ⟨t2, e_t2, h⟩ := ol_of h
    refine lv_topl (fun u_t2 q_t2 => ?_)
    obtain rfl : t2 = u_t2 := e_t2.trans q_t2.symm
    refine lv_lstore (lv' := [(12, .long t2), (0, .int v0), (7, .int v7), (9, .int v9), (10, .long v10)]) hx hb (dt_at dt_Exact_rounded 91 rfl) hl (by decide) rfl (fun ls hl => ?_)
    exact k_Exact_rounded_184 hC   v0 v9 t2 ls (lv_sub hl [1, 3, 0] rfl) h
set_option maxRecDepth 100000 in
set_option maxHeartbeats 4000000 in
theorem k_Exact_rounded_150 {p : Program} {l : Launch} {e : Env} {s : State} {m : MethodId} {args : Array Value} {below : List Frame} {meth : Method} {c : Code} (hC : CX p s m args meth c prog_4_method_2_code 14 "OutwardTape$Exact" (some .long)) {r0 : Int64} : ∀ (v0 : Int32) (v7 : Int32) (v9 : Int32) (v10 : Int64) (ls : Array Slot), lv_has ls 14 [(0, .int v0), (7, .int v7), (9, .int v9), (10, .long v10)] → f_Exact_rounded_150  v0 v7 v9 v10 = some r0 → W p l e rm_Exact_rounded s m args below meth c s.heap [] 0 0 (MQ below (vp_Sl (fun r => r = r0)) args s 0 0 (fun _ => False)) (F0 m 150 ls []) := by
  obtain ⟨hx, hb, hml, hown, hts, hr, hlocks⟩ := id hC
  intro v0 v7 v9 v10 ls hl h
  rw [f_Exact_rounded_150] at h
  refine lv_lload hx hb (dt_at dt_Exact_rounded 74 rfl) (lv_at hl 3 rfl) ?_
  refine lv_lconst (v := 1) hx hb (dt_at dt_Exact_rounded 75 rfl) (by decide) ?_
  refine lv_ladd hx hb (dt_at dt_Exact_rounded 76 rfl) ?_
  obtain ⟨t1, e_t1, h⟩ := ol_of h
  refine lv_topl (fun u_t1 q_t1 => ?_)
  obtain rfl : t1 = u_t1 := e_t1.trans q_t1.symm
  refine lv_lstore (lv' := [(10, .long t1), (0, .int v0), (7, .int v7), (9, .int v9)]) hx hb (dt_at dt_Exact_rounded 77 rfl) hl (by decide) rfl (fun ls hl => ?_)
  exact k_Exact_rounded_156 hC   v0 v7 v9 t1 ls (lv_sub hl [1, 2, 3, 0] rfl) h
set_option maxRecDepth 100000 in
set_option maxHeartbeats 4000000 in
theorem k_Exact_rounded_115 {p : Program} {l : Launch} {e : Env} {s : State} {m : MethodId} {args : Array Value} {below : List Frame} {meth : Method} {c : Code} (hC : CX p s m args meth c prog_4_method_2_code 14 "OutwardTape$Exact" (some .long)) {r0 : Int64} : ∀ (s0 : Int64) (v0 : Int32) (v4 : Int32) (v5 : Int64) (v7 : Int32) (v8 : Int32) (v9 : Int32) (ls : Array Slot), lv_has ls 14 [(0, .int v0), (4, .int v4), (5, .long v5), (7, .int v7), (8, .int v8), (9, .int v9)] → f_Exact_rounded_115  s0 v0 v4 v5 v7 v8 v9 = some r0 → W p l e rm_Exact_rounded s m args below meth c s.heap [] 0 0 (MQ below (vp_Sl (fun r => r = r0)) args s 0 0 (fun _ => False)) (F0 m 115 ls [.long s0]) := by
  obtain ⟨hx, hb, hml, hown, hts, hr, hlocks⟩ := id hC
  intro s0 v0 v4 v5 v7 v8 v9 ls hl h
  rw [f_Exact_rounded_115] at h
  refine lv_lstore (lv' := [(10, .long s0), (0, .int v0), (4, .int v4), (5, .long v5), (7, .int v7), (8, .int v8), (9, .int v9)]) hx hb (dt_at dt_Exact_rounded 60 rfl) hl (by decide) rfl (fun ls hl => ?_)
  refine lv_iload hx hb (dt_at dt_Exact_rounded 61 rfl) (lv_at hl 2 rfl) ?_
  refine lv_if_ne (tgt := 135) hx hb (dt_at dt_Exact_rounded 62 rfl) (by decide) (fun c1 => ?_) (fun c1 => ?_)
  · have h := if_n h c1
    refine lv_iload hx hb (dt_at dt_Exact_rounded 68 rfl) (lv_at hl 6 rfl) ?_
    refine lv_if_eq (tgt := 156) hx hb (dt_at dt_Exact_rounded 69 rfl) (by decide) (fun c2 => ?_) (fun c2 => ?_)
    · have h := if_p h c2
      exact k_Exact_rounded_156 hC   v0 v7 v9 s0 ls (lv_sub hl [1, 4, 6, 0] rfl) h
    · have h := if_n h c2
      refine lv_lload hx hb (dt_at dt_Exact_rounded 70 rfl) (lv_at hl 3 rfl) ?_
      refine lv_iload hx hb (dt_at dt_Exact_rounded 71 rfl) (lv_at hl 5 rfl) ?_
      obtain ⟨r3, h_r3, h⟩ := ob_of h
      refine vp_callSi (W.runS (As := [.long v5, .int v8]) (rest := []) ⟨hx, hb, hml, hown, hts⟩ (c_Exact_isCut l v5 v8 r3 h_r3) (va_cwS 2 hts (gd_S (m_1 206 rfl rfl) (m_1 207 rfl rfl) (m_1 16 rfl rfl) (m_1 208 rfl rfl)) rfl rfl rfl (by decide +kernel) ⟨Nat.le_of_ble_eq_true rfl, Nat.le_of_ble_eq_true rfl⟩) ⟨fun _ _ _ _ q => q, fun U hU hW => ⟨rfl, trivial⟩⟩ rfl rfl hl.1 rfl (lv_room (Nat.le_of_ble_eq_true rfl)) (dt_at dt_Exact_rounded 72 rfl) ⟨Nat.le_of_ble_eq_true rfl, Nat.le_of_ble_eq_true rfl⟩) (fun u_r3 q_r3 => ?_)
      obtain rfl : r3 = u_r3 := q_r3.symm
      refine lv_if_eq (tgt := 156) hx hb (dt_at dt_Exact_rounded 73 rfl) (by decide) (fun c4 => ?_) (fun c4 => ?_)
      · have h := if_p h c4
        exact k_Exact_rounded_156 hC   v0 v7 v9 s0 ls (lv_sub hl [1, 4, 6, 0] rfl) h
      · have h := if_n h c4
        exact k_Exact_rounded_150 hC   v0 v7 v9 s0 ls (lv_sub hl [1, 4, 6, 0] rfl) h
  · have h := if_p h c1
    refine lv_lload hx hb (dt_at dt_Exact_rounded 63 rfl) (lv_at hl 3 rfl) ?_
    refine lv_iload hx hb (dt_at dt_Exact_rounded 64 rfl) (lv_at hl 5 rfl) ?_
    obtain ⟨r5, h_r5, h⟩ := ob_of h
    refine vp_callSi (W.runS (As := [.long v5, .int v8]) (rest := []) ⟨hx, hb, hml, hown, hts⟩ (c_Exact_isNearerAbove l v5 v8 r5 h_r5) (va_cwS 2 hts (gd_S (m_1 203 rfl rfl) (m_1 204 rfl rfl) (m_1 16 rfl rfl) (m_1 205 rfl rfl)) rfl rfl rfl (by decide +kernel) ⟨Nat.le_of_ble_eq_true rfl, Nat.le_of_ble_eq_true rfl⟩) ⟨fun _ _ _ _ q => q, fun U hU hW => ⟨rfl, trivial⟩⟩ rfl rfl hl.1 rfl (lv_room (Nat.le_of_ble_eq_true rfl)) (dt_at dt_Exact_rounded 65 rfl) ⟨Nat.le_of_ble_eq_true rfl, Nat.le_of_ble_eq_true rfl⟩) (fun u_r5 q_r5 => ?_)
    obtain rfl : r5 = u_r5 := q_r5.symm
    refine lv_if_eq (tgt := 156) hx hb (dt_at dt_Exact_rounded 66 rfl) (by decide) (fun c6 => ?_) (fun c6 => ?_)
    · have h := if_p h c6
      exact k_Exact_rounded_156 hC   v0 v7 v9 s0 ls (lv_sub hl [1, 4, 6, 0] rfl) h
    · have h := if_n h c6
      refine lv_goto (tgt := 150) hx hb (dt_at dt_Exact_rounded 67 rfl) (by decide) ?_
      exact k_Exact_rounded_150 hC   v0 v7 v9 s0 ls (lv_sub hl [1, 4, 6, 0] rfl) h
set_option maxRecDepth 100000 in
set_option maxHeartbeats 4000000 in
theorem k_Exact_rounded_97 {p : Program} {l : Launch} {e : Env} {s : State} {m : MethodId} {args : Array Value} {below : List Frame} {meth : Method} {c : Code} (hC : CX p s m args meth c prog_4_method_2_code 14 "OutwardTape$Exact" (some .long)) {r0 : Int64} : ∀ (s0 : Int32) (v0 : Int32) (v4 : Int32) (v5 : Int64) (v7 : Int32) (v8 : Int32) (ls : Array Slot), lv_has ls 14 [(0, .int v0), (4, .int v4), (5, .long v5), (7, .int v7), (8, .int v8)] → f_Exact_rounded_97  s0 v0 v4 v5 v7 v8 = some r0 → W p l e rm_Exact_rounded s m args below meth c s.heap [] 0 0 (MQ below (vp_Sl (fun r => r = r0)) args s 0 0 (fun _ => False)) (F0 m 97 ls [.int s0]) := by
  obtain ⟨hx, hb, hml, hown, hts, hr, hlocks⟩ := id hC
  intro s0 v0 v4 v5 v7 v8 ls hl h
  rw [f_Exact_rounded_97] at h
  refine lv_istore (lv' := [(9, .int s0), (0, .int v0), (4, .int v4), (5, .long v5), (7, .int v7), (8, .int v8)]) hx hb (dt_at dt_Exact_rounded 51 rfl) hl (by decide) rfl (fun ls hl => ?_)
  refine lv_iload hx hb (dt_at dt_Exact_rounded 52 rfl) (lv_at hl 5 rfl) ?_
  refine lv_bipush (v := 64) hx hb (dt_at dt_Exact_rounded 53 rfl) (by decide) ?_
  refine lv_icmp_ge (tgt := 114) hx hb (dt_at dt_Exact_rounded 54 rfl) (by decide) (fun c1 => ?_) (fun c1 => ?_)
  · have h := if_p h c1
    refine lv_lconst (v := 0) hx hb (dt_at dt_Exact_rounded 59 rfl) (by decide) ?_
    exact k_Exact_rounded_115 hC   (0 : Int64) v0 v4 v5 v7 v8 s0 ls (lv_sub hl [1, 2, 3, 4, 5, 0] rfl) h
  · have h := if_n h c1
    refine lv_lload hx hb (dt_at dt_Exact_rounded 55 rfl) (lv_at hl 3 rfl) ?_
    refine lv_iload hx hb (dt_at dt_Exact_rounded 56 rfl) (lv_at hl 5 rfl) ?_
    refine lv_lushr (v := (j_lushr v5 v8)) hx hb (dt_at dt_Exact_rounded 57 rfl) rfl ?_
    refine lv_goto (tgt := 115) hx hb (dt_at dt_Exact_rounded 58 rfl) (by decide) ?_
    exact k_Exact_rounded_115 hC   (j_lushr v5 v8) v0 v4 v5 v7 v8 s0 ls (lv_sub hl [1, 2, 3, 4, 5, 0] rfl) h
set_option maxRecDepth 100000 in
set_option maxHeartbeats 4000000 in
theorem k_Exact_rounded_48 {p : Program} {l : Launch} {e : Env} {s : State} {m : MethodId} {args : Array Value} {below : List Frame} {meth : Method} {c : Code} (hC : CX p s m args meth c prog_4_method_2_code 14 "OutwardTape$Exact" (some .long)) {r0 : Int64} : ∀ (v0 : Int32) (v4 : Int32) (v5 : Int64) (v7 : Int32) (ls : Array Slot), lv_has ls 14 [(0, .int v0), (4, .int v4), (5, .long v5), (7, .int v7)] → f_Exact_rounded_48  v0 v4 v5 v7 = some r0 → W p l e rm_Exact_rounded s m args below meth c s.heap [] 0 0 (MQ below (vp_Sl (fun r => r = r0)) args s 0 0 (fun _ => False)) (F0 m 48 ls []) := by
  obtain ⟨hx, hb, hml, hown, hts, hr, hlocks⟩ := id hC
  intro v0 v4 v5 v7 ls hl h
  rw [f_Exact_rounded_48] at h
  refine lv_bipush (v := 10) hx hb (dt_at dt_Exact_rounded 26 rfl) (by decide) ?_
  refine lv_sipush (v := -1074) hx hb (dt_at dt_Exact_rounded 27 rfl) (by decide) ?_
  refine lv_iload hx hb (dt_at dt_Exact_rounded 28 rfl) (lv_at hl 3 rfl) ?_
  refine lv_isub hx hb (dt_at dt_Exact_rounded 29 rfl) ?_
  obtain ⟨t1, e_t1, h⟩ := ol_of h
  refine va_mmax hx hb (hml.trans hl.1.symm) hown (hts (Cond.methodLink "OutwardTape$Exact" 13 Lib.Math.max.name) (m_1 202 rfl rfl)) (hts (Cond.static Lib.Math.max.name) (m_1 185 rfl rfl)) (hts (Cond.initialized "java/lang/Math") (m_1 9 rfl rfl)) (hts (Cond.code Lib.Math.max.name Lib.Math.max.code 2 (some .int)) (m_1 186 rfl rfl)) (Nat.le_of_ble_eq_true rfl) (Nat.le_of_ble_eq_true rfl) (Nat.le_of_ble_eq_true rfl) (Nat.le_of_ble_eq_true rfl) (dt_at dt_Exact_rounded 30 rfl) ?_
  refine lv_topi (fun u_t1 q_t1 => ?_)
  obtain rfl : t1 = u_t1 := e_t1.trans q_t1.symm
  refine lv_istore (lv' := [(8, .int t1), (0, .int v0), (4, .int v4), (5, .long v5), (7, .int v7)]) hx hb (dt_at dt_Exact_rounded 31 rfl) hl (by decide) rfl (fun ls hl => ?_)
  refine lv_iload hx hb (dt_at dt_Exact_rounded 32 rfl) (lv_at hl 4 rfl) ?_
  refine lv_iload hx hb (dt_at dt_Exact_rounded 33 rfl) (lv_at hl 0 rfl) ?_
  refine lv_iadd hx hb (dt_at dt_Exact_rounded 34 rfl) ?_
  obtain ⟨t2, e_t2, h⟩ := ol_of h
  refine lv_topi (fun u_t2 q_t2 => ?_)
  obtain rfl : t2 = u_t2 := e_t2.trans q_t2.symm
  refine lv_istore (lv' := [(7, .int t2), (8, .int t1), (0, .int v0), (4, .int v4), (5, .long v5)]) hx hb (dt_at dt_Exact_rounded 35 rfl) hl (by decide) rfl (fun ls hl => ?_)
  refine lv_iload_n hx hb (dt_at dt_Exact_rounded 36 rfl) rfl (lv_at hl 2 rfl) ?_
  refine lv_if_eq (tgt := 86) hx hb (dt_at dt_Exact_rounded 37 rfl) (by decide) (fun c3 => ?_) (fun c3 => ?_)
  · have h := if_p h c3
    refine lv_iload hx hb (dt_at dt_Exact_rounded 45 rfl) (lv_at hl 3 rfl) ?_
    refine lv_iconst (v := 1) hx hb (dt_at dt_Exact_rounded 46 rfl) (by decide) ?_
    refine lv_icmp_ne (tgt := 96) hx hb (dt_at dt_Exact_rounded 47 rfl) (by decide) (fun c4 => ?_) (fun c4 => ?_)
    · have h := if_n h c4
      refine lv_iconst (v := 0) hx hb (dt_at dt_Exact_rounded 50 rfl) (by decide) ?_
      exact k_Exact_rounded_97 hC   (0 : Int32) v0 v4 v5 t2 t1 ls (lv_sub hl [2, 3, 4, 0, 1] rfl) h
    · have h := if_p h c4
      refine lv_iconst (v := 1) hx hb (dt_at dt_Exact_rounded 48 rfl) (by decide) ?_
      refine lv_goto (tgt := 97) hx hb (dt_at dt_Exact_rounded 49 rfl) (by decide) ?_
      exact k_Exact_rounded_97 hC   (1 : Int32) v0 v4 v5 t2 t1 ls (lv_sub hl [2, 3, 4, 0, 1] rfl) h
  · have h := if_n h c3
    refine lv_iload hx hb (dt_at dt_Exact_rounded 38 rfl) (lv_at hl 3 rfl) ?_
    refine lv_iconst (v := -1) hx hb (dt_at dt_Exact_rounded 39 rfl) (by decide) ?_
    refine lv_icmp_ne (tgt := 82) hx hb (dt_at dt_Exact_rounded 40 rfl) (by decide) (fun c5 => ?_) (fun c5 => ?_)
    · have h := if_n h c5
      refine lv_iconst (v := 0) hx hb (dt_at dt_Exact_rounded 43 rfl) (by decide) ?_
      refine lv_goto (tgt := 97) hx hb (dt_at dt_Exact_rounded 44 rfl) (by decide) ?_
      exact k_Exact_rounded_97 hC   (0 : Int32) v0 v4 v5 t2 t1 ls (lv_sub hl [2, 3, 4, 0, 1] rfl) h
    · have h := if_p h c5
      refine lv_iconst (v := 1) hx hb (dt_at dt_Exact_rounded 41 rfl) (by decide) ?_
      refine lv_goto (tgt := 97) hx hb (dt_at dt_Exact_rounded 42 rfl) (by decide) ?_
      exact k_Exact_rounded_97 hC   (1 : Int32) v0 v4 v5 t2 t1 ls (lv_sub hl [2, 3, 4, 0, 1] rfl) h
set_option maxRecDepth 100000 in
set_option maxHeartbeats 4000000 in
theorem k_Exact_rounded_17 {p : Program} {l : Launch} {e : Env} {s : State} {m : MethodId} {args : Array Value} {below : List Frame} {meth : Method} {c : Code} (hC : CX p s m args meth c prog_4_method_2_code 14 "OutwardTape$Exact" (some .long)) {r0 : Int64} : ∀ n : Nat, ∀ (v0 : Int32) (v4 : Int32) (v5 : Int64) (v7 : Int32) (v8 : Int32) (ls : Array Slot), lv_has ls 14 [(0, .int v0), (4, .int v4), (5, .long v5), (7, .int v7), (8, .int v8)] → f_Exact_rounded_17  n v0 v4 v5 v7 v8 = some r0 → W p l e rm_Exact_rounded s m args below meth c s.heap [] 0 0 (MQ below (vp_Sl (fun r => r = r0)) args s 0 0 (fun _ => False)) (F0 m 17 ls []) := by
  obtain ⟨hx, hb, hml, hown, hts, hr, hlocks⟩ := id hC
  intro n
  induction n with
  | zero => intro v0 v4 v5 v7 v8 ls hl h; cases h
  | succ n ih =>
    intro v0 v4 v5 v7 v8 ls hl h
    rw [f_Exact_rounded_17] at h
    refine lv_iload hx hb (dt_at dt_Exact_rounded 12 rfl) (lv_at hl 4 rfl) ?_
    refine lv_bipush (v := 63) hx hb (dt_at dt_Exact_rounded 13 rfl) (by decide) ?_
    refine lv_icmp_ge (tgt := 48) hx hb (dt_at dt_Exact_rounded 14 rfl) (by decide) (fun c1 => ?_) (fun c1 => ?_)
    · have h := if_p h c1
      exact k_Exact_rounded_48 hC   v0 v4 v5 v7 ls (lv_sub hl [0, 1, 2, 3] rfl) h
    · have h := if_n h c1
      refine lv_lload hx hb (dt_at dt_Exact_rounded 15 rfl) (lv_at hl 2 rfl) ?_
      refine lv_ldc2 (v := 4611686018427387904) hx hb hown (hts (Cond.constantLong "OutwardTape$Exact" 9 (4611686018427387904)) (m_1 201 rfl rfl)) (dt_at dt_Exact_rounded 16 rfl) ?_
      refine lc_ge (tgt := 48) hx hb (dt_at dt_Exact_rounded 17 rfl) (dt_at dt_Exact_rounded 18 rfl) (by decide) (fun c2 => ?_) (fun c2 => ?_)
      · have h := if_p h c2
        exact k_Exact_rounded_48 hC   v0 v4 v5 v7 ls (lv_sub hl [0, 1, 2, 3] rfl) h
      · have h := if_n h c2
        refine lv_lload hx hb (dt_at dt_Exact_rounded 19 rfl) (lv_at hl 2 rfl) ?_
        refine lv_iconst (v := 1) hx hb (dt_at dt_Exact_rounded 20 rfl) (by decide) ?_
        refine lv_lshl (v := (j_lshl v5 (1 : Int32))) hx hb (dt_at dt_Exact_rounded 21 rfl) rfl ?_
        obtain ⟨t3, e_t3, h⟩ := ol_of h
        refine lv_topl (fun u_t3 q_t3 => ?_)
        obtain rfl : t3 = u_t3 := e_t3.trans q_t3.symm
        refine lv_lstore (lv' := [(5, .long t3), (0, .int v0), (4, .int v4), (7, .int v7), (8, .int v8)]) hx hb (dt_at dt_Exact_rounded 22 rfl) hl (by decide) rfl (fun ls hl => ?_)
        obtain ⟨t4, e_t4, h⟩ := ol_of h
        refine lv_iinc (v := t4) (lv' := [(7, .int t4), (5, .long t3), (0, .int v0), (4, .int v4), (8, .int v8)]) hx hb (dt_at dt_Exact_rounded 23 rfl) hl (k := 3) rfl (by rw [e_t4]; rfl) (by decide) rfl (fun ls hl => ?_)
        obtain ⟨t5, e_t5, h⟩ := ol_of h
        refine lv_iinc (v := t5) (lv' := [(8, .int t5), (7, .int t4), (5, .long t3), (0, .int v0), (4, .int v4)]) hx hb (dt_at dt_Exact_rounded 24 rfl) hl (k := 4) rfl (by rw [e_t5]; rfl) (by decide) rfl (fun ls hl => ?_)
        refine lv_goto (tgt := 17) hx hb (dt_at dt_Exact_rounded 25 rfl) (by decide) ?_
        exact ih v0 v4 t3 t4 t5 ls (lv_sub hl [3, 4, 2, 1, 0] rfl) h
set_option maxRecDepth 100000 in
set_option maxHeartbeats 4000000 in
theorem k_Exact_rounded_0 {p : Program} {l : Launch} {e : Env} {s : State} {m : MethodId} {args : Array Value} {below : List Frame} {meth : Method} {c : Code} (hC : CX p s m args meth c prog_4_method_2_code 14 "OutwardTape$Exact" (some .long)) {r0 : Int64} : ∀ (v0 : Int32) (v1 : Int64) (v3 : Int32) (v4 : Int32) (ls : Array Slot), lv_has ls 14 [(0, .int v0), (1, .long v1), (3, .int v3), (4, .int v4)] → f_Exact_rounded_0  v0 v1 v3 v4 = some r0 → W p l e rm_Exact_rounded s m args below meth c s.heap [] 0 0 (MQ below (vp_Sl (fun r => r = r0)) args s 0 0 (fun _ => False)) (F0 m 0 ls []) := by
  obtain ⟨hx, hb, hml, hown, hts, hr, hlocks⟩ := id hC
  intro v0 v1 v3 v4 ls hl h
  rw [f_Exact_rounded_0] at h
  refine lv_lload_n hx hb (dt_at dt_Exact_rounded 0 rfl) rfl (lv_at hl 1 rfl) ?_
  refine lv_lconst (v := 0) hx hb (dt_at dt_Exact_rounded 1 rfl) (by decide) ?_
  refine lc_ne (tgt := 8) hx hb (dt_at dt_Exact_rounded 2 rfl) (dt_at dt_Exact_rounded 3 rfl) (by decide) (fun c1 => ?_) (fun c1 => ?_)
  · have h := if_n h c1
    refine lv_lload_n hx hb (dt_at dt_Exact_rounded 6 rfl) rfl (lv_at hl 1 rfl) ?_
    refine lv_lstore (lv' := [(5, .long v1), (0, .int v0), (1, .long v1), (3, .int v3), (4, .int v4)]) hx hb (dt_at dt_Exact_rounded 7 rfl) hl (by decide) rfl (fun ls hl => ?_)
    refine lv_iload_n hx hb (dt_at dt_Exact_rounded 8 rfl) rfl (lv_at hl 3 rfl) ?_
    refine lv_istore (lv' := [(7, .int v3), (5, .long v1), (0, .int v0), (1, .long v1), (3, .int v3), (4, .int v4)]) hx hb (dt_at dt_Exact_rounded 9 rfl) hl (by decide) rfl (fun ls hl => ?_)
    refine lv_iconst (v := 0) hx hb (dt_at dt_Exact_rounded 10 rfl) (by decide) ?_
    refine lv_istore (lv' := [(8, .int (0 : Int32)), (7, .int v3), (5, .long v1), (0, .int v0), (1, .long v1), (3, .int v3), (4, .int v4)]) hx hb (dt_at dt_Exact_rounded 11 rfl) hl (by decide) rfl (fun ls hl => ?_)
    exact k_Exact_rounded_17 hC  5000 v0 v4 v1 v3 (0 : Int32) ls (lv_sub hl [3, 6, 2, 1, 0] rfl) h
  · have h := if_p h c1
    refine lv_lconst (v := 0) hx hb (dt_at dt_Exact_rounded 4 rfl) (by decide) ?_
    have h := os_of h
    exact W.lret (v := (0 : Int64)) hx hb hr (fun t ht hW => ⟨_, rfl, h, ht⟩) (fun q hq => absurd hq List.not_mem_nil) (dt_at dt_Exact_rounded 5 rfl)
set_option maxRecDepth 100000 in
set_option maxHeartbeats 4000000 in
theorem c_Exact_rounded (l : Launch) (a0 : Int32) (a1 : Int64) (a3 : Int32) (a4 : Int32) (r0 : Int64) (h : f_Exact_rounded a0 a1 a3 a4 = some r0) : Met l (⟨"OutwardTape$Exact", "rounded", "(ZJII)J"⟩ : MethodName) (WSm (⟨"OutwardTape$Exact", "rounded", "(ZJII)J"⟩ : MethodName) prog_4_method_2_code 14 (some .long)) rm_Exact_rounded (va_Pc [.int a0, .long a1, .int a3, .int a4] (fun _ => True)) (vp_Sl (fun r => r = r0)) 0 0 (fun _ => False) := by
  refine Met.ofW (cc := prog_4_method_2_code) (maxL := 14) (ret := (some .long)) (by decide) rfl ?_
  intro p e s m args below meth c s₁ B hml hv
  obtain ⟨rfl, -⟩ := hv
  have hC := CX.of B hml rfl
  have hl := lv_entry [.int a0, .long a1, .int a3, .int a4] (n := 14) (Nat.le_of_ble_eq_true rfl)
  rw [lg_entry_eq]
  generalize (lg_sl [.int a0, .long a1, .int a3, .int a4] ++ List.replicate (14 - (lg_sl [.int a0, .long a1, .int a3, .int a4]).length) Slot.unset).toArray = ls at hl ⊢
  have hl : lv_has ls 14 [(0, .int a0), (1, .long a1), (3, .int a3), (4, .int a4)] := hl
  exact k_Exact_rounded_0 hC a0 a1 a3 a4 ls (lv_sub hl [0, 1, 2, 3] rfl) h
abbrev rm_Exact_traced : Room := { frames := 0, cells := 0, slots := 0, locals := 0 }
set_option maxRecDepth 100000 in
set_option maxHeartbeats 4000000 in
theorem k_Exact_traced_11 {p : Program} {l : Launch} {e : Env} {s : State} {m : MethodId} {args : Array Value} {below : List Frame} {meth : Method} {c : Code} (hC : CX p s m args meth c prog_4_method_9_code 3 "OutwardTape$Exact" (some .long)) {r0 : Int64} : ∀ (s0 : Int64) (ls : Array Slot), lv_has ls 3 [] → f_Exact_traced_11  s0 = some r0 → W p l e rm_Exact_traced s m args below meth c s.heap [] 0 0 (MQ below (vp_Sl (fun r => r = r0)) args s 0 0 (fun _ => False)) (F0 m 11 ls [.long s0]) := by
  obtain ⟨hx, hb, hml, hown, hts, hr, hlocks⟩ := id hC
  intro s0 ls hl h
  rw [f_Exact_traced_11] at h
  have h := os_of h
  exact W.lret (v := s0) hx hb hr (fun t ht hW => ⟨_, rfl, h, ht⟩) (fun q hq => absurd hq List.not_mem_nil) (dt_at dt_Exact_traced 7 rfl)
set_option maxRecDepth 100000 in
set_option maxHeartbeats 4000000 in
theorem k_Exact_traced_0 {p : Program} {l : Launch} {e : Env} {s : State} {m : MethodId} {args : Array Value} {below : List Frame} {meth : Method} {c : Code} (hC : CX p s m args meth c prog_4_method_9_code 3 "OutwardTape$Exact" (some .long)) {r0 : Int64} : ∀ (v0 : Int64) (v2 : Int32) (ls : Array Slot), lv_has ls 3 [(0, .long v0), (2, .int v2)] → f_Exact_traced_0  v0 v2 = some r0 → W p l e rm_Exact_traced s m args below meth c s.heap [] 0 0 (MQ below (vp_Sl (fun r => r = r0)) args s 0 0 (fun _ => False)) (F0 m 0 ls []) := by
  obtain ⟨hx, hb, hml, hown, hts, hr, hlocks⟩ := id hC
  intro v0 v2 ls hl h
  rw [f_Exact_traced_0] at h
  refine lv_iload_n hx hb (dt_at dt_Exact_traced 0 rfl) rfl (lv_at hl 1 rfl) ?_
  refine lv_if_eq (tgt := 10) hx hb (dt_at dt_Exact_traced 1 rfl) (by decide) (fun c1 => ?_) (fun c1 => ?_)
  · have h := if_p h c1
    refine lv_lload_n hx hb (dt_at dt_Exact_traced 6 rfl) rfl (lv_at hl 0 rfl) ?_
    exact k_Exact_traced_11 hC   v0 ls (lv_sub hl [] rfl) h
  · have h := if_n h c1
    refine lv_lload_n hx hb (dt_at dt_Exact_traced 2 rfl) rfl (lv_at hl 0 rfl) ?_
    refine lv_lconst (v := 1) hx hb (dt_at dt_Exact_traced 3 rfl) (by decide) ?_
    refine lv_lor hx hb (dt_at dt_Exact_traced 4 rfl) ?_
    refine lv_goto (tgt := 11) hx hb (dt_at dt_Exact_traced 5 rfl) (by decide) ?_
    exact k_Exact_traced_11 hC   (v0 ||| (1 : Int64)) ls (lv_sub hl [] rfl) h
set_option maxRecDepth 100000 in
set_option maxHeartbeats 4000000 in
theorem c_Exact_traced (l : Launch) (a0 : Int64) (a2 : Int32) (r0 : Int64) (h : f_Exact_traced a0 a2 = some r0) : Met l (⟨"OutwardTape$Exact", "traced", "(JZ)J"⟩ : MethodName) (WSm (⟨"OutwardTape$Exact", "traced", "(JZ)J"⟩ : MethodName) prog_4_method_9_code 3 (some .long)) rm_Exact_traced (va_Pc [.long a0, .int a2] (fun _ => True)) (vp_Sl (fun r => r = r0)) 0 0 (fun _ => False) := by
  refine Met.ofW (cc := prog_4_method_9_code) (maxL := 3) (ret := (some .long)) (by decide) rfl ?_
  intro p e s m args below meth c s₁ B hml hv
  obtain ⟨rfl, -⟩ := hv
  have hC := CX.of B hml rfl
  have hl := lv_entry [.long a0, .int a2] (n := 3) (Nat.le_of_ble_eq_true rfl)
  rw [lg_entry_eq]
  generalize (lg_sl [.long a0, .int a2] ++ List.replicate (3 - (lg_sl [.long a0, .int a2]).length) Slot.unset).toArray = ls at hl ⊢
  have hl : lv_has ls 3 [(0, .long a0), (2, .int a2)] := hl
  exact k_Exact_traced_0 hC a0 a2 ls (lv_sub hl [0, 1] rfl) h
abbrev rm_Exact_shifted : Room := { frames := 1, cells := 0, slots := 0, locals := 22 }
set_option maxRecDepth 100000 in
set_option maxHeartbeats 4000000 in
theorem k_Exact_shifted_36 {p : Program} {l : Launch} {e : Env} {s : State} {m : MethodId} {args : Array Value} {below : List Frame} {meth : Method} {c : Code} (hC : CX p s m args meth c prog_4_method_8_code 5 "OutwardTape$Exact" (some .long)) {r0 : Int64} : ∀ (s0 : Int32) (s1 : Int64) (ls : Array Slot), lv_has ls 5 [] → f_Exact_shifted_36  s0 s1 = some r0 → W p l e rm_Exact_shifted s m args below meth c s.heap [] 0 0 (MQ below (vp_Sl (fun r => r = r0)) args s 0 0 (fun _ => False)) (F0 m 36 ls [.int s0, .long s1]) := by
  obtain ⟨hx, hb, hml, hown, hts, hr, hlocks⟩ := id hC
  intro s0 s1 ls hl h
  rw [f_Exact_shifted_36] at h
  obtain ⟨r1, h_r1, h⟩ := ob_of h
  refine vp_callSl (W.runS (As := [.long s1, .int s0]) (rest := []) ⟨hx, hb, hml, hown, hts⟩ (c_Exact_traced l s1 s0 r1 h_r1) (va_cwS 2 hts (gd_S (m_1 195 rfl rfl) (m_1 196 rfl rfl) (m_1 16 rfl rfl) (m_1 197 rfl rfl)) rfl rfl rfl (by decide +kernel) ⟨Nat.le_of_ble_eq_true rfl, Nat.le_of_ble_eq_true rfl⟩) ⟨fun _ _ _ _ q => q, fun U hU hW => ⟨rfl, trivial⟩⟩ rfl rfl hl.1 rfl (lv_room (Nat.le_of_ble_eq_true rfl)) (dt_at dt_Exact_shifted 25 rfl) ⟨Nat.le_of_ble_eq_true rfl, Nat.le_of_ble_eq_true rfl⟩) (fun u_r1 q_r1 => ?_)
  obtain rfl : r1 = u_r1 := q_r1.symm
  have h := os_of h
  exact W.lret (v := r1) hx hb hr (fun t ht hW => ⟨_, rfl, h, ht⟩) (fun q hq => absurd hq List.not_mem_nil) (dt_at dt_Exact_shifted 26 rfl)
set_option maxRecDepth 100000 in
set_option maxHeartbeats 4000000 in
theorem k_Exact_shifted_17 {p : Program} {l : Launch} {e : Env} {s : State} {m : MethodId} {args : Array Value} {below : List Frame} {meth : Method} {c : Code} (hC : CX p s m args meth c prog_4_method_8_code 5 "OutwardTape$Exact" (some .long)) {r0 : Int64} : ∀ (s0 : Int64) (ls : Array Slot), lv_has ls 5 [] → f_Exact_shifted_17  s0 = some r0 → W p l e rm_Exact_shifted s m args below meth c s.heap [] 0 0 (MQ below (vp_Sl (fun r => r = r0)) args s 0 0 (fun _ => False)) (F0 m 17 ls [.long s0]) := by
  obtain ⟨hx, hb, hml, hown, hts, hr, hlocks⟩ := id hC
  intro s0 ls hl h
  rw [f_Exact_shifted_17] at h
  have h := os_of h
  exact W.lret (v := s0) hx hb hr (fun t ht hW => ⟨_, rfl, h, ht⟩) (fun q hq => absurd hq List.not_mem_nil) (dt_at dt_Exact_shifted 10 rfl)
set_option maxRecDepth 100000 in
set_option maxHeartbeats 4000000 in
theorem k_Exact_shifted_0 {p : Program} {l : Launch} {e : Env} {s : State} {m : MethodId} {args : Array Value} {below : List Frame} {meth : Method} {c : Code} (hC : CX p s m args meth c prog_4_method_8_code 5 "OutwardTape$Exact" (some .long)) {r0 : Int64} : ∀ (v0 : Int64) (v2 : Int32) (ls : Array Slot), lv_has ls 5 [(0, .long v0), (2, .int v2)] → f_Exact_shifted_0  v0 v2 = some r0 → W p l e rm_Exact_shifted s m args below meth c s.heap [] 0 0 (MQ below (vp_Sl (fun r => r = r0)) args s 0 0 (fun _ => False)) (F0 m 0 ls []) := by
  obtain ⟨hx, hb, hml, hown, hts, hr, hlocks⟩ := id hC
  intro v0 v2 ls hl h
  rw [f_Exact_shifted_0] at h
  refine lv_iload_n hx hb (dt_at dt_Exact_shifted 0 rfl) rfl (lv_at hl 1 rfl) ?_
  refine lv_bipush (v := 63) hx hb (dt_at dt_Exact_shifted 1 rfl) (by decide) ?_
  refine lv_icmp_lt (tgt := 18) hx hb (dt_at dt_Exact_shifted 2 rfl) (by decide) (fun c1 => ?_) (fun c1 => ?_)
  · have h := if_p h c1
    refine lv_lload_n hx hb (dt_at dt_Exact_shifted 11 rfl) rfl (lv_at hl 0 rfl) ?_
    refine lv_iload_n hx hb (dt_at dt_Exact_shifted 12 rfl) rfl (lv_at hl 1 rfl) ?_
    refine lv_lushr (v := (j_lushr v0 v2)) hx hb (dt_at dt_Exact_shifted 13 rfl) rfl ?_
    obtain ⟨t2, e_t2, h⟩ := ol_of h
    refine lv_topl (fun u_t2 q_t2 => ?_)
    obtain rfl : t2 = u_t2 := e_t2.trans q_t2.symm
    refine lv_lstore_n (lv' := [(3, .long t2), (0, .long v0), (2, .int v2)]) hx hb (dt_at dt_Exact_shifted 14 rfl) rfl hl (by decide) rfl (fun ls hl => ?_)
    refine lv_lload_n hx hb (dt_at dt_Exact_shifted 15 rfl) rfl (lv_at hl 0 rfl) ?_
    refine lv_lload_n hx hb (dt_at dt_Exact_shifted 16 rfl) rfl (lv_at hl 0 rfl) ?_
    refine lv_iload_n hx hb (dt_at dt_Exact_shifted 17 rfl) rfl (lv_at hl 2 rfl) ?_
    refine lv_lshl (v := (j_lshl t2 v2)) hx hb (dt_at dt_Exact_shifted 18 rfl) rfl ?_
    refine lv_lload_n hx hb (dt_at dt_Exact_shifted 19 rfl) rfl (lv_at hl 1 rfl) ?_
    refine lc_eq (tgt := 35) hx hb (dt_at dt_Exact_shifted 20 rfl) (dt_at dt_Exact_shifted 21 rfl) (by decide) (fun c3 => ?_) (fun c3 => ?_)
    · have h := if_p h c3
      refine lv_iconst (v := 0) hx hb (dt_at dt_Exact_shifted 24 rfl) (by decide) ?_
      exact k_Exact_shifted_36 hC   (0 : Int32) t2 ls (lv_sub hl [] rfl) h
    · have h := if_n h c3
      refine lv_iconst (v := 1) hx hb (dt_at dt_Exact_shifted 22 rfl) (by decide) ?_
      refine lv_goto (tgt := 36) hx hb (dt_at dt_Exact_shifted 23 rfl) (by decide) ?_
      exact k_Exact_shifted_36 hC   (1 : Int32) t2 ls (lv_sub hl [] rfl) h
  · have h := if_n h c1
    refine lv_lload_n hx hb (dt_at dt_Exact_shifted 3 rfl) rfl (lv_at hl 0 rfl) ?_
    refine lv_lconst (v := 0) hx hb (dt_at dt_Exact_shifted 4 rfl) (by decide) ?_
    refine lc_ne (tgt := 16) hx hb (dt_at dt_Exact_shifted 5 rfl) (dt_at dt_Exact_shifted 6 rfl) (by decide) (fun c4 => ?_) (fun c4 => ?_)
    · have h := if_n h c4
      refine lv_lconst (v := 1) hx hb (dt_at dt_Exact_shifted 9 rfl) (by decide) ?_
      exact k_Exact_shifted_17 hC   (1 : Int64) ls (lv_sub hl [] rfl) h
    · have h := if_p h c4
      refine lv_lconst (v := 0) hx hb (dt_at dt_Exact_shifted 7 rfl) (by decide) ?_
      refine lv_goto (tgt := 17) hx hb (dt_at dt_Exact_shifted 8 rfl) (by decide) ?_
      exact k_Exact_shifted_17 hC   (0 : Int64) ls (lv_sub hl [] rfl) h
set_option maxRecDepth 100000 in
set_option maxHeartbeats 4000000 in
theorem c_Exact_shifted (l : Launch) (a0 : Int64) (a2 : Int32) (r0 : Int64) (h : f_Exact_shifted a0 a2 = some r0) : Met l (⟨"OutwardTape$Exact", "shifted", "(JI)J"⟩ : MethodName) (WSm (⟨"OutwardTape$Exact", "shifted", "(JI)J"⟩ : MethodName) prog_4_method_8_code 5 (some .long)) rm_Exact_shifted (va_Pc [.long a0, .int a2] (fun _ => True)) (vp_Sl (fun r => r = r0)) 0 0 (fun _ => False) := by
  refine Met.ofW (cc := prog_4_method_8_code) (maxL := 5) (ret := (some .long)) (by decide) rfl ?_
  intro p e s m args below meth c s₁ B hml hv
  obtain ⟨rfl, -⟩ := hv
  have hC := CX.of B hml rfl
  have hl := lv_entry [.long a0, .int a2] (n := 5) (Nat.le_of_ble_eq_true rfl)
  rw [lg_entry_eq]
  generalize (lg_sl [.long a0, .int a2] ++ List.replicate (5 - (lg_sl [.long a0, .int a2]).length) Slot.unset).toArray = ls at hl ⊢
  have hl : lv_has ls 5 [(0, .long a0), (2, .int a2)] := hl
  exact k_Exact_shifted_0 hC a0 a2 ls (lv_sub hl [0, 1] rfl) h
abbrev rm_Exact_scaledSum : Room := { frames := 2, cells := 0, slots := 0, locals := 60 }
set_option maxRecDepth 100000 in
set_option maxHeartbeats 4000000 in
theorem k_Exact_scaledSum_135 {p : Program} {l : Launch} {e : Env} {s : State} {m : MethodId} {args : Array Value} {below : List Frame} {meth : Method} {c : Code} (hC : CX p s m args meth c prog_4_method_7_code 18 "OutwardTape$Exact" (some .long)) {r0 : Int64} : ∀ (s0 : Int32) (v4 : Int32) (v5 : Int32) (v11 : Int32) (v16 : Int64) (ls : Array Slot), lv_has ls 18 [(4, .int v4), (5, .int v5), (11, .int v11), (16, .long v16)] → f_Exact_scaledSum_135  s0 v4 v5 v11 v16 = some r0 → W p l e rm_Exact_scaledSum s m args below meth c s.heap [] 0 0 (MQ below (vp_Sl (fun r => r = r0)) args s 0 0 (fun _ => False)) (F0 m 135 ls [.int s0]) := by
  obtain ⟨hx, hb, hml, hown, hts, hr, hlocks⟩ := id hC
  intro s0 v4 v5 v11 v16 ls hl h
  rw [f_Exact_scaledSum_135] at h
  refine lv_lload hx hb (dt_at dt_Exact_scaledSum 70 rfl) (lv_at hl 3 rfl) ?_
  refine lv_iload hx hb (dt_at dt_Exact_scaledSum 71 rfl) (lv_at hl 2 rfl) ?_
  refine lv_bipush (v := 9) hx hb (dt_at dt_Exact_scaledSum 72 rfl) (by decide) ?_
  refine lv_isub hx hb (dt_at dt_Exact_scaledSum 73 rfl) ?_
  refine lv_iload hx hb (dt_at dt_Exact_scaledSum 74 rfl) (lv_at hl 0 rfl) ?_
  refine lv_iadd hx hb (dt_at dt_Exact_scaledSum 75 rfl) ?_
  refine lv_iload hx hb (dt_at dt_Exact_scaledSum 76 rfl) (lv_at hl 1 rfl) ?_
  obtain ⟨r1, h_r1, h⟩ := ob_of h
  refine vp_callSl (W.runS (As := [.int s0, .long v16, .int ((v11 - (9 : Int32)) + v4), .int v5]) (rest := []) ⟨hx, hb, hml, hown, hts⟩ (c_Exact_rounded l s0 v16 ((v11 - (9 : Int32)) + v4) v5 r1 h_r1) (va_cwS 4 hts (gd_S (m_1 198 rfl rfl) (m_1 199 rfl rfl) (m_1 16 rfl rfl) (m_1 200 rfl rfl)) rfl rfl rfl (by decide +kernel) ⟨Nat.le_of_ble_eq_true rfl, Nat.le_of_ble_eq_true rfl⟩) ⟨fun _ _ _ _ q => q, fun U hU hW => ⟨rfl, trivial⟩⟩ rfl rfl hl.1 rfl (lv_room (Nat.le_of_ble_eq_true rfl)) (dt_at dt_Exact_scaledSum 77 rfl) ⟨Nat.le_of_ble_eq_true rfl, Nat.le_of_ble_eq_true rfl⟩) (fun u_r1 q_r1 => ?_)
  obtain rfl : r1 = u_r1 := q_r1.symm
  have h := os_of h
  exact W.lret (v := r1) hx hb hr (fun t ht hW => ⟨_, rfl, h, ht⟩) (fun q hq => absurd hq List.not_mem_nil) (dt_at dt_Exact_scaledSum 78 rfl)
set_option maxRecDepth 100000 in
set_option maxHeartbeats 4000000 in
theorem k_Exact_scaledSum_121 {p : Program} {l : Launch} {e : Env} {s : State} {m : MethodId} {args : Array Value} {below : List Frame} {meth : Method} {c : Code} (hC : CX p s m args meth c prog_4_method_7_code 18 "OutwardTape$Exact" (some .long)) {r0 : Int64} : ∀ (s0 : Int64) (v4 : Int32) (v5 : Int32) (v7 : Int64) (v11 : Int32) (ls : Array Slot), lv_has ls 18 [(4, .int v4), (5, .int v5), (7, .long v7), (11, .int v11)] → f_Exact_scaledSum_121  s0 v4 v5 v7 v11 = some r0 → W p l e rm_Exact_scaledSum s m args below meth c s.heap [] 0 0 (MQ below (vp_Sl (fun r => r = r0)) args s 0 0 (fun _ => False)) (F0 m 121 ls [.long s0]) := by
  obtain ⟨hx, hb, hml, hown, hts, hr, hlocks⟩ := id hC
  intro s0 v4 v5 v7 v11 ls hl h
  rw [f_Exact_scaledSum_121] at h
  refine lv_lstore (lv' := [(16, .long s0), (4, .int v4), (5, .int v5), (7, .long v7), (11, .int v11)]) hx hb (dt_at dt_Exact_scaledSum 62 rfl) hl (by decide) rfl (fun ls hl => ?_)
  refine lv_lload hx hb (dt_at dt_Exact_scaledSum 63 rfl) (lv_at hl 3 rfl) ?_
  refine lv_lconst (v := 0) hx hb (dt_at dt_Exact_scaledSum 64 rfl) (by decide) ?_
  refine lc_ge (tgt := 134) hx hb (dt_at dt_Exact_scaledSum 65 rfl) (dt_at dt_Exact_scaledSum 66 rfl) (by decide) (fun c1 => ?_) (fun c1 => ?_)
  · have h := if_p h c1
    refine lv_iconst (v := 0) hx hb (dt_at dt_Exact_scaledSum 69 rfl) (by decide) ?_
    exact k_Exact_scaledSum_135 hC   (0 : Int32) v4 v5 v11 s0 ls (lv_sub hl [1, 2, 4, 0] rfl) h
  · have h := if_n h c1
    refine lv_iconst (v := 1) hx hb (dt_at dt_Exact_scaledSum 67 rfl) (by decide) ?_
    refine lv_goto (tgt := 135) hx hb (dt_at dt_Exact_scaledSum 68 rfl) (by decide) ?_
    exact k_Exact_scaledSum_135 hC   (1 : Int32) v4 v5 v11 s0 ls (lv_sub hl [1, 2, 4, 0] rfl) h
set_option maxRecDepth 100000 in
set_option maxHeartbeats 4000000 in
theorem k_Exact_scaledSum_105 {p : Program} {l : Launch} {e : Env} {s : State} {m : MethodId} {args : Array Value} {below : List Frame} {meth : Method} {c : Code} (hC : CX p s m args meth c prog_4_method_7_code 18 "OutwardTape$Exact" (some .long)) {r0 : Int64} : ∀ (s0 : Int32) (s1 : Int32) (v4 : Int32) (v5 : Int32) (v7 : Int64) (v11 : Int32) (v12 : Int64) (v14 : Int64) (ls : Array Slot), lv_has ls 18 [(4, .int v4), (5, .int v5), (7, .long v7), (11, .int v11), (12, .long v12), (14, .long v14)] → f_Exact_scaledSum_105  s0 s1 v4 v5 v7 v11 v12 v14 = some r0 → W p l e rm_Exact_scaledSum s m args below meth c s.heap [] 0 0 (MQ below (vp_Sl (fun r => r = r0)) args s 0 0 (fun _ => False)) (F0 m 105 ls [.int s0, .int s1]) := by
  obtain ⟨hx, hb, hml, hown, hts, hr, hlocks⟩ := id hC
  intro s0 s1 v4 v5 v7 v11 v12 v14 ls hl h
  rw [f_Exact_scaledSum_105] at h
  refine lv_icmp_ne (tgt := 116) hx hb (dt_at dt_Exact_scaledSum 54 rfl) (by decide) (fun c1 => ?_) (fun c1 => ?_)
  · have h := if_n h c1
    refine lv_lload hx hb (dt_at dt_Exact_scaledSum 59 rfl) (lv_at hl 4 rfl) ?_
    refine lv_lload hx hb (dt_at dt_Exact_scaledSum 60 rfl) (lv_at hl 5 rfl) ?_
    refine lv_lsub hx hb (dt_at dt_Exact_scaledSum 61 rfl) ?_
    exact k_Exact_scaledSum_121 hC   (v12 - v14) v4 v5 v7 v11 ls (lv_sub hl [0, 1, 2, 3] rfl) h
  · have h := if_p h c1
    refine lv_lload hx hb (dt_at dt_Exact_scaledSum 55 rfl) (lv_at hl 4 rfl) ?_
    refine lv_lload hx hb (dt_at dt_Exact_scaledSum 56 rfl) (lv_at hl 5 rfl) ?_
    refine lv_ladd hx hb (dt_at dt_Exact_scaledSum 57 rfl) ?_
    refine lv_goto (tgt := 121) hx hb (dt_at dt_Exact_scaledSum 58 rfl) (by decide) ?_
    exact k_Exact_scaledSum_121 hC   (v12 + v14) v4 v5 v7 v11 ls (lv_sub hl [0, 1, 2, 3] rfl) h
set_option maxRecDepth 100000 in
set_option maxHeartbeats 4000000 in
theorem k_Exact_scaledSum_93 {p : Program} {l : Launch} {e : Env} {s : State} {m : MethodId} {args : Array Value} {below : List Frame} {meth : Method} {c : Code} (hC : CX p s m args meth c prog_4_method_7_code 18 "OutwardTape$Exact" (some .long)) {r0 : Int64} : ∀ (s0 : Int32) (v4 : Int32) (v5 : Int32) (v7 : Int64) (v9 : Int64) (v11 : Int32) (v12 : Int64) (v14 : Int64) (ls : Array Slot), lv_has ls 18 [(4, .int v4), (5, .int v5), (7, .long v7), (9, .long v9), (11, .int v11), (12, .long v12), (14, .long v14)] → f_Exact_scaledSum_93  s0 v4 v5 v7 v9 v11 v12 v14 = some r0 → W p l e rm_Exact_scaledSum s m args below meth c s.heap [] 0 0 (MQ below (vp_Sl (fun r => r = r0)) args s 0 0 (fun _ => False)) (F0 m 93 ls [.int s0]) := by
  obtain ⟨hx, hb, hml, hown, hts, hr, hlocks⟩ := id hC
  intro s0 v4 v5 v7 v9 v11 v12 v14 ls hl h
  rw [f_Exact_scaledSum_93] at h
  refine lv_lload hx hb (dt_at dt_Exact_scaledSum 47 rfl) (lv_at hl 3 rfl) ?_
  refine lv_lconst (v := 0) hx hb (dt_at dt_Exact_scaledSum 48 rfl) (by decide) ?_
  refine lc_ge (tgt := 104) hx hb (dt_at dt_Exact_scaledSum 49 rfl) (dt_at dt_Exact_scaledSum 50 rfl) (by decide) (fun c1 => ?_) (fun c1 => ?_)
  · have h := if_p h c1
    refine lv_iconst (v := 0) hx hb (dt_at dt_Exact_scaledSum 53 rfl) (by decide) ?_
    exact k_Exact_scaledSum_105 hC   (0 : Int32) s0 v4 v5 v7 v11 v12 v14 ls (lv_sub hl [0, 1, 2, 4, 5, 6] rfl) h
  · have h := if_n h c1
    refine lv_iconst (v := 1) hx hb (dt_at dt_Exact_scaledSum 51 rfl) (by decide) ?_
    refine lv_goto (tgt := 105) hx hb (dt_at dt_Exact_scaledSum 52 rfl) (by decide) ?_
    exact k_Exact_scaledSum_105 hC   (1 : Int32) s0 v4 v5 v7 v11 v12 v14 ls (lv_sub hl [0, 1, 2, 4, 5, 6] rfl) h
set_option maxRecDepth 100000 in
set_option maxHeartbeats 4000000 in
theorem k_Exact_scaledSum_41 {p : Program} {l : Launch} {e : Env} {s : State} {m : MethodId} {args : Array Value} {below : List Frame} {meth : Method} {c : Code} (hC : CX p s m args meth c prog_4_method_7_code 18 "OutwardTape$Exact" (some .long)) {r0 : Int64} : ∀ (s0 : Int64) (v4 : Int32) (v5 : Int32) (v7 : Int64) (ls : Array Slot), lv_has ls 18 [(4, .int v4), (5, .int v5), (7, .long v7)] → f_Exact_scaledSum_41  s0 v4 v5 v7 = some r0 → W p l e rm_Exact_scaledSum s m args below meth c s.heap [] 0 0 (MQ below (vp_Sl (fun r => r = r0)) args s 0 0 (fun _ => False)) (F0 m 41 ls [.long s0]) := by
  obtain ⟨hx, hb, hml, hown, hts, hr, hlocks⟩ := id hC
  intro s0 v4 v5 v7 ls hl h
  rw [f_Exact_scaledSum_41] at h
  refine lv_lstore (lv' := [(9, .long s0), (4, .int v4), (5, .int v5), (7, .long v7)]) hx hb (dt_at dt_Exact_scaledSum 21 rfl) hl (by decide) rfl (fun ls hl => ?_)
  refine lv_lload hx hb (dt_at dt_Exact_scaledSum 22 rfl) (lv_at hl 3 rfl) ?_
  obtain ⟨r1, h_r1, h⟩ := ob_of h
  refine vp_callSi (W.runS (As := [.long v7]) (rest := []) ⟨hx, hb, hml, hown, hts⟩ (c_Rank_exponent l v7 r1 h_r1) (va_cwS 1 hts (gd_S (m_1 180 rfl rfl) (m_1 181 rfl rfl) (m_1 15 rfl rfl) (m_1 182 rfl rfl)) rfl rfl rfl (by decide +kernel) ⟨Nat.le_of_ble_eq_true rfl, Nat.le_of_ble_eq_true rfl⟩) ⟨fun _ _ _ _ q => q, fun U hU hW => ⟨rfl, trivial⟩⟩ rfl rfl hl.1 rfl (lv_room (Nat.le_of_ble_eq_true rfl)) (dt_at dt_Exact_scaledSum 23 rfl) ⟨Nat.le_of_ble_eq_true rfl, Nat.le_of_ble_eq_true rfl⟩) (fun u_r1 q_r1 => ?_)
  obtain rfl : r1 = u_r1 := q_r1.symm
  refine lv_istore (lv' := [(11, .int r1), (9, .long s0), (4, .int v4), (5, .int v5), (7, .long v7)]) hx hb (dt_at dt_Exact_scaledSum 24 rfl) hl (by decide) rfl (fun ls hl => ?_)
  refine lv_lload hx hb (dt_at dt_Exact_scaledSum 25 rfl) (lv_at hl 4 rfl) ?_
  obtain ⟨r2, h_r2, h⟩ := ob_of h
  refine vp_callSl (W.runS (As := [.long v7]) (rest := []) ⟨hx, hb, hml, hown, hts⟩ (c_Rank_significand l v7 r2 h_r2) (va_cwS 1 hts (gd_S (m_1 187 rfl rfl) (m_1 188 rfl rfl) (m_1 15 rfl rfl) (m_1 189 rfl rfl)) rfl rfl rfl (by decide +kernel) ⟨Nat.le_of_ble_eq_true rfl, Nat.le_of_ble_eq_true rfl⟩) ⟨fun _ _ _ _ q => q, fun U hU hW => ⟨rfl, trivial⟩⟩ rfl rfl hl.1 rfl (lv_room (Nat.le_of_ble_eq_true rfl)) (dt_at dt_Exact_scaledSum 26 rfl) ⟨Nat.le_of_ble_eq_true rfl, Nat.le_of_ble_eq_true rfl⟩) (fun u_r2 q_r2 => ?_)
  obtain rfl : r2 = u_r2 := q_r2.symm
  refine lv_bipush (v := 9) hx hb (dt_at dt_Exact_scaledSum 27 rfl) (by decide) ?_
  refine lv_lshl (v := (j_lshl r2 (9 : Int32))) hx hb (dt_at dt_Exact_scaledSum 28 rfl) rfl ?_
  obtain ⟨t3, e_t3, h⟩ := ol_of h
  refine lv_topl (fun u_t3 q_t3 => ?_)
  obtain rfl : t3 = u_t3 := e_t3.trans q_t3.symm
  refine lv_lstore (lv' := [(12, .long t3), (11, .int r1), (9, .long s0), (4, .int v4), (5, .int v5), (7, .long v7)]) hx hb (dt_at dt_Exact_scaledSum 29 rfl) hl (by decide) rfl (fun ls hl => ?_)
  refine lv_lload hx hb (dt_at dt_Exact_scaledSum 30 rfl) (lv_at hl 2 rfl) ?_
  obtain ⟨r4, h_r4, h⟩ := ob_of h
  refine vp_callSl (W.runS (As := [.long s0]) (rest := []) ⟨hx, hb, hml, hown, hts⟩ (c_Rank_significand l s0 r4 h_r4) (va_cwS 1 hts (gd_S (m_1 187 rfl rfl) (m_1 188 rfl rfl) (m_1 15 rfl rfl) (m_1 189 rfl rfl)) rfl rfl rfl (by decide +kernel) ⟨Nat.le_of_ble_eq_true rfl, Nat.le_of_ble_eq_true rfl⟩) ⟨fun _ _ _ _ q => q, fun U hU hW => ⟨rfl, trivial⟩⟩ rfl rfl hl.1 rfl (lv_room (Nat.le_of_ble_eq_true rfl)) (dt_at dt_Exact_scaledSum 31 rfl) ⟨Nat.le_of_ble_eq_true rfl, Nat.le_of_ble_eq_true rfl⟩) (fun u_r4 q_r4 => ?_)
  obtain rfl : r4 = u_r4 := q_r4.symm
  refine lv_bipush (v := 9) hx hb (dt_at dt_Exact_scaledSum 32 rfl) (by decide) ?_
  refine lv_lshl (v := (j_lshl r4 (9 : Int32))) hx hb (dt_at dt_Exact_scaledSum 33 rfl) rfl ?_
  refine lv_iload hx hb (dt_at dt_Exact_scaledSum 34 rfl) (lv_at hl 1 rfl) ?_
  refine lv_lload hx hb (dt_at dt_Exact_scaledSum 35 rfl) (lv_at hl 2 rfl) ?_
  obtain ⟨r5, h_r5, h⟩ := ob_of h
  refine vp_callSi (W.runS (As := [.long s0]) (rest := [.int r1, .long (j_lshl r4 (9 : Int32))]) ⟨hx, hb, hml, hown, hts⟩ (c_Rank_exponent l s0 r5 h_r5) (va_cwS 1 hts (gd_S (m_1 180 rfl rfl) (m_1 181 rfl rfl) (m_1 15 rfl rfl) (m_1 182 rfl rfl)) rfl rfl rfl (by decide +kernel) ⟨Nat.le_of_ble_eq_true rfl, Nat.le_of_ble_eq_true rfl⟩) ⟨fun _ _ _ _ q => q, fun U hU hW => ⟨rfl, trivial⟩⟩ rfl rfl hl.1 rfl (lv_room (Nat.le_of_ble_eq_true rfl)) (dt_at dt_Exact_scaledSum 36 rfl) ⟨Nat.le_of_ble_eq_true rfl, Nat.le_of_ble_eq_true rfl⟩) (fun u_r5 q_r5 => ?_)
  obtain rfl : r5 = u_r5 := q_r5.symm
  refine lv_isub hx hb (dt_at dt_Exact_scaledSum 37 rfl) ?_
  obtain ⟨r6, h_r6, h⟩ := ob_of h
  refine vp_callSl (W.runS (As := [.long (j_lshl r4 (9 : Int32)), .int (r1 - r5)]) (rest := []) ⟨hx, hb, hml, hown, hts⟩ (c_Exact_shifted l (j_lshl r4 (9 : Int32)) (r1 - r5) r6 h_r6) (va_cwS 2 hts (gd_S (m_1 192 rfl rfl) (m_1 193 rfl rfl) (m_1 16 rfl rfl) (m_1 194 rfl rfl)) rfl rfl rfl (by decide +kernel) ⟨Nat.le_of_ble_eq_true rfl, Nat.le_of_ble_eq_true rfl⟩) ⟨fun _ _ _ _ q => q, fun U hU hW => ⟨rfl, trivial⟩⟩ rfl rfl hl.1 rfl (lv_room (Nat.le_of_ble_eq_true rfl)) (dt_at dt_Exact_scaledSum 38 rfl) ⟨Nat.le_of_ble_eq_true rfl, Nat.le_of_ble_eq_true rfl⟩) (fun u_r6 q_r6 => ?_)
  obtain rfl : r6 = u_r6 := q_r6.symm
  refine lv_lstore (lv' := [(14, .long r6), (12, .long t3), (11, .int r1), (9, .long s0), (4, .int v4), (5, .int v5), (7, .long v7)]) hx hb (dt_at dt_Exact_scaledSum 39 rfl) hl (by decide) rfl (fun ls hl => ?_)
  refine lv_lload hx hb (dt_at dt_Exact_scaledSum 40 rfl) (lv_at hl 6 rfl) ?_
  refine lv_lconst (v := 0) hx hb (dt_at dt_Exact_scaledSum 41 rfl) (by decide) ?_
  refine lc_ge (tgt := 92) hx hb (dt_at dt_Exact_scaledSum 42 rfl) (dt_at dt_Exact_scaledSum 43 rfl) (by decide) (fun c7 => ?_) (fun c7 => ?_)
  · have h := if_p h c7
    refine lv_iconst (v := 0) hx hb (dt_at dt_Exact_scaledSum 46 rfl) (by decide) ?_
    exact k_Exact_scaledSum_93 hC   (0 : Int32) v4 v5 v7 s0 r1 t3 r6 ls (lv_sub hl [4, 5, 6, 3, 2, 1, 0] rfl) h
  · have h := if_n h c7
    refine lv_iconst (v := 1) hx hb (dt_at dt_Exact_scaledSum 44 rfl) (by decide) ?_
    refine lv_goto (tgt := 93) hx hb (dt_at dt_Exact_scaledSum 45 rfl) (by decide) ?_
    exact k_Exact_scaledSum_93 hC   (1 : Int32) v4 v5 v7 s0 r1 t3 r6 ls (lv_sub hl [4, 5, 6, 3, 2, 1, 0] rfl) h
set_option maxRecDepth 100000 in
set_option maxHeartbeats 4000000 in
theorem k_Exact_scaledSum_29 {p : Program} {l : Launch} {e : Env} {s : State} {m : MethodId} {args : Array Value} {below : List Frame} {meth : Method} {c : Code} (hC : CX p s m args meth c prog_4_method_7_code 18 "OutwardTape$Exact" (some .long)) {r0 : Int64} : ∀ (s0 : Int64) (v0 : Int64) (v2 : Int64) (v4 : Int32) (v5 : Int32) (v6 : Int32) (ls : Array Slot), lv_has ls 18 [(0, .long v0), (2, .long v2), (4, .int v4), (5, .int v5), (6, .int v6)] → f_Exact_scaledSum_29  s0 v0 v2 v4 v5 v6 = some r0 → W p l e rm_Exact_scaledSum s m args below meth c s.heap [] 0 0 (MQ below (vp_Sl (fun r => r = r0)) args s 0 0 (fun _ => False)) (F0 m 29 ls [.long s0]) := by
  obtain ⟨hx, hb, hml, hown, hts, hr, hlocks⟩ := id hC
  intro s0 v0 v2 v4 v5 v6 ls hl h
  rw [f_Exact_scaledSum_29] at h
  refine lv_lstore (lv' := [(7, .long s0), (0, .long v0), (2, .long v2), (4, .int v4), (5, .int v5), (6, .int v6)]) hx hb (dt_at dt_Exact_scaledSum 15 rfl) hl (by decide) rfl (fun ls hl => ?_)
  refine lv_iload hx hb (dt_at dt_Exact_scaledSum 16 rfl) (lv_at hl 5 rfl) ?_
  refine lv_if_eq (tgt := 40) hx hb (dt_at dt_Exact_scaledSum 17 rfl) (by decide) (fun c1 => ?_) (fun c1 => ?_)
  · have h := if_p h c1
    refine lv_lload_n hx hb (dt_at dt_Exact_scaledSum 20 rfl) rfl (lv_at hl 1 rfl) ?_
    exact k_Exact_scaledSum_41 hC   v0 v4 v5 s0 ls (lv_sub hl [3, 4, 0] rfl) h
  · have h := if_n h c1
    refine lv_lload_n hx hb (dt_at dt_Exact_scaledSum 18 rfl) rfl (lv_at hl 2 rfl) ?_
    refine lv_goto (tgt := 41) hx hb (dt_at dt_Exact_scaledSum 19 rfl) (by decide) ?_
    exact k_Exact_scaledSum_41 hC   v2 v4 v5 s0 ls (lv_sub hl [3, 4, 0] rfl) h
set_option maxRecDepth 100000 in
set_option maxHeartbeats 4000000 in
theorem k_Exact_scaledSum_17 {p : Program} {l : Launch} {e : Env} {s : State} {m : MethodId} {args : Array Value} {below : List Frame} {meth : Method} {c : Code} (hC : CX p s m args meth c prog_4_method_7_code 18 "OutwardTape$Exact" (some .long)) {r0 : Int64} : ∀ (s0 : Int32) (v0 : Int64) (v2 : Int64) (v4 : Int32) (v5 : Int32) (ls : Array Slot), lv_has ls 18 [(0, .long v0), (2, .long v2), (4, .int v4), (5, .int v5)] → f_Exact_scaledSum_17  s0 v0 v2 v4 v5 = some r0 → W p l e rm_Exact_scaledSum s m args below meth c s.heap [] 0 0 (MQ below (vp_Sl (fun r => r = r0)) args s 0 0 (fun _ => False)) (F0 m 17 ls [.int s0]) := by
  obtain ⟨hx, hb, hml, hown, hts, hr, hlocks⟩ := id hC
  intro s0 v0 v2 v4 v5 ls hl h
  rw [f_Exact_scaledSum_17] at h
  refine lv_istore (lv' := [(6, .int s0), (0, .long v0), (2, .long v2), (4, .int v4), (5, .int v5)]) hx hb (dt_at dt_Exact_scaledSum 9 rfl) hl (by decide) rfl (fun ls hl => ?_)
  refine lv_iload hx hb (dt_at dt_Exact_scaledSum 10 rfl) (lv_at hl 0 rfl) ?_
  refine lv_if_eq (tgt := 28) hx hb (dt_at dt_Exact_scaledSum 11 rfl) (by decide) (fun c1 => ?_) (fun c1 => ?_)
  · have h := if_p h c1
    refine lv_lload_n hx hb (dt_at dt_Exact_scaledSum 14 rfl) rfl (lv_at hl 2 rfl) ?_
    exact k_Exact_scaledSum_29 hC   v2 v0 v2 v4 v5 s0 ls (lv_sub hl [1, 2, 3, 4, 0] rfl) h
  · have h := if_n h c1
    refine lv_lload_n hx hb (dt_at dt_Exact_scaledSum 12 rfl) rfl (lv_at hl 1 rfl) ?_
    refine lv_goto (tgt := 29) hx hb (dt_at dt_Exact_scaledSum 13 rfl) (by decide) ?_
    exact k_Exact_scaledSum_29 hC   v0 v0 v2 v4 v5 s0 ls (lv_sub hl [1, 2, 3, 4, 0] rfl) h
set_option maxRecDepth 100000 in
set_option maxHeartbeats 4000000 in
theorem k_Exact_scaledSum_0 {p : Program} {l : Launch} {e : Env} {s : State} {m : MethodId} {args : Array Value} {below : List Frame} {meth : Method} {c : Code} (hC : CX p s m args meth c prog_4_method_7_code 18 "OutwardTape$Exact" (some .long)) {r0 : Int64} : ∀ (v0 : Int64) (v2 : Int64) (v4 : Int32) (v5 : Int32) (ls : Array Slot), lv_has ls 18 [(0, .long v0), (2, .long v2), (4, .int v4), (5, .int v5)] → f_Exact_scaledSum_0  v0 v2 v4 v5 = some r0 → W p l e rm_Exact_scaledSum s m args below meth c s.heap [] 0 0 (MQ below (vp_Sl (fun r => r = r0)) args s 0 0 (fun _ => False)) (F0 m 0 ls []) := by
  obtain ⟨hx, hb, hml, hown, hts, hr, hlocks⟩ := id hC
  intro v0 v2 v4 v5 ls hl h
  rw [f_Exact_scaledSum_0] at h
  refine lv_lload_n hx hb (dt_at dt_Exact_scaledSum 0 rfl) rfl (lv_at hl 0 rfl) ?_
  obtain ⟨t1, e_t1, h⟩ := ol_of h
  refine va_mabs_long hx hb (hml.trans hl.1.symm) hown (hts (Cond.methodLink "OutwardTape$Exact" 38 Lib.MathLoose.abs_long.x) (m_1 177 rfl rfl)) (hts (Cond.static Lib.MathLoose.abs_long.x) (m_1 178 rfl rfl)) (hts (Cond.initialized "java/lang/Math") (m_1 9 rfl rfl)) (hts (Cond.code Lib.MathLoose.abs_long.x Lib.MathLoose.abs_long.code 2 (some .long)) (m_1 179 rfl rfl)) (Nat.le_of_ble_eq_true rfl) (Nat.le_of_ble_eq_true rfl) (Nat.le_of_ble_eq_true rfl) (Nat.le_of_ble_eq_true rfl) (dt_at dt_Exact_scaledSum 1 rfl) ?_
  refine lv_topl (fun u_t1 q_t1 => ?_)
  obtain rfl : t1 = u_t1 := e_t1.trans q_t1.symm
  refine lv_lload_n hx hb (dt_at dt_Exact_scaledSum 2 rfl) rfl (lv_at hl 1 rfl) ?_
  obtain ⟨t2, e_t2, h⟩ := ol_of h
  refine va_mabs_long hx hb (hml.trans hl.1.symm) hown (hts (Cond.methodLink "OutwardTape$Exact" 38 Lib.MathLoose.abs_long.x) (m_1 177 rfl rfl)) (hts (Cond.static Lib.MathLoose.abs_long.x) (m_1 178 rfl rfl)) (hts (Cond.initialized "java/lang/Math") (m_1 9 rfl rfl)) (hts (Cond.code Lib.MathLoose.abs_long.x Lib.MathLoose.abs_long.code 2 (some .long)) (m_1 179 rfl rfl)) (Nat.le_of_ble_eq_true rfl) (Nat.le_of_ble_eq_true rfl) (Nat.le_of_ble_eq_true rfl) (Nat.le_of_ble_eq_true rfl) (dt_at dt_Exact_scaledSum 3 rfl) ?_
  refine lv_topl (fun u_t2 q_t2 => ?_)
  obtain rfl : t2 = u_t2 := e_t2.trans q_t2.symm
  refine lc_lt (tgt := 16) hx hb (dt_at dt_Exact_scaledSum 4 rfl) (dt_at dt_Exact_scaledSum 5 rfl) (by decide) (fun c3 => ?_) (fun c3 => ?_)
  · have h := if_p h c3
    refine lv_iconst (v := 0) hx hb (dt_at dt_Exact_scaledSum 8 rfl) (by decide) ?_
    exact k_Exact_scaledSum_17 hC   (0 : Int32) v0 v2 v4 v5 ls (lv_sub hl [0, 1, 2, 3] rfl) h
  · have h := if_n h c3
    refine lv_iconst (v := 1) hx hb (dt_at dt_Exact_scaledSum 6 rfl) (by decide) ?_
    refine lv_goto (tgt := 17) hx hb (dt_at dt_Exact_scaledSum 7 rfl) (by decide) ?_
    exact k_Exact_scaledSum_17 hC   (1 : Int32) v0 v2 v4 v5 ls (lv_sub hl [0, 1, 2, 3] rfl) h
set_option maxRecDepth 100000 in
set_option maxHeartbeats 4000000 in
theorem c_Exact_scaledSum (l : Launch) (a0 : Int64) (a2 : Int64) (a4 : Int32) (a5 : Int32) (r0 : Int64) (h : f_Exact_scaledSum a0 a2 a4 a5 = some r0) : Met l (⟨"OutwardTape$Exact", "scaledSum", "(JJII)J"⟩ : MethodName) (WSm (⟨"OutwardTape$Exact", "scaledSum", "(JJII)J"⟩ : MethodName) prog_4_method_7_code 18 (some .long)) rm_Exact_scaledSum (va_Pc [.long a0, .long a2, .int a4, .int a5] (fun _ => True)) (vp_Sl (fun r => r = r0)) 0 0 (fun _ => False) := by
  refine Met.ofW (cc := prog_4_method_7_code) (maxL := 18) (ret := (some .long)) (by decide) rfl ?_
  intro p e s m args below meth c s₁ B hml hv
  obtain ⟨rfl, -⟩ := hv
  have hC := CX.of B hml rfl
  have hl := lv_entry [.long a0, .long a2, .int a4, .int a5] (n := 18) (Nat.le_of_ble_eq_true rfl)
  rw [lg_entry_eq]
  generalize (lg_sl [.long a0, .long a2, .int a4, .int a5] ++ List.replicate (18 - (lg_sl [.long a0, .long a2, .int a4, .int a5]).length) Slot.unset).toArray = ls at hl ⊢
  have hl : lv_has ls 18 [(0, .long a0), (2, .long a2), (4, .int a4), (5, .int a5)] := hl
  exact k_Exact_scaledSum_0 hC a0 a2 a4 a5 ls (lv_sub hl [0, 1, 2, 3] rfl) h
abbrev rm_Exact_sum : Room := { frames := 3, cells := 0, slots := 0, locals := 97 }
set_option maxRecDepth 100000 in
set_option maxHeartbeats 4000000 in
theorem k_Exact_sum_28 {p : Program} {l : Launch} {e : Env} {s : State} {m : MethodId} {args : Array Value} {below : List Frame} {meth : Method} {c : Code} (hC : CX p s m args meth c prog_4_method_5_code 5 "OutwardTape$Exact" (some .long)) {r0 : Int64} : ∀ (s0 : Int64) (ls : Array Slot), lv_has ls 5 [] → f_Exact_sum_28  s0 = some r0 → W p l e rm_Exact_sum s m args below meth c s.heap [] 0 0 (MQ below (vp_Sl (fun r => r = r0)) args s 0 0 (fun _ => False)) (F0 m 28 ls [.long s0]) := by
  obtain ⟨hx, hb, hml, hown, hts, hr, hlocks⟩ := id hC
  intro s0 ls hl h
  rw [f_Exact_sum_28] at h
  have h := os_of h
  exact W.lret (v := s0) hx hb hr (fun t ht hW => ⟨_, rfl, h, ht⟩) (fun q hq => absurd hq List.not_mem_nil) (dt_at dt_Exact_sum 15 rfl)
set_option maxRecDepth 100000 in
set_option maxHeartbeats 4000000 in
theorem k_Exact_sum_0 {p : Program} {l : Launch} {e : Env} {s : State} {m : MethodId} {args : Array Value} {below : List Frame} {meth : Method} {c : Code} (hC : CX p s m args meth c prog_4_method_5_code 5 "OutwardTape$Exact" (some .long)) {r0 : Int64} : ∀ (v0 : Int64) (v2 : Int64) (v4 : Int32) (ls : Array Slot), lv_has ls 5 [(0, .long v0), (2, .long v2), (4, .int v4)] → f_Exact_sum_0  v0 v2 v4 = some r0 → W p l e rm_Exact_sum s m args below meth c s.heap [] 0 0 (MQ below (vp_Sl (fun r => r = r0)) args s 0 0 (fun _ => False)) (F0 m 0 ls []) := by
  obtain ⟨hx, hb, hml, hown, hts, hr, hlocks⟩ := id hC
  intro v0 v2 v4 ls hl h
  rw [f_Exact_sum_0] at h
  refine lv_lload_n hx hb (dt_at dt_Exact_sum 0 rfl) rfl (lv_at hl 0 rfl) ?_
  obtain ⟨r1, h_r1, h⟩ := ob_of h
  refine vp_callSi (W.runS (As := [.long v0]) (rest := []) ⟨hx, hb, hml, hown, hts⟩ (c_Rank_isFinite l v0 r1 h_r1) (va_cwS 1 hts (gd_S (m_1 173 rfl rfl) (m_1 153 rfl rfl) (m_1 15 rfl rfl) (m_1 154 rfl rfl)) rfl rfl rfl (by decide +kernel) ⟨Nat.le_of_ble_eq_true rfl, Nat.le_of_ble_eq_true rfl⟩) ⟨fun _ _ _ _ q => q, fun U hU hW => ⟨rfl, trivial⟩⟩ rfl rfl hl.1 rfl (lv_room (Nat.le_of_ble_eq_true rfl)) (dt_at dt_Exact_sum 1 rfl) ⟨Nat.le_of_ble_eq_true rfl, Nat.le_of_ble_eq_true rfl⟩) (fun u_r1 q_r1 => ?_)
  obtain rfl : r1 = u_r1 := q_r1.symm
  refine lv_if_ne (tgt := 9) hx hb (dt_at dt_Exact_sum 2 rfl) (by decide) (fun c2 => ?_) (fun c2 => ?_)
  · have h := if_n h c2
    refine lv_lload_n hx hb (dt_at dt_Exact_sum 5 rfl) rfl (lv_at hl 1 rfl) ?_
    obtain ⟨r3, h_r3, h⟩ := ob_of h
    refine vp_callSi (W.runS (As := [.long v2]) (rest := []) ⟨hx, hb, hml, hown, hts⟩ (c_Rank_isFinite l v2 r3 h_r3) (va_cwS 1 hts (gd_S (m_1 173 rfl rfl) (m_1 153 rfl rfl) (m_1 15 rfl rfl) (m_1 154 rfl rfl)) rfl rfl rfl (by decide +kernel) ⟨Nat.le_of_ble_eq_true rfl, Nat.le_of_ble_eq_true rfl⟩) ⟨fun _ _ _ _ q => q, fun U hU hW => ⟨rfl, trivial⟩⟩ rfl rfl hl.1 rfl (lv_room (Nat.le_of_ble_eq_true rfl)) (dt_at dt_Exact_sum 6 rfl) ⟨Nat.le_of_ble_eq_true rfl, Nat.le_of_ble_eq_true rfl⟩) (fun u_r3 q_r3 => ?_)
    obtain rfl : r3 = u_r3 := q_r3.symm
    refine lv_if_eq (tgt := 27) hx hb (dt_at dt_Exact_sum 7 rfl) (by decide) (fun c4 => ?_) (fun c4 => ?_)
    · have h := if_p h c4
      refine lv_lload_n hx hb (dt_at dt_Exact_sum 14 rfl) rfl (lv_at hl 1 rfl) ?_
      exact k_Exact_sum_28 hC   v2 ls (lv_sub hl [] rfl) h
    · have h := if_n h c4
      refine lv_lload_n hx hb (dt_at dt_Exact_sum 8 rfl) rfl (lv_at hl 0 rfl) ?_
      refine lv_lload_n hx hb (dt_at dt_Exact_sum 9 rfl) rfl (lv_at hl 1 rfl) ?_
      refine lv_iconst (v := 0) hx hb (dt_at dt_Exact_sum 10 rfl) (by decide) ?_
      refine lv_iload hx hb (dt_at dt_Exact_sum 11 rfl) (lv_at hl 2 rfl) ?_
      obtain ⟨r5, h_r5, h⟩ := ob_of h
      refine vp_callSl (W.runS (As := [.long v0, .long v2, .int (0 : Int32), .int v4]) (rest := []) ⟨hx, hb, hml, hown, hts⟩ (c_Exact_scaledSum l v0 v2 (0 : Int32) v4 r5 h_r5) (va_cwS 4 hts (gd_S (m_1 174 rfl rfl) (m_1 175 rfl rfl) (m_1 16 rfl rfl) (m_1 176 rfl rfl)) rfl rfl rfl (by decide +kernel) ⟨Nat.le_of_ble_eq_true rfl, Nat.le_of_ble_eq_true rfl⟩) ⟨fun _ _ _ _ q => q, fun U hU hW => ⟨rfl, trivial⟩⟩ rfl rfl hl.1 rfl (lv_room (Nat.le_of_ble_eq_true rfl)) (dt_at dt_Exact_sum 12 rfl) ⟨Nat.le_of_ble_eq_true rfl, Nat.le_of_ble_eq_true rfl⟩) (fun u_r5 q_r5 => ?_)
      obtain rfl : r5 = u_r5 := q_r5.symm
      refine lv_goto (tgt := 28) hx hb (dt_at dt_Exact_sum 13 rfl) (by decide) ?_
      exact k_Exact_sum_28 hC   r5 ls (lv_sub hl [] rfl) h
  · have h := if_p h c2
    refine lv_lload_n hx hb (dt_at dt_Exact_sum 3 rfl) rfl (lv_at hl 0 rfl) ?_
    have h := os_of h
    exact W.lret (v := v0) hx hb hr (fun t ht hW => ⟨_, rfl, h, ht⟩) (fun q hq => absurd hq List.not_mem_nil) (dt_at dt_Exact_sum 4 rfl)
set_option maxRecDepth 100000 in
set_option maxHeartbeats 4000000 in
theorem c_Exact_sum (l : Launch) (a0 : Int64) (a2 : Int64) (a4 : Int32) (r0 : Int64) (h : f_Exact_sum a0 a2 a4 = some r0) : Met l (⟨"OutwardTape$Exact", "sum", "(JJI)J"⟩ : MethodName) (WSm (⟨"OutwardTape$Exact", "sum", "(JJI)J"⟩ : MethodName) prog_4_method_5_code 5 (some .long)) rm_Exact_sum (va_Pc [.long a0, .long a2, .int a4] (fun _ => True)) (vp_Sl (fun r => r = r0)) 0 0 (fun _ => False) := by
  refine Met.ofW (cc := prog_4_method_5_code) (maxL := 5) (ret := (some .long)) (by decide) rfl ?_
  intro p e s m args below meth c s₁ B hml hv
  obtain ⟨rfl, -⟩ := hv
  have hC := CX.of B hml rfl
  have hl := lv_entry [.long a0, .long a2, .int a4] (n := 5) (Nat.le_of_ble_eq_true rfl)
  rw [lg_entry_eq]
  generalize (lg_sl [.long a0, .long a2, .int a4] ++ List.replicate (5 - (lg_sl [.long a0, .long a2, .int a4]).length) Slot.unset).toArray = ls at hl ⊢
  have hl : lv_has ls 5 [(0, .long a0), (2, .long a2), (4, .int a4)] := hl
  exact k_Exact_sum_0 hC a0 a2 a4 ls (lv_sub hl [0, 1, 2] rfl) h
abbrev rm_Exact_halfSum : Room := { frames := 3, cells := 0, slots := 0, locals := 97 }
set_option maxRecDepth 100000 in
set_option maxHeartbeats 4000000 in
theorem k_Exact_halfSum_0 {p : Program} {l : Launch} {e : Env} {s : State} {m : MethodId} {args : Array Value} {below : List Frame} {meth : Method} {c : Code} (hC : CX p s m args meth c prog_4_method_6_code 4 "OutwardTape$Exact" (some .long)) {r0 : Int64} : ∀ (v0 : Int64) (v2 : Int64) (ls : Array Slot), lv_has ls 4 [(0, .long v0), (2, .long v2)] → f_Exact_halfSum_0  v0 v2 = some r0 → W p l e rm_Exact_halfSum s m args below meth c s.heap [] 0 0 (MQ below (vp_Sl (fun r => r = r0)) args s 0 0 (fun _ => False)) (F0 m 0 ls []) := by
  obtain ⟨hx, hb, hml, hown, hts, hr, hlocks⟩ := id hC
  intro v0 v2 ls hl h
  rw [f_Exact_halfSum_0] at h
  refine lv_lload_n hx hb (dt_at dt_Exact_halfSum 0 rfl) rfl (lv_at hl 0 rfl) ?_
  refine lv_lload_n hx hb (dt_at dt_Exact_halfSum 1 rfl) rfl (lv_at hl 1 rfl) ?_
  refine lv_iconst (v := -1) hx hb (dt_at dt_Exact_halfSum 2 rfl) (by decide) ?_
  refine lv_iconst (v := 0) hx hb (dt_at dt_Exact_halfSum 3 rfl) (by decide) ?_
  obtain ⟨r1, h_r1, h⟩ := ob_of h
  refine vp_callSl (W.runS (As := [.long v0, .long v2, .int (-1 : Int32), .int (0 : Int32)]) (rest := []) ⟨hx, hb, hml, hown, hts⟩ (c_Exact_scaledSum l v0 v2 (-1 : Int32) (0 : Int32) r1 h_r1) (va_cwS 4 hts (gd_S (m_1 174 rfl rfl) (m_1 175 rfl rfl) (m_1 16 rfl rfl) (m_1 176 rfl rfl)) rfl rfl rfl (by decide +kernel) ⟨Nat.le_of_ble_eq_true rfl, Nat.le_of_ble_eq_true rfl⟩) ⟨fun _ _ _ _ q => q, fun U hU hW => ⟨rfl, trivial⟩⟩ rfl rfl hl.1 rfl (lv_room (Nat.le_of_ble_eq_true rfl)) (dt_at dt_Exact_halfSum 4 rfl) ⟨Nat.le_of_ble_eq_true rfl, Nat.le_of_ble_eq_true rfl⟩) (fun u_r1 q_r1 => ?_)
  obtain rfl : r1 = u_r1 := q_r1.symm
  have h := os_of h
  exact W.lret (v := r1) hx hb hr (fun t ht hW => ⟨_, rfl, h, ht⟩) (fun q hq => absurd hq List.not_mem_nil) (dt_at dt_Exact_halfSum 5 rfl)
set_option maxRecDepth 100000 in
set_option maxHeartbeats 4000000 in
theorem c_Exact_halfSum (l : Launch) (a0 : Int64) (a2 : Int64) (r0 : Int64) (h : f_Exact_halfSum a0 a2 = some r0) : Met l (⟨"OutwardTape$Exact", "halfSum", "(JJ)J"⟩ : MethodName) (WSm (⟨"OutwardTape$Exact", "halfSum", "(JJ)J"⟩ : MethodName) prog_4_method_6_code 4 (some .long)) rm_Exact_halfSum (va_Pc [.long a0, .long a2] (fun _ => True)) (vp_Sl (fun r => r = r0)) 0 0 (fun _ => False) := by
  refine Met.ofW (cc := prog_4_method_6_code) (maxL := 4) (ret := (some .long)) (by decide) rfl ?_
  intro p e s m args below meth c s₁ B hml hv
  obtain ⟨rfl, -⟩ := hv
  have hC := CX.of B hml rfl
  have hl := lv_entry [.long a0, .long a2] (n := 4) (Nat.le_of_ble_eq_true rfl)
  rw [lg_entry_eq]
  generalize (lg_sl [.long a0, .long a2] ++ List.replicate (4 - (lg_sl [.long a0, .long a2]).length) Slot.unset).toArray = ls at hl ⊢
  have hl : lv_has ls 4 [(0, .long a0), (2, .long a2)] := hl
  exact k_Exact_halfSum_0 hC a0 a2 ls (lv_sub hl [0, 1] rfl) h
abbrev rm_Exact_lift : Room := { frames := 2, cells := 0, slots := 0, locals := 47 }
set_option maxRecDepth 100000 in
set_option maxHeartbeats 4000000 in
theorem k_Exact_lift_39 {p : Program} {l : Launch} {e : Env} {s : State} {m : MethodId} {args : Array Value} {below : List Frame} {meth : Method} {c : Code} (hC : CX p s m args meth c prog_4_method_11_code 6 "OutwardTape$Exact" (some .int)) {r0 : Int32} : ∀ (v4 : Int32) (ls : Array Slot), lv_has ls 6 [(4, .int v4)] → f_Exact_lift_39  v4 = some r0 → W p l e rm_Exact_lift s m args below meth c s.heap [] 0 0 (MQ below (vp_Si (fun r => r = r0)) args s 0 0 (fun _ => False)) (F0 m 39 ls []) := by
  obtain ⟨hx, hb, hml, hown, hts, hr, hlocks⟩ := id hC
  intro v4 ls hl h
  rw [f_Exact_lift_39] at h
  refine lv_iload hx hb (dt_at dt_Exact_lift 21 rfl) (lv_at hl 0 rfl) ?_
  have h := os_of h
  exact W.iret (v := v4) hx hb hr (fun t ht hW => ⟨_, rfl, h, ht⟩) (fun q hq => absurd hq List.not_mem_nil) (dt_at dt_Exact_lift 22 rfl)
set_option maxRecDepth 100000 in
set_option maxHeartbeats 4000000 in
theorem k_Exact_lift_11 {p : Program} {l : Launch} {e : Env} {s : State} {m : MethodId} {args : Array Value} {below : List Frame} {meth : Method} {c : Code} (hC : CX p s m args meth c prog_4_method_11_code 6 "OutwardTape$Exact" (some .int)) {r0 : Int32} : ∀ n : Nat, ∀ (v2 : Int64) (v4 : Int32) (v5 : Int32) (ls : Array Slot), lv_has ls 6 [(2, .long v2), (4, .int v4), (5, .int v5)] → f_Exact_lift_11  n v2 v4 v5 = some r0 → W p l e rm_Exact_lift s m args below meth c s.heap [] 0 0 (MQ below (vp_Si (fun r => r = r0)) args s 0 0 (fun _ => False)) (F0 m 11 ls []) := by
  obtain ⟨hx, hb, hml, hown, hts, hr, hlocks⟩ := id hC
  intro n
  induction n with
  | zero => intro v2 v4 v5 ls hl h; cases h
  | succ n ih =>
    intro v2 v4 v5 ls hl h
    rw [f_Exact_lift_11] at h
    refine lv_iload hx hb (dt_at dt_Exact_lift 7 rfl) (lv_at hl 2 rfl) ?_
    refine lv_bipush (v := 52) hx hb (dt_at dt_Exact_lift 8 rfl) (by decide) ?_
    refine lv_icmp_ge (tgt := 39) hx hb (dt_at dt_Exact_lift 9 rfl) (by decide) (fun c1 => ?_) (fun c1 => ?_)
    · have h := if_p h c1
      exact k_Exact_lift_39 hC   v4 ls (lv_sub hl [1] rfl) h
    · have h := if_n h c1
      refine lv_lload_n hx hb (dt_at dt_Exact_lift 10 rfl) rfl (lv_at hl 0 rfl) ?_
      refine lv_ldc2 (v := 4503599627370496) hx hb hown (hts (Cond.constantLong "OutwardTape$Exact" 70 (4503599627370496)) (m_3 142 rfl rfl)) (dt_at dt_Exact_lift 11 rfl) ?_
      refine lc_ge (tgt := 39) hx hb (dt_at dt_Exact_lift 12 rfl) (dt_at dt_Exact_lift 13 rfl) (by decide) (fun c2 => ?_) (fun c2 => ?_)
      · have h := if_p h c2
        exact k_Exact_lift_39 hC   v4 ls (lv_sub hl [1] rfl) h
      · have h := if_n h c2
        refine lv_lload_n hx hb (dt_at dt_Exact_lift 14 rfl) rfl (lv_at hl 0 rfl) ?_
        refine lv_iconst (v := 1) hx hb (dt_at dt_Exact_lift 15 rfl) (by decide) ?_
        refine lv_lshl (v := (j_lshl v2 (1 : Int32))) hx hb (dt_at dt_Exact_lift 16 rfl) rfl ?_
        obtain ⟨t3, e_t3, h⟩ := ol_of h
        refine lv_topl (fun u_t3 q_t3 => ?_)
        obtain rfl : t3 = u_t3 := e_t3.trans q_t3.symm
        refine lv_lstore_n (lv' := [(2, .long t3), (4, .int v4), (5, .int v5)]) hx hb (dt_at dt_Exact_lift 17 rfl) rfl hl (by decide) rfl (fun ls hl => ?_)
        obtain ⟨t4, e_t4, h⟩ := ol_of h
        refine lv_iinc (v := t4) (lv' := [(4, .int t4), (2, .long t3), (5, .int v5)]) hx hb (dt_at dt_Exact_lift 18 rfl) hl (k := 1) rfl (by rw [e_t4]; rfl) (by decide) rfl (fun ls hl => ?_)
        obtain ⟨t5, e_t5, h⟩ := ol_of h
        refine lv_iinc (v := t5) (lv' := [(5, .int t5), (4, .int t4), (2, .long t3)]) hx hb (dt_at dt_Exact_lift 19 rfl) hl (k := 2) rfl (by rw [e_t5]; rfl) (by decide) rfl (fun ls hl => ?_)
        refine lv_goto (tgt := 11) hx hb (dt_at dt_Exact_lift 20 rfl) (by decide) ?_
        exact ih t3 t4 t5 ls (lv_sub hl [2, 1, 0] rfl) h
set_option maxRecDepth 100000 in
set_option maxHeartbeats 4000000 in
theorem k_Exact_lift_0 {p : Program} {l : Launch} {e : Env} {s : State} {m : MethodId} {args : Array Value} {below : List Frame} {meth : Method} {c : Code} (hC : CX p s m args meth c prog_4_method_11_code 6 "OutwardTape$Exact" (some .int)) {r0 : Int32} : ∀ (v0 : Int64) (ls : Array Slot), lv_has ls 6 [(0, .long v0)] → f_Exact_lift_0  v0 = some r0 → W p l e rm_Exact_lift s m args below meth c s.heap [] 0 0 (MQ below (vp_Si (fun r => r = r0)) args s 0 0 (fun _ => False)) (F0 m 0 ls []) := by
  obtain ⟨hx, hb, hml, hown, hts, hr, hlocks⟩ := id hC
  intro v0 ls hl h
  rw [f_Exact_lift_0] at h
  refine lv_lload_n hx hb (dt_at dt_Exact_lift 0 rfl) rfl (lv_at hl 0 rfl) ?_
  obtain ⟨r1, h_r1, h⟩ := ob_of h
  refine vp_callSl (W.runS (As := [.long v0]) (rest := []) ⟨hx, hb, hml, hown, hts⟩ (c_Rank_significand l v0 r1 h_r1) (va_cwS 1 hts (gd_S (m_1 187 rfl rfl) (m_1 188 rfl rfl) (m_1 15 rfl rfl) (m_1 189 rfl rfl)) rfl rfl rfl (by decide +kernel) ⟨Nat.le_of_ble_eq_true rfl, Nat.le_of_ble_eq_true rfl⟩) ⟨fun _ _ _ _ q => q, fun U hU hW => ⟨rfl, trivial⟩⟩ rfl rfl hl.1 rfl (lv_room (Nat.le_of_ble_eq_true rfl)) (dt_at dt_Exact_lift 1 rfl) ⟨Nat.le_of_ble_eq_true rfl, Nat.le_of_ble_eq_true rfl⟩) (fun u_r1 q_r1 => ?_)
  obtain rfl : r1 = u_r1 := q_r1.symm
  refine lv_lstore_n (lv' := [(2, .long r1), (0, .long v0)]) hx hb (dt_at dt_Exact_lift 2 rfl) rfl hl (by decide) rfl (fun ls hl => ?_)
  refine lv_iconst (v := 0) hx hb (dt_at dt_Exact_lift 3 rfl) (by decide) ?_
  refine lv_istore (lv' := [(4, .int (0 : Int32)), (2, .long r1), (0, .long v0)]) hx hb (dt_at dt_Exact_lift 4 rfl) hl (by decide) rfl (fun ls hl => ?_)
  refine lv_iconst (v := 0) hx hb (dt_at dt_Exact_lift 5 rfl) (by decide) ?_
  refine lv_istore (lv' := [(5, .int (0 : Int32)), (4, .int (0 : Int32)), (2, .long r1), (0, .long v0)]) hx hb (dt_at dt_Exact_lift 6 rfl) hl (by decide) rfl (fun ls hl => ?_)
  exact k_Exact_lift_11 hC  5000 r1 (0 : Int32) (0 : Int32) ls (lv_sub hl [2, 1, 0] rfl) h
set_option maxRecDepth 100000 in
set_option maxHeartbeats 4000000 in
theorem c_Exact_lift (l : Launch) (a0 : Int64) (r0 : Int32) (h : f_Exact_lift a0 = some r0) : Met l (⟨"OutwardTape$Exact", "lift", "(J)I"⟩ : MethodName) (WSm (⟨"OutwardTape$Exact", "lift", "(J)I"⟩ : MethodName) prog_4_method_11_code 6 (some .int)) rm_Exact_lift (va_Pc [.long a0] (fun _ => True)) (vp_Si (fun r => r = r0)) 0 0 (fun _ => False) := by
  refine Met.ofW (cc := prog_4_method_11_code) (maxL := 6) (ret := (some .int)) (by decide) rfl ?_
  intro p e s m args below meth c s₁ B hml hv
  obtain ⟨rfl, -⟩ := hv
  have hC := CX.of B hml rfl
  have hl := lv_entry [.long a0] (n := 6) (Nat.le_of_ble_eq_true rfl)
  rw [lg_entry_eq]
  generalize (lg_sl [.long a0] ++ List.replicate (6 - (lg_sl [.long a0]).length) Slot.unset).toArray = ls at hl ⊢
  have hl : lv_has ls 6 [(0, .long a0)] := hl
  exact k_Exact_lift_0 hC a0 ls (lv_sub hl [0] rfl) h
abbrev rm_Exact_product : Room := { frames := 3, cells := 0, slots := 0, locals := 72 }
set_option maxRecDepth 100000 in
set_option maxHeartbeats 4000000 in
theorem k_Exact_product_241 {p : Program} {l : Launch} {e : Env} {s : State} {m : MethodId} {args : Array Value} {below : List Frame} {meth : Method} {c : Code} (hC : CX p s m args meth c prog_4_method_10_code 24 "OutwardTape$Exact" (some .long)) {r0 : Int64} : ∀ (s0 : Int32) (s1 : Int64) (v4 : Int32) (v5 : Int32) (v12 : Int32) (v21 : Int32) (ls : Array Slot), lv_has ls 24 [(4, .int v4), (5, .int v5), (12, .int v12), (21, .int v21)] → f_Exact_product_241  s0 s1 v4 v5 v12 v21 = some r0 → W p l e rm_Exact_product s m args below meth c s.heap [] 0 0 (MQ below (vp_Sl (fun r => r = r0)) args s 0 0 (fun _ => False)) (F0 m 241 ls [.int s0, .long s1]) := by
  obtain ⟨hx, hb, hml, hown, hts, hr, hlocks⟩ := id hC
  intro s0 s1 v4 v5 v12 v21 ls hl h
  rw [f_Exact_product_241] at h
  obtain ⟨r1, h_r1, h⟩ := ob_of h
  refine vp_callSl (W.runS (As := [.long s1, .int s0]) (rest := []) ⟨hx, hb, hml, hown, hts⟩ (c_Exact_traced l s1 s0 r1 h_r1) (va_cwS 2 hts (gd_S (m_1 195 rfl rfl) (m_1 196 rfl rfl) (m_1 16 rfl rfl) (m_1 197 rfl rfl)) rfl rfl rfl (by decide +kernel) ⟨Nat.le_of_ble_eq_true rfl, Nat.le_of_ble_eq_true rfl⟩) ⟨fun _ _ _ _ q => q, fun U hU hW => ⟨rfl, trivial⟩⟩ rfl rfl hl.1 rfl (lv_room (Nat.le_of_ble_eq_true rfl)) (dt_at dt_Exact_product 139 rfl) ⟨Nat.le_of_ble_eq_true rfl, Nat.le_of_ble_eq_true rfl⟩) (fun u_r1 q_r1 => ?_)
  obtain rfl : r1 = u_r1 := q_r1.symm
  refine lv_lstore (lv' := [(22, .long r1), (4, .int v4), (5, .int v5), (12, .int v12), (21, .int v21)]) hx hb (dt_at dt_Exact_product 140 rfl) hl (by decide) rfl (fun ls hl => ?_)
  refine lv_iload hx hb (dt_at dt_Exact_product 141 rfl) (lv_at hl 2 rfl) ?_
  refine lv_lload hx hb (dt_at dt_Exact_product 142 rfl) (lv_at hl 0 rfl) ?_
  refine lv_iload hx hb (dt_at dt_Exact_product 143 rfl) (lv_at hl 3 rfl) ?_
  refine lv_iload hx hb (dt_at dt_Exact_product 144 rfl) (lv_at hl 4 rfl) ?_
  refine lv_iadd hx hb (dt_at dt_Exact_product 145 rfl) ?_
  refine lv_iload hx hb (dt_at dt_Exact_product 146 rfl) (lv_at hl 1 rfl) ?_
  obtain ⟨r2, h_r2, h⟩ := ob_of h
  refine vp_callSl (W.runS (As := [.int v5, .long r1, .int (v12 + v21), .int v4]) (rest := []) ⟨hx, hb, hml, hown, hts⟩ (c_Exact_rounded l v5 r1 (v12 + v21) v4 r2 h_r2) (va_cwS 4 hts (gd_S (m_1 198 rfl rfl) (m_1 199 rfl rfl) (m_1 16 rfl rfl) (m_1 200 rfl rfl)) rfl rfl rfl (by decide +kernel) ⟨Nat.le_of_ble_eq_true rfl, Nat.le_of_ble_eq_true rfl⟩) ⟨fun _ _ _ _ q => q, fun U hU hW => ⟨rfl, trivial⟩⟩ rfl rfl hl.1 rfl (lv_room (Nat.le_of_ble_eq_true rfl)) (dt_at dt_Exact_product 147 rfl) ⟨Nat.le_of_ble_eq_true rfl, Nat.le_of_ble_eq_true rfl⟩) (fun u_r2 q_r2 => ?_)
  obtain rfl : r2 = u_r2 := q_r2.symm
  have h := os_of h
  exact W.lret (v := r2) hx hb hr (fun t ht hW => ⟨_, rfl, h, ht⟩) (fun q hq => absurd hq List.not_mem_nil) (dt_at dt_Exact_product 148 rfl)
set_option maxRecDepth 100000 in
set_option maxHeartbeats 4000000 in
theorem k_Exact_product_74 {p : Program} {l : Launch} {e : Env} {s : State} {m : MethodId} {args : Array Value} {below : List Frame} {meth : Method} {c : Code} (hC : CX p s m args meth c prog_4_method_10_code 24 "OutwardTape$Exact" (some .long)) {r0 : Int64} : ∀ (s0 : Int64) (ls : Array Slot), lv_has ls 24 [] → f_Exact_product_74  s0 = some r0 → W p l e rm_Exact_product s m args below meth c s.heap [] 0 0 (MQ below (vp_Sl (fun r => r = r0)) args s 0 0 (fun _ => False)) (F0 m 74 ls [.long s0]) := by
  obtain ⟨hx, hb, hml, hown, hts, hr, hlocks⟩ := id hC
  intro s0 ls hl h
  rw [f_Exact_product_74] at h
  have h := os_of h
  exact W.lret (v := s0) hx hb hr (fun t ht hW => ⟨_, rfl, h, ht⟩) (fun q hq => absurd hq List.not_mem_nil) (dt_at dt_Exact_product 40 rfl)
set_option maxRecDepth 100000 in
set_option maxHeartbeats 4000000 in
theorem k_Exact_product_60 {p : Program} {l : Launch} {e : Env} {s : State} {m : MethodId} {args : Array Value} {below : List Frame} {meth : Method} {c : Code} (hC : CX p s m args meth c prog_4_method_10_code 24 "OutwardTape$Exact" (some .long)) {r0 : Int64} : ∀ (v5 : Int32) (ls : Array Slot), lv_has ls 24 [(5, .int v5)] → f_Exact_product_60  v5 = some r0 → W p l e rm_Exact_product s m args below meth c s.heap [] 0 0 (MQ below (vp_Sl (fun r => r = r0)) args s 0 0 (fun _ => False)) (F0 m 60 ls []) := by
  obtain ⟨hx, hb, hml, hown, hts, hr, hlocks⟩ := id hC
  intro v5 ls hl h
  rw [f_Exact_product_60] at h
  refine lv_iload hx hb (dt_at dt_Exact_product 35 rfl) (lv_at hl 0 rfl) ?_
  refine lv_if_eq (tgt := 71) hx hb (dt_at dt_Exact_product 36 rfl) (by decide) (fun c1 => ?_) (fun c1 => ?_)
  · have h := if_p h c1
    refine lv_ldc2 (v := 9218868437227405312) hx hb hown (hts (Cond.constantLong "OutwardTape$Exact" 26 (9218868437227405312)) (m_1 209 rfl rfl)) (dt_at dt_Exact_product 39 rfl) ?_
    exact k_Exact_product_74 hC   (9218868437227405312 : Int64) ls (lv_sub hl [] rfl) h
  · have h := if_n h c1
    refine lv_ldc2 (v := -9218868437227405312) hx hb hown (hts (Cond.constantLong "OutwardTape$Exact" 61 (-9218868437227405312)) (m_3 138 rfl rfl)) (dt_at dt_Exact_product 37 rfl) ?_
    refine lv_goto (tgt := 74) hx hb (dt_at dt_Exact_product 38 rfl) (by decide) ?_
    exact k_Exact_product_74 hC   (-9218868437227405312 : Int64) ls (lv_sub hl [] rfl) h
set_option maxRecDepth 100000 in
set_option maxHeartbeats 4000000 in
theorem k_Exact_product_44 {p : Program} {l : Launch} {e : Env} {s : State} {m : MethodId} {args : Array Value} {below : List Frame} {meth : Method} {c : Code} (hC : CX p s m args meth c prog_4_method_10_code 24 "OutwardTape$Exact" (some .long)) {r0 : Int64} : ∀ (s0 : Int32) (v0 : Int64) (v2 : Int64) (v4 : Int32) (ls : Array Slot), lv_has ls 24 [(0, .long v0), (2, .long v2), (4, .int v4)] → f_Exact_product_44  s0 v0 v2 v4 = some r0 → W p l e rm_Exact_product s m args below meth c s.heap [] 0 0 (MQ below (vp_Sl (fun r => r = r0)) args s 0 0 (fun _ => False)) (F0 m 44 ls [.int s0]) := by
  obtain ⟨hx, hb, hml, hown, hts, hr, hlocks⟩ := id hC
  intro s0 v0 v2 v4 ls hl h
  rw [f_Exact_product_44] at h
  refine lv_istore (lv' := [(5, .int s0), (0, .long v0), (2, .long v2), (4, .int v4)]) hx hb (dt_at dt_Exact_product 28 rfl) hl (by decide) rfl (fun ls hl => ?_)
  refine lv_lload_n hx hb (dt_at dt_Exact_product 29 rfl) rfl (lv_at hl 1 rfl) ?_
  obtain ⟨r1, h_r1, h⟩ := ob_of h
  refine vp_callSi (W.runS (As := [.long v0]) (rest := []) ⟨hx, hb, hml, hown, hts⟩ (c_Rank_isFinite l v0 r1 h_r1) (va_cwS 1 hts (gd_S (m_1 173 rfl rfl) (m_1 153 rfl rfl) (m_1 15 rfl rfl) (m_1 154 rfl rfl)) rfl rfl rfl (by decide +kernel) ⟨Nat.le_of_ble_eq_true rfl, Nat.le_of_ble_eq_true rfl⟩) ⟨fun _ _ _ _ q => q, fun U hU hW => ⟨rfl, trivial⟩⟩ rfl rfl hl.1 rfl (lv_room (Nat.le_of_ble_eq_true rfl)) (dt_at dt_Exact_product 30 rfl) ⟨Nat.le_of_ble_eq_true rfl, Nat.le_of_ble_eq_true rfl⟩) (fun u_r1 q_r1 => ?_)
  obtain rfl : r1 = u_r1 := q_r1.symm
  refine lv_if_eq (tgt := 60) hx hb (dt_at dt_Exact_product 31 rfl) (by decide) (fun c2 => ?_) (fun c2 => ?_)
  · have h := if_p h c2
    exact k_Exact_product_60 hC   s0 ls (lv_sub hl [0] rfl) h
  · have h := if_n h c2
    refine lv_lload_n hx hb (dt_at dt_Exact_product 32 rfl) rfl (lv_at hl 2 rfl) ?_
    obtain ⟨r3, h_r3, h⟩ := ob_of h
    refine vp_callSi (W.runS (As := [.long v2]) (rest := []) ⟨hx, hb, hml, hown, hts⟩ (c_Rank_isFinite l v2 r3 h_r3) (va_cwS 1 hts (gd_S (m_1 173 rfl rfl) (m_1 153 rfl rfl) (m_1 15 rfl rfl) (m_1 154 rfl rfl)) rfl rfl rfl (by decide +kernel) ⟨Nat.le_of_ble_eq_true rfl, Nat.le_of_ble_eq_true rfl⟩) ⟨fun _ _ _ _ q => q, fun U hU hW => ⟨rfl, trivial⟩⟩ rfl rfl hl.1 rfl (lv_room (Nat.le_of_ble_eq_true rfl)) (dt_at dt_Exact_product 33 rfl) ⟨Nat.le_of_ble_eq_true rfl, Nat.le_of_ble_eq_true rfl⟩) (fun u_r3 q_r3 => ?_)
    obtain rfl : r3 = u_r3 := q_r3.symm
    refine lv_if_ne (tgt := 75) hx hb (dt_at dt_Exact_product 34 rfl) (by decide) (fun c4 => ?_) (fun c4 => ?_)
    · have h := if_n h c4
      refine lv_lload_n hx hb (dt_at dt_Exact_product 41 rfl) rfl (lv_at hl 1 rfl) ?_
      obtain ⟨r5, h_r5, h⟩ := ob_of h
      refine vp_callSi (W.runS (As := [.long v0]) (rest := []) ⟨hx, hb, hml, hown, hts⟩ (c_Exact_lift l v0 r5 h_r5) (va_cwS 1 hts (gd_S (m_3 139 rfl rfl) (m_3 140 rfl rfl) (m_1 16 rfl rfl) (m_3 141 rfl rfl)) rfl rfl rfl (by decide +kernel) ⟨Nat.le_of_ble_eq_true rfl, Nat.le_of_ble_eq_true rfl⟩) ⟨fun _ _ _ _ q => q, fun U hU hW => ⟨rfl, trivial⟩⟩ rfl rfl hl.1 rfl (lv_room (Nat.le_of_ble_eq_true rfl)) (dt_at dt_Exact_product 42 rfl) ⟨Nat.le_of_ble_eq_true rfl, Nat.le_of_ble_eq_true rfl⟩) (fun u_r5 q_r5 => ?_)
      obtain rfl : r5 = u_r5 := q_r5.symm
      refine lv_istore (lv' := [(6, .int r5), (5, .int s0), (0, .long v0), (2, .long v2), (4, .int v4)]) hx hb (dt_at dt_Exact_product 43 rfl) hl (by decide) rfl (fun ls hl => ?_)
      refine lv_lload_n hx hb (dt_at dt_Exact_product 44 rfl) rfl (lv_at hl 3 rfl) ?_
      obtain ⟨r6, h_r6, h⟩ := ob_of h
      refine vp_callSi (W.runS (As := [.long v2]) (rest := []) ⟨hx, hb, hml, hown, hts⟩ (c_Exact_lift l v2 r6 h_r6) (va_cwS 1 hts (gd_S (m_3 139 rfl rfl) (m_3 140 rfl rfl) (m_1 16 rfl rfl) (m_3 141 rfl rfl)) rfl rfl rfl (by decide +kernel) ⟨Nat.le_of_ble_eq_true rfl, Nat.le_of_ble_eq_true rfl⟩) ⟨fun _ _ _ _ q => q, fun U hU hW => ⟨rfl, trivial⟩⟩ rfl rfl hl.1 rfl (lv_room (Nat.le_of_ble_eq_true rfl)) (dt_at dt_Exact_product 45 rfl) ⟨Nat.le_of_ble_eq_true rfl, Nat.le_of_ble_eq_true rfl⟩) (fun u_r6 q_r6 => ?_)
      obtain rfl : r6 = u_r6 := q_r6.symm
      refine lv_istore (lv' := [(7, .int r6), (6, .int r5), (5, .int s0), (0, .long v0), (2, .long v2), (4, .int v4)]) hx hb (dt_at dt_Exact_product 46 rfl) hl (by decide) rfl (fun ls hl => ?_)
      refine lv_lload_n hx hb (dt_at dt_Exact_product 47 rfl) rfl (lv_at hl 3 rfl) ?_
      obtain ⟨r7, h_r7, h⟩ := ob_of h
      refine vp_callSl (W.runS (As := [.long v0]) (rest := []) ⟨hx, hb, hml, hown, hts⟩ (c_Rank_significand l v0 r7 h_r7) (va_cwS 1 hts (gd_S (m_1 187 rfl rfl) (m_1 188 rfl rfl) (m_1 15 rfl rfl) (m_1 189 rfl rfl)) rfl rfl rfl (by decide +kernel) ⟨Nat.le_of_ble_eq_true rfl, Nat.le_of_ble_eq_true rfl⟩) ⟨fun _ _ _ _ q => q, fun U hU hW => ⟨rfl, trivial⟩⟩ rfl rfl hl.1 rfl (lv_room (Nat.le_of_ble_eq_true rfl)) (dt_at dt_Exact_product 48 rfl) ⟨Nat.le_of_ble_eq_true rfl, Nat.le_of_ble_eq_true rfl⟩) (fun u_r7 q_r7 => ?_)
      obtain rfl : r7 = u_r7 := q_r7.symm
      refine lv_iload hx hb (dt_at dt_Exact_product 49 rfl) (lv_at hl 1 rfl) ?_
      refine lv_lshl (v := (j_lshl r7 r5)) hx hb (dt_at dt_Exact_product 50 rfl) rfl ?_
      obtain ⟨t8, e_t8, h⟩ := ol_of h
      refine lv_topl (fun u_t8 q_t8 => ?_)
      obtain rfl : t8 = u_t8 := e_t8.trans q_t8.symm
      refine lv_lstore (lv' := [(8, .long t8), (7, .int r6), (6, .int r5), (5, .int s0), (0, .long v0), (2, .long v2), (4, .int v4)]) hx hb (dt_at dt_Exact_product 51 rfl) hl (by decide) rfl (fun ls hl => ?_)
      refine lv_lload_n hx hb (dt_at dt_Exact_product 52 rfl) rfl (lv_at hl 5 rfl) ?_
      obtain ⟨r9, h_r9, h⟩ := ob_of h
      refine vp_callSl (W.runS (As := [.long v2]) (rest := []) ⟨hx, hb, hml, hown, hts⟩ (c_Rank_significand l v2 r9 h_r9) (va_cwS 1 hts (gd_S (m_1 187 rfl rfl) (m_1 188 rfl rfl) (m_1 15 rfl rfl) (m_1 189 rfl rfl)) rfl rfl rfl (by decide +kernel) ⟨Nat.le_of_ble_eq_true rfl, Nat.le_of_ble_eq_true rfl⟩) ⟨fun _ _ _ _ q => q, fun U hU hW => ⟨rfl, trivial⟩⟩ rfl rfl hl.1 rfl (lv_room (Nat.le_of_ble_eq_true rfl)) (dt_at dt_Exact_product 53 rfl) ⟨Nat.le_of_ble_eq_true rfl, Nat.le_of_ble_eq_true rfl⟩) (fun u_r9 q_r9 => ?_)
      obtain rfl : r9 = u_r9 := q_r9.symm
      refine lv_iload hx hb (dt_at dt_Exact_product 54 rfl) (lv_at hl 1 rfl) ?_
      refine lv_lshl (v := (j_lshl r9 r6)) hx hb (dt_at dt_Exact_product 55 rfl) rfl ?_
      obtain ⟨t10, e_t10, h⟩ := ol_of h
      refine lv_topl (fun u_t10 q_t10 => ?_)
      obtain rfl : t10 = u_t10 := e_t10.trans q_t10.symm
      refine lv_lstore (lv' := [(10, .long t10), (8, .long t8), (7, .int r6), (6, .int r5), (5, .int s0), (0, .long v0), (2, .long v2), (4, .int v4)]) hx hb (dt_at dt_Exact_product 56 rfl) hl (by decide) rfl (fun ls hl => ?_)
      refine lv_lload_n hx hb (dt_at dt_Exact_product 57 rfl) rfl (lv_at hl 5 rfl) ?_
      obtain ⟨r11, h_r11, h⟩ := ob_of h
      refine vp_callSi (W.runS (As := [.long v0]) (rest := []) ⟨hx, hb, hml, hown, hts⟩ (c_Rank_exponent l v0 r11 h_r11) (va_cwS 1 hts (gd_S (m_1 180 rfl rfl) (m_1 181 rfl rfl) (m_1 15 rfl rfl) (m_1 182 rfl rfl)) rfl rfl rfl (by decide +kernel) ⟨Nat.le_of_ble_eq_true rfl, Nat.le_of_ble_eq_true rfl⟩) ⟨fun _ _ _ _ q => q, fun U hU hW => ⟨rfl, trivial⟩⟩ rfl rfl hl.1 rfl (lv_room (Nat.le_of_ble_eq_true rfl)) (dt_at dt_Exact_product 58 rfl) ⟨Nat.le_of_ble_eq_true rfl, Nat.le_of_ble_eq_true rfl⟩) (fun u_r11 q_r11 => ?_)
      obtain rfl : r11 = u_r11 := q_r11.symm
      refine lv_iload hx hb (dt_at dt_Exact_product 59 rfl) (lv_at hl 3 rfl) ?_
      refine lv_isub hx hb (dt_at dt_Exact_product 60 rfl) ?_
      refine lv_lload_n hx hb (dt_at dt_Exact_product 61 rfl) rfl (lv_at hl 6 rfl) ?_
      obtain ⟨r12, h_r12, h⟩ := ob_of h
      refine vp_callSi (W.runS (As := [.long v2]) (rest := [.int (r11 - r5)]) ⟨hx, hb, hml, hown, hts⟩ (c_Rank_exponent l v2 r12 h_r12) (va_cwS 1 hts (gd_S (m_1 180 rfl rfl) (m_1 181 rfl rfl) (m_1 15 rfl rfl) (m_1 182 rfl rfl)) rfl rfl rfl (by decide +kernel) ⟨Nat.le_of_ble_eq_true rfl, Nat.le_of_ble_eq_true rfl⟩) ⟨fun _ _ _ _ q => q, fun U hU hW => ⟨rfl, trivial⟩⟩ rfl rfl hl.1 rfl (lv_room (Nat.le_of_ble_eq_true rfl)) (dt_at dt_Exact_product 62 rfl) ⟨Nat.le_of_ble_eq_true rfl, Nat.le_of_ble_eq_true rfl⟩) (fun u_r12 q_r12 => ?_)
      obtain rfl : r12 = u_r12 := q_r12.symm
      refine lv_iadd hx hb (dt_at dt_Exact_product 63 rfl) ?_
      refine lv_iload hx hb (dt_at dt_Exact_product 64 rfl) (lv_at hl 2 rfl) ?_
      refine lv_isub hx hb (dt_at dt_Exact_product 65 rfl) ?_
      obtain ⟨t13, e_t13, h⟩ := ol_of h
      refine lv_topi (fun u_t13 q_t13 => ?_)
      obtain rfl : t13 = u_t13 := e_t13.trans q_t13.symm
      refine lv_istore (lv' := [(12, .int t13), (10, .long t10), (8, .long t8), (7, .int r6), (6, .int r5), (5, .int s0), (0, .long v0), (2, .long v2), (4, .int v4)]) hx hb (dt_at dt_Exact_product 66 rfl) hl (by decide) rfl (fun ls hl => ?_)
      refine lv_lload hx hb (dt_at dt_Exact_product 67 rfl) (lv_at hl 2 rfl) ?_
      refine lv_bipush (v := 26) hx hb (dt_at dt_Exact_product 68 rfl) (by decide) ?_
      refine lv_lushr (v := (j_lushr t8 (26 : Int32))) hx hb (dt_at dt_Exact_product 69 rfl) rfl ?_
      refine lv_lload hx hb (dt_at dt_Exact_product 70 rfl) (lv_at hl 1 rfl) ?_
      refine lv_ldc2 (v := 67108863) hx hb hown (hts (Cond.constantLong "OutwardTape$Exact" 66 (67108863)) (m_3 143 rfl rfl)) (dt_at dt_Exact_product 71 rfl) ?_
      refine lv_land hx hb (dt_at dt_Exact_product 72 rfl) ?_
      refine lv_lmul hx hb (dt_at dt_Exact_product 73 rfl) ?_
      refine lv_lload hx hb (dt_at dt_Exact_product 74 rfl) (lv_at hl 2 rfl) ?_
      refine lv_ldc2 (v := 67108863) hx hb hown (hts (Cond.constantLong "OutwardTape$Exact" 66 (67108863)) (m_3 143 rfl rfl)) (dt_at dt_Exact_product 75 rfl) ?_
      refine lv_land hx hb (dt_at dt_Exact_product 76 rfl) ?_
      refine lv_lload hx hb (dt_at dt_Exact_product 77 rfl) (lv_at hl 1 rfl) ?_
      refine lv_bipush (v := 26) hx hb (dt_at dt_Exact_product 78 rfl) (by decide) ?_
      refine lv_lushr (v := (j_lushr t10 (26 : Int32))) hx hb (dt_at dt_Exact_product 79 rfl) rfl ?_
      refine lv_lmul hx hb (dt_at dt_Exact_product 80 rfl) ?_
      refine lv_ladd hx hb (dt_at dt_Exact_product 81 rfl) ?_
      obtain ⟨t14, e_t14, h⟩ := ol_of h
      refine lv_topl (fun u_t14 q_t14 => ?_)
      obtain rfl : t14 = u_t14 := e_t14.trans q_t14.symm
      refine lv_lstore (lv' := [(13, .long t14), (12, .int t13), (10, .long t10), (8, .long t8), (7, .int r6), (6, .int r5), (5, .int s0), (0, .long v0), (2, .long v2), (4, .int v4)]) hx hb (dt_at dt_Exact_product 82 rfl) hl (by decide) rfl (fun ls hl => ?_)
      refine lv_lload hx hb (dt_at dt_Exact_product 83 rfl) (lv_at hl 0 rfl) ?_
      refine lv_ldc2 (v := 67108863) hx hb hown (hts (Cond.constantLong "OutwardTape$Exact" 66 (67108863)) (m_3 143 rfl rfl)) (dt_at dt_Exact_product 84 rfl) ?_
      refine lv_land hx hb (dt_at dt_Exact_product 85 rfl) ?_
      refine lv_bipush (v := 26) hx hb (dt_at dt_Exact_product 86 rfl) (by decide) ?_
      refine lv_lshl (v := (j_lshl (t14 &&& (67108863 : Int64)) (26 : Int32))) hx hb (dt_at dt_Exact_product 87 rfl) rfl ?_
      refine lv_lload hx hb (dt_at dt_Exact_product 88 rfl) (lv_at hl 3 rfl) ?_
      refine lv_ldc2 (v := 67108863) hx hb hown (hts (Cond.constantLong "OutwardTape$Exact" 66 (67108863)) (m_3 143 rfl rfl)) (dt_at dt_Exact_product 89 rfl) ?_
      refine lv_land hx hb (dt_at dt_Exact_product 90 rfl) ?_
      refine lv_lload hx hb (dt_at dt_Exact_product 91 rfl) (lv_at hl 2 rfl) ?_
      refine lv_ldc2 (v := 67108863) hx hb hown (hts (Cond.constantLong "OutwardTape$Exact" 66 (67108863)) (m_3 143 rfl rfl)) (dt_at dt_Exact_product 92 rfl) ?_
      refine lv_land hx hb (dt_at dt_Exact_product 93 rfl) ?_
      refine lv_lmul hx hb (dt_at dt_Exact_product 94 rfl) ?_
      refine lv_ladd hx hb (dt_at dt_Exact_product 95 rfl) ?_
      obtain ⟨t15, e_t15, h⟩ := ol_of h
      refine lv_topl (fun u_t15 q_t15 => ?_)
      obtain rfl : t15 = u_t15 := e_t15.trans q_t15.symm
      refine lv_lstore (lv' := [(15, .long t15), (13, .long t14), (12, .int t13), (10, .long t10), (8, .long t8), (7, .int r6), (6, .int r5), (5, .int s0), (0, .long v0), (2, .long v2), (4, .int v4)]) hx hb (dt_at dt_Exact_product 96 rfl) hl (by decide) rfl (fun ls hl => ?_)
      refine lv_lload hx hb (dt_at dt_Exact_product 97 rfl) (lv_at hl 4 rfl) ?_
      refine lv_bipush (v := 26) hx hb (dt_at dt_Exact_product 98 rfl) (by decide) ?_
      refine lv_lushr (v := (j_lushr t8 (26 : Int32))) hx hb (dt_at dt_Exact_product 99 rfl) rfl ?_
      refine lv_lload hx hb (dt_at dt_Exact_product 100 rfl) (lv_at hl 3 rfl) ?_
      refine lv_bipush (v := 26) hx hb (dt_at dt_Exact_product 101 rfl) (by decide) ?_
      refine lv_lushr (v := (j_lushr t10 (26 : Int32))) hx hb (dt_at dt_Exact_product 102 rfl) rfl ?_
      refine lv_lmul hx hb (dt_at dt_Exact_product 103 rfl) ?_
      refine lv_lload hx hb (dt_at dt_Exact_product 104 rfl) (lv_at hl 1 rfl) ?_
      refine lv_bipush (v := 26) hx hb (dt_at dt_Exact_product 105 rfl) (by decide) ?_
      refine lv_lushr (v := (j_lushr t14 (26 : Int32))) hx hb (dt_at dt_Exact_product 106 rfl) rfl ?_
      refine lv_ladd hx hb (dt_at dt_Exact_product 107 rfl) ?_
      refine lv_lload hx hb (dt_at dt_Exact_product 108 rfl) (lv_at hl 0 rfl) ?_
      refine lv_bipush (v := 52) hx hb (dt_at dt_Exact_product 109 rfl) (by decide) ?_
      refine lv_lushr (v := (j_lushr t15 (52 : Int32))) hx hb (dt_at dt_Exact_product 110 rfl) rfl ?_
      refine lv_ladd hx hb (dt_at dt_Exact_product 111 rfl) ?_
      obtain ⟨t16, e_t16, h⟩ := ol_of h
      refine lv_topl (fun u_t16 q_t16 => ?_)
      obtain rfl : t16 = u_t16 := e_t16.trans q_t16.symm
      refine lv_lstore (lv' := [(17, .long t16), (15, .long t15), (13, .long t14), (12, .int t13), (10, .long t10), (8, .long t8), (7, .int r6), (6, .int r5), (5, .int s0), (0, .long v0), (2, .long v2), (4, .int v4)]) hx hb (dt_at dt_Exact_product 112 rfl) hl (by decide) rfl (fun ls hl => ?_)
      refine lv_lload hx hb (dt_at dt_Exact_product 113 rfl) (lv_at hl 1 rfl) ?_
      refine lv_ldc2 (v := 4503599627370495) hx hb hown (hts (Cond.constantLong "OutwardTape$Exact" 68 (4503599627370495)) (m_3 144 rfl rfl)) (dt_at dt_Exact_product 114 rfl) ?_
      refine lv_land hx hb (dt_at dt_Exact_product 115 rfl) ?_
      obtain ⟨t17, e_t17, h⟩ := ol_of h
      refine lv_topl (fun u_t17 q_t17 => ?_)
      obtain rfl : t17 = u_t17 := e_t17.trans q_t17.symm
      refine lv_lstore (lv' := [(19, .long t17), (17, .long t16), (15, .long t15), (13, .long t14), (12, .int t13), (10, .long t10), (8, .long t8), (7, .int r6), (6, .int r5), (5, .int s0), (0, .long v0), (2, .long v2), (4, .int v4)]) hx hb (dt_at dt_Exact_product 116 rfl) hl (by decide) rfl (fun ls hl => ?_)
      refine lv_bipush (v := 43) hx hb (dt_at dt_Exact_product 117 rfl) (by decide) ?_
      refine lv_istore (lv' := [(21, .int (43 : Int32)), (19, .long t17), (17, .long t16), (15, .long t15), (13, .long t14), (12, .int t13), (10, .long t10), (8, .long t8), (7, .int r6), (6, .int r5), (5, .int s0), (0, .long v0), (2, .long v2), (4, .int v4)]) hx hb (dt_at dt_Exact_product 118 rfl) hl (by decide) rfl (fun ls hl => ?_)
      refine lv_lload hx hb (dt_at dt_Exact_product 119 rfl) (lv_at hl 2 rfl) ?_
      refine lv_bipush (v := 9) hx hb (dt_at dt_Exact_product 120 rfl) (by decide) ?_
      refine lv_lshl (v := (j_lshl t16 (9 : Int32))) hx hb (dt_at dt_Exact_product 121 rfl) rfl ?_
      refine lv_lload hx hb (dt_at dt_Exact_product 122 rfl) (lv_at hl 1 rfl) ?_
      refine lv_iload hx hb (dt_at dt_Exact_product 123 rfl) (lv_at hl 0 rfl) ?_
      refine lv_lushr (v := (j_lushr t17 (43 : Int32))) hx hb (dt_at dt_Exact_product 124 rfl) rfl ?_
      refine lv_lor hx hb (dt_at dt_Exact_product 125 rfl) ?_
      refine lv_lload hx hb (dt_at dt_Exact_product 126 rfl) (lv_at hl 1 rfl) ?_
      refine lv_lconst (v := 1) hx hb (dt_at dt_Exact_product 127 rfl) (by decide) ?_
      refine lv_iload hx hb (dt_at dt_Exact_product 128 rfl) (lv_at hl 0 rfl) ?_
      refine lv_lshl (v := (j_lshl (1 : Int64) (43 : Int32))) hx hb (dt_at dt_Exact_product 129 rfl) rfl ?_
      refine lv_lconst (v := 1) hx hb (dt_at dt_Exact_product 130 rfl) (by decide) ?_
      refine lv_lsub hx hb (dt_at dt_Exact_product 131 rfl) ?_
      refine lv_land hx hb (dt_at dt_Exact_product 132 rfl) ?_
      refine lv_lconst (v := 0) hx hb (dt_at dt_Exact_product 133 rfl) (by decide) ?_
      refine lc_eq (tgt := 240) hx hb (dt_at dt_Exact_product 134 rfl) (dt_at dt_Exact_product 135 rfl) (by decide) (fun c18 => ?_) (fun c18 => ?_)
      · have h := if_p h c18
        refine lv_iconst (v := 0) hx hb (dt_at dt_Exact_product 138 rfl) (by decide) ?_
        exact k_Exact_product_241 hC   (0 : Int32) ((j_lshl t16 (9 : Int32)) ||| (j_lushr t17 (43 : Int32))) v4 s0 t13 (43 : Int32) ls (lv_sub hl [13, 10, 5, 0] rfl) h
      · have h := if_n h c18
        refine lv_iconst (v := 1) hx hb (dt_at dt_Exact_product 136 rfl) (by decide) ?_
        refine lv_goto (tgt := 241) hx hb (dt_at dt_Exact_product 137 rfl) (by decide) ?_
        exact k_Exact_product_241 hC   (1 : Int32) ((j_lshl t16 (9 : Int32)) ||| (j_lushr t17 (43 : Int32))) v4 s0 t13 (43 : Int32) ls (lv_sub hl [13, 10, 5, 0] rfl) h
    · have h := if_p h c4
      exact k_Exact_product_60 hC   s0 ls (lv_sub hl [0] rfl) h
set_option maxRecDepth 100000 in
set_option maxHeartbeats 4000000 in
theorem k_Exact_product_36 {p : Program} {l : Launch} {e : Env} {s : State} {m : MethodId} {args : Array Value} {below : List Frame} {meth : Method} {c : Code} (hC : CX p s m args meth c prog_4_method_10_code 24 "OutwardTape$Exact" (some .long)) {r0 : Int64} : ∀ (s0 : Int32) (s1 : Int32) (v0 : Int64) (v2 : Int64) (v4 : Int32) (ls : Array Slot), lv_has ls 24 [(0, .long v0), (2, .long v2), (4, .int v4)] → f_Exact_product_36  s0 s1 v0 v2 v4 = some r0 → W p l e rm_Exact_product s m args below meth c s.heap [] 0 0 (MQ below (vp_Sl (fun r => r = r0)) args s 0 0 (fun _ => False)) (F0 m 36 ls [.int s0, .int s1]) := by
  obtain ⟨hx, hb, hml, hown, hts, hr, hlocks⟩ := id hC
  intro s0 s1 v0 v2 v4 ls hl h
  rw [f_Exact_product_36] at h
  refine lv_icmp_eq (tgt := 43) hx hb (dt_at dt_Exact_product 24 rfl) (by decide) (fun c1 => ?_) (fun c1 => ?_)
  · have h := if_p h c1
    refine lv_iconst (v := 0) hx hb (dt_at dt_Exact_product 27 rfl) (by decide) ?_
    exact k_Exact_product_44 hC   (0 : Int32) v0 v2 v4 ls (lv_sub hl [0, 1, 2] rfl) h
  · have h := if_n h c1
    refine lv_iconst (v := 1) hx hb (dt_at dt_Exact_product 25 rfl) (by decide) ?_
    refine lv_goto (tgt := 44) hx hb (dt_at dt_Exact_product 26 rfl) (by decide) ?_
    exact k_Exact_product_44 hC   (1 : Int32) v0 v2 v4 ls (lv_sub hl [0, 1, 2] rfl) h
set_option maxRecDepth 100000 in
set_option maxHeartbeats 4000000 in
theorem k_Exact_product_25 {p : Program} {l : Launch} {e : Env} {s : State} {m : MethodId} {args : Array Value} {below : List Frame} {meth : Method} {c : Code} (hC : CX p s m args meth c prog_4_method_10_code 24 "OutwardTape$Exact" (some .long)) {r0 : Int64} : ∀ (s0 : Int32) (v0 : Int64) (v2 : Int64) (v4 : Int32) (ls : Array Slot), lv_has ls 24 [(0, .long v0), (2, .long v2), (4, .int v4)] → f_Exact_product_25  s0 v0 v2 v4 = some r0 → W p l e rm_Exact_product s m args below meth c s.heap [] 0 0 (MQ below (vp_Sl (fun r => r = r0)) args s 0 0 (fun _ => False)) (F0 m 25 ls [.int s0]) := by
  obtain ⟨hx, hb, hml, hown, hts, hr, hlocks⟩ := id hC
  intro s0 v0 v2 v4 ls hl h
  rw [f_Exact_product_25] at h
  refine lv_lload_n hx hb (dt_at dt_Exact_product 17 rfl) rfl (lv_at hl 1 rfl) ?_
  refine lv_lconst (v := 0) hx hb (dt_at dt_Exact_product 18 rfl) (by decide) ?_
  refine lc_ge (tgt := 35) hx hb (dt_at dt_Exact_product 19 rfl) (dt_at dt_Exact_product 20 rfl) (by decide) (fun c1 => ?_) (fun c1 => ?_)
  · have h := if_p h c1
    refine lv_iconst (v := 0) hx hb (dt_at dt_Exact_product 23 rfl) (by decide) ?_
    exact k_Exact_product_36 hC   (0 : Int32) s0 v0 v2 v4 ls (lv_sub hl [0, 1, 2] rfl) h
  · have h := if_n h c1
    refine lv_iconst (v := 1) hx hb (dt_at dt_Exact_product 21 rfl) (by decide) ?_
    refine lv_goto (tgt := 36) hx hb (dt_at dt_Exact_product 22 rfl) (by decide) ?_
    exact k_Exact_product_36 hC   (1 : Int32) s0 v0 v2 v4 ls (lv_sub hl [0, 1, 2] rfl) h
set_option maxRecDepth 100000 in
set_option maxHeartbeats 4000000 in
theorem k_Exact_product_12 {p : Program} {l : Launch} {e : Env} {s : State} {m : MethodId} {args : Array Value} {below : List Frame} {meth : Method} {c : Code} (hC : CX p s m args meth c prog_4_method_10_code 24 "OutwardTape$Exact" (some .long)) {r0 : Int64} : ∀  (ls : Array Slot), lv_has ls 24 [] → f_Exact_product_12   = some r0 → W p l e rm_Exact_product s m args below meth c s.heap [] 0 0 (MQ below (vp_Sl (fun r => r = r0)) args s 0 0 (fun _ => False)) (F0 m 12 ls []) := by
  obtain ⟨hx, hb, hml, hown, hts, hr, hlocks⟩ := id hC
  intro ls hl h
  rw [f_Exact_product_12] at h
  refine lv_lconst (v := 0) hx hb (dt_at dt_Exact_product 8 rfl) (by decide) ?_
  have h := os_of h
  exact W.lret (v := (0 : Int64)) hx hb hr (fun t ht hW => ⟨_, rfl, h, ht⟩) (fun q hq => absurd hq List.not_mem_nil) (dt_at dt_Exact_product 9 rfl)
set_option maxRecDepth 100000 in
set_option maxHeartbeats 4000000 in
theorem k_Exact_product_0 {p : Program} {l : Launch} {e : Env} {s : State} {m : MethodId} {args : Array Value} {below : List Frame} {meth : Method} {c : Code} (hC : CX p s m args meth c prog_4_method_10_code 24 "OutwardTape$Exact" (some .long)) {r0 : Int64} : ∀ (v0 : Int64) (v2 : Int64) (v4 : Int32) (ls : Array Slot), lv_has ls 24 [(0, .long v0), (2, .long v2), (4, .int v4)] → f_Exact_product_0  v0 v2 v4 = some r0 → W p l e rm_Exact_product s m args below meth c s.heap [] 0 0 (MQ below (vp_Sl (fun r => r = r0)) args s 0 0 (fun _ => False)) (F0 m 0 ls []) := by
  obtain ⟨hx, hb, hml, hown, hts, hr, hlocks⟩ := id hC
  intro v0 v2 v4 ls hl h
  rw [f_Exact_product_0] at h
  refine lv_lload_n hx hb (dt_at dt_Exact_product 0 rfl) rfl (lv_at hl 0 rfl) ?_
  refine lv_lconst (v := 0) hx hb (dt_at dt_Exact_product 1 rfl) (by decide) ?_
  refine lc_eq (tgt := 12) hx hb (dt_at dt_Exact_product 2 rfl) (dt_at dt_Exact_product 3 rfl) (by decide) (fun c1 => ?_) (fun c1 => ?_)
  · have h := if_p h c1
    exact k_Exact_product_12 hC    ls (lv_sub hl [] rfl) h
  · have h := if_n h c1
    refine lv_lload_n hx hb (dt_at dt_Exact_product 4 rfl) rfl (lv_at hl 1 rfl) ?_
    refine lv_lconst (v := 0) hx hb (dt_at dt_Exact_product 5 rfl) (by decide) ?_
    refine lc_ne (tgt := 14) hx hb (dt_at dt_Exact_product 6 rfl) (dt_at dt_Exact_product 7 rfl) (by decide) (fun c2 => ?_) (fun c2 => ?_)
    · have h := if_n h c2
      refine lv_lload_n hx hb (dt_at dt_Exact_product 10 rfl) rfl (lv_at hl 0 rfl) ?_
      refine lv_lconst (v := 0) hx hb (dt_at dt_Exact_product 11 rfl) (by decide) ?_
      refine lc_ge (tgt := 24) hx hb (dt_at dt_Exact_product 12 rfl) (dt_at dt_Exact_product 13 rfl) (by decide) (fun c3 => ?_) (fun c3 => ?_)
      · have h := if_p h c3
        refine lv_iconst (v := 0) hx hb (dt_at dt_Exact_product 16 rfl) (by decide) ?_
        exact k_Exact_product_25 hC   (0 : Int32) v0 v2 v4 ls (lv_sub hl [0, 1, 2] rfl) h
      · have h := if_n h c3
        refine lv_iconst (v := 1) hx hb (dt_at dt_Exact_product 14 rfl) (by decide) ?_
        refine lv_goto (tgt := 25) hx hb (dt_at dt_Exact_product 15 rfl) (by decide) ?_
        exact k_Exact_product_25 hC   (1 : Int32) v0 v2 v4 ls (lv_sub hl [0, 1, 2] rfl) h
    · have h := if_p h c2
      exact k_Exact_product_12 hC    ls (lv_sub hl [] rfl) h
set_option maxRecDepth 100000 in
set_option maxHeartbeats 4000000 in
theorem c_Exact_product (l : Launch) (a0 : Int64) (a2 : Int64) (a4 : Int32) (r0 : Int64) (h : f_Exact_product a0 a2 a4 = some r0) : Met l (⟨"OutwardTape$Exact", "product", "(JJI)J"⟩ : MethodName) (WSm (⟨"OutwardTape$Exact", "product", "(JJI)J"⟩ : MethodName) prog_4_method_10_code 24 (some .long)) rm_Exact_product (va_Pc [.long a0, .long a2, .int a4] (fun _ => True)) (vp_Sl (fun r => r = r0)) 0 0 (fun _ => False) := by
  refine Met.ofW (cc := prog_4_method_10_code) (maxL := 24) (ret := (some .long)) (by decide) rfl ?_
  intro p e s m args below meth c s₁ B hml hv
  obtain ⟨rfl, -⟩ := hv
  have hC := CX.of B hml rfl
  have hl := lv_entry [.long a0, .long a2, .int a4] (n := 24) (Nat.le_of_ble_eq_true rfl)
  rw [lg_entry_eq]
  generalize (lg_sl [.long a0, .long a2, .int a4] ++ List.replicate (24 - (lg_sl [.long a0, .long a2, .int a4]).length) Slot.unset).toArray = ls at hl ⊢
  have hl : lv_has ls 24 [(0, .long a0), (2, .long a2), (4, .int a4)] := hl
  exact k_Exact_product_0 hC a0 a2 a4 ls (lv_sub hl [0, 1, 2] rfl) h
abbrev rm_Exact_quotient : Room := { frames := 3, cells := 0, slots := 0, locals := 72 }
set_option maxRecDepth 100000 in
set_option maxHeartbeats 4000000 in
theorem k_Exact_quotient_190 {p : Program} {l : Launch} {e : Env} {s : State} {m : MethodId} {args : Array Value} {below : List Frame} {meth : Method} {c : Code} (hC : CX p s m args meth c prog_4_method_12_code 16 "OutwardTape$Exact" (some .long)) {r0 : Int64} : ∀ (s0 : Int32) (s1 : Int64) (s2 : Int32) (v4 : Int32) (v12 : Int32) (ls : Array Slot), lv_has ls 16 [(4, .int v4), (12, .int v12)] → f_Exact_quotient_190  s0 s1 s2 v4 v12 = some r0 → W p l e rm_Exact_quotient s m args below meth c s.heap [] 0 0 (MQ below (vp_Sl (fun r => r = r0)) args s 0 0 (fun _ => False)) (F0 m 190 ls [.int s0, .long s1, .int s2]) := by
  obtain ⟨hx, hb, hml, hown, hts, hr, hlocks⟩ := id hC
  intro s0 s1 s2 v4 v12 ls hl h
  rw [f_Exact_quotient_190] at h
  obtain ⟨r1, h_r1, h⟩ := ob_of h
  refine vp_callSl (W.runS (As := [.long s1, .int s0]) (rest := [.int s2]) ⟨hx, hb, hml, hown, hts⟩ (c_Exact_traced l s1 s0 r1 h_r1) (va_cwS 2 hts (gd_S (m_1 195 rfl rfl) (m_1 196 rfl rfl) (m_1 16 rfl rfl) (m_1 197 rfl rfl)) rfl rfl rfl (by decide +kernel) ⟨Nat.le_of_ble_eq_true rfl, Nat.le_of_ble_eq_true rfl⟩) ⟨fun _ _ _ _ q => q, fun U hU hW => ⟨rfl, trivial⟩⟩ rfl rfl hl.1 rfl (lv_room (Nat.le_of_ble_eq_true rfl)) (dt_at dt_Exact_quotient 105 rfl) ⟨Nat.le_of_ble_eq_true rfl, Nat.le_of_ble_eq_true rfl⟩) (fun u_r1 q_r1 => ?_)
  obtain rfl : r1 = u_r1 := q_r1.symm
  refine lv_iload hx hb (dt_at dt_Exact_quotient 106 rfl) (lv_at hl 1 rfl) ?_
  refine lv_bipush (v := 60) hx hb (dt_at dt_Exact_quotient 107 rfl) (by decide) ?_
  refine lv_isub hx hb (dt_at dt_Exact_quotient 108 rfl) ?_
  refine lv_iload hx hb (dt_at dt_Exact_quotient 109 rfl) (lv_at hl 0 rfl) ?_
  obtain ⟨r2, h_r2, h⟩ := ob_of h
  refine vp_callSl (W.runS (As := [.int s2, .long r1, .int (v12 - (60 : Int32)), .int v4]) (rest := []) ⟨hx, hb, hml, hown, hts⟩ (c_Exact_rounded l s2 r1 (v12 - (60 : Int32)) v4 r2 h_r2) (va_cwS 4 hts (gd_S (m_1 198 rfl rfl) (m_1 199 rfl rfl) (m_1 16 rfl rfl) (m_1 200 rfl rfl)) rfl rfl rfl (by decide +kernel) ⟨Nat.le_of_ble_eq_true rfl, Nat.le_of_ble_eq_true rfl⟩) ⟨fun _ _ _ _ q => q, fun U hU hW => ⟨rfl, trivial⟩⟩ rfl rfl hl.1 rfl (lv_room (Nat.le_of_ble_eq_true rfl)) (dt_at dt_Exact_quotient 110 rfl) ⟨Nat.le_of_ble_eq_true rfl, Nat.le_of_ble_eq_true rfl⟩) (fun u_r2 q_r2 => ?_)
  obtain rfl : r2 = u_r2 := q_r2.symm
  have h := os_of h
  exact W.lret (v := r2) hx hb hr (fun t ht hW => ⟨_, rfl, h, ht⟩) (fun q hq => absurd hq List.not_mem_nil) (dt_at dt_Exact_quotient 111 rfl)
set_option maxRecDepth 100000 in
set_option maxHeartbeats 4000000 in
theorem k_Exact_quotient_162 {p : Program} {l : Launch} {e : Env} {s : State} {m : MethodId} {args : Array Value} {below : List Frame} {meth : Method} {c : Code} (hC : CX p s m args meth c prog_4_method_12_code 16 "OutwardTape$Exact" (some .long)) {r0 : Int64} (k128 : Int32 → Int32 → Int64 → Int64 → Int32 → Int64 → Int32 → Option (Int64)) (hk128 : ∀ (v4 : Int32) (v5 : Int32) (v8 : Int64) (v10 : Int64) (v12 : Int32) (v13 : Int64) (v15 : Int32) (ls : Array Slot), lv_has ls 16 [(4, .int v4), (5, .int v5), (8, .long v8), (10, .long v10), (12, .int v12), (13, .long v13), (15, .int v15)] → k128 v4 v5 v8 v10 v12 v13 v15 = some r0 → W p l e rm_Exact_quotient s m args below meth c s.heap [] 0 0 (MQ below (vp_Sl (fun r => r = r0)) args s 0 0 (fun _ => False)) (F0 m 128 ls [])) : ∀ (v4 : Int32) (v5 : Int32) (v8 : Int64) (v10 : Int64) (v12 : Int32) (v13 : Int64) (v15 : Int32) (ls : Array Slot), lv_has ls 16 [(4, .int v4), (5, .int v5), (8, .long v8), (10, .long v10), (12, .int v12), (13, .long v13), (15, .int v15)] → f_Exact_quotient_162 k128 v4 v5 v8 v10 v12 v13 v15 = some r0 → W p l e rm_Exact_quotient s m args below meth c s.heap [] 0 0 (MQ below (vp_Sl (fun r => r = r0)) args s 0 0 (fun _ => False)) (F0 m 162 ls []) := by
  obtain ⟨hx, hb, hml, hown, hts, hr, hlocks⟩ := id hC
  intro v4 v5 v8 v10 v12 v13 v15 ls hl h
  rw [f_Exact_quotient_162] at h
  refine lv_lload hx hb (dt_at dt_Exact_quotient 90 rfl) (lv_at hl 2 rfl) ?_
  refine lv_iconst (v := 1) hx hb (dt_at dt_Exact_quotient 91 rfl) (by decide) ?_
  refine lv_lshl (v := (j_lshl v8 (1 : Int32))) hx hb (dt_at dt_Exact_quotient 92 rfl) rfl ?_
  obtain ⟨t1, e_t1, h⟩ := ol_of h
  refine lv_topl (fun u_t1 q_t1 => ?_)
  obtain rfl : t1 = u_t1 := e_t1.trans q_t1.symm
  refine lv_lstore (lv' := [(8, .long t1), (4, .int v4), (5, .int v5), (10, .long v10), (12, .int v12), (13, .long v13), (15, .int v15)]) hx hb (dt_at dt_Exact_quotient 93 rfl) hl (by decide) rfl (fun ls hl => ?_)
  obtain ⟨t2, e_t2, h⟩ := ol_of h
  refine lv_iinc (v := t2) (lv' := [(15, .int t2), (8, .long t1), (4, .int v4), (5, .int v5), (10, .long v10), (12, .int v12), (13, .long v13)]) hx hb (dt_at dt_Exact_quotient 94 rfl) hl (k := 6) rfl (by rw [e_t2]; rfl) (by decide) rfl (fun ls hl => ?_)
  refine lv_goto (tgt := 128) hx hb (dt_at dt_Exact_quotient 95 rfl) (by decide) ?_
  exact hk128 v4 v5 t1 v10 v12 v13 t2 ls (lv_sub hl [2, 3, 1, 4, 5, 6, 0] rfl) h
set_option maxRecDepth 100000 in
set_option maxHeartbeats 4000000 in
theorem k_Exact_quotient_128 {p : Program} {l : Launch} {e : Env} {s : State} {m : MethodId} {args : Array Value} {below : List Frame} {meth : Method} {c : Code} (hC : CX p s m args meth c prog_4_method_12_code 16 "OutwardTape$Exact" (some .long)) {r0 : Int64} : ∀ n : Nat, ∀ (v4 : Int32) (v5 : Int32) (v8 : Int64) (v10 : Int64) (v12 : Int32) (v13 : Int64) (v15 : Int32) (ls : Array Slot), lv_has ls 16 [(4, .int v4), (5, .int v5), (8, .long v8), (10, .long v10), (12, .int v12), (13, .long v13), (15, .int v15)] → f_Exact_quotient_128  n v4 v5 v8 v10 v12 v13 v15 = some r0 → W p l e rm_Exact_quotient s m args below meth c s.heap [] 0 0 (MQ below (vp_Sl (fun r => r = r0)) args s 0 0 (fun _ => False)) (F0 m 128 ls []) := by
  obtain ⟨hx, hb, hml, hown, hts, hr, hlocks⟩ := id hC
  intro n
  induction n with
  | zero => intro v4 v5 v8 v10 v12 v13 v15 ls hl h; cases h
  | succ n ih =>
    intro v4 v5 v8 v10 v12 v13 v15 ls hl h
    rw [f_Exact_quotient_128] at h
    refine lv_iload hx hb (dt_at dt_Exact_quotient 71 rfl) (lv_at hl 6 rfl) ?_
    refine lv_bipush (v := 60) hx hb (dt_at dt_Exact_quotient 72 rfl) (by decide) ?_
    refine lv_icmp_gt (tgt := 174) hx hb (dt_at dt_Exact_quotient 73 rfl) (by decide) (fun c1 => ?_) (fun c1 => ?_)
    · have h := if_p h c1
      refine lv_iload hx hb (dt_at dt_Exact_quotient 96 rfl) (lv_at hl 1 rfl) ?_
      refine lv_lload hx hb (dt_at dt_Exact_quotient 97 rfl) (lv_at hl 5 rfl) ?_
      refine lv_lload hx hb (dt_at dt_Exact_quotient 98 rfl) (lv_at hl 2 rfl) ?_
      refine lv_lconst (v := 0) hx hb (dt_at dt_Exact_quotient 99 rfl) (by decide) ?_
      refine lc_eq (tgt := 189) hx hb (dt_at dt_Exact_quotient 100 rfl) (dt_at dt_Exact_quotient 101 rfl) (by decide) (fun c2 => ?_) (fun c2 => ?_)
      · have h := if_p h c2
        refine lv_iconst (v := 0) hx hb (dt_at dt_Exact_quotient 104 rfl) (by decide) ?_
        exact k_Exact_quotient_190 hC   (0 : Int32) v13 v5 v4 v12 ls (lv_sub hl [0, 4] rfl) h
      · have h := if_n h c2
        refine lv_iconst (v := 1) hx hb (dt_at dt_Exact_quotient 102 rfl) (by decide) ?_
        refine lv_goto (tgt := 190) hx hb (dt_at dt_Exact_quotient 103 rfl) (by decide) ?_
        exact k_Exact_quotient_190 hC   (1 : Int32) v13 v5 v4 v12 ls (lv_sub hl [0, 4] rfl) h
    · have h := if_n h c1
      refine lv_lload hx hb (dt_at dt_Exact_quotient 74 rfl) (lv_at hl 5 rfl) ?_
      refine lv_iconst (v := 1) hx hb (dt_at dt_Exact_quotient 75 rfl) (by decide) ?_
      refine lv_lshl (v := (j_lshl v13 (1 : Int32))) hx hb (dt_at dt_Exact_quotient 76 rfl) rfl ?_
      obtain ⟨t3, e_t3, h⟩ := ol_of h
      refine lv_topl (fun u_t3 q_t3 => ?_)
      obtain rfl : t3 = u_t3 := e_t3.trans q_t3.symm
      refine lv_lstore (lv' := [(13, .long t3), (4, .int v4), (5, .int v5), (8, .long v8), (10, .long v10), (12, .int v12), (15, .int v15)]) hx hb (dt_at dt_Exact_quotient 77 rfl) hl (by decide) rfl (fun ls hl => ?_)
      refine lv_lload hx hb (dt_at dt_Exact_quotient 78 rfl) (lv_at hl 3 rfl) ?_
      refine lv_lload hx hb (dt_at dt_Exact_quotient 79 rfl) (lv_at hl 4 rfl) ?_
      refine lc_lt (tgt := 162) hx hb (dt_at dt_Exact_quotient 80 rfl) (dt_at dt_Exact_quotient 81 rfl) (by decide) (fun c4 => ?_) (fun c4 => ?_)
      · have h := if_p h c4
        exact k_Exact_quotient_162 hC (f_Exact_quotient_128  n) ih  v4 v5 v8 v10 v12 t3 v15 ls (lv_sub hl [1, 2, 3, 4, 5, 0, 6] rfl) h
      · have h := if_n h c4
        refine lv_lload hx hb (dt_at dt_Exact_quotient 82 rfl) (lv_at hl 3 rfl) ?_
        refine lv_lload hx hb (dt_at dt_Exact_quotient 83 rfl) (lv_at hl 4 rfl) ?_
        refine lv_lsub hx hb (dt_at dt_Exact_quotient 84 rfl) ?_
        obtain ⟨t5, e_t5, h⟩ := ol_of h
        refine lv_topl (fun u_t5 q_t5 => ?_)
        obtain rfl : t5 = u_t5 := e_t5.trans q_t5.symm
        refine lv_lstore (lv' := [(8, .long t5), (13, .long t3), (4, .int v4), (5, .int v5), (10, .long v10), (12, .int v12), (15, .int v15)]) hx hb (dt_at dt_Exact_quotient 85 rfl) hl (by decide) rfl (fun ls hl => ?_)
        refine lv_lload hx hb (dt_at dt_Exact_quotient 86 rfl) (lv_at hl 1 rfl) ?_
        refine lv_lconst (v := 1) hx hb (dt_at dt_Exact_quotient 87 rfl) (by decide) ?_
        refine lv_lor hx hb (dt_at dt_Exact_quotient 88 rfl) ?_
        obtain ⟨t6, e_t6, h⟩ := ol_of h
        refine lv_topl (fun u_t6 q_t6 => ?_)
        obtain rfl : t6 = u_t6 := e_t6.trans q_t6.symm
        refine lv_lstore (lv' := [(13, .long t6), (8, .long t5), (4, .int v4), (5, .int v5), (10, .long v10), (12, .int v12), (15, .int v15)]) hx hb (dt_at dt_Exact_quotient 89 rfl) hl (by decide) rfl (fun ls hl => ?_)
        exact k_Exact_quotient_162 hC (f_Exact_quotient_128  n) ih  v4 v5 t5 v10 v12 t6 v15 ls (lv_sub hl [2, 3, 1, 4, 5, 0, 6] rfl) h
set_option maxRecDepth 100000 in
set_option maxHeartbeats 4000000 in
theorem k_Exact_quotient_74 {p : Program} {l : Launch} {e : Env} {s : State} {m : MethodId} {args : Array Value} {below : List Frame} {meth : Method} {c : Code} (hC : CX p s m args meth c prog_4_method_12_code 16 "OutwardTape$Exact" (some .long)) {r0 : Int64} : ∀ (s0 : Int64) (ls : Array Slot), lv_has ls 16 [] → f_Exact_quotient_74  s0 = some r0 → W p l e rm_Exact_quotient s m args below meth c s.heap [] 0 0 (MQ below (vp_Sl (fun r => r = r0)) args s 0 0 (fun _ => False)) (F0 m 74 ls [.long s0]) := by
  obtain ⟨hx, hb, hml, hown, hts, hr, hlocks⟩ := id hC
  intro s0 ls hl h
  rw [f_Exact_quotient_74] at h
  have h := os_of h
  exact W.lret (v := s0) hx hb hr (fun t ht hW => ⟨_, rfl, h, ht⟩) (fun q hq => absurd hq List.not_mem_nil) (dt_at dt_Exact_quotient 40 rfl)
set_option maxRecDepth 100000 in
set_option maxHeartbeats 4000000 in
theorem k_Exact_quotient_60 {p : Program} {l : Launch} {e : Env} {s : State} {m : MethodId} {args : Array Value} {below : List Frame} {meth : Method} {c : Code} (hC : CX p s m args meth c prog_4_method_12_code 16 "OutwardTape$Exact" (some .long)) {r0 : Int64} : ∀ (v5 : Int32) (ls : Array Slot), lv_has ls 16 [(5, .int v5)] → f_Exact_quotient_60  v5 = some r0 → W p l e rm_Exact_quotient s m args below meth c s.heap [] 0 0 (MQ below (vp_Sl (fun r => r = r0)) args s 0 0 (fun _ => False)) (F0 m 60 ls []) := by
  obtain ⟨hx, hb, hml, hown, hts, hr, hlocks⟩ := id hC
  intro v5 ls hl h
  rw [f_Exact_quotient_60] at h
  refine lv_iload hx hb (dt_at dt_Exact_quotient 35 rfl) (lv_at hl 0 rfl) ?_
  refine lv_if_eq (tgt := 71) hx hb (dt_at dt_Exact_quotient 36 rfl) (by decide) (fun c1 => ?_) (fun c1 => ?_)
  · have h := if_p h c1
    refine lv_ldc2 (v := 9218868437227405312) hx hb hown (hts (Cond.constantLong "OutwardTape$Exact" 26 (9218868437227405312)) (m_1 209 rfl rfl)) (dt_at dt_Exact_quotient 39 rfl) ?_
    exact k_Exact_quotient_74 hC   (9218868437227405312 : Int64) ls (lv_sub hl [] rfl) h
  · have h := if_n h c1
    refine lv_ldc2 (v := -9218868437227405312) hx hb hown (hts (Cond.constantLong "OutwardTape$Exact" 61 (-9218868437227405312)) (m_3 138 rfl rfl)) (dt_at dt_Exact_quotient 37 rfl) ?_
    refine lv_goto (tgt := 74) hx hb (dt_at dt_Exact_quotient 38 rfl) (by decide) ?_
    exact k_Exact_quotient_74 hC   (-9218868437227405312 : Int64) ls (lv_sub hl [] rfl) h
set_option maxRecDepth 100000 in
set_option maxHeartbeats 4000000 in
theorem k_Exact_quotient_45 {p : Program} {l : Launch} {e : Env} {s : State} {m : MethodId} {args : Array Value} {below : List Frame} {meth : Method} {c : Code} (hC : CX p s m args meth c prog_4_method_12_code 16 "OutwardTape$Exact" (some .long)) {r0 : Int64} : ∀ (s0 : Int32) (v0 : Int64) (v2 : Int64) (v4 : Int32) (ls : Array Slot), lv_has ls 16 [(0, .long v0), (2, .long v2), (4, .int v4)] → f_Exact_quotient_45  s0 v0 v2 v4 = some r0 → W p l e rm_Exact_quotient s m args below meth c s.heap [] 0 0 (MQ below (vp_Sl (fun r => r = r0)) args s 0 0 (fun _ => False)) (F0 m 45 ls [.int s0]) := by
  obtain ⟨hx, hb, hml, hown, hts, hr, hlocks⟩ := id hC
  intro s0 v0 v2 v4 ls hl h
  rw [f_Exact_quotient_45] at h
  refine lv_istore (lv' := [(5, .int s0), (0, .long v0), (2, .long v2), (4, .int v4)]) hx hb (dt_at dt_Exact_quotient 27 rfl) hl (by decide) rfl (fun ls hl => ?_)
  refine lv_lload_n hx hb (dt_at dt_Exact_quotient 28 rfl) rfl (lv_at hl 2 rfl) ?_
  refine lv_lconst (v := 0) hx hb (dt_at dt_Exact_quotient 29 rfl) (by decide) ?_
  refine lc_eq (tgt := 60) hx hb (dt_at dt_Exact_quotient 30 rfl) (dt_at dt_Exact_quotient 31 rfl) (by decide) (fun c1 => ?_) (fun c1 => ?_)
  · have h := if_p h c1
    exact k_Exact_quotient_60 hC   s0 ls (lv_sub hl [0] rfl) h
  · have h := if_n h c1
    refine lv_lload_n hx hb (dt_at dt_Exact_quotient 32 rfl) rfl (lv_at hl 1 rfl) ?_
    obtain ⟨r2, h_r2, h⟩ := ob_of h
    refine vp_callSi (W.runS (As := [.long v0]) (rest := []) ⟨hx, hb, hml, hown, hts⟩ (c_Rank_isFinite l v0 r2 h_r2) (va_cwS 1 hts (gd_S (m_1 173 rfl rfl) (m_1 153 rfl rfl) (m_1 15 rfl rfl) (m_1 154 rfl rfl)) rfl rfl rfl (by decide +kernel) ⟨Nat.le_of_ble_eq_true rfl, Nat.le_of_ble_eq_true rfl⟩) ⟨fun _ _ _ _ q => q, fun U hU hW => ⟨rfl, trivial⟩⟩ rfl rfl hl.1 rfl (lv_room (Nat.le_of_ble_eq_true rfl)) (dt_at dt_Exact_quotient 33 rfl) ⟨Nat.le_of_ble_eq_true rfl, Nat.le_of_ble_eq_true rfl⟩) (fun u_r2 q_r2 => ?_)
    obtain rfl : r2 = u_r2 := q_r2.symm
    refine lv_if_ne (tgt := 75) hx hb (dt_at dt_Exact_quotient 34 rfl) (by decide) (fun c3 => ?_) (fun c3 => ?_)
    · have h := if_n h c3
      refine lv_lload_n hx hb (dt_at dt_Exact_quotient 41 rfl) rfl (lv_at hl 1 rfl) ?_
      obtain ⟨r4, h_r4, h⟩ := ob_of h
      refine vp_callSi (W.runS (As := [.long v0]) (rest := []) ⟨hx, hb, hml, hown, hts⟩ (c_Exact_lift l v0 r4 h_r4) (va_cwS 1 hts (gd_S (m_3 139 rfl rfl) (m_3 140 rfl rfl) (m_1 16 rfl rfl) (m_3 141 rfl rfl)) rfl rfl rfl (by decide +kernel) ⟨Nat.le_of_ble_eq_true rfl, Nat.le_of_ble_eq_true rfl⟩) ⟨fun _ _ _ _ q => q, fun U hU hW => ⟨rfl, trivial⟩⟩ rfl rfl hl.1 rfl (lv_room (Nat.le_of_ble_eq_true rfl)) (dt_at dt_Exact_quotient 42 rfl) ⟨Nat.le_of_ble_eq_true rfl, Nat.le_of_ble_eq_true rfl⟩) (fun u_r4 q_r4 => ?_)
      obtain rfl : r4 = u_r4 := q_r4.symm
      refine lv_istore (lv' := [(6, .int r4), (5, .int s0), (0, .long v0), (2, .long v2), (4, .int v4)]) hx hb (dt_at dt_Exact_quotient 43 rfl) hl (by decide) rfl (fun ls hl => ?_)
      refine lv_lload_n hx hb (dt_at dt_Exact_quotient 44 rfl) rfl (lv_at hl 3 rfl) ?_
      obtain ⟨r5, h_r5, h⟩ := ob_of h
      refine vp_callSi (W.runS (As := [.long v2]) (rest := []) ⟨hx, hb, hml, hown, hts⟩ (c_Exact_lift l v2 r5 h_r5) (va_cwS 1 hts (gd_S (m_3 139 rfl rfl) (m_3 140 rfl rfl) (m_1 16 rfl rfl) (m_3 141 rfl rfl)) rfl rfl rfl (by decide +kernel) ⟨Nat.le_of_ble_eq_true rfl, Nat.le_of_ble_eq_true rfl⟩) ⟨fun _ _ _ _ q => q, fun U hU hW => ⟨rfl, trivial⟩⟩ rfl rfl hl.1 rfl (lv_room (Nat.le_of_ble_eq_true rfl)) (dt_at dt_Exact_quotient 45 rfl) ⟨Nat.le_of_ble_eq_true rfl, Nat.le_of_ble_eq_true rfl⟩) (fun u_r5 q_r5 => ?_)
      obtain rfl : r5 = u_r5 := q_r5.symm
      refine lv_istore (lv' := [(7, .int r5), (6, .int r4), (5, .int s0), (0, .long v0), (2, .long v2), (4, .int v4)]) hx hb (dt_at dt_Exact_quotient 46 rfl) hl (by decide) rfl (fun ls hl => ?_)
      refine lv_lload_n hx hb (dt_at dt_Exact_quotient 47 rfl) rfl (lv_at hl 3 rfl) ?_
      obtain ⟨r6, h_r6, h⟩ := ob_of h
      refine vp_callSl (W.runS (As := [.long v0]) (rest := []) ⟨hx, hb, hml, hown, hts⟩ (c_Rank_significand l v0 r6 h_r6) (va_cwS 1 hts (gd_S (m_1 187 rfl rfl) (m_1 188 rfl rfl) (m_1 15 rfl rfl) (m_1 189 rfl rfl)) rfl rfl rfl (by decide +kernel) ⟨Nat.le_of_ble_eq_true rfl, Nat.le_of_ble_eq_true rfl⟩) ⟨fun _ _ _ _ q => q, fun U hU hW => ⟨rfl, trivial⟩⟩ rfl rfl hl.1 rfl (lv_room (Nat.le_of_ble_eq_true rfl)) (dt_at dt_Exact_quotient 48 rfl) ⟨Nat.le_of_ble_eq_true rfl, Nat.le_of_ble_eq_true rfl⟩) (fun u_r6 q_r6 => ?_)
      obtain rfl : r6 = u_r6 := q_r6.symm
      refine lv_iload hx hb (dt_at dt_Exact_quotient 49 rfl) (lv_at hl 1 rfl) ?_
      refine lv_lshl (v := (j_lshl r6 r4)) hx hb (dt_at dt_Exact_quotient 50 rfl) rfl ?_
      obtain ⟨t7, e_t7, h⟩ := ol_of h
      refine lv_topl (fun u_t7 q_t7 => ?_)
      obtain rfl : t7 = u_t7 := e_t7.trans q_t7.symm
      refine lv_lstore (lv' := [(8, .long t7), (7, .int r5), (6, .int r4), (5, .int s0), (0, .long v0), (2, .long v2), (4, .int v4)]) hx hb (dt_at dt_Exact_quotient 51 rfl) hl (by decide) rfl (fun ls hl => ?_)
      refine lv_lload_n hx hb (dt_at dt_Exact_quotient 52 rfl) rfl (lv_at hl 5 rfl) ?_
      obtain ⟨r8, h_r8, h⟩ := ob_of h
      refine vp_callSl (W.runS (As := [.long v2]) (rest := []) ⟨hx, hb, hml, hown, hts⟩ (c_Rank_significand l v2 r8 h_r8) (va_cwS 1 hts (gd_S (m_1 187 rfl rfl) (m_1 188 rfl rfl) (m_1 15 rfl rfl) (m_1 189 rfl rfl)) rfl rfl rfl (by decide +kernel) ⟨Nat.le_of_ble_eq_true rfl, Nat.le_of_ble_eq_true rfl⟩) ⟨fun _ _ _ _ q => q, fun U hU hW => ⟨rfl, trivial⟩⟩ rfl rfl hl.1 rfl (lv_room (Nat.le_of_ble_eq_true rfl)) (dt_at dt_Exact_quotient 53 rfl) ⟨Nat.le_of_ble_eq_true rfl, Nat.le_of_ble_eq_true rfl⟩) (fun u_r8 q_r8 => ?_)
      obtain rfl : r8 = u_r8 := q_r8.symm
      refine lv_iload hx hb (dt_at dt_Exact_quotient 54 rfl) (lv_at hl 1 rfl) ?_
      refine lv_lshl (v := (j_lshl r8 r5)) hx hb (dt_at dt_Exact_quotient 55 rfl) rfl ?_
      obtain ⟨t9, e_t9, h⟩ := ol_of h
      refine lv_topl (fun u_t9 q_t9 => ?_)
      obtain rfl : t9 = u_t9 := e_t9.trans q_t9.symm
      refine lv_lstore (lv' := [(10, .long t9), (8, .long t7), (7, .int r5), (6, .int r4), (5, .int s0), (0, .long v0), (2, .long v2), (4, .int v4)]) hx hb (dt_at dt_Exact_quotient 56 rfl) hl (by decide) rfl (fun ls hl => ?_)
      refine lv_lload_n hx hb (dt_at dt_Exact_quotient 57 rfl) rfl (lv_at hl 5 rfl) ?_
      obtain ⟨r10, h_r10, h⟩ := ob_of h
      refine vp_callSi (W.runS (As := [.long v0]) (rest := []) ⟨hx, hb, hml, hown, hts⟩ (c_Rank_exponent l v0 r10 h_r10) (va_cwS 1 hts (gd_S (m_1 180 rfl rfl) (m_1 181 rfl rfl) (m_1 15 rfl rfl) (m_1 182 rfl rfl)) rfl rfl rfl (by decide +kernel) ⟨Nat.le_of_ble_eq_true rfl, Nat.le_of_ble_eq_true rfl⟩) ⟨fun _ _ _ _ q => q, fun U hU hW => ⟨rfl, trivial⟩⟩ rfl rfl hl.1 rfl (lv_room (Nat.le_of_ble_eq_true rfl)) (dt_at dt_Exact_quotient 58 rfl) ⟨Nat.le_of_ble_eq_true rfl, Nat.le_of_ble_eq_true rfl⟩) (fun u_r10 q_r10 => ?_)
      obtain rfl : r10 = u_r10 := q_r10.symm
      refine lv_iload hx hb (dt_at dt_Exact_quotient 59 rfl) (lv_at hl 3 rfl) ?_
      refine lv_isub hx hb (dt_at dt_Exact_quotient 60 rfl) ?_
      refine lv_lload_n hx hb (dt_at dt_Exact_quotient 61 rfl) rfl (lv_at hl 6 rfl) ?_
      obtain ⟨r11, h_r11, h⟩ := ob_of h
      refine vp_callSi (W.runS (As := [.long v2]) (rest := [.int (r10 - r4)]) ⟨hx, hb, hml, hown, hts⟩ (c_Rank_exponent l v2 r11 h_r11) (va_cwS 1 hts (gd_S (m_1 180 rfl rfl) (m_1 181 rfl rfl) (m_1 15 rfl rfl) (m_1 182 rfl rfl)) rfl rfl rfl (by decide +kernel) ⟨Nat.le_of_ble_eq_true rfl, Nat.le_of_ble_eq_true rfl⟩) ⟨fun _ _ _ _ q => q, fun U hU hW => ⟨rfl, trivial⟩⟩ rfl rfl hl.1 rfl (lv_room (Nat.le_of_ble_eq_true rfl)) (dt_at dt_Exact_quotient 62 rfl) ⟨Nat.le_of_ble_eq_true rfl, Nat.le_of_ble_eq_true rfl⟩) (fun u_r11 q_r11 => ?_)
      obtain rfl : r11 = u_r11 := q_r11.symm
      refine lv_isub hx hb (dt_at dt_Exact_quotient 63 rfl) ?_
      refine lv_iload hx hb (dt_at dt_Exact_quotient 64 rfl) (lv_at hl 2 rfl) ?_
      refine lv_iadd hx hb (dt_at dt_Exact_quotient 65 rfl) ?_
      obtain ⟨t12, e_t12, h⟩ := ol_of h
      refine lv_topi (fun u_t12 q_t12 => ?_)
      obtain rfl : t12 = u_t12 := e_t12.trans q_t12.symm
      refine lv_istore (lv' := [(12, .int t12), (10, .long t9), (8, .long t7), (7, .int r5), (6, .int r4), (5, .int s0), (0, .long v0), (2, .long v2), (4, .int v4)]) hx hb (dt_at dt_Exact_quotient 66 rfl) hl (by decide) rfl (fun ls hl => ?_)
      refine lv_lconst (v := 0) hx hb (dt_at dt_Exact_quotient 67 rfl) (by decide) ?_
      refine lv_lstore (lv' := [(13, .long (0 : Int64)), (12, .int t12), (10, .long t9), (8, .long t7), (7, .int r5), (6, .int r4), (5, .int s0), (0, .long v0), (2, .long v2), (4, .int v4)]) hx hb (dt_at dt_Exact_quotient 68 rfl) hl (by decide) rfl (fun ls hl => ?_)
      refine lv_iconst (v := 0) hx hb (dt_at dt_Exact_quotient 69 rfl) (by decide) ?_
      refine lv_istore (lv' := [(15, .int (0 : Int32)), (13, .long (0 : Int64)), (12, .int t12), (10, .long t9), (8, .long t7), (7, .int r5), (6, .int r4), (5, .int s0), (0, .long v0), (2, .long v2), (4, .int v4)]) hx hb (dt_at dt_Exact_quotient 70 rfl) hl (by decide) rfl (fun ls hl => ?_)
      exact k_Exact_quotient_128 hC  5000 v4 s0 t7 t9 t12 (0 : Int64) (0 : Int32) ls (lv_sub hl [10, 7, 4, 3, 2, 1, 0] rfl) h
    · have h := if_p h c3
      exact k_Exact_quotient_60 hC   s0 ls (lv_sub hl [0] rfl) h
set_option maxRecDepth 100000 in
set_option maxHeartbeats 4000000 in
theorem k_Exact_quotient_37 {p : Program} {l : Launch} {e : Env} {s : State} {m : MethodId} {args : Array Value} {below : List Frame} {meth : Method} {c : Code} (hC : CX p s m args meth c prog_4_method_12_code 16 "OutwardTape$Exact" (some .long)) {r0 : Int64} : ∀ (s0 : Int32) (s1 : Int32) (v0 : Int64) (v2 : Int64) (v4 : Int32) (ls : Array Slot), lv_has ls 16 [(0, .long v0), (2, .long v2), (4, .int v4)] → f_Exact_quotient_37  s0 s1 v0 v2 v4 = some r0 → W p l e rm_Exact_quotient s m args below meth c s.heap [] 0 0 (MQ below (vp_Sl (fun r => r = r0)) args s 0 0 (fun _ => False)) (F0 m 37 ls [.int s0, .int s1]) := by
  obtain ⟨hx, hb, hml, hown, hts, hr, hlocks⟩ := id hC
  intro s0 s1 v0 v2 v4 ls hl h
  rw [f_Exact_quotient_37] at h
  refine lv_icmp_eq (tgt := 44) hx hb (dt_at dt_Exact_quotient 23 rfl) (by decide) (fun c1 => ?_) (fun c1 => ?_)
  · have h := if_p h c1
    refine lv_iconst (v := 0) hx hb (dt_at dt_Exact_quotient 26 rfl) (by decide) ?_
    exact k_Exact_quotient_45 hC   (0 : Int32) v0 v2 v4 ls (lv_sub hl [0, 1, 2] rfl) h
  · have h := if_n h c1
    refine lv_iconst (v := 1) hx hb (dt_at dt_Exact_quotient 24 rfl) (by decide) ?_
    refine lv_goto (tgt := 45) hx hb (dt_at dt_Exact_quotient 25 rfl) (by decide) ?_
    exact k_Exact_quotient_45 hC   (1 : Int32) v0 v2 v4 ls (lv_sub hl [0, 1, 2] rfl) h
set_option maxRecDepth 100000 in
set_option maxHeartbeats 4000000 in
theorem k_Exact_quotient_26 {p : Program} {l : Launch} {e : Env} {s : State} {m : MethodId} {args : Array Value} {below : List Frame} {meth : Method} {c : Code} (hC : CX p s m args meth c prog_4_method_12_code 16 "OutwardTape$Exact" (some .long)) {r0 : Int64} : ∀ (s0 : Int32) (v0 : Int64) (v2 : Int64) (v4 : Int32) (ls : Array Slot), lv_has ls 16 [(0, .long v0), (2, .long v2), (4, .int v4)] → f_Exact_quotient_26  s0 v0 v2 v4 = some r0 → W p l e rm_Exact_quotient s m args below meth c s.heap [] 0 0 (MQ below (vp_Sl (fun r => r = r0)) args s 0 0 (fun _ => False)) (F0 m 26 ls [.int s0]) := by
  obtain ⟨hx, hb, hml, hown, hts, hr, hlocks⟩ := id hC
  intro s0 v0 v2 v4 ls hl h
  rw [f_Exact_quotient_26] at h
  refine lv_lload_n hx hb (dt_at dt_Exact_quotient 16 rfl) rfl (lv_at hl 1 rfl) ?_
  refine lv_lconst (v := 0) hx hb (dt_at dt_Exact_quotient 17 rfl) (by decide) ?_
  refine lc_ge (tgt := 36) hx hb (dt_at dt_Exact_quotient 18 rfl) (dt_at dt_Exact_quotient 19 rfl) (by decide) (fun c1 => ?_) (fun c1 => ?_)
  · have h := if_p h c1
    refine lv_iconst (v := 0) hx hb (dt_at dt_Exact_quotient 22 rfl) (by decide) ?_
    exact k_Exact_quotient_37 hC   (0 : Int32) s0 v0 v2 v4 ls (lv_sub hl [0, 1, 2] rfl) h
  · have h := if_n h c1
    refine lv_iconst (v := 1) hx hb (dt_at dt_Exact_quotient 20 rfl) (by decide) ?_
    refine lv_goto (tgt := 37) hx hb (dt_at dt_Exact_quotient 21 rfl) (by decide) ?_
    exact k_Exact_quotient_37 hC   (1 : Int32) s0 v0 v2 v4 ls (lv_sub hl [0, 1, 2] rfl) h
set_option maxRecDepth 100000 in
set_option maxHeartbeats 4000000 in
theorem k_Exact_quotient_13 {p : Program} {l : Launch} {e : Env} {s : State} {m : MethodId} {args : Array Value} {below : List Frame} {meth : Method} {c : Code} (hC : CX p s m args meth c prog_4_method_12_code 16 "OutwardTape$Exact" (some .long)) {r0 : Int64} : ∀  (ls : Array Slot), lv_has ls 16 [] → f_Exact_quotient_13   = some r0 → W p l e rm_Exact_quotient s m args below meth c s.heap [] 0 0 (MQ below (vp_Sl (fun r => r = r0)) args s 0 0 (fun _ => False)) (F0 m 13 ls []) := by
  obtain ⟨hx, hb, hml, hown, hts, hr, hlocks⟩ := id hC
  intro ls hl h
  rw [f_Exact_quotient_13] at h
  refine lv_lconst (v := 0) hx hb (dt_at dt_Exact_quotient 7 rfl) (by decide) ?_
  have h := os_of h
  exact W.lret (v := (0 : Int64)) hx hb hr (fun t ht hW => ⟨_, rfl, h, ht⟩) (fun q hq => absurd hq List.not_mem_nil) (dt_at dt_Exact_quotient 8 rfl)
set_option maxRecDepth 100000 in
set_option maxHeartbeats 4000000 in
theorem k_Exact_quotient_0 {p : Program} {l : Launch} {e : Env} {s : State} {m : MethodId} {args : Array Value} {below : List Frame} {meth : Method} {c : Code} (hC : CX p s m args meth c prog_4_method_12_code 16 "OutwardTape$Exact" (some .long)) {r0 : Int64} : ∀ (v0 : Int64) (v2 : Int64) (v4 : Int32) (ls : Array Slot), lv_has ls 16 [(0, .long v0), (2, .long v2), (4, .int v4)] → f_Exact_quotient_0  v0 v2 v4 = some r0 → W p l e rm_Exact_quotient s m args below meth c s.heap [] 0 0 (MQ below (vp_Sl (fun r => r = r0)) args s 0 0 (fun _ => False)) (F0 m 0 ls []) := by
  obtain ⟨hx, hb, hml, hown, hts, hr, hlocks⟩ := id hC
  intro v0 v2 v4 ls hl h
  rw [f_Exact_quotient_0] at h
  refine lv_lload_n hx hb (dt_at dt_Exact_quotient 0 rfl) rfl (lv_at hl 0 rfl) ?_
  refine lv_lconst (v := 0) hx hb (dt_at dt_Exact_quotient 1 rfl) (by decide) ?_
  refine lc_eq (tgt := 13) hx hb (dt_at dt_Exact_quotient 2 rfl) (dt_at dt_Exact_quotient 3 rfl) (by decide) (fun c1 => ?_) (fun c1 => ?_)
  · have h := if_p h c1
    exact k_Exact_quotient_13 hC    ls (lv_sub hl [] rfl) h
  · have h := if_n h c1
    refine lv_lload_n hx hb (dt_at dt_Exact_quotient 4 rfl) rfl (lv_at hl 1 rfl) ?_
    obtain ⟨r2, h_r2, h⟩ := ob_of h
    refine vp_callSi (W.runS (As := [.long v2]) (rest := []) ⟨hx, hb, hml, hown, hts⟩ (c_Rank_isFinite l v2 r2 h_r2) (va_cwS 1 hts (gd_S (m_1 173 rfl rfl) (m_1 153 rfl rfl) (m_1 15 rfl rfl) (m_1 154 rfl rfl)) rfl rfl rfl (by decide +kernel) ⟨Nat.le_of_ble_eq_true rfl, Nat.le_of_ble_eq_true rfl⟩) ⟨fun _ _ _ _ q => q, fun U hU hW => ⟨rfl, trivial⟩⟩ rfl rfl hl.1 rfl (lv_room (Nat.le_of_ble_eq_true rfl)) (dt_at dt_Exact_quotient 5 rfl) ⟨Nat.le_of_ble_eq_true rfl, Nat.le_of_ble_eq_true rfl⟩) (fun u_r2 q_r2 => ?_)
    obtain rfl : r2 = u_r2 := q_r2.symm
    refine lv_if_ne (tgt := 15) hx hb (dt_at dt_Exact_quotient 6 rfl) (by decide) (fun c3 => ?_) (fun c3 => ?_)
    · have h := if_n h c3
      refine lv_lload_n hx hb (dt_at dt_Exact_quotient 9 rfl) rfl (lv_at hl 0 rfl) ?_
      refine lv_lconst (v := 0) hx hb (dt_at dt_Exact_quotient 10 rfl) (by decide) ?_
      refine lc_ge (tgt := 25) hx hb (dt_at dt_Exact_quotient 11 rfl) (dt_at dt_Exact_quotient 12 rfl) (by decide) (fun c4 => ?_) (fun c4 => ?_)
      · have h := if_p h c4
        refine lv_iconst (v := 0) hx hb (dt_at dt_Exact_quotient 15 rfl) (by decide) ?_
        exact k_Exact_quotient_26 hC   (0 : Int32) v0 v2 v4 ls (lv_sub hl [0, 1, 2] rfl) h
      · have h := if_n h c4
        refine lv_iconst (v := 1) hx hb (dt_at dt_Exact_quotient 13 rfl) (by decide) ?_
        refine lv_goto (tgt := 26) hx hb (dt_at dt_Exact_quotient 14 rfl) (by decide) ?_
        exact k_Exact_quotient_26 hC   (1 : Int32) v0 v2 v4 ls (lv_sub hl [0, 1, 2] rfl) h
    · have h := if_p h c3
      exact k_Exact_quotient_13 hC    ls (lv_sub hl [] rfl) h
set_option maxRecDepth 100000 in
set_option maxHeartbeats 4000000 in
theorem c_Exact_quotient (l : Launch) (a0 : Int64) (a2 : Int64) (a4 : Int32) (r0 : Int64) (h : f_Exact_quotient a0 a2 a4 = some r0) : Met l (⟨"OutwardTape$Exact", "quotient", "(JJI)J"⟩ : MethodName) (WSm (⟨"OutwardTape$Exact", "quotient", "(JJI)J"⟩ : MethodName) prog_4_method_12_code 16 (some .long)) rm_Exact_quotient (va_Pc [.long a0, .long a2, .int a4] (fun _ => True)) (vp_Sl (fun r => r = r0)) 0 0 (fun _ => False) := by
  refine Met.ofW (cc := prog_4_method_12_code) (maxL := 16) (ret := (some .long)) (by decide) rfl ?_
  intro p e s m args below meth c s₁ B hml hv
  obtain ⟨rfl, -⟩ := hv
  have hC := CX.of B hml rfl
  have hl := lv_entry [.long a0, .long a2, .int a4] (n := 16) (Nat.le_of_ble_eq_true rfl)
  rw [lg_entry_eq]
  generalize (lg_sl [.long a0, .long a2, .int a4] ++ List.replicate (16 - (lg_sl [.long a0, .long a2, .int a4]).length) Slot.unset).toArray = ls at hl ⊢
  have hl : lv_has ls 16 [(0, .long a0), (2, .long a2), (4, .int a4)] := hl
  exact k_Exact_quotient_0 hC a0 a2 a4 ls (lv_sub hl [0, 1, 2] rfl) h
abbrev rm_Exact_root : Room := { frames := 3, cells := 0, slots := 0, locals := 72 }
set_option maxRecDepth 100000 in
set_option maxHeartbeats 4000000 in
theorem k_Exact_root_163 {p : Program} {l : Launch} {e : Env} {s : State} {m : MethodId} {args : Array Value} {below : List Frame} {meth : Method} {c : Code} (hC : CX p s m args meth c prog_4_method_13_code 16 "OutwardTape$Exact" (some .long)) {r0 : Int64} : ∀ (s0 : Int32) (s1 : Int64) (s2 : Int32) (v2 : Int32) (v12 : Int32) (ls : Array Slot), lv_has ls 16 [(2, .int v2), (12, .int v12)] → f_Exact_root_163  s0 s1 s2 v2 v12 = some r0 → W p l e rm_Exact_root s m args below meth c s.heap [] 0 0 (MQ below (vp_Sl (fun r => r = r0)) args s 0 0 (fun _ => False)) (F0 m 163 ls [.int s0, .long s1, .int s2]) := by
  obtain ⟨hx, hb, hml, hown, hts, hr, hlocks⟩ := id hC
  intro s0 s1 s2 v2 v12 ls hl h
  rw [f_Exact_root_163] at h
  obtain ⟨r1, h_r1, h⟩ := ob_of h
  refine vp_callSl (W.runS (As := [.long s1, .int s0]) (rest := [.int s2]) ⟨hx, hb, hml, hown, hts⟩ (c_Exact_traced l s1 s0 r1 h_r1) (va_cwS 2 hts (gd_S (m_1 195 rfl rfl) (m_1 196 rfl rfl) (m_1 16 rfl rfl) (m_1 197 rfl rfl)) rfl rfl rfl (by decide +kernel) ⟨Nat.le_of_ble_eq_true rfl, Nat.le_of_ble_eq_true rfl⟩) ⟨fun _ _ _ _ q => q, fun U hU hW => ⟨rfl, trivial⟩⟩ rfl rfl hl.1 rfl (lv_room (Nat.le_of_ble_eq_true rfl)) (dt_at dt_Exact_root 98 rfl) ⟨Nat.le_of_ble_eq_true rfl, Nat.le_of_ble_eq_true rfl⟩) (fun u_r1 q_r1 => ?_)
  obtain rfl : r1 = u_r1 := q_r1.symm
  refine lv_iload hx hb (dt_at dt_Exact_root 99 rfl) (lv_at hl 1 rfl) ?_
  refine lv_iload_n hx hb (dt_at dt_Exact_root 100 rfl) rfl (lv_at hl 0 rfl) ?_
  obtain ⟨r2, h_r2, h⟩ := ob_of h
  refine vp_callSl (W.runS (As := [.int s2, .long r1, .int v12, .int v2]) (rest := []) ⟨hx, hb, hml, hown, hts⟩ (c_Exact_rounded l s2 r1 v12 v2 r2 h_r2) (va_cwS 4 hts (gd_S (m_1 198 rfl rfl) (m_1 199 rfl rfl) (m_1 16 rfl rfl) (m_1 200 rfl rfl)) rfl rfl rfl (by decide +kernel) ⟨Nat.le_of_ble_eq_true rfl, Nat.le_of_ble_eq_true rfl⟩) ⟨fun _ _ _ _ q => q, fun U hU hW => ⟨rfl, trivial⟩⟩ rfl rfl hl.1 rfl (lv_room (Nat.le_of_ble_eq_true rfl)) (dt_at dt_Exact_root 101 rfl) ⟨Nat.le_of_ble_eq_true rfl, Nat.le_of_ble_eq_true rfl⟩) (fun u_r2 q_r2 => ?_)
  obtain rfl : r2 = u_r2 := q_r2.symm
  have h := os_of h
  exact W.lret (v := r2) hx hb hr (fun t ht hW => ⟨_, rfl, h, ht⟩) (fun q hq => absurd hq List.not_mem_nil) (dt_at dt_Exact_root 102 rfl)
set_option maxRecDepth 100000 in
set_option maxHeartbeats 4000000 in
theorem k_Exact_root_130 {p : Program} {l : Launch} {e : Env} {s : State} {m : MethodId} {args : Array Value} {below : List Frame} {meth : Method} {c : Code} (hC : CX p s m args meth c prog_4_method_13_code 16 "OutwardTape$Exact" (some .long)) {r0 : Int64} (k54 : Int32 → Int32 → Int32 → Int64 → Int64 → Int64 → Int32 → Option (Int64)) (hk54 : ∀ (v2 : Int32) (v4 : Int32) (v5 : Int32) (v6 : Int64) (v8 : Int64) (v10 : Int64) (v12 : Int32) (ls : Array Slot), lv_has ls 16 [(2, .int v2), (4, .int v4), (5, .int v5), (6, .long v6), (8, .long v8), (10, .long v10), (12, .int v12)] → k54 v2 v4 v5 v6 v8 v10 v12 = some r0 → W p l e rm_Exact_root s m args below meth c s.heap [] 0 0 (MQ below (vp_Sl (fun r => r = r0)) args s 0 0 (fun _ => False)) (F0 m 54 ls [])) : ∀ (v2 : Int32) (v4 : Int32) (v5 : Int32) (v6 : Int64) (v8 : Int64) (v10 : Int64) (v12 : Int32) (ls : Array Slot), lv_has ls 16 [(2, .int v2), (4, .int v4), (5, .int v5), (6, .long v6), (8, .long v8), (10, .long v10), (12, .int v12)] → f_Exact_root_130 k54 v2 v4 v5 v6 v8 v10 v12 = some r0 → W p l e rm_Exact_root s m args below meth c s.heap [] 0 0 (MQ below (vp_Sl (fun r => r = r0)) args s 0 0 (fun _ => False)) (F0 m 130 ls []) := by
  obtain ⟨hx, hb, hml, hown, hts, hr, hlocks⟩ := id hC
  intro v2 v4 v5 v6 v8 v10 v12 ls hl h
  rw [f_Exact_root_130] at h
  obtain ⟨t1, e_t1, h⟩ := ol_of h
  refine lv_iinc (v := t1) (lv' := [(12, .int t1), (2, .int v2), (4, .int v4), (5, .int v5), (6, .long v6), (8, .long v8), (10, .long v10)]) hx hb (dt_at dt_Exact_root 79 rfl) hl (k := 6) rfl (by rw [e_t1]; rfl) (by decide) rfl (fun ls hl => ?_)
  refine lv_goto (tgt := 54) hx hb (dt_at dt_Exact_root 80 rfl) (by decide) ?_
  exact hk54 v2 v4 v5 v6 v8 v10 t1 ls (lv_sub hl [1, 2, 3, 4, 5, 6, 0] rfl) h
set_option maxRecDepth 100000 in
set_option maxHeartbeats 4000000 in
theorem k_Exact_root_92 {p : Program} {l : Launch} {e : Env} {s : State} {m : MethodId} {args : Array Value} {below : List Frame} {meth : Method} {c : Code} (hC : CX p s m args meth c prog_4_method_13_code 16 "OutwardTape$Exact" (some .long)) {r0 : Int64} (k54 : Int32 → Int32 → Int32 → Int64 → Int64 → Int64 → Int32 → Option (Int64)) (hk54 : ∀ (v2 : Int32) (v4 : Int32) (v5 : Int32) (v6 : Int64) (v8 : Int64) (v10 : Int64) (v12 : Int32) (ls : Array Slot), lv_has ls 16 [(2, .int v2), (4, .int v4), (5, .int v5), (6, .long v6), (8, .long v8), (10, .long v10), (12, .int v12)] → k54 v2 v4 v5 v6 v8 v10 v12 = some r0 → W p l e rm_Exact_root s m args below meth c s.heap [] 0 0 (MQ below (vp_Sl (fun r => r = r0)) args s 0 0 (fun _ => False)) (F0 m 54 ls [])) : ∀ (s0 : Int64) (s1 : Int64) (v2 : Int32) (v4 : Int32) (v5 : Int32) (v6 : Int64) (v10 : Int64) (v12 : Int32) (ls : Array Slot), lv_has ls 16 [(2, .int v2), (4, .int v4), (5, .int v5), (6, .long v6), (10, .long v10), (12, .int v12)] → f_Exact_root_92 k54 s0 s1 v2 v4 v5 v6 v10 v12 = some r0 → W p l e rm_Exact_root s m args below meth c s.heap [] 0 0 (MQ below (vp_Sl (fun r => r = r0)) args s 0 0 (fun _ => False)) (F0 m 92 ls [.long s0, .long s1]) := by
  obtain ⟨hx, hb, hml, hown, hts, hr, hlocks⟩ := id hC
  intro s0 s1 v2 v4 v5 v6 v10 v12 ls hl h
  rw [f_Exact_root_92] at h
  refine lv_lor hx hb (dt_at dt_Exact_root 55 rfl) ?_
  obtain ⟨t1, e_t1, h⟩ := ol_of h
  refine lv_topl (fun u_t1 q_t1 => ?_)
  obtain rfl : t1 = u_t1 := e_t1.trans q_t1.symm
  refine lv_lstore (lv' := [(8, .long t1), (2, .int v2), (4, .int v4), (5, .int v5), (6, .long v6), (10, .long v10), (12, .int v12)]) hx hb (dt_at dt_Exact_root 56 rfl) hl (by decide) rfl (fun ls hl => ?_)
  refine lv_lload hx hb (dt_at dt_Exact_root 57 rfl) (lv_at hl 5 rfl) ?_
  refine lv_iconst (v := 2) hx hb (dt_at dt_Exact_root 58 rfl) (by decide) ?_
  refine lv_lshl (v := (j_lshl v10 (2 : Int32))) hx hb (dt_at dt_Exact_root 59 rfl) rfl ?_
  refine lv_lconst (v := 1) hx hb (dt_at dt_Exact_root 60 rfl) (by decide) ?_
  refine lv_lor hx hb (dt_at dt_Exact_root 61 rfl) ?_
  obtain ⟨t2, e_t2, h⟩ := ol_of h
  refine lv_topl (fun u_t2 q_t2 => ?_)
  obtain rfl : t2 = u_t2 := e_t2.trans q_t2.symm
  refine lv_lstore (lv' := [(14, .long t2), (8, .long t1), (2, .int v2), (4, .int v4), (5, .int v5), (6, .long v6), (10, .long v10), (12, .int v12)]) hx hb (dt_at dt_Exact_root 62 rfl) hl (by decide) rfl (fun ls hl => ?_)
  refine lv_lload hx hb (dt_at dt_Exact_root 63 rfl) (lv_at hl 6 rfl) ?_
  refine lv_iconst (v := 1) hx hb (dt_at dt_Exact_root 64 rfl) (by decide) ?_
  refine lv_lshl (v := (j_lshl v10 (1 : Int32))) hx hb (dt_at dt_Exact_root 65 rfl) rfl ?_
  obtain ⟨t3, e_t3, h⟩ := ol_of h
  refine lv_topl (fun u_t3 q_t3 => ?_)
  obtain rfl : t3 = u_t3 := e_t3.trans q_t3.symm
  refine lv_lstore (lv' := [(10, .long t3), (14, .long t2), (8, .long t1), (2, .int v2), (4, .int v4), (5, .int v5), (6, .long v6), (12, .int v12)]) hx hb (dt_at dt_Exact_root 66 rfl) hl (by decide) rfl (fun ls hl => ?_)
  refine lv_lload hx hb (dt_at dt_Exact_root 67 rfl) (lv_at hl 2 rfl) ?_
  refine lv_lload hx hb (dt_at dt_Exact_root 68 rfl) (lv_at hl 1 rfl) ?_
  refine lc_lt (tgt := 130) hx hb (dt_at dt_Exact_root 69 rfl) (dt_at dt_Exact_root 70 rfl) (by decide) (fun c4 => ?_) (fun c4 => ?_)
  · have h := if_p h c4
    exact k_Exact_root_130 hC k54 hk54  v2 v4 v5 v6 t1 t3 v12 ls (lv_sub hl [3, 4, 5, 6, 2, 0, 7] rfl) h
  · have h := if_n h c4
    refine lv_lload hx hb (dt_at dt_Exact_root 71 rfl) (lv_at hl 2 rfl) ?_
    refine lv_lload hx hb (dt_at dt_Exact_root 72 rfl) (lv_at hl 1 rfl) ?_
    refine lv_lsub hx hb (dt_at dt_Exact_root 73 rfl) ?_
    obtain ⟨t5, e_t5, h⟩ := ol_of h
    refine lv_topl (fun u_t5 q_t5 => ?_)
    obtain rfl : t5 = u_t5 := e_t5.trans q_t5.symm
    refine lv_lstore (lv' := [(8, .long t5), (10, .long t3), (14, .long t2), (2, .int v2), (4, .int v4), (5, .int v5), (6, .long v6), (12, .int v12)]) hx hb (dt_at dt_Exact_root 74 rfl) hl (by decide) rfl (fun ls hl => ?_)
    refine lv_lload hx hb (dt_at dt_Exact_root 75 rfl) (lv_at hl 1 rfl) ?_
    refine lv_lconst (v := 1) hx hb (dt_at dt_Exact_root 76 rfl) (by decide) ?_
    refine lv_lor hx hb (dt_at dt_Exact_root 77 rfl) ?_
    obtain ⟨t6, e_t6, h⟩ := ol_of h
    refine lv_topl (fun u_t6 q_t6 => ?_)
    obtain rfl : t6 = u_t6 := e_t6.trans q_t6.symm
    refine lv_lstore (lv' := [(10, .long t6), (8, .long t5), (14, .long t2), (2, .int v2), (4, .int v4), (5, .int v5), (6, .long v6), (12, .int v12)]) hx hb (dt_at dt_Exact_root 78 rfl) hl (by decide) rfl (fun ls hl => ?_)
    exact k_Exact_root_130 hC k54 hk54  v2 v4 v5 v6 t5 t6 v12 ls (lv_sub hl [3, 4, 5, 6, 1, 0, 7] rfl) h
set_option maxRecDepth 100000 in
set_option maxHeartbeats 4000000 in
theorem k_Exact_root_54 {p : Program} {l : Launch} {e : Env} {s : State} {m : MethodId} {args : Array Value} {below : List Frame} {meth : Method} {c : Code} (hC : CX p s m args meth c prog_4_method_13_code 16 "OutwardTape$Exact" (some .long)) {r0 : Int64} : ∀ n : Nat, ∀ (v2 : Int32) (v4 : Int32) (v5 : Int32) (v6 : Int64) (v8 : Int64) (v10 : Int64) (v12 : Int32) (ls : Array Slot), lv_has ls 16 [(2, .int v2), (4, .int v4), (5, .int v5), (6, .long v6), (8, .long v8), (10, .long v10), (12, .int v12)] → f_Exact_root_54  n v2 v4 v5 v6 v8 v10 v12 = some r0 → W p l e rm_Exact_root s m args below meth c s.heap [] 0 0 (MQ below (vp_Sl (fun r => r = r0)) args s 0 0 (fun _ => False)) (F0 m 54 ls []) := by
  obtain ⟨hx, hb, hml, hown, hts, hr, hlocks⟩ := id hC
  intro n
  induction n with
  | zero => intro v2 v4 v5 v6 v8 v10 v12 ls hl h; cases h
  | succ n ih =>
    intro v2 v4 v5 v6 v8 v10 v12 ls hl h
    rw [f_Exact_root_54] at h
    refine lv_iload hx hb (dt_at dt_Exact_root 34 rfl) (lv_at hl 6 rfl) ?_
    refine lv_bipush (v := 57) hx hb (dt_at dt_Exact_root 35 rfl) (by decide) ?_
    refine lv_icmp_ge (tgt := 136) hx hb (dt_at dt_Exact_root 36 rfl) (by decide) (fun c1 => ?_) (fun c1 => ?_)
    · have h := if_p h c1
      refine lv_iload hx hb (dt_at dt_Exact_root 81 rfl) (lv_at hl 1 rfl) ?_
      refine lv_iload hx hb (dt_at dt_Exact_root 82 rfl) (lv_at hl 2 rfl) ?_
      refine lv_isub hx hb (dt_at dt_Exact_root 83 rfl) ?_
      refine lv_iconst (v := 2) hx hb (dt_at dt_Exact_root 84 rfl) (by decide) ?_
      refine lv_idiv hx hb (dt_at dt_Exact_root 85 rfl) (by decide) ?_
      refine lv_bipush (v := 30) hx hb (dt_at dt_Exact_root 86 rfl) (by decide) ?_
      refine lv_isub hx hb (dt_at dt_Exact_root 87 rfl) ?_
      obtain ⟨t2, e_t2, h⟩ := ol_of h
      refine lv_topi (fun u_t2 q_t2 => ?_)
      obtain rfl : t2 = u_t2 := e_t2.trans q_t2.symm
      refine lv_istore (lv' := [(12, .int t2), (2, .int v2), (4, .int v4), (5, .int v5), (6, .long v6), (8, .long v8), (10, .long v10)]) hx hb (dt_at dt_Exact_root 88 rfl) hl (by decide) rfl (fun ls hl => ?_)
      refine lv_iconst (v := 0) hx hb (dt_at dt_Exact_root 89 rfl) (by decide) ?_
      refine lv_lload hx hb (dt_at dt_Exact_root 90 rfl) (lv_at hl 6 rfl) ?_
      refine lv_lload hx hb (dt_at dt_Exact_root 91 rfl) (lv_at hl 5 rfl) ?_
      refine lv_lconst (v := 0) hx hb (dt_at dt_Exact_root 92 rfl) (by decide) ?_
      refine lc_eq (tgt := 162) hx hb (dt_at dt_Exact_root 93 rfl) (dt_at dt_Exact_root 94 rfl) (by decide) (fun c3 => ?_) (fun c3 => ?_)
      · have h := if_p h c3
        refine lv_iconst (v := 0) hx hb (dt_at dt_Exact_root 97 rfl) (by decide) ?_
        exact k_Exact_root_163 hC   (0 : Int32) v10 (0 : Int32) v2 t2 ls (lv_sub hl [1, 0] rfl) h
      · have h := if_n h c3
        refine lv_iconst (v := 1) hx hb (dt_at dt_Exact_root 95 rfl) (by decide) ?_
        refine lv_goto (tgt := 163) hx hb (dt_at dt_Exact_root 96 rfl) (by decide) ?_
        exact k_Exact_root_163 hC   (1 : Int32) v10 (0 : Int32) v2 t2 ls (lv_sub hl [1, 0] rfl) h
    · have h := if_n h c1
      refine lv_iconst (v := 2) hx hb (dt_at dt_Exact_root 37 rfl) (by decide) ?_
      refine lv_bipush (v := 26) hx hb (dt_at dt_Exact_root 38 rfl) (by decide) ?_
      refine lv_iload hx hb (dt_at dt_Exact_root 39 rfl) (lv_at hl 6 rfl) ?_
      refine lv_isub hx hb (dt_at dt_Exact_root 40 rfl) ?_
      refine lv_imul hx hb (dt_at dt_Exact_root 41 rfl) ?_
      obtain ⟨t4, e_t4, h⟩ := ol_of h
      refine lv_topi (fun u_t4 q_t4 => ?_)
      obtain rfl : t4 = u_t4 := e_t4.trans q_t4.symm
      refine lv_istore (lv' := [(13, .int t4), (2, .int v2), (4, .int v4), (5, .int v5), (6, .long v6), (8, .long v8), (10, .long v10), (12, .int v12)]) hx hb (dt_at dt_Exact_root 42 rfl) hl (by decide) rfl (fun ls hl => ?_)
      refine lv_lload hx hb (dt_at dt_Exact_root 43 rfl) (lv_at hl 5 rfl) ?_
      refine lv_iconst (v := 2) hx hb (dt_at dt_Exact_root 44 rfl) (by decide) ?_
      refine lv_lshl (v := (j_lshl v8 (2 : Int32))) hx hb (dt_at dt_Exact_root 45 rfl) rfl ?_
      refine lv_iload hx hb (dt_at dt_Exact_root 46 rfl) (lv_at hl 0 rfl) ?_
      refine lv_if_lt (tgt := 91) hx hb (dt_at dt_Exact_root 47 rfl) (by decide) (fun c5 => ?_) (fun c5 => ?_)
      · have h := if_p h c5
        refine lv_lconst (v := 0) hx hb (dt_at dt_Exact_root 54 rfl) (by decide) ?_
        exact k_Exact_root_92 hC (f_Exact_root_54  n) ih  (0 : Int64) (j_lshl v8 (2 : Int32)) v2 v4 v5 v6 v10 v12 ls (lv_sub hl [1, 2, 3, 4, 6, 7] rfl) h
      · have h := if_n h c5
        refine lv_lload hx hb (dt_at dt_Exact_root 48 rfl) (lv_at hl 4 rfl) ?_
        refine lv_iload hx hb (dt_at dt_Exact_root 49 rfl) (lv_at hl 0 rfl) ?_
        refine lv_lushr (v := (j_lushr v6 t4)) hx hb (dt_at dt_Exact_root 50 rfl) rfl ?_
        refine lv_ldc2 (v := 3) hx hb hown (hts (Cond.constantLong "OutwardTape$Exact" 72 (3)) (m_3 152 rfl rfl)) (dt_at dt_Exact_root 51 rfl) ?_
        refine lv_land hx hb (dt_at dt_Exact_root 52 rfl) ?_
        refine lv_goto (tgt := 92) hx hb (dt_at dt_Exact_root 53 rfl) (by decide) ?_
        exact k_Exact_root_92 hC (f_Exact_root_54  n) ih  ((j_lushr v6 t4) &&& (3 : Int64)) (j_lshl v8 (2 : Int32)) v2 v4 v5 v6 v10 v12 ls (lv_sub hl [1, 2, 3, 4, 6, 7] rfl) h
set_option maxRecDepth 100000 in
set_option maxHeartbeats 4000000 in
theorem k_Exact_root_13 {p : Program} {l : Launch} {e : Env} {s : State} {m : MethodId} {args : Array Value} {below : List Frame} {meth : Method} {c : Code} (hC : CX p s m args meth c prog_4_method_13_code 16 "OutwardTape$Exact" (some .long)) {r0 : Int64} : ∀ (v0 : Int64) (ls : Array Slot), lv_has ls 16 [(0, .long v0)] → f_Exact_root_13  v0 = some r0 → W p l e rm_Exact_root s m args below meth c s.heap [] 0 0 (MQ below (vp_Sl (fun r => r = r0)) args s 0 0 (fun _ => False)) (F0 m 13 ls []) := by
  obtain ⟨hx, hb, hml, hown, hts, hr, hlocks⟩ := id hC
  intro v0 ls hl h
  rw [f_Exact_root_13] at h
  refine lv_lload_n hx hb (dt_at dt_Exact_root 7 rfl) rfl (lv_at hl 0 rfl) ?_
  have h := os_of h
  exact W.lret (v := v0) hx hb hr (fun t ht hW => ⟨_, rfl, h, ht⟩) (fun q hq => absurd hq List.not_mem_nil) (dt_at dt_Exact_root 8 rfl)
set_option maxRecDepth 100000 in
set_option maxHeartbeats 4000000 in
theorem k_Exact_root_0 {p : Program} {l : Launch} {e : Env} {s : State} {m : MethodId} {args : Array Value} {below : List Frame} {meth : Method} {c : Code} (hC : CX p s m args meth c prog_4_method_13_code 16 "OutwardTape$Exact" (some .long)) {r0 : Int64} : ∀ (v0 : Int64) (v2 : Int32) (ls : Array Slot), lv_has ls 16 [(0, .long v0), (2, .int v2)] → f_Exact_root_0  v0 v2 = some r0 → W p l e rm_Exact_root s m args below meth c s.heap [] 0 0 (MQ below (vp_Sl (fun r => r = r0)) args s 0 0 (fun _ => False)) (F0 m 0 ls []) := by
  obtain ⟨hx, hb, hml, hown, hts, hr, hlocks⟩ := id hC
  intro v0 v2 ls hl h
  rw [f_Exact_root_0] at h
  refine lv_lload_n hx hb (dt_at dt_Exact_root 0 rfl) rfl (lv_at hl 0 rfl) ?_
  refine lv_lconst (v := 0) hx hb (dt_at dt_Exact_root 1 rfl) (by decide) ?_
  refine lc_eq (tgt := 13) hx hb (dt_at dt_Exact_root 2 rfl) (dt_at dt_Exact_root 3 rfl) (by decide) (fun c1 => ?_) (fun c1 => ?_)
  · have h := if_p h c1
    exact k_Exact_root_13 hC   v0 ls (lv_sub hl [0] rfl) h
  · have h := if_n h c1
    refine lv_lload_n hx hb (dt_at dt_Exact_root 4 rfl) rfl (lv_at hl 0 rfl) ?_
    obtain ⟨r2, h_r2, h⟩ := ob_of h
    refine vp_callSi (W.runS (As := [.long v0]) (rest := []) ⟨hx, hb, hml, hown, hts⟩ (c_Rank_isFinite l v0 r2 h_r2) (va_cwS 1 hts (gd_S (m_1 173 rfl rfl) (m_1 153 rfl rfl) (m_1 15 rfl rfl) (m_1 154 rfl rfl)) rfl rfl rfl (by decide +kernel) ⟨Nat.le_of_ble_eq_true rfl, Nat.le_of_ble_eq_true rfl⟩) ⟨fun _ _ _ _ q => q, fun U hU hW => ⟨rfl, trivial⟩⟩ rfl rfl hl.1 rfl (lv_room (Nat.le_of_ble_eq_true rfl)) (dt_at dt_Exact_root 5 rfl) ⟨Nat.le_of_ble_eq_true rfl, Nat.le_of_ble_eq_true rfl⟩) (fun u_r2 q_r2 => ?_)
    obtain rfl : r2 = u_r2 := q_r2.symm
    refine lv_if_ne (tgt := 15) hx hb (dt_at dt_Exact_root 6 rfl) (by decide) (fun c3 => ?_) (fun c3 => ?_)
    · have h := if_n h c3
      refine lv_lload_n hx hb (dt_at dt_Exact_root 9 rfl) rfl (lv_at hl 0 rfl) ?_
      obtain ⟨r4, h_r4, h⟩ := ob_of h
      refine vp_callSi (W.runS (As := [.long v0]) (rest := []) ⟨hx, hb, hml, hown, hts⟩ (c_Exact_lift l v0 r4 h_r4) (va_cwS 1 hts (gd_S (m_3 139 rfl rfl) (m_3 140 rfl rfl) (m_1 16 rfl rfl) (m_3 141 rfl rfl)) rfl rfl rfl (by decide +kernel) ⟨Nat.le_of_ble_eq_true rfl, Nat.le_of_ble_eq_true rfl⟩) ⟨fun _ _ _ _ q => q, fun U hU hW => ⟨rfl, trivial⟩⟩ rfl rfl hl.1 rfl (lv_room (Nat.le_of_ble_eq_true rfl)) (dt_at dt_Exact_root 10 rfl) ⟨Nat.le_of_ble_eq_true rfl, Nat.le_of_ble_eq_true rfl⟩) (fun u_r4 q_r4 => ?_)
      obtain rfl : r4 = u_r4 := q_r4.symm
      refine lv_istore_n (lv' := [(3, .int r4), (0, .long v0), (2, .int v2)]) hx hb (dt_at dt_Exact_root 11 rfl) rfl hl (by decide) rfl (fun ls hl => ?_)
      refine lv_lload_n hx hb (dt_at dt_Exact_root 12 rfl) rfl (lv_at hl 1 rfl) ?_
      obtain ⟨r5, h_r5, h⟩ := ob_of h
      refine vp_callSi (W.runS (As := [.long v0]) (rest := []) ⟨hx, hb, hml, hown, hts⟩ (c_Rank_exponent l v0 r5 h_r5) (va_cwS 1 hts (gd_S (m_1 180 rfl rfl) (m_1 181 rfl rfl) (m_1 15 rfl rfl) (m_1 182 rfl rfl)) rfl rfl rfl (by decide +kernel) ⟨Nat.le_of_ble_eq_true rfl, Nat.le_of_ble_eq_true rfl⟩) ⟨fun _ _ _ _ q => q, fun U hU hW => ⟨rfl, trivial⟩⟩ rfl rfl hl.1 rfl (lv_room (Nat.le_of_ble_eq_true rfl)) (dt_at dt_Exact_root 13 rfl) ⟨Nat.le_of_ble_eq_true rfl, Nat.le_of_ble_eq_true rfl⟩) (fun u_r5 q_r5 => ?_)
      obtain rfl : r5 = u_r5 := q_r5.symm
      refine lv_iload_n hx hb (dt_at dt_Exact_root 14 rfl) rfl (lv_at hl 0 rfl) ?_
      refine lv_isub hx hb (dt_at dt_Exact_root 15 rfl) ?_
      obtain ⟨t6, e_t6, h⟩ := ol_of h
      refine lv_topi (fun u_t6 q_t6 => ?_)
      obtain rfl : t6 = u_t6 := e_t6.trans q_t6.symm
      refine lv_istore (lv' := [(4, .int t6), (3, .int r4), (0, .long v0), (2, .int v2)]) hx hb (dt_at dt_Exact_root 16 rfl) hl (by decide) rfl (fun ls hl => ?_)
      refine lv_iload hx hb (dt_at dt_Exact_root 17 rfl) (lv_at hl 0 rfl) ?_
      refine lv_iconst (v := 1) hx hb (dt_at dt_Exact_root 18 rfl) (by decide) ?_
      refine lv_iand hx hb (dt_at dt_Exact_root 19 rfl) ?_
      obtain ⟨t7, e_t7, h⟩ := ol_of h
      refine lv_topi (fun u_t7 q_t7 => ?_)
      obtain rfl : t7 = u_t7 := e_t7.trans q_t7.symm
      refine lv_istore (lv' := [(5, .int t7), (4, .int t6), (3, .int r4), (0, .long v0), (2, .int v2)]) hx hb (dt_at dt_Exact_root 20 rfl) hl (by decide) rfl (fun ls hl => ?_)
      refine lv_lload_n hx hb (dt_at dt_Exact_root 21 rfl) rfl (lv_at hl 3 rfl) ?_
      obtain ⟨r8, h_r8, h⟩ := ob_of h
      refine vp_callSl (W.runS (As := [.long v0]) (rest := []) ⟨hx, hb, hml, hown, hts⟩ (c_Rank_significand l v0 r8 h_r8) (va_cwS 1 hts (gd_S (m_1 187 rfl rfl) (m_1 188 rfl rfl) (m_1 15 rfl rfl) (m_1 189 rfl rfl)) rfl rfl rfl (by decide +kernel) ⟨Nat.le_of_ble_eq_true rfl, Nat.le_of_ble_eq_true rfl⟩) ⟨fun _ _ _ _ q => q, fun U hU hW => ⟨rfl, trivial⟩⟩ rfl rfl hl.1 rfl (lv_room (Nat.le_of_ble_eq_true rfl)) (dt_at dt_Exact_root 22 rfl) ⟨Nat.le_of_ble_eq_true rfl, Nat.le_of_ble_eq_true rfl⟩) (fun u_r8 q_r8 => ?_)
      obtain rfl : r8 = u_r8 := q_r8.symm
      refine lv_iload_n hx hb (dt_at dt_Exact_root 23 rfl) rfl (lv_at hl 2 rfl) ?_
      refine lv_iload hx hb (dt_at dt_Exact_root 24 rfl) (lv_at hl 0 rfl) ?_
      refine lv_iadd hx hb (dt_at dt_Exact_root 25 rfl) ?_
      refine lv_lshl (v := (j_lshl r8 (r4 + t7))) hx hb (dt_at dt_Exact_root 26 rfl) rfl ?_
      obtain ⟨t9, e_t9, h⟩ := ol_of h
      refine lv_topl (fun u_t9 q_t9 => ?_)
      obtain rfl : t9 = u_t9 := e_t9.trans q_t9.symm
      refine lv_lstore (lv' := [(6, .long t9), (5, .int t7), (4, .int t6), (3, .int r4), (0, .long v0), (2, .int v2)]) hx hb (dt_at dt_Exact_root 27 rfl) hl (by decide) rfl (fun ls hl => ?_)
      refine lv_lconst (v := 0) hx hb (dt_at dt_Exact_root 28 rfl) (by decide) ?_
      refine lv_lstore (lv' := [(8, .long (0 : Int64)), (6, .long t9), (5, .int t7), (4, .int t6), (3, .int r4), (0, .long v0), (2, .int v2)]) hx hb (dt_at dt_Exact_root 29 rfl) hl (by decide) rfl (fun ls hl => ?_)
      refine lv_lconst (v := 0) hx hb (dt_at dt_Exact_root 30 rfl) (by decide) ?_
      refine lv_lstore (lv' := [(10, .long (0 : Int64)), (8, .long (0 : Int64)), (6, .long t9), (5, .int t7), (4, .int t6), (3, .int r4), (0, .long v0), (2, .int v2)]) hx hb (dt_at dt_Exact_root 31 rfl) hl (by decide) rfl (fun ls hl => ?_)
      refine lv_iconst (v := 0) hx hb (dt_at dt_Exact_root 32 rfl) (by decide) ?_
      refine lv_istore (lv' := [(12, .int (0 : Int32)), (10, .long (0 : Int64)), (8, .long (0 : Int64)), (6, .long t9), (5, .int t7), (4, .int t6), (3, .int r4), (0, .long v0), (2, .int v2)]) hx hb (dt_at dt_Exact_root 33 rfl) hl (by decide) rfl (fun ls hl => ?_)
      exact k_Exact_root_54 hC  5000 v2 t6 t7 t9 (0 : Int64) (0 : Int64) (0 : Int32) ls (lv_sub hl [8, 5, 4, 3, 2, 1, 0] rfl) h
    · have h := if_p h c3
      exact k_Exact_root_13 hC   v0 ls (lv_sub hl [0] rfl) h
set_option maxRecDepth 100000 in
set_option maxHeartbeats 4000000 in
theorem c_Exact_root (l : Launch) (a0 : Int64) (a2 : Int32) (r0 : Int64) (h : f_Exact_root a0 a2 = some r0) : Met l (⟨"OutwardTape$Exact", "root", "(JI)J"⟩ : MethodName) (WSm (⟨"OutwardTape$Exact", "root", "(JI)J"⟩ : MethodName) prog_4_method_13_code 16 (some .long)) rm_Exact_root (va_Pc [.long a0, .int a2] (fun _ => True)) (vp_Sl (fun r => r = r0)) 0 0 (fun _ => False) := by
  refine Met.ofW (cc := prog_4_method_13_code) (maxL := 16) (ret := (some .long)) (by decide) rfl ?_
  intro p e s m args below meth c s₁ B hml hv
  obtain ⟨rfl, -⟩ := hv
  have hC := CX.of B hml rfl
  have hl := lv_entry [.long a0, .int a2] (n := 16) (Nat.le_of_ble_eq_true rfl)
  rw [lg_entry_eq]
  generalize (lg_sl [.long a0, .int a2] ++ List.replicate (16 - (lg_sl [.long a0, .int a2]).length) Slot.unset).toArray = ls at hl ⊢
  have hl : lv_has ls 16 [(0, .long a0), (2, .int a2)] := hl
  exact k_Exact_root_0 hC a0 a2 ls (lv_sub hl [0, 1] rfl) h
abbrev rm_Rank_floor : Room := { frames := 4, cells := 0, slots := 0, locals := 121 }
set_option maxRecDepth 100000 in
set_option maxHeartbeats 4000000 in
theorem k_Rank_floor_23 {p : Program} {l : Launch} {e : Env} {s : State} {m : MethodId} {args : Array Value} {below : List Frame} {meth : Method} {c : Code} (hC : CX p s m args meth c prog_8_method_10_code 4 "OutwardTape$Rank" (some .long)) {r0 : Int64} : ∀ (s0 : Int64) (ls : Array Slot), lv_has ls 4 [] → f_Rank_floor_23  s0 = some r0 → W p l e rm_Rank_floor s m args below meth c s.heap [] 0 0 (MQ below (vp_Sl (fun r => r = r0)) args s 0 0 (fun _ => False)) (F0 m 23 ls [.long s0]) := by
  obtain ⟨hx, hb, hml, hown, hts, hr, hlocks⟩ := id hC
  intro s0 ls hl h
  rw [f_Rank_floor_23] at h
  have h := os_of h
  exact W.lret (v := s0) hx hb hr (fun t ht hW => ⟨_, rfl, h, ht⟩) (fun q hq => absurd hq List.not_mem_nil) (dt_at dt_Rank_floor 13 rfl)
set_option maxRecDepth 100000 in
set_option maxHeartbeats 4000000 in
theorem k_Rank_floor_0 {p : Program} {l : Launch} {e : Env} {s : State} {m : MethodId} {args : Array Value} {below : List Frame} {meth : Method} {c : Code} (hC : CX p s m args meth c prog_8_method_10_code 4 "OutwardTape$Rank" (some .long)) {r0 : Int64} : ∀ (v0 : Int64) (ls : Array Slot), lv_has ls 4 [(0, .long v0)] → f_Rank_floor_0  v0 = some r0 → W p l e rm_Rank_floor s m args below meth c s.heap [] 0 0 (MQ below (vp_Sl (fun r => r = r0)) args s 0 0 (fun _ => False)) (F0 m 0 ls []) := by
  obtain ⟨hx, hb, hml, hown, hts, hr, hlocks⟩ := id hC
  intro v0 ls hl h
  rw [f_Rank_floor_0] at h
  refine lv_lload_n hx hb (dt_at dt_Rank_floor 0 rfl) rfl (lv_at hl 0 rfl) ?_
  obtain ⟨r1, h_r1, h⟩ := ob_of h
  refine vp_callSl (W.runS (As := [.long v0]) (rest := []) ⟨hx, hb, hml, hown, hts⟩ (c_Rank_towardsZero l v0 r1 h_r1) (va_cwS 1 hts (gd_S (m_3 173 rfl rfl) (m_3 174 rfl rfl) (m_1 15 rfl rfl) (m_3 175 rfl rfl)) rfl rfl rfl (by decide +kernel) ⟨Nat.le_of_ble_eq_true rfl, Nat.le_of_ble_eq_true rfl⟩) ⟨fun _ _ _ _ q => q, fun U hU hW => ⟨rfl, trivial⟩⟩ rfl rfl hl.1 rfl (lv_room (Nat.le_of_ble_eq_true rfl)) (dt_at dt_Rank_floor 1 rfl) ⟨Nat.le_of_ble_eq_true rfl, Nat.le_of_ble_eq_true rfl⟩) (fun u_r1 q_r1 => ?_)
  obtain rfl : r1 = u_r1 := q_r1.symm
  refine lv_lstore_n (lv' := [(2, .long r1), (0, .long v0)]) hx hb (dt_at dt_Rank_floor 2 rfl) rfl hl (by decide) rfl (fun ls hl => ?_)
  refine lv_lload_n hx hb (dt_at dt_Rank_floor 3 rfl) rfl (lv_at hl 0 rfl) ?_
  refine lv_lload_n hx hb (dt_at dt_Rank_floor 4 rfl) rfl (lv_at hl 1 rfl) ?_
  refine lc_gt (tgt := 15) hx hb (dt_at dt_Rank_floor 5 rfl) (dt_at dt_Rank_floor 6 rfl) (by decide) (fun c2 => ?_) (fun c2 => ?_)
  · have h := if_p h c2
    refine lv_lload_n hx hb (dt_at dt_Rank_floor 9 rfl) rfl (lv_at hl 0 rfl) ?_
    refine lv_ldc2 (v := -4607182418800017408) hx hb hown (hts (Cond.constantLong "OutwardTape$Rank" 31 (-4607182418800017408)) (m_3 177 rfl rfl)) (dt_at dt_Rank_floor 10 rfl) ?_
    refine lv_iconst (v := -1) hx hb (dt_at dt_Rank_floor 11 rfl) (by decide) ?_
    obtain ⟨r3, h_r3, h⟩ := ob_of h
    refine vp_callSl (W.runS (As := [.long r1, .long (-4607182418800017408 : Int64), .int (-1 : Int32)]) (rest := []) ⟨hx, hb, hml, hown, hts⟩ (c_Exact_sum l r1 (-4607182418800017408 : Int64) (-1 : Int32) r3 h_r3) (va_cwS 3 hts (gd_S (m_3 178 rfl rfl) (m_1 171 rfl rfl) (m_1 16 rfl rfl) (m_1 172 rfl rfl)) rfl rfl rfl (by decide +kernel) ⟨Nat.le_of_ble_eq_true rfl, Nat.le_of_ble_eq_true rfl⟩) ⟨fun _ _ _ _ q => q, fun U hU hW => ⟨rfl, trivial⟩⟩ rfl rfl hl.1 rfl (lv_room (Nat.le_of_ble_eq_true rfl)) (dt_at dt_Rank_floor 12 rfl) ⟨Nat.le_of_ble_eq_true rfl, Nat.le_of_ble_eq_true rfl⟩) (fun u_r3 q_r3 => ?_)
    obtain rfl : r3 = u_r3 := q_r3.symm
    exact k_Rank_floor_23 hC   r3 ls (lv_sub hl [] rfl) h
  · have h := if_n h c2
    refine lv_lload_n hx hb (dt_at dt_Rank_floor 7 rfl) rfl (lv_at hl 0 rfl) ?_
    refine lv_goto (tgt := 23) hx hb (dt_at dt_Rank_floor 8 rfl) (by decide) ?_
    exact k_Rank_floor_23 hC   r1 ls (lv_sub hl [] rfl) h
set_option maxRecDepth 100000 in
set_option maxHeartbeats 4000000 in
theorem c_Rank_floor (l : Launch) (a0 : Int64) (r0 : Int64) (h : f_Rank_floor a0 = some r0) : Met l (⟨"OutwardTape$Rank", "floor", "(J)J"⟩ : MethodName) (WSm (⟨"OutwardTape$Rank", "floor", "(J)J"⟩ : MethodName) prog_8_method_10_code 4 (some .long)) rm_Rank_floor (va_Pc [.long a0] (fun _ => True)) (vp_Sl (fun r => r = r0)) 0 0 (fun _ => False) := by
  refine Met.ofW (cc := prog_8_method_10_code) (maxL := 4) (ret := (some .long)) (by decide) rfl ?_
  intro p e s m args below meth c s₁ B hml hv
  obtain ⟨rfl, -⟩ := hv
  have hC := CX.of B hml rfl
  have hl := lv_entry [.long a0] (n := 4) (Nat.le_of_ble_eq_true rfl)
  rw [lg_entry_eq]
  generalize (lg_sl [.long a0] ++ List.replicate (4 - (lg_sl [.long a0]).length) Slot.unset).toArray = ls at hl ⊢
  have hl : lv_has ls 4 [(0, .long a0)] := hl
  exact k_Rank_floor_0 hC a0 ls (lv_sub hl [0] rfl) h
abbrev rm_Rel_isBelow : Room := { frames := 1, cells := 0, slots := 0, locals := 21 }
set_option maxRecDepth 100000 in
set_option maxHeartbeats 4000000 in
theorem k_Rel_isBelow_24 {p : Program} {l : Launch} {e : Env} {s : State} {m : MethodId} {args : Array Value} {below : List Frame} {meth : Method} {c : Code} (hC : CX p s m args meth c prog_9_method_3_code 4 "OutwardTape$Relations" (some .boolean)) {r0 : Int32} : ∀ (s0 : Int32) (ls : Array Slot), lv_has ls 4 [] → f_Rel_isBelow_24  s0 = some r0 → W p l e rm_Rel_isBelow s m args below meth c s.heap [] 0 0 (MQ below (vp_Si (fun r => r = r0)) args s 0 0 (fun _ => False)) (F0 m 24 ls [.int s0]) := by
  obtain ⟨hx, hb, hml, hown, hts, hr, hlocks⟩ := id hC
  intro s0 ls hl h
  rw [f_Rel_isBelow_24] at h
  obtain ⟨hz, h⟩ := og_of h
  have h := os_of h
  exact W.zret (v := s0) (ty := .boolean) hx hb hr (j_z_nar hz) (fun t ht hW => ⟨_, rfl, h, ht⟩) (fun q hq => absurd hq List.not_mem_nil) (dt_at dt_Rel_isBelow 14 rfl)
set_option maxRecDepth 100000 in
set_option maxHeartbeats 4000000 in
theorem k_Rel_isBelow_23 {p : Program} {l : Launch} {e : Env} {s : State} {m : MethodId} {args : Array Value} {below : List Frame} {meth : Method} {c : Code} (hC : CX p s m args meth c prog_9_method_3_code 4 "OutwardTape$Relations" (some .boolean)) {r0 : Int32} : ∀  (ls : Array Slot), lv_has ls 4 [] → f_Rel_isBelow_23   = some r0 → W p l e rm_Rel_isBelow s m args below meth c s.heap [] 0 0 (MQ below (vp_Si (fun r => r = r0)) args s 0 0 (fun _ => False)) (F0 m 23 ls []) := by
  obtain ⟨hx, hb, hml, hown, hts, hr, hlocks⟩ := id hC
  intro ls hl h
  rw [f_Rel_isBelow_23] at h
  refine lv_iconst (v := 0) hx hb (dt_at dt_Rel_isBelow 13 rfl) (by decide) ?_
  exact k_Rel_isBelow_24 hC   (0 : Int32) ls (lv_sub hl [] rfl) h
set_option maxRecDepth 100000 in
set_option maxHeartbeats 4000000 in
theorem k_Rel_isBelow_19 {p : Program} {l : Launch} {e : Env} {s : State} {m : MethodId} {args : Array Value} {below : List Frame} {meth : Method} {c : Code} (hC : CX p s m args meth c prog_9_method_3_code 4 "OutwardTape$Relations" (some .boolean)) {r0 : Int32} : ∀  (ls : Array Slot), lv_has ls 4 [] → f_Rel_isBelow_19   = some r0 → W p l e rm_Rel_isBelow s m args below meth c s.heap [] 0 0 (MQ below (vp_Si (fun r => r = r0)) args s 0 0 (fun _ => False)) (F0 m 19 ls []) := by
  obtain ⟨hx, hb, hml, hown, hts, hr, hlocks⟩ := id hC
  intro ls hl h
  rw [f_Rel_isBelow_19] at h
  refine lv_iconst (v := 1) hx hb (dt_at dt_Rel_isBelow 11 rfl) (by decide) ?_
  refine lv_goto (tgt := 24) hx hb (dt_at dt_Rel_isBelow 12 rfl) (by decide) ?_
  exact k_Rel_isBelow_24 hC   (1 : Int32) ls (lv_sub hl [] rfl) h
set_option maxRecDepth 100000 in
set_option maxHeartbeats 4000000 in
theorem k_Rel_isBelow_0 {p : Program} {l : Launch} {e : Env} {s : State} {m : MethodId} {args : Array Value} {below : List Frame} {meth : Method} {c : Code} (hC : CX p s m args meth c prog_9_method_3_code 4 "OutwardTape$Relations" (some .boolean)) {r0 : Int32} : ∀ (v0 : Int64) (v2 : Int64) (ls : Array Slot), lv_has ls 4 [(0, .long v0), (2, .long v2)] → f_Rel_isBelow_0  v0 v2 = some r0 → W p l e rm_Rel_isBelow s m args below meth c s.heap [] 0 0 (MQ below (vp_Si (fun r => r = r0)) args s 0 0 (fun _ => False)) (F0 m 0 ls []) := by
  obtain ⟨hx, hb, hml, hown, hts, hr, hlocks⟩ := id hC
  intro v0 v2 ls hl h
  rw [f_Rel_isBelow_0] at h
  refine lv_lload_n hx hb (dt_at dt_Rel_isBelow 0 rfl) rfl (lv_at hl 0 rfl) ?_
  refine lv_lload_n hx hb (dt_at dt_Rel_isBelow 1 rfl) rfl (lv_at hl 1 rfl) ?_
  refine lc_lt (tgt := 19) hx hb (dt_at dt_Rel_isBelow 2 rfl) (dt_at dt_Rel_isBelow 3 rfl) (by decide) (fun c1 => ?_) (fun c1 => ?_)
  · have h := if_p h c1
    exact k_Rel_isBelow_19 hC    ls (lv_sub hl [] rfl) h
  · have h := if_n h c1
    refine lv_lload_n hx hb (dt_at dt_Rel_isBelow 4 rfl) rfl (lv_at hl 0 rfl) ?_
    refine lv_lload_n hx hb (dt_at dt_Rel_isBelow 5 rfl) rfl (lv_at hl 1 rfl) ?_
    refine lc_ne (tgt := 23) hx hb (dt_at dt_Rel_isBelow 6 rfl) (dt_at dt_Rel_isBelow 7 rfl) (by decide) (fun c2 => ?_) (fun c2 => ?_)
    · have h := if_n h c2
      exact k_Rel_isBelow_23 hC    ls (lv_sub hl [] rfl) h
    · have h := if_p h c2
      refine lv_lload_n hx hb (dt_at dt_Rel_isBelow 8 rfl) rfl (lv_at hl 0 rfl) ?_
      obtain ⟨r3, h_r3, h⟩ := ob_of h
      refine vp_callSi (W.runS (As := [.long v0]) (rest := []) ⟨hx, hb, hml, hown, hts⟩ (c_Rank_isFinite l v0 r3 h_r3) (va_cwS 1 hts (gd_S (m_1 152 rfl rfl) (m_1 153 rfl rfl) (m_1 15 rfl rfl) (m_1 154 rfl rfl)) rfl rfl rfl (by decide +kernel) ⟨Nat.le_of_ble_eq_true rfl, Nat.le_of_ble_eq_true rfl⟩) ⟨fun _ _ _ _ q => q, fun U hU hW => ⟨rfl, trivial⟩⟩ rfl rfl hl.1 rfl (lv_room (Nat.le_of_ble_eq_true rfl)) (dt_at dt_Rel_isBelow 9 rfl) ⟨Nat.le_of_ble_eq_true rfl, Nat.le_of_ble_eq_true rfl⟩) (fun u_r3 q_r3 => ?_)
      obtain rfl : r3 = u_r3 := q_r3.symm
      refine lv_if_ne (tgt := 23) hx hb (dt_at dt_Rel_isBelow 10 rfl) (by decide) (fun c4 => ?_) (fun c4 => ?_)
      · have h := if_n h c4
        exact k_Rel_isBelow_23 hC    ls (lv_sub hl [] rfl) h
      · have h := if_p h c4
        exact k_Rel_isBelow_19 hC    ls (lv_sub hl [] rfl) h
set_option maxRecDepth 100000 in
set_option maxHeartbeats 4000000 in
theorem c_Rel_isBelow (l : Launch) (a0 : Int64) (a2 : Int64) (r0 : Int32) (h : f_Rel_isBelow a0 a2 = some r0) : Met l (⟨"OutwardTape$Relations", "isBelow", "(JJ)Z"⟩ : MethodName) (WSm (⟨"OutwardTape$Relations", "isBelow", "(JJ)Z"⟩ : MethodName) prog_9_method_3_code 4 (some .boolean)) rm_Rel_isBelow (va_Pc [.long a0, .long a2] (fun _ => True)) (vp_Si (fun r => r = r0)) 0 0 (fun _ => False) := by
  refine Met.ofW (cc := prog_9_method_3_code) (maxL := 4) (ret := (some .boolean)) (by decide) rfl ?_
  intro p e s m args below meth c s₁ B hml hv
  obtain ⟨rfl, -⟩ := hv
  have hC := CX.of B hml rfl
  have hl := lv_entry [.long a0, .long a2] (n := 4) (Nat.le_of_ble_eq_true rfl)
  rw [lg_entry_eq]
  generalize (lg_sl [.long a0, .long a2] ++ List.replicate (4 - (lg_sl [.long a0, .long a2]).length) Slot.unset).toArray = ls at hl ⊢
  have hl : lv_has ls 4 [(0, .long a0), (2, .long a2)] := hl
  exact k_Rel_isBelow_0 hC a0 a2 ls (lv_sub hl [0, 1] rfl) h
abbrev rm_Rd_isDigit : Room := { frames := 0, cells := 0, slots := 0, locals := 0 }
set_option maxRecDepth 100000 in
set_option maxHeartbeats 4000000 in
theorem k_Rd_isDigit_17 {p : Program} {l : Launch} {e : Env} {s : State} {m : MethodId} {args : Array Value} {below : List Frame} {meth : Method} {c : Code} (hC : CX p s m args meth c prog_5_method_13_code 1 "OutwardTape$LiteralReader" (some .boolean)) {r0 : Int32} : ∀ (s0 : Int32) (ls : Array Slot), lv_has ls 1 [] → f_Rd_isDigit_17  s0 = some r0 → W p l e rm_Rd_isDigit s m args below meth c s.heap [] 0 0 (MQ below (vp_Si (fun r => r = r0)) args s 0 0 (fun _ => False)) (F0 m 17 ls [.int s0]) := by
  obtain ⟨hx, hb, hml, hown, hts, hr, hlocks⟩ := id hC
  intro s0 ls hl h
  rw [f_Rd_isDigit_17] at h
  obtain ⟨hz, h⟩ := og_of h
  have h := os_of h
  exact W.zret (v := s0) (ty := .boolean) hx hb hr (j_z_nar hz) (fun t ht hW => ⟨_, rfl, h, ht⟩) (fun q hq => absurd hq List.not_mem_nil) (dt_at dt_Rd_isDigit 9 rfl)
set_option maxRecDepth 100000 in
set_option maxHeartbeats 4000000 in
theorem k_Rd_isDigit_16 {p : Program} {l : Launch} {e : Env} {s : State} {m : MethodId} {args : Array Value} {below : List Frame} {meth : Method} {c : Code} (hC : CX p s m args meth c prog_5_method_13_code 1 "OutwardTape$LiteralReader" (some .boolean)) {r0 : Int32} : ∀  (ls : Array Slot), lv_has ls 1 [] → f_Rd_isDigit_16   = some r0 → W p l e rm_Rd_isDigit s m args below meth c s.heap [] 0 0 (MQ below (vp_Si (fun r => r = r0)) args s 0 0 (fun _ => False)) (F0 m 16 ls []) := by
  obtain ⟨hx, hb, hml, hown, hts, hr, hlocks⟩ := id hC
  intro ls hl h
  rw [f_Rd_isDigit_16] at h
  refine lv_iconst (v := 0) hx hb (dt_at dt_Rd_isDigit 8 rfl) (by decide) ?_
  exact k_Rd_isDigit_17 hC   (0 : Int32) ls (lv_sub hl [] rfl) h
set_option maxRecDepth 100000 in
set_option maxHeartbeats 4000000 in
theorem k_Rd_isDigit_0 {p : Program} {l : Launch} {e : Env} {s : State} {m : MethodId} {args : Array Value} {below : List Frame} {meth : Method} {c : Code} (hC : CX p s m args meth c prog_5_method_13_code 1 "OutwardTape$LiteralReader" (some .boolean)) {r0 : Int32} : ∀ (v0 : Int32) (ls : Array Slot), lv_has ls 1 [(0, .int v0)] → f_Rd_isDigit_0  v0 = some r0 → W p l e rm_Rd_isDigit s m args below meth c s.heap [] 0 0 (MQ below (vp_Si (fun r => r = r0)) args s 0 0 (fun _ => False)) (F0 m 0 ls []) := by
  obtain ⟨hx, hb, hml, hown, hts, hr, hlocks⟩ := id hC
  intro v0 ls hl h
  rw [f_Rd_isDigit_0] at h
  refine lv_iload_n hx hb (dt_at dt_Rd_isDigit 0 rfl) rfl (lv_at hl 0 rfl) ?_
  refine lv_bipush (v := 48) hx hb (dt_at dt_Rd_isDigit 1 rfl) (by decide) ?_
  refine lv_icmp_lt (tgt := 16) hx hb (dt_at dt_Rd_isDigit 2 rfl) (by decide) (fun c1 => ?_) (fun c1 => ?_)
  · have h := if_p h c1
    exact k_Rd_isDigit_16 hC    ls (lv_sub hl [] rfl) h
  · have h := if_n h c1
    refine lv_iload_n hx hb (dt_at dt_Rd_isDigit 3 rfl) rfl (lv_at hl 0 rfl) ?_
    refine lv_bipush (v := 57) hx hb (dt_at dt_Rd_isDigit 4 rfl) (by decide) ?_
    refine lv_icmp_gt (tgt := 16) hx hb (dt_at dt_Rd_isDigit 5 rfl) (by decide) (fun c2 => ?_) (fun c2 => ?_)
    · have h := if_p h c2
      exact k_Rd_isDigit_16 hC    ls (lv_sub hl [] rfl) h
    · have h := if_n h c2
      refine lv_iconst (v := 1) hx hb (dt_at dt_Rd_isDigit 6 rfl) (by decide) ?_
      refine lv_goto (tgt := 17) hx hb (dt_at dt_Rd_isDigit 7 rfl) (by decide) ?_
      exact k_Rd_isDigit_17 hC   (1 : Int32) ls (lv_sub hl [] rfl) h
set_option maxRecDepth 100000 in
set_option maxHeartbeats 4000000 in
theorem c_Rd_isDigit (l : Launch) (a0 : Int32) (r0 : Int32) (h : f_Rd_isDigit a0 = some r0) : Met l (⟨"OutwardTape$LiteralReader", "isDigit", "(C)Z"⟩ : MethodName) (WSm (⟨"OutwardTape$LiteralReader", "isDigit", "(C)Z"⟩ : MethodName) prog_5_method_13_code 1 (some .boolean)) rm_Rd_isDigit (va_Pc [.int a0] (fun _ => True)) (vp_Si (fun r => r = r0)) 0 0 (fun _ => False) := by
  refine Met.ofW (cc := prog_5_method_13_code) (maxL := 1) (ret := (some .boolean)) (by decide) rfl ?_
  intro p e s m args below meth c s₁ B hml hv
  obtain ⟨rfl, -⟩ := hv
  have hC := CX.of B hml rfl
  have hl := lv_entry [.int a0] (n := 1) (Nat.le_of_ble_eq_true rfl)
  rw [lg_entry_eq]
  generalize (lg_sl [.int a0] ++ List.replicate (1 - (lg_sl [.int a0]).length) Slot.unset).toArray = ls at hl ⊢
  have hl : lv_has ls 1 [(0, .int a0)] := hl
  exact k_Rd_isDigit_0 hC a0 ls (lv_sub hl [0] rfl) h
abbrev rm_Ref_mantissa : Room := { frames := 0, cells := 0, slots := 0, locals := 0 }
set_option maxRecDepth 100000 in
set_option maxHeartbeats 4000000 in
theorem k_Ref_mantissa_29 {p : Program} {l : Launch} {e : Env} {s : State} {m : MethodId} {args : Array Value} {below : List Frame} {meth : Method} {c : Code} (hC : CX p s m args meth c prog_12_method_13_code 6 "OutwardTapeModel" (some .long)) {r0 : Int64} : ∀ (s0 : Int64) (ls : Array Slot), lv_has ls 6 [] → f_Ref_mantissa_29  s0 = some r0 → W p l e rm_Ref_mantissa s m args below meth c s.heap [] 0 0 (MQ below (vp_Sl (fun r => r = r0)) args s 0 0 (fun _ => False)) (F0 m 29 ls [.long s0]) := by
  obtain ⟨hx, hb, hml, hown, hts, hr, hlocks⟩ := id hC
  intro s0 ls hl h
  rw [f_Ref_mantissa_29] at h
  have h := os_of h
  exact W.lret (v := s0) hx hb hr (fun t ht hW => ⟨_, rfl, h, ht⟩) (fun q hq => absurd hq List.not_mem_nil) (dt_at dt_Ref_mantissa 17 rfl)
set_option maxRecDepth 100000 in
set_option maxHeartbeats 4000000 in
theorem k_Ref_mantissa_0 {p : Program} {l : Launch} {e : Env} {s : State} {m : MethodId} {args : Array Value} {below : List Frame} {meth : Method} {c : Code} (hC : CX p s m args meth c prog_12_method_13_code 6 "OutwardTapeModel" (some .long)) {r0 : Int64} : ∀ (v0 : Int64) (ls : Array Slot), lv_has ls 6 [(0, .long v0)] → f_Ref_mantissa_0  v0 = some r0 → W p l e rm_Ref_mantissa s m args below meth c s.heap [] 0 0 (MQ below (vp_Sl (fun r => r = r0)) args s 0 0 (fun _ => False)) (F0 m 0 ls []) := by
  obtain ⟨hx, hb, hml, hown, hts, hr, hlocks⟩ := id hC
  intro v0 ls hl h
  rw [f_Ref_mantissa_0] at h
  refine lv_lload_n hx hb (dt_at dt_Ref_mantissa 0 rfl) rfl (lv_at hl 0 rfl) ?_
  refine lv_bipush (v := 52) hx hb (dt_at dt_Ref_mantissa 1 rfl) (by decide) ?_
  refine lv_lshr (v := (j_lshr v0 (52 : Int32))) hx hb (dt_at dt_Ref_mantissa 2 rfl) rfl ?_
  obtain ⟨t1, e_t1, h⟩ := ol_of h
  refine lv_topl (fun u_t1 q_t1 => ?_)
  obtain rfl : t1 = u_t1 := e_t1.trans q_t1.symm
  refine lv_lstore_n (lv' := [(2, .long t1), (0, .long v0)]) hx hb (dt_at dt_Ref_mantissa 3 rfl) rfl hl (by decide) rfl (fun ls hl => ?_)
  refine lv_lload_n hx hb (dt_at dt_Ref_mantissa 4 rfl) rfl (lv_at hl 1 rfl) ?_
  refine lv_ldc2 (v := 4503599627370495) hx hb hown (hts (Cond.constantLong "OutwardTapeModel" 59 (4503599627370495)) (m_4 127 rfl rfl)) (dt_at dt_Ref_mantissa 5 rfl) ?_
  refine lv_land hx hb (dt_at dt_Ref_mantissa 6 rfl) ?_
  obtain ⟨t2, e_t2, h⟩ := ol_of h
  refine lv_topl (fun u_t2 q_t2 => ?_)
  obtain rfl : t2 = u_t2 := e_t2.trans q_t2.symm
  refine lv_lstore (lv' := [(4, .long t2), (2, .long t1), (0, .long v0)]) hx hb (dt_at dt_Ref_mantissa 7 rfl) hl (by decide) rfl (fun ls hl => ?_)
  refine lv_lload_n hx hb (dt_at dt_Ref_mantissa 8 rfl) rfl (lv_at hl 1 rfl) ?_
  refine lv_lconst (v := 0) hx hb (dt_at dt_Ref_mantissa 9 rfl) (by decide) ?_
  refine lc_ne (tgt := 23) hx hb (dt_at dt_Ref_mantissa 10 rfl) (dt_at dt_Ref_mantissa 11 rfl) (by decide) (fun c3 => ?_) (fun c3 => ?_)
  · have h := if_n h c3
    refine lv_lload hx hb (dt_at dt_Ref_mantissa 14 rfl) (lv_at hl 0 rfl) ?_
    refine lv_ldc2 (v := 4503599627370496) hx hb hown (hts (Cond.constantLong "OutwardTapeModel" 61 (4503599627370496)) (m_4 128 rfl rfl)) (dt_at dt_Ref_mantissa 15 rfl) ?_
    refine lv_lor hx hb (dt_at dt_Ref_mantissa 16 rfl) ?_
    exact k_Ref_mantissa_29 hC   (t2 ||| (4503599627370496 : Int64)) ls (lv_sub hl [] rfl) h
  · have h := if_p h c3
    refine lv_lload hx hb (dt_at dt_Ref_mantissa 12 rfl) (lv_at hl 0 rfl) ?_
    refine lv_goto (tgt := 29) hx hb (dt_at dt_Ref_mantissa 13 rfl) (by decide) ?_
    exact k_Ref_mantissa_29 hC   t2 ls (lv_sub hl [] rfl) h
set_option maxRecDepth 100000 in
set_option maxHeartbeats 4000000 in
theorem c_Ref_mantissa (l : Launch) (a0 : Int64) (r0 : Int64) (h : f_Ref_mantissa a0 = some r0) : Met l (⟨"OutwardTapeModel", "mantissa", "(J)J"⟩ : MethodName) (WSm (⟨"OutwardTapeModel", "mantissa", "(J)J"⟩ : MethodName) prog_12_method_13_code 6 (some .long)) rm_Ref_mantissa (va_Pc [.long a0] (fun _ => True)) (vp_Sl (fun r => r = r0)) 0 0 (fun _ => False) := by
  refine Met.ofW (cc := prog_12_method_13_code) (maxL := 6) (ret := (some .long)) (by decide) rfl ?_
  intro p e s m args below meth c s₁ B hml hv
  obtain ⟨rfl, -⟩ := hv
  have hC := CX.of B hml rfl
  have hl := lv_entry [.long a0] (n := 6) (Nat.le_of_ble_eq_true rfl)
  rw [lg_entry_eq]
  generalize (lg_sl [.long a0] ++ List.replicate (6 - (lg_sl [.long a0]).length) Slot.unset).toArray = ls at hl ⊢
  have hl : lv_has ls 6 [(0, .long a0)] := hl
  exact k_Ref_mantissa_0 hC a0 ls (lv_sub hl [0] rfl) h
abbrev rm_Ref_exponent : Room := { frames := 0, cells := 0, slots := 0, locals := 0 }
set_option maxRecDepth 100000 in
set_option maxHeartbeats 4000000 in
theorem k_Ref_exponent_21 {p : Program} {l : Launch} {e : Env} {s : State} {m : MethodId} {args : Array Value} {below : List Frame} {meth : Method} {c : Code} (hC : CX p s m args meth c prog_12_method_14_code 3 "OutwardTapeModel" (some .int)) {r0 : Int32} : ∀ (s0 : Int32) (ls : Array Slot), lv_has ls 3 [] → f_Ref_exponent_21  s0 = some r0 → W p l e rm_Ref_exponent s m args below meth c s.heap [] 0 0 (MQ below (vp_Si (fun r => r = r0)) args s 0 0 (fun _ => False)) (F0 m 21 ls [.int s0]) := by
  obtain ⟨hx, hb, hml, hown, hts, hr, hlocks⟩ := id hC
  intro s0 ls hl h
  rw [f_Ref_exponent_21] at h
  have h := os_of h
  exact W.iret (v := s0) hx hb hr (fun t ht hW => ⟨_, rfl, h, ht⟩) (fun q hq => absurd hq List.not_mem_nil) (dt_at dt_Ref_exponent 12 rfl)
set_option maxRecDepth 100000 in
set_option maxHeartbeats 4000000 in
theorem k_Ref_exponent_0 {p : Program} {l : Launch} {e : Env} {s : State} {m : MethodId} {args : Array Value} {below : List Frame} {meth : Method} {c : Code} (hC : CX p s m args meth c prog_12_method_14_code 3 "OutwardTapeModel" (some .int)) {r0 : Int32} : ∀ (v0 : Int64) (ls : Array Slot), lv_has ls 3 [(0, .long v0)] → f_Ref_exponent_0  v0 = some r0 → W p l e rm_Ref_exponent s m args below meth c s.heap [] 0 0 (MQ below (vp_Si (fun r => r = r0)) args s 0 0 (fun _ => False)) (F0 m 0 ls []) := by
  obtain ⟨hx, hb, hml, hown, hts, hr, hlocks⟩ := id hC
  intro v0 ls hl h
  rw [f_Ref_exponent_0] at h
  refine lv_lload_n hx hb (dt_at dt_Ref_exponent 0 rfl) rfl (lv_at hl 0 rfl) ?_
  refine lv_bipush (v := 52) hx hb (dt_at dt_Ref_exponent 1 rfl) (by decide) ?_
  refine lv_lshr (v := (j_lshr v0 (52 : Int32))) hx hb (dt_at dt_Ref_exponent 2 rfl) rfl ?_
  refine lv_l2i (v := (j_lshr v0 (52 : Int32)).toInt32) hx hb (dt_at dt_Ref_exponent 3 rfl) rfl ?_
  obtain ⟨t1, e_t1, h⟩ := ol_of h
  refine lv_topi (fun u_t1 q_t1 => ?_)
  obtain rfl : t1 = u_t1 := e_t1.trans q_t1.symm
  refine lv_istore_n (lv' := [(2, .int t1), (0, .long v0)]) hx hb (dt_at dt_Ref_exponent 4 rfl) rfl hl (by decide) rfl (fun ls hl => ?_)
  refine lv_iload_n hx hb (dt_at dt_Ref_exponent 5 rfl) rfl (lv_at hl 0 rfl) ?_
  refine lv_if_ne (tgt := 16) hx hb (dt_at dt_Ref_exponent 6 rfl) (by decide) (fun c2 => ?_) (fun c2 => ?_)
  · have h := if_n h c2
    refine lv_iload_n hx hb (dt_at dt_Ref_exponent 9 rfl) rfl (lv_at hl 0 rfl) ?_
    refine lv_sipush (v := 1075) hx hb (dt_at dt_Ref_exponent 10 rfl) (by decide) ?_
    refine lv_isub hx hb (dt_at dt_Ref_exponent 11 rfl) ?_
    exact k_Ref_exponent_21 hC   (t1 - (1075 : Int32)) ls (lv_sub hl [] rfl) h
  · have h := if_p h c2
    refine lv_sipush (v := -1074) hx hb (dt_at dt_Ref_exponent 7 rfl) (by decide) ?_
    refine lv_goto (tgt := 21) hx hb (dt_at dt_Ref_exponent 8 rfl) (by decide) ?_
    exact k_Ref_exponent_21 hC   (-1074 : Int32) ls (lv_sub hl [] rfl) h
set_option maxRecDepth 100000 in
set_option maxHeartbeats 4000000 in
theorem c_Ref_exponent (l : Launch) (a0 : Int64) (r0 : Int32) (h : f_Ref_exponent a0 = some r0) : Met l (⟨"OutwardTapeModel", "exponent", "(J)I"⟩ : MethodName) (WSm (⟨"OutwardTapeModel", "exponent", "(J)I"⟩ : MethodName) prog_12_method_14_code 3 (some .int)) rm_Ref_exponent (va_Pc [.long a0] (fun _ => True)) (vp_Si (fun r => r = r0)) 0 0 (fun _ => False) := by
  refine Met.ofW (cc := prog_12_method_14_code) (maxL := 3) (ret := (some .int)) (by decide) rfl ?_
  intro p e s m args below meth c s₁ B hml hv
  obtain ⟨rfl, -⟩ := hv
  have hC := CX.of B hml rfl
  have hl := lv_entry [.long a0] (n := 3) (Nat.le_of_ble_eq_true rfl)
  rw [lg_entry_eq]
  generalize (lg_sl [.long a0] ++ List.replicate (3 - (lg_sl [.long a0]).length) Slot.unset).toArray = ls at hl ⊢
  have hl : lv_has ls 3 [(0, .long a0)] := hl
  exact k_Ref_exponent_0 hC a0 ls (lv_sub hl [0] rfl) h
abbrev rm_Ref_absolute : Room := { frames := 0, cells := 0, slots := 0, locals := 0 }
set_option maxRecDepth 100000 in
set_option maxHeartbeats 4000000 in
theorem k_Ref_absolute_12 {p : Program} {l : Launch} {e : Env} {s : State} {m : MethodId} {args : Array Value} {below : List Frame} {meth : Method} {c : Code} (hC : CX p s m args meth c prog_12_method_16_code 2 "OutwardTapeModel" (some .long)) {r0 : Int64} : ∀ (s0 : Int64) (ls : Array Slot), lv_has ls 2 [] → f_Ref_absolute_12  s0 = some r0 → W p l e rm_Ref_absolute s m args below meth c s.heap [] 0 0 (MQ below (vp_Sl (fun r => r = r0)) args s 0 0 (fun _ => False)) (F0 m 12 ls [.long s0]) := by
  obtain ⟨hx, hb, hml, hown, hts, hr, hlocks⟩ := id hC
  intro s0 ls hl h
  rw [f_Ref_absolute_12] at h
  have h := os_of h
  exact W.lret (v := s0) hx hb hr (fun t ht hW => ⟨_, rfl, h, ht⟩) (fun q hq => absurd hq List.not_mem_nil) (dt_at dt_Ref_absolute 8 rfl)
set_option maxRecDepth 100000 in
set_option maxHeartbeats 4000000 in
theorem k_Ref_absolute_0 {p : Program} {l : Launch} {e : Env} {s : State} {m : MethodId} {args : Array Value} {below : List Frame} {meth : Method} {c : Code} (hC : CX p s m args meth c prog_12_method_16_code 2 "OutwardTapeModel" (some .long)) {r0 : Int64} : ∀ (v0 : Int64) (ls : Array Slot), lv_has ls 2 [(0, .long v0)] → f_Ref_absolute_0  v0 = some r0 → W p l e rm_Ref_absolute s m args below meth c s.heap [] 0 0 (MQ below (vp_Sl (fun r => r = r0)) args s 0 0 (fun _ => False)) (F0 m 0 ls []) := by
  obtain ⟨hx, hb, hml, hown, hts, hr, hlocks⟩ := id hC
  intro v0 ls hl h
  rw [f_Ref_absolute_0] at h
  refine lv_lload_n hx hb (dt_at dt_Ref_absolute 0 rfl) rfl (lv_at hl 0 rfl) ?_
  refine lv_lconst (v := 0) hx hb (dt_at dt_Ref_absolute 1 rfl) (by decide) ?_
  refine lc_ge (tgt := 11) hx hb (dt_at dt_Ref_absolute 2 rfl) (dt_at dt_Ref_absolute 3 rfl) (by decide) (fun c1 => ?_) (fun c1 => ?_)
  · have h := if_p h c1
    refine lv_lload_n hx hb (dt_at dt_Ref_absolute 7 rfl) rfl (lv_at hl 0 rfl) ?_
    exact k_Ref_absolute_12 hC   v0 ls (lv_sub hl [] rfl) h
  · have h := if_n h c1
    refine lv_lload_n hx hb (dt_at dt_Ref_absolute 4 rfl) rfl (lv_at hl 0 rfl) ?_
    refine lv_lneg hx hb (dt_at dt_Ref_absolute 5 rfl) ?_
    refine lv_goto (tgt := 12) hx hb (dt_at dt_Ref_absolute 6 rfl) (by decide) ?_
    exact k_Ref_absolute_12 hC   (-v0) ls (lv_sub hl [] rfl) h
set_option maxRecDepth 100000 in
set_option maxHeartbeats 4000000 in
theorem c_Ref_absolute (l : Launch) (a0 : Int64) (r0 : Int64) (h : f_Ref_absolute a0 = some r0) : Met l (⟨"OutwardTapeModel", "absolute", "(J)J"⟩ : MethodName) (WSm (⟨"OutwardTapeModel", "absolute", "(J)J"⟩ : MethodName) prog_12_method_16_code 2 (some .long)) rm_Ref_absolute (va_Pc [.long a0] (fun _ => True)) (vp_Sl (fun r => r = r0)) 0 0 (fun _ => False) := by
  refine Met.ofW (cc := prog_12_method_16_code) (maxL := 2) (ret := (some .long)) (by decide) rfl ?_
  intro p e s m args below meth c s₁ B hml hv
  obtain ⟨rfl, -⟩ := hv
  have hC := CX.of B hml rfl
  have hl := lv_entry [.long a0] (n := 2) (Nat.le_of_ble_eq_true rfl)
  rw [lg_entry_eq]
  generalize (lg_sl [.long a0] ++ List.replicate (2 - (lg_sl [.long a0]).length) Slot.unset).toArray = ls at hl ⊢
  have hl : lv_has ls 2 [(0, .long a0)] := hl
  exact k_Ref_absolute_0 hC a0 ls (lv_sub hl [0] rfl) h
abbrev rm_Ref_infinite : Room := { frames := 1, cells := 0, slots := 0, locals := 21 }
set_option maxRecDepth 100000 in
set_option maxHeartbeats 4000000 in
theorem k_Ref_infinite_16 {p : Program} {l : Launch} {e : Env} {s : State} {m : MethodId} {args : Array Value} {below : List Frame} {meth : Method} {c : Code} (hC : CX p s m args meth c prog_12_method_17_code 2 "OutwardTapeModel" (some .boolean)) {r0 : Int32} : ∀ (s0 : Int32) (ls : Array Slot), lv_has ls 2 [] → f_Ref_infinite_16  s0 = some r0 → W p l e rm_Ref_infinite s m args below meth c s.heap [] 0 0 (MQ below (vp_Si (fun r => r = r0)) args s 0 0 (fun _ => False)) (F0 m 16 ls [.int s0]) := by
  obtain ⟨hx, hb, hml, hown, hts, hr, hlocks⟩ := id hC
  intro s0 ls hl h
  rw [f_Ref_infinite_16] at h
  obtain ⟨hz, h⟩ := og_of h
  have h := os_of h
  exact W.zret (v := s0) (ty := .boolean) hx hb hr (j_z_nar hz) (fun t ht hW => ⟨_, rfl, h, ht⟩) (fun q hq => absurd hq List.not_mem_nil) (dt_at dt_Ref_infinite 8 rfl)
set_option maxRecDepth 100000 in
set_option maxHeartbeats 4000000 in
theorem k_Ref_infinite_0 {p : Program} {l : Launch} {e : Env} {s : State} {m : MethodId} {args : Array Value} {below : List Frame} {meth : Method} {c : Code} (hC : CX p s m args meth c prog_12_method_17_code 2 "OutwardTapeModel" (some .boolean)) {r0 : Int32} : ∀ (v0 : Int64) (ls : Array Slot), lv_has ls 2 [(0, .long v0)] → f_Ref_infinite_0  v0 = some r0 → W p l e rm_Ref_infinite s m args below meth c s.heap [] 0 0 (MQ below (vp_Si (fun r => r = r0)) args s 0 0 (fun _ => False)) (F0 m 0 ls []) := by
  obtain ⟨hx, hb, hml, hown, hts, hr, hlocks⟩ := id hC
  intro v0 ls hl h
  rw [f_Ref_infinite_0] at h
  refine lv_lload_n hx hb (dt_at dt_Ref_infinite 0 rfl) rfl (lv_at hl 0 rfl) ?_
  obtain ⟨r1, h_r1, h⟩ := ob_of h
  refine vp_callSl (W.runS (As := [.long v0]) (rest := []) ⟨hx, hb, hml, hown, hts⟩ (c_Ref_absolute l v0 r1 h_r1) (va_cwS 1 hts (gd_S (m_4 81 rfl rfl) (m_4 82 rfl rfl) (m_1 4 rfl rfl) (m_4 83 rfl rfl)) rfl rfl rfl (by decide +kernel) ⟨Nat.le_of_ble_eq_true rfl, Nat.le_of_ble_eq_true rfl⟩) ⟨fun _ _ _ _ q => q, fun U hU hW => ⟨rfl, trivial⟩⟩ rfl rfl hl.1 rfl (lv_room (Nat.le_of_ble_eq_true rfl)) (dt_at dt_Ref_infinite 1 rfl) ⟨Nat.le_of_ble_eq_true rfl, Nat.le_of_ble_eq_true rfl⟩) (fun u_r1 q_r1 => ?_)
  obtain rfl : r1 = u_r1 := q_r1.symm
  refine lv_ldc2 (v := 9218868437227405312) hx hb hown (hts (Cond.constantLong "OutwardTapeModel" 69 (9218868437227405312)) (m_4 70 rfl rfl)) (dt_at dt_Ref_infinite 2 rfl) ?_
  refine lc_ne (tgt := 15) hx hb (dt_at dt_Ref_infinite 3 rfl) (dt_at dt_Ref_infinite 4 rfl) (by decide) (fun c2 => ?_) (fun c2 => ?_)
  · have h := if_n h c2
    refine lv_iconst (v := 0) hx hb (dt_at dt_Ref_infinite 7 rfl) (by decide) ?_
    exact k_Ref_infinite_16 hC   (0 : Int32) ls (lv_sub hl [] rfl) h
  · have h := if_p h c2
    refine lv_iconst (v := 1) hx hb (dt_at dt_Ref_infinite 5 rfl) (by decide) ?_
    refine lv_goto (tgt := 16) hx hb (dt_at dt_Ref_infinite 6 rfl) (by decide) ?_
    exact k_Ref_infinite_16 hC   (1 : Int32) ls (lv_sub hl [] rfl) h
set_option maxRecDepth 100000 in
set_option maxHeartbeats 4000000 in
theorem c_Ref_infinite (l : Launch) (a0 : Int64) (r0 : Int32) (h : f_Ref_infinite a0 = some r0) : Met l (⟨"OutwardTapeModel", "infinite", "(J)Z"⟩ : MethodName) (WSm (⟨"OutwardTapeModel", "infinite", "(J)Z"⟩ : MethodName) prog_12_method_17_code 2 (some .boolean)) rm_Ref_infinite (va_Pc [.long a0] (fun _ => True)) (vp_Si (fun r => r = r0)) 0 0 (fun _ => False) := by
  refine Met.ofW (cc := prog_12_method_17_code) (maxL := 2) (ret := (some .boolean)) (by decide) rfl ?_
  intro p e s m args below meth c s₁ B hml hv
  obtain ⟨rfl, -⟩ := hv
  have hC := CX.of B hml rfl
  have hl := lv_entry [.long a0] (n := 2) (Nat.le_of_ble_eq_true rfl)
  rw [lg_entry_eq]
  generalize (lg_sl [.long a0] ++ List.replicate (2 - (lg_sl [.long a0]).length) Slot.unset).toArray = ls at hl ⊢
  have hl : lv_has ls 2 [(0, .long a0)] := hl
  exact k_Ref_infinite_0 hC a0 ls (lv_sub hl [0] rfl) h
abbrev rm_Ref_signOf : Room := { frames := 0, cells := 0, slots := 0, locals := 0 }
set_option maxRecDepth 100000 in
set_option maxHeartbeats 4000000 in
theorem k_Ref_signOf_26 {p : Program} {l : Launch} {e : Env} {s : State} {m : MethodId} {args : Array Value} {below : List Frame} {meth : Method} {c : Code} (hC : CX p s m args meth c prog_12_method_26_code 4 "OutwardTapeModel" (some .long)) {r0 : Int64} : ∀ (s0 : Int64) (ls : Array Slot), lv_has ls 4 [] → f_Ref_signOf_26  s0 = some r0 → W p l e rm_Ref_signOf s m args below meth c s.heap [] 0 0 (MQ below (vp_Sl (fun r => r = r0)) args s 0 0 (fun _ => False)) (F0 m 26 ls [.long s0]) := by
  obtain ⟨hx, hb, hml, hown, hts, hr, hlocks⟩ := id hC
  intro s0 ls hl h
  rw [f_Ref_signOf_26] at h
  have h := os_of h
  exact W.lret (v := s0) hx hb hr (fun t ht hW => ⟨_, rfl, h, ht⟩) (fun q hq => absurd hq List.not_mem_nil) (dt_at dt_Ref_signOf 16 rfl)
set_option maxRecDepth 100000 in
set_option maxHeartbeats 4000000 in
theorem k_Ref_signOf_0 {p : Program} {l : Launch} {e : Env} {s : State} {m : MethodId} {args : Array Value} {below : List Frame} {meth : Method} {c : Code} (hC : CX p s m args meth c prog_12_method_26_code 4 "OutwardTapeModel" (some .long)) {r0 : Int64} : ∀ (v0 : Int64) (ls : Array Slot), lv_has ls 4 [(0, .long v0)] → f_Ref_signOf_0  v0 = some r0 → W p l e rm_Ref_signOf s m args below meth c s.heap [] 0 0 (MQ below (vp_Sl (fun r => r = r0)) args s 0 0 (fun _ => False)) (F0 m 0 ls []) := by
  obtain ⟨hx, hb, hml, hown, hts, hr, hlocks⟩ := id hC
  intro v0 ls hl h
  rw [f_Ref_signOf_0] at h
  refine lv_ldc2 (v := 4607182418800017408) hx hb hown (hts (Cond.constantLong "OutwardTapeModel" 113 (4607182418800017408)) (m_4 172 rfl rfl)) (dt_at dt_Ref_signOf 0 rfl) ?_
  refine lv_lstore_n (lv' := [(2, .long (4607182418800017408 : Int64)), (0, .long v0)]) hx hb (dt_at dt_Ref_signOf 1 rfl) rfl hl (by decide) rfl (fun ls hl => ?_)
  refine lv_lload_n hx hb (dt_at dt_Ref_signOf 2 rfl) rfl (lv_at hl 1 rfl) ?_
  refine lv_lconst (v := 0) hx hb (dt_at dt_Ref_signOf 3 rfl) (by decide) ?_
  refine lc_le (tgt := 14) hx hb (dt_at dt_Ref_signOf 4 rfl) (dt_at dt_Ref_signOf 5 rfl) (by decide) (fun c1 => ?_) (fun c1 => ?_)
  · have h := if_p h c1
    refine lv_lload_n hx hb (dt_at dt_Ref_signOf 8 rfl) rfl (lv_at hl 1 rfl) ?_
    refine lv_lconst (v := 0) hx hb (dt_at dt_Ref_signOf 9 rfl) (by decide) ?_
    refine lc_ge (tgt := 25) hx hb (dt_at dt_Ref_signOf 10 rfl) (dt_at dt_Ref_signOf 11 rfl) (by decide) (fun c2 => ?_) (fun c2 => ?_)
    · have h := if_p h c2
      refine lv_lconst (v := 0) hx hb (dt_at dt_Ref_signOf 15 rfl) (by decide) ?_
      exact k_Ref_signOf_26 hC   (0 : Int64) ls (lv_sub hl [] rfl) h
    · have h := if_n h c2
      refine lv_lload_n hx hb (dt_at dt_Ref_signOf 12 rfl) rfl (lv_at hl 0 rfl) ?_
      refine lv_lneg hx hb (dt_at dt_Ref_signOf 13 rfl) ?_
      refine lv_goto (tgt := 26) hx hb (dt_at dt_Ref_signOf 14 rfl) (by decide) ?_
      exact k_Ref_signOf_26 hC   (-(4607182418800017408 : Int64)) ls (lv_sub hl [] rfl) h
  · have h := if_n h c1
    refine lv_lload_n hx hb (dt_at dt_Ref_signOf 6 rfl) rfl (lv_at hl 0 rfl) ?_
    refine lv_goto (tgt := 26) hx hb (dt_at dt_Ref_signOf 7 rfl) (by decide) ?_
    exact k_Ref_signOf_26 hC   (4607182418800017408 : Int64) ls (lv_sub hl [] rfl) h
set_option maxRecDepth 100000 in
set_option maxHeartbeats 4000000 in
theorem c_Ref_signOf (l : Launch) (a0 : Int64) (r0 : Int64) (h : f_Ref_signOf a0 = some r0) : Met l (⟨"OutwardTapeModel", "signOf", "(J)J"⟩ : MethodName) (WSm (⟨"OutwardTapeModel", "signOf", "(J)J"⟩ : MethodName) prog_12_method_26_code 4 (some .long)) rm_Ref_signOf (va_Pc [.long a0] (fun _ => True)) (vp_Sl (fun r => r = r0)) 0 0 (fun _ => False) := by
  refine Met.ofW (cc := prog_12_method_26_code) (maxL := 4) (ret := (some .long)) (by decide) rfl ?_
  intro p e s m args below meth c s₁ B hml hv
  obtain ⟨rfl, -⟩ := hv
  have hC := CX.of B hml rfl
  have hl := lv_entry [.long a0] (n := 4) (Nat.le_of_ble_eq_true rfl)
  rw [lg_entry_eq]
  generalize (lg_sl [.long a0] ++ List.replicate (4 - (lg_sl [.long a0]).length) Slot.unset).toArray = ls at hl ⊢
  have hl : lv_has ls 4 [(0, .long a0)] := hl
  exact k_Ref_signOf_0 hC a0 ls (lv_sub hl [0] rfl) h
abbrev rm_Ref_less : Room := { frames := 0, cells := 0, slots := 0, locals := 0 }
set_option maxRecDepth 100000 in
set_option maxHeartbeats 4000000 in
theorem k_Ref_less_11 {p : Program} {l : Launch} {e : Env} {s : State} {m : MethodId} {args : Array Value} {below : List Frame} {meth : Method} {c : Code} (hC : CX p s m args meth c prog_12_method_27_code 4 "OutwardTapeModel" (some .long)) {r0 : Int64} : ∀ (s0 : Int64) (ls : Array Slot), lv_has ls 4 [] → f_Ref_less_11  s0 = some r0 → W p l e rm_Ref_less s m args below meth c s.heap [] 0 0 (MQ below (vp_Sl (fun r => r = r0)) args s 0 0 (fun _ => False)) (F0 m 11 ls [.long s0]) := by
  obtain ⟨hx, hb, hml, hown, hts, hr, hlocks⟩ := id hC
  intro s0 ls hl h
  rw [f_Ref_less_11] at h
  have h := os_of h
  exact W.lret (v := s0) hx hb hr (fun t ht hW => ⟨_, rfl, h, ht⟩) (fun q hq => absurd hq List.not_mem_nil) (dt_at dt_Ref_less 7 rfl)
set_option maxRecDepth 100000 in
set_option maxHeartbeats 4000000 in
theorem k_Ref_less_0 {p : Program} {l : Launch} {e : Env} {s : State} {m : MethodId} {args : Array Value} {below : List Frame} {meth : Method} {c : Code} (hC : CX p s m args meth c prog_12_method_27_code 4 "OutwardTapeModel" (some .long)) {r0 : Int64} : ∀ (v0 : Int64) (v2 : Int64) (ls : Array Slot), lv_has ls 4 [(0, .long v0), (2, .long v2)] → f_Ref_less_0  v0 v2 = some r0 → W p l e rm_Ref_less s m args below meth c s.heap [] 0 0 (MQ below (vp_Sl (fun r => r = r0)) args s 0 0 (fun _ => False)) (F0 m 0 ls []) := by
  obtain ⟨hx, hb, hml, hown, hts, hr, hlocks⟩ := id hC
  intro v0 v2 ls hl h
  rw [f_Ref_less_0] at h
  refine lv_lload_n hx hb (dt_at dt_Ref_less 0 rfl) rfl (lv_at hl 0 rfl) ?_
  refine lv_lload_n hx hb (dt_at dt_Ref_less 1 rfl) rfl (lv_at hl 1 rfl) ?_
  refine lc_ge (tgt := 10) hx hb (dt_at dt_Ref_less 2 rfl) (dt_at dt_Ref_less 3 rfl) (by decide) (fun c1 => ?_) (fun c1 => ?_)
  · have h := if_p h c1
    refine lv_lload_n hx hb (dt_at dt_Ref_less 6 rfl) rfl (lv_at hl 1 rfl) ?_
    exact k_Ref_less_11 hC   v2 ls (lv_sub hl [] rfl) h
  · have h := if_n h c1
    refine lv_lload_n hx hb (dt_at dt_Ref_less 4 rfl) rfl (lv_at hl 0 rfl) ?_
    refine lv_goto (tgt := 11) hx hb (dt_at dt_Ref_less 5 rfl) (by decide) ?_
    exact k_Ref_less_11 hC   v0 ls (lv_sub hl [] rfl) h
set_option maxRecDepth 100000 in
set_option maxHeartbeats 4000000 in
theorem c_Ref_less (l : Launch) (a0 : Int64) (a2 : Int64) (r0 : Int64) (h : f_Ref_less a0 a2 = some r0) : Met l (⟨"OutwardTapeModel", "less", "(JJ)J"⟩ : MethodName) (WSm (⟨"OutwardTapeModel", "less", "(JJ)J"⟩ : MethodName) prog_12_method_27_code 4 (some .long)) rm_Ref_less (va_Pc [.long a0, .long a2] (fun _ => True)) (vp_Sl (fun r => r = r0)) 0 0 (fun _ => False) := by
  refine Met.ofW (cc := prog_12_method_27_code) (maxL := 4) (ret := (some .long)) (by decide) rfl ?_
  intro p e s m args below meth c s₁ B hml hv
  obtain ⟨rfl, -⟩ := hv
  have hC := CX.of B hml rfl
  have hl := lv_entry [.long a0, .long a2] (n := 4) (Nat.le_of_ble_eq_true rfl)
  rw [lg_entry_eq]
  generalize (lg_sl [.long a0, .long a2] ++ List.replicate (4 - (lg_sl [.long a0, .long a2]).length) Slot.unset).toArray = ls at hl ⊢
  have hl : lv_has ls 4 [(0, .long a0), (2, .long a2)] := hl
  exact k_Ref_less_0 hC a0 a2 ls (lv_sub hl [0, 1] rfl) h
abbrev rm_Ref_greater : Room := { frames := 0, cells := 0, slots := 0, locals := 0 }
set_option maxRecDepth 100000 in
set_option maxHeartbeats 4000000 in
theorem k_Ref_greater_11 {p : Program} {l : Launch} {e : Env} {s : State} {m : MethodId} {args : Array Value} {below : List Frame} {meth : Method} {c : Code} (hC : CX p s m args meth c prog_12_method_28_code 4 "OutwardTapeModel" (some .long)) {r0 : Int64} : ∀ (s0 : Int64) (ls : Array Slot), lv_has ls 4 [] → f_Ref_greater_11  s0 = some r0 → W p l e rm_Ref_greater s m args below meth c s.heap [] 0 0 (MQ below (vp_Sl (fun r => r = r0)) args s 0 0 (fun _ => False)) (F0 m 11 ls [.long s0]) := by
  obtain ⟨hx, hb, hml, hown, hts, hr, hlocks⟩ := id hC
  intro s0 ls hl h
  rw [f_Ref_greater_11] at h
  have h := os_of h
  exact W.lret (v := s0) hx hb hr (fun t ht hW => ⟨_, rfl, h, ht⟩) (fun q hq => absurd hq List.not_mem_nil) (dt_at dt_Ref_greater 7 rfl)
set_option maxRecDepth 100000 in
set_option maxHeartbeats 4000000 in
theorem k_Ref_greater_0 {p : Program} {l : Launch} {e : Env} {s : State} {m : MethodId} {args : Array Value} {below : List Frame} {meth : Method} {c : Code} (hC : CX p s m args meth c prog_12_method_28_code 4 "OutwardTapeModel" (some .long)) {r0 : Int64} : ∀ (v0 : Int64) (v2 : Int64) (ls : Array Slot), lv_has ls 4 [(0, .long v0), (2, .long v2)] → f_Ref_greater_0  v0 v2 = some r0 → W p l e rm_Ref_greater s m args below meth c s.heap [] 0 0 (MQ below (vp_Sl (fun r => r = r0)) args s 0 0 (fun _ => False)) (F0 m 0 ls []) := by
  obtain ⟨hx, hb, hml, hown, hts, hr, hlocks⟩ := id hC
  intro v0 v2 ls hl h
  rw [f_Ref_greater_0] at h
  refine lv_lload_n hx hb (dt_at dt_Ref_greater 0 rfl) rfl (lv_at hl 0 rfl) ?_
  refine lv_lload_n hx hb (dt_at dt_Ref_greater 1 rfl) rfl (lv_at hl 1 rfl) ?_
  refine lc_le (tgt := 10) hx hb (dt_at dt_Ref_greater 2 rfl) (dt_at dt_Ref_greater 3 rfl) (by decide) (fun c1 => ?_) (fun c1 => ?_)
  · have h := if_p h c1
    refine lv_lload_n hx hb (dt_at dt_Ref_greater 6 rfl) rfl (lv_at hl 1 rfl) ?_
    exact k_Ref_greater_11 hC   v2 ls (lv_sub hl [] rfl) h
  · have h := if_n h c1
    refine lv_lload_n hx hb (dt_at dt_Ref_greater 4 rfl) rfl (lv_at hl 0 rfl) ?_
    refine lv_goto (tgt := 11) hx hb (dt_at dt_Ref_greater 5 rfl) (by decide) ?_
    exact k_Ref_greater_11 hC   v0 ls (lv_sub hl [] rfl) h
set_option maxRecDepth 100000 in
set_option maxHeartbeats 4000000 in
theorem c_Ref_greater (l : Launch) (a0 : Int64) (a2 : Int64) (r0 : Int64) (h : f_Ref_greater a0 a2 = some r0) : Met l (⟨"OutwardTapeModel", "greater", "(JJ)J"⟩ : MethodName) (WSm (⟨"OutwardTapeModel", "greater", "(JJ)J"⟩ : MethodName) prog_12_method_28_code 4 (some .long)) rm_Ref_greater (va_Pc [.long a0, .long a2] (fun _ => True)) (vp_Sl (fun r => r = r0)) 0 0 (fun _ => False) := by
  refine Met.ofW (cc := prog_12_method_28_code) (maxL := 4) (ret := (some .long)) (by decide) rfl ?_
  intro p e s m args below meth c s₁ B hml hv
  obtain ⟨rfl, -⟩ := hv
  have hC := CX.of B hml rfl
  have hl := lv_entry [.long a0, .long a2] (n := 4) (Nat.le_of_ble_eq_true rfl)
  rw [lg_entry_eq]
  generalize (lg_sl [.long a0, .long a2] ++ List.replicate (4 - (lg_sl [.long a0, .long a2]).length) Slot.unset).toArray = ls at hl ⊢
  have hl : lv_has ls 4 [(0, .long a0), (2, .long a2)] := hl
  exact k_Ref_greater_0 hC a0 a2 ls (lv_sub hl [0, 1] rfl) h
abbrev rm_Ref_magnitude : Room := { frames := 1, cells := 0, slots := 0, locals := 23 }
set_option maxRecDepth 100000 in
set_option maxHeartbeats 4000000 in
theorem k_Ref_magnitude_0 {p : Program} {l : Launch} {e : Env} {s : State} {m : MethodId} {args : Array Value} {below : List Frame} {meth : Method} {c : Code} (hC : CX p s m args meth c prog_12_method_29_code 4 "OutwardTapeModel" (some .long)) {r0 : Int64} : ∀ (v0 : Int64) (v2 : Int64) (ls : Array Slot), lv_has ls 4 [(0, .long v0), (2, .long v2)] → f_Ref_magnitude_0  v0 v2 = some r0 → W p l e rm_Ref_magnitude s m args below meth c s.heap [] 0 0 (MQ below (vp_Sl (fun r => r = r0)) args s 0 0 (fun _ => False)) (F0 m 0 ls []) := by
  obtain ⟨hx, hb, hml, hown, hts, hr, hlocks⟩ := id hC
  intro v0 v2 ls hl h
  rw [f_Ref_magnitude_0] at h
  refine lv_lload_n hx hb (dt_at dt_Ref_magnitude 0 rfl) rfl (lv_at hl 0 rfl) ?_
  obtain ⟨r1, h_r1, h⟩ := ob_of h
  refine vp_callSl (W.runS (As := [.long v0]) (rest := []) ⟨hx, hb, hml, hown, hts⟩ (c_Ref_absolute l v0 r1 h_r1) (va_cwS 1 hts (gd_S (m_4 81 rfl rfl) (m_4 82 rfl rfl) (m_1 4 rfl rfl) (m_4 83 rfl rfl)) rfl rfl rfl (by decide +kernel) ⟨Nat.le_of_ble_eq_true rfl, Nat.le_of_ble_eq_true rfl⟩) ⟨fun _ _ _ _ q => q, fun U hU hW => ⟨rfl, trivial⟩⟩ rfl rfl hl.1 rfl (lv_room (Nat.le_of_ble_eq_true rfl)) (dt_at dt_Ref_magnitude 1 rfl) ⟨Nat.le_of_ble_eq_true rfl, Nat.le_of_ble_eq_true rfl⟩) (fun u_r1 q_r1 => ?_)
  obtain rfl : r1 = u_r1 := q_r1.symm
  refine lv_lload_n hx hb (dt_at dt_Ref_magnitude 2 rfl) rfl (lv_at hl 1 rfl) ?_
  obtain ⟨r2, h_r2, h⟩ := ob_of h
  refine vp_callSl (W.runS (As := [.long v2]) (rest := [.long r1]) ⟨hx, hb, hml, hown, hts⟩ (c_Ref_absolute l v2 r2 h_r2) (va_cwS 1 hts (gd_S (m_4 81 rfl rfl) (m_4 82 rfl rfl) (m_1 4 rfl rfl) (m_4 83 rfl rfl)) rfl rfl rfl (by decide +kernel) ⟨Nat.le_of_ble_eq_true rfl, Nat.le_of_ble_eq_true rfl⟩) ⟨fun _ _ _ _ q => q, fun U hU hW => ⟨rfl, trivial⟩⟩ rfl rfl hl.1 rfl (lv_room (Nat.le_of_ble_eq_true rfl)) (dt_at dt_Ref_magnitude 3 rfl) ⟨Nat.le_of_ble_eq_true rfl, Nat.le_of_ble_eq_true rfl⟩) (fun u_r2 q_r2 => ?_)
  obtain rfl : r2 = u_r2 := q_r2.symm
  obtain ⟨r3, h_r3, h⟩ := ob_of h
  refine vp_callSl (W.runS (As := [.long r1, .long r2]) (rest := []) ⟨hx, hb, hml, hown, hts⟩ (c_Ref_greater l r1 r2 r3 h_r3) (va_cwS 2 hts (gd_S (m_4 117 rfl rfl) (m_4 118 rfl rfl) (m_1 4 rfl rfl) (m_4 119 rfl rfl)) rfl rfl rfl (by decide +kernel) ⟨Nat.le_of_ble_eq_true rfl, Nat.le_of_ble_eq_true rfl⟩) ⟨fun _ _ _ _ q => q, fun U hU hW => ⟨rfl, trivial⟩⟩ rfl rfl hl.1 rfl (lv_room (Nat.le_of_ble_eq_true rfl)) (dt_at dt_Ref_magnitude 4 rfl) ⟨Nat.le_of_ble_eq_true rfl, Nat.le_of_ble_eq_true rfl⟩) (fun u_r3 q_r3 => ?_)
  obtain rfl : r3 = u_r3 := q_r3.symm
  have h := os_of h
  exact W.lret (v := r3) hx hb hr (fun t ht hW => ⟨_, rfl, h, ht⟩) (fun q hq => absurd hq List.not_mem_nil) (dt_at dt_Ref_magnitude 5 rfl)
set_option maxRecDepth 100000 in
set_option maxHeartbeats 4000000 in
theorem c_Ref_magnitude (l : Launch) (a0 : Int64) (a2 : Int64) (r0 : Int64) (h : f_Ref_magnitude a0 a2 = some r0) : Met l (⟨"OutwardTapeModel", "magnitude", "(JJ)J"⟩ : MethodName) (WSm (⟨"OutwardTapeModel", "magnitude", "(JJ)J"⟩ : MethodName) prog_12_method_29_code 4 (some .long)) rm_Ref_magnitude (va_Pc [.long a0, .long a2] (fun _ => True)) (vp_Sl (fun r => r = r0)) 0 0 (fun _ => False) := by
  refine Met.ofW (cc := prog_12_method_29_code) (maxL := 4) (ret := (some .long)) (by decide) rfl ?_
  intro p e s m args below meth c s₁ B hml hv
  obtain ⟨rfl, -⟩ := hv
  have hC := CX.of B hml rfl
  have hl := lv_entry [.long a0, .long a2] (n := 4) (Nat.le_of_ble_eq_true rfl)
  rw [lg_entry_eq]
  generalize (lg_sl [.long a0, .long a2] ++ List.replicate (4 - (lg_sl [.long a0, .long a2]).length) Slot.unset).toArray = ls at hl ⊢
  have hl : lv_has ls 4 [(0, .long a0), (2, .long a2)] := hl
  exact k_Ref_magnitude_0 hC a0 a2 ls (lv_sub hl [0, 1] rfl) h
abbrev rm_Ref_mignitude : Room := { frames := 1, cells := 0, slots := 0, locals := 23 }
set_option maxRecDepth 100000 in
set_option maxHeartbeats 4000000 in
theorem k_Ref_mignitude_27 {p : Program} {l : Launch} {e : Env} {s : State} {m : MethodId} {args : Array Value} {below : List Frame} {meth : Method} {c : Code} (hC : CX p s m args meth c prog_12_method_30_code 4 "OutwardTapeModel" (some .long)) {r0 : Int64} : ∀ (s0 : Int64) (ls : Array Slot), lv_has ls 4 [] → f_Ref_mignitude_27  s0 = some r0 → W p l e rm_Ref_mignitude s m args below meth c s.heap [] 0 0 (MQ below (vp_Sl (fun r => r = r0)) args s 0 0 (fun _ => False)) (F0 m 27 ls [.long s0]) := by
  obtain ⟨hx, hb, hml, hown, hts, hr, hlocks⟩ := id hC
  intro s0 ls hl h
  rw [f_Ref_mignitude_27] at h
  have h := os_of h
  exact W.lret (v := s0) hx hb hr (fun t ht hW => ⟨_, rfl, h, ht⟩) (fun q hq => absurd hq List.not_mem_nil) (dt_at dt_Ref_mignitude 15 rfl)
set_option maxRecDepth 100000 in
set_option maxHeartbeats 4000000 in
theorem k_Ref_mignitude_16 {p : Program} {l : Launch} {e : Env} {s : State} {m : MethodId} {args : Array Value} {below : List Frame} {meth : Method} {c : Code} (hC : CX p s m args meth c prog_12_method_30_code 4 "OutwardTapeModel" (some .long)) {r0 : Int64} : ∀ (v0 : Int64) (v2 : Int64) (ls : Array Slot), lv_has ls 4 [(0, .long v0), (2, .long v2)] → f_Ref_mignitude_16  v0 v2 = some r0 → W p l e rm_Ref_mignitude s m args below meth c s.heap [] 0 0 (MQ below (vp_Sl (fun r => r = r0)) args s 0 0 (fun _ => False)) (F0 m 16 ls []) := by
  obtain ⟨hx, hb, hml, hown, hts, hr, hlocks⟩ := id hC
  intro v0 v2 ls hl h
  rw [f_Ref_mignitude_16] at h
  refine lv_lload_n hx hb (dt_at dt_Ref_mignitude 10 rfl) rfl (lv_at hl 0 rfl) ?_
  obtain ⟨r1, h_r1, h⟩ := ob_of h
  refine vp_callSl (W.runS (As := [.long v0]) (rest := []) ⟨hx, hb, hml, hown, hts⟩ (c_Ref_absolute l v0 r1 h_r1) (va_cwS 1 hts (gd_S (m_4 81 rfl rfl) (m_4 82 rfl rfl) (m_1 4 rfl rfl) (m_4 83 rfl rfl)) rfl rfl rfl (by decide +kernel) ⟨Nat.le_of_ble_eq_true rfl, Nat.le_of_ble_eq_true rfl⟩) ⟨fun _ _ _ _ q => q, fun U hU hW => ⟨rfl, trivial⟩⟩ rfl rfl hl.1 rfl (lv_room (Nat.le_of_ble_eq_true rfl)) (dt_at dt_Ref_mignitude 11 rfl) ⟨Nat.le_of_ble_eq_true rfl, Nat.le_of_ble_eq_true rfl⟩) (fun u_r1 q_r1 => ?_)
  obtain rfl : r1 = u_r1 := q_r1.symm
  refine lv_lload_n hx hb (dt_at dt_Ref_mignitude 12 rfl) rfl (lv_at hl 1 rfl) ?_
  obtain ⟨r2, h_r2, h⟩ := ob_of h
  refine vp_callSl (W.runS (As := [.long v2]) (rest := [.long r1]) ⟨hx, hb, hml, hown, hts⟩ (c_Ref_absolute l v2 r2 h_r2) (va_cwS 1 hts (gd_S (m_4 81 rfl rfl) (m_4 82 rfl rfl) (m_1 4 rfl rfl) (m_4 83 rfl rfl)) rfl rfl rfl (by decide +kernel) ⟨Nat.le_of_ble_eq_true rfl, Nat.le_of_ble_eq_true rfl⟩) ⟨fun _ _ _ _ q => q, fun U hU hW => ⟨rfl, trivial⟩⟩ rfl rfl hl.1 rfl (lv_room (Nat.le_of_ble_eq_true rfl)) (dt_at dt_Ref_mignitude 13 rfl) ⟨Nat.le_of_ble_eq_true rfl, Nat.le_of_ble_eq_true rfl⟩) (fun u_r2 q_r2 => ?_)
  obtain rfl : r2 = u_r2 := q_r2.symm
  obtain ⟨r3, h_r3, h⟩ := ob_of h
  refine vp_callSl (W.runS (As := [.long r1, .long r2]) (rest := []) ⟨hx, hb, hml, hown, hts⟩ (c_Ref_less l r1 r2 r3 h_r3) (va_cwS 2 hts (gd_S (m_4 111 rfl rfl) (m_4 112 rfl rfl) (m_1 4 rfl rfl) (m_4 113 rfl rfl)) rfl rfl rfl (by decide +kernel) ⟨Nat.le_of_ble_eq_true rfl, Nat.le_of_ble_eq_true rfl⟩) ⟨fun _ _ _ _ q => q, fun U hU hW => ⟨rfl, trivial⟩⟩ rfl rfl hl.1 rfl (lv_room (Nat.le_of_ble_eq_true rfl)) (dt_at dt_Ref_mignitude 14 rfl) ⟨Nat.le_of_ble_eq_true rfl, Nat.le_of_ble_eq_true rfl⟩) (fun u_r3 q_r3 => ?_)
  obtain rfl : r3 = u_r3 := q_r3.symm
  exact k_Ref_mignitude_27 hC   r3 ls (lv_sub hl [] rfl) h
set_option maxRecDepth 100000 in
set_option maxHeartbeats 4000000 in
theorem k_Ref_mignitude_0 {p : Program} {l : Launch} {e : Env} {s : State} {m : MethodId} {args : Array Value} {below : List Frame} {meth : Method} {c : Code} (hC : CX p s m args meth c prog_12_method_30_code 4 "OutwardTapeModel" (some .long)) {r0 : Int64} : ∀ (v0 : Int64) (v2 : Int64) (ls : Array Slot), lv_has ls 4 [(0, .long v0), (2, .long v2)] → f_Ref_mignitude_0  v0 v2 = some r0 → W p l e rm_Ref_mignitude s m args below meth c s.heap [] 0 0 (MQ below (vp_Sl (fun r => r = r0)) args s 0 0 (fun _ => False)) (F0 m 0 ls []) := by
  obtain ⟨hx, hb, hml, hown, hts, hr, hlocks⟩ := id hC
  intro v0 v2 ls hl h
  rw [f_Ref_mignitude_0] at h
  refine lv_lload_n hx hb (dt_at dt_Ref_mignitude 0 rfl) rfl (lv_at hl 0 rfl) ?_
  refine lv_lconst (v := 0) hx hb (dt_at dt_Ref_mignitude 1 rfl) (by decide) ?_
  refine lc_gt (tgt := 16) hx hb (dt_at dt_Ref_mignitude 2 rfl) (dt_at dt_Ref_mignitude 3 rfl) (by decide) (fun c1 => ?_) (fun c1 => ?_)
  · have h := if_p h c1
    exact k_Ref_mignitude_16 hC   v0 v2 ls (lv_sub hl [0, 1] rfl) h
  · have h := if_n h c1
    refine lv_lload_n hx hb (dt_at dt_Ref_mignitude 4 rfl) rfl (lv_at hl 1 rfl) ?_
    refine lv_lconst (v := 0) hx hb (dt_at dt_Ref_mignitude 5 rfl) (by decide) ?_
    refine lc_lt (tgt := 16) hx hb (dt_at dt_Ref_mignitude 6 rfl) (dt_at dt_Ref_mignitude 7 rfl) (by decide) (fun c2 => ?_) (fun c2 => ?_)
    · have h := if_p h c2
      exact k_Ref_mignitude_16 hC   v0 v2 ls (lv_sub hl [0, 1] rfl) h
    · have h := if_n h c2
      refine lv_lconst (v := 0) hx hb (dt_at dt_Ref_mignitude 8 rfl) (by decide) ?_
      refine lv_goto (tgt := 27) hx hb (dt_at dt_Ref_mignitude 9 rfl) (by decide) ?_
      exact k_Ref_mignitude_27 hC   (0 : Int64) ls (lv_sub hl [] rfl) h
set_option maxRecDepth 100000 in
set_option maxHeartbeats 4000000 in
theorem c_Ref_mignitude (l : Launch) (a0 : Int64) (a2 : Int64) (r0 : Int64) (h : f_Ref_mignitude a0 a2 = some r0) : Met l (⟨"OutwardTapeModel", "mignitude", "(JJ)J"⟩ : MethodName) (WSm (⟨"OutwardTapeModel", "mignitude", "(JJ)J"⟩ : MethodName) prog_12_method_30_code 4 (some .long)) rm_Ref_mignitude (va_Pc [.long a0, .long a2] (fun _ => True)) (vp_Sl (fun r => r = r0)) 0 0 (fun _ => False) := by
  refine Met.ofW (cc := prog_12_method_30_code) (maxL := 4) (ret := (some .long)) (by decide) rfl ?_
  intro p e s m args below meth c s₁ B hml hv
  obtain ⟨rfl, -⟩ := hv
  have hC := CX.of B hml rfl
  have hl := lv_entry [.long a0, .long a2] (n := 4) (Nat.le_of_ble_eq_true rfl)
  rw [lg_entry_eq]
  generalize (lg_sl [.long a0, .long a2] ++ List.replicate (4 - (lg_sl [.long a0, .long a2]).length) Slot.unset).toArray = ls at hl ⊢
  have hl : lv_has ls 4 [(0, .long a0), (2, .long a2)] := hl
  exact k_Ref_mignitude_0 hC a0 a2 ls (lv_sub hl [0, 1] rfl) h
abbrev rm_Ref_bounded : Room := { frames := 2, cells := 0, slots := 0, locals := 42 }
set_option maxRecDepth 100000 in
set_option maxHeartbeats 4000000 in
theorem k_Ref_bounded_19 {p : Program} {l : Launch} {e : Env} {s : State} {m : MethodId} {args : Array Value} {below : List Frame} {meth : Method} {c : Code} (hC : CX p s m args meth c prog_12_method_37_code 4 "OutwardTapeModel" (some .boolean)) {r0 : Int32} : ∀ (s0 : Int32) (ls : Array Slot), lv_has ls 4 [] → f_Ref_bounded_19  s0 = some r0 → W p l e rm_Ref_bounded s m args below meth c s.heap [] 0 0 (MQ below (vp_Si (fun r => r = r0)) args s 0 0 (fun _ => False)) (F0 m 19 ls [.int s0]) := by
  obtain ⟨hx, hb, hml, hown, hts, hr, hlocks⟩ := id hC
  intro s0 ls hl h
  rw [f_Ref_bounded_19] at h
  obtain ⟨hz, h⟩ := og_of h
  have h := os_of h
  exact W.zret (v := s0) (ty := .boolean) hx hb hr (j_z_nar hz) (fun t ht hW => ⟨_, rfl, h, ht⟩) (fun q hq => absurd hq List.not_mem_nil) (dt_at dt_Ref_bounded 9 rfl)
set_option maxRecDepth 100000 in
set_option maxHeartbeats 4000000 in
theorem k_Ref_bounded_18 {p : Program} {l : Launch} {e : Env} {s : State} {m : MethodId} {args : Array Value} {below : List Frame} {meth : Method} {c : Code} (hC : CX p s m args meth c prog_12_method_37_code 4 "OutwardTapeModel" (some .boolean)) {r0 : Int32} : ∀  (ls : Array Slot), lv_has ls 4 [] → f_Ref_bounded_18   = some r0 → W p l e rm_Ref_bounded s m args below meth c s.heap [] 0 0 (MQ below (vp_Si (fun r => r = r0)) args s 0 0 (fun _ => False)) (F0 m 18 ls []) := by
  obtain ⟨hx, hb, hml, hown, hts, hr, hlocks⟩ := id hC
  intro ls hl h
  rw [f_Ref_bounded_18] at h
  refine lv_iconst (v := 0) hx hb (dt_at dt_Ref_bounded 8 rfl) (by decide) ?_
  exact k_Ref_bounded_19 hC   (0 : Int32) ls (lv_sub hl [] rfl) h
set_option maxRecDepth 100000 in
set_option maxHeartbeats 4000000 in
theorem k_Ref_bounded_0 {p : Program} {l : Launch} {e : Env} {s : State} {m : MethodId} {args : Array Value} {below : List Frame} {meth : Method} {c : Code} (hC : CX p s m args meth c prog_12_method_37_code 4 "OutwardTapeModel" (some .boolean)) {r0 : Int32} : ∀ (v0 : Int64) (v2 : Int64) (ls : Array Slot), lv_has ls 4 [(0, .long v0), (2, .long v2)] → f_Ref_bounded_0  v0 v2 = some r0 → W p l e rm_Ref_bounded s m args below meth c s.heap [] 0 0 (MQ below (vp_Si (fun r => r = r0)) args s 0 0 (fun _ => False)) (F0 m 0 ls []) := by
  obtain ⟨hx, hb, hml, hown, hts, hr, hlocks⟩ := id hC
  intro v0 v2 ls hl h
  rw [f_Ref_bounded_0] at h
  refine lv_lload_n hx hb (dt_at dt_Ref_bounded 0 rfl) rfl (lv_at hl 0 rfl) ?_
  obtain ⟨r1, h_r1, h⟩ := ob_of h
  refine vp_callSi (W.runS (As := [.long v0]) (rest := []) ⟨hx, hb, hml, hown, hts⟩ (c_Ref_infinite l v0 r1 h_r1) (va_cwS 1 hts (gd_S (m_4 78 rfl rfl) (m_4 79 rfl rfl) (m_1 4 rfl rfl) (m_4 80 rfl rfl)) rfl rfl rfl (by decide +kernel) ⟨Nat.le_of_ble_eq_true rfl, Nat.le_of_ble_eq_true rfl⟩) ⟨fun _ _ _ _ q => q, fun U hU hW => ⟨rfl, trivial⟩⟩ rfl rfl hl.1 rfl (lv_room (Nat.le_of_ble_eq_true rfl)) (dt_at dt_Ref_bounded 1 rfl) ⟨Nat.le_of_ble_eq_true rfl, Nat.le_of_ble_eq_true rfl⟩) (fun u_r1 q_r1 => ?_)
  obtain rfl : r1 = u_r1 := q_r1.symm
  refine lv_if_ne (tgt := 18) hx hb (dt_at dt_Ref_bounded 2 rfl) (by decide) (fun c2 => ?_) (fun c2 => ?_)
  · have h := if_n h c2
    exact k_Ref_bounded_18 hC    ls (lv_sub hl [] rfl) h
  · have h := if_p h c2
    refine lv_lload_n hx hb (dt_at dt_Ref_bounded 3 rfl) rfl (lv_at hl 1 rfl) ?_
    obtain ⟨r3, h_r3, h⟩ := ob_of h
    refine vp_callSi (W.runS (As := [.long v2]) (rest := []) ⟨hx, hb, hml, hown, hts⟩ (c_Ref_infinite l v2 r3 h_r3) (va_cwS 1 hts (gd_S (m_4 78 rfl rfl) (m_4 79 rfl rfl) (m_1 4 rfl rfl) (m_4 80 rfl rfl)) rfl rfl rfl (by decide +kernel) ⟨Nat.le_of_ble_eq_true rfl, Nat.le_of_ble_eq_true rfl⟩) ⟨fun _ _ _ _ q => q, fun U hU hW => ⟨rfl, trivial⟩⟩ rfl rfl hl.1 rfl (lv_room (Nat.le_of_ble_eq_true rfl)) (dt_at dt_Ref_bounded 4 rfl) ⟨Nat.le_of_ble_eq_true rfl, Nat.le_of_ble_eq_true rfl⟩) (fun u_r3 q_r3 => ?_)
    obtain rfl : r3 = u_r3 := q_r3.symm
    refine lv_if_ne (tgt := 18) hx hb (dt_at dt_Ref_bounded 5 rfl) (by decide) (fun c4 => ?_) (fun c4 => ?_)
    · have h := if_n h c4
      exact k_Ref_bounded_18 hC    ls (lv_sub hl [] rfl) h
    · have h := if_p h c4
      refine lv_iconst (v := 1) hx hb (dt_at dt_Ref_bounded 6 rfl) (by decide) ?_
      refine lv_goto (tgt := 19) hx hb (dt_at dt_Ref_bounded 7 rfl) (by decide) ?_
      exact k_Ref_bounded_19 hC   (1 : Int32) ls (lv_sub hl [] rfl) h
set_option maxRecDepth 100000 in
set_option maxHeartbeats 4000000 in
theorem c_Ref_bounded (l : Launch) (a0 : Int64) (a2 : Int64) (r0 : Int32) (h : f_Ref_bounded a0 a2 = some r0) : Met l (⟨"OutwardTapeModel", "bounded", "(JJ)Z"⟩ : MethodName) (WSm (⟨"OutwardTapeModel", "bounded", "(JJ)Z"⟩ : MethodName) prog_12_method_37_code 4 (some .boolean)) rm_Ref_bounded (va_Pc [.long a0, .long a2] (fun _ => True)) (vp_Si (fun r => r = r0)) 0 0 (fun _ => False) := by
  refine Met.ofW (cc := prog_12_method_37_code) (maxL := 4) (ret := (some .boolean)) (by decide) rfl ?_
  intro p e s m args below meth c s₁ B hml hv
  obtain ⟨rfl, -⟩ := hv
  have hC := CX.of B hml rfl
  have hl := lv_entry [.long a0, .long a2] (n := 4) (Nat.le_of_ble_eq_true rfl)
  rw [lg_entry_eq]
  generalize (lg_sl [.long a0, .long a2] ++ List.replicate (4 - (lg_sl [.long a0, .long a2]).length) Slot.unset).toArray = ls at hl ⊢
  have hl : lv_has ls 4 [(0, .long a0), (2, .long a2)] := hl
  exact k_Ref_bounded_0 hC a0 a2 ls (lv_sub hl [0, 1] rfl) h
abbrev rm_Ref_order : Room := { frames := 0, cells := 0, slots := 0, locals := 0 }
set_option maxRecDepth 100000 in
set_option maxHeartbeats 4000000 in
theorem k_Ref_order_16 {p : Program} {l : Launch} {e : Env} {s : State} {m : MethodId} {args : Array Value} {below : List Frame} {meth : Method} {c : Code} (hC : CX p s m args meth c prog_12_method_42_code 2 "OutwardTapeModel" (some .long)) {r0 : Int64} : ∀ (s0 : Int64) (ls : Array Slot), lv_has ls 2 [] → f_Ref_order_16  s0 = some r0 → W p l e rm_Ref_order s m args below meth c s.heap [] 0 0 (MQ below (vp_Sl (fun r => r = r0)) args s 0 0 (fun _ => False)) (F0 m 16 ls [.long s0]) := by
  obtain ⟨hx, hb, hml, hown, hts, hr, hlocks⟩ := id hC
  intro s0 ls hl h
  rw [f_Ref_order_16] at h
  have h := os_of h
  exact W.lret (v := s0) hx hb hr (fun t ht hW => ⟨_, rfl, h, ht⟩) (fun q hq => absurd hq List.not_mem_nil) (dt_at dt_Ref_order 10 rfl)
set_option maxRecDepth 100000 in
set_option maxHeartbeats 4000000 in
theorem k_Ref_order_0 {p : Program} {l : Launch} {e : Env} {s : State} {m : MethodId} {args : Array Value} {below : List Frame} {meth : Method} {c : Code} (hC : CX p s m args meth c prog_12_method_42_code 2 "OutwardTapeModel" (some .long)) {r0 : Int64} : ∀ (v0 : Int64) (ls : Array Slot), lv_has ls 2 [(0, .long v0)] → f_Ref_order_0  v0 = some r0 → W p l e rm_Ref_order s m args below meth c s.heap [] 0 0 (MQ below (vp_Sl (fun r => r = r0)) args s 0 0 (fun _ => False)) (F0 m 0 ls []) := by
  obtain ⟨hx, hb, hml, hown, hts, hr, hlocks⟩ := id hC
  intro v0 ls hl h
  rw [f_Ref_order_0] at h
  refine lv_lload_n hx hb (dt_at dt_Ref_order 0 rfl) rfl (lv_at hl 0 rfl) ?_
  refine lv_lconst (v := 0) hx hb (dt_at dt_Ref_order 1 rfl) (by decide) ?_
  refine lc_ge (tgt := 15) hx hb (dt_at dt_Ref_order 2 rfl) (dt_at dt_Ref_order 3 rfl) (by decide) (fun c1 => ?_) (fun c1 => ?_)
  · have h := if_p h c1
    refine lv_lload_n hx hb (dt_at dt_Ref_order 9 rfl) rfl (lv_at hl 0 rfl) ?_
    exact k_Ref_order_16 hC   v0 ls (lv_sub hl [] rfl) h
  · have h := if_n h c1
    refine lv_lload_n hx hb (dt_at dt_Ref_order 4 rfl) rfl (lv_at hl 0 rfl) ?_
    refine lv_ldc2 (v := 9223372036854775807) hx hb hown (hts (Cond.constantLong "OutwardTapeModel" 180 (9223372036854775807)) (m_4 69 rfl rfl)) (dt_at dt_Ref_order 5 rfl) ?_
    refine lv_land hx hb (dt_at dt_Ref_order 6 rfl) ?_
    refine lv_lneg hx hb (dt_at dt_Ref_order 7 rfl) ?_
    refine lv_goto (tgt := 16) hx hb (dt_at dt_Ref_order 8 rfl) (by decide) ?_
    exact k_Ref_order_16 hC   (-(v0 &&& (9223372036854775807 : Int64))) ls (lv_sub hl [] rfl) h
set_option maxRecDepth 100000 in
set_option maxHeartbeats 4000000 in
theorem c_Ref_order (l : Launch) (a0 : Int64) (r0 : Int64) (h : f_Ref_order a0 = some r0) : Met l (⟨"OutwardTapeModel", "order", "(J)J"⟩ : MethodName) (WSm (⟨"OutwardTapeModel", "order", "(J)J"⟩ : MethodName) prog_12_method_42_code 2 (some .long)) rm_Ref_order (va_Pc [.long a0] (fun _ => True)) (vp_Sl (fun r => r = r0)) 0 0 (fun _ => False) := by
  refine Met.ofW (cc := prog_12_method_42_code) (maxL := 2) (ret := (some .long)) (by decide) rfl ?_
  intro p e s m args below meth c s₁ B hml hv
  obtain ⟨rfl, -⟩ := hv
  have hC := CX.of B hml rfl
  have hl := lv_entry [.long a0] (n := 2) (Nat.le_of_ble_eq_true rfl)
  rw [lg_entry_eq]
  generalize (lg_sl [.long a0] ++ List.replicate (2 - (lg_sl [.long a0]).length) Slot.unset).toArray = ls at hl ⊢
  have hl : lv_has ls 2 [(0, .long a0)] := hl
  exact k_Ref_order_0 hC a0 ls (lv_sub hl [0] rfl) h
abbrev rm_Ref_least : Room := { frames := 0, cells := 0, slots := 0, locals := 0 }
set_option maxRecDepth 100000 in
set_option maxHeartbeats 4000000 in
theorem k_Ref_least_10 {p : Program} {l : Launch} {e : Env} {s : State} {m : MethodId} {args : Array Value} {below : List Frame} {meth : Method} {c : Code} (hC : CX p s m args meth c prog_12_method_43_code 2 "OutwardTapeModel" (some .int)) {r0 : Int32} : ∀ (s0 : Int32) (ls : Array Slot), lv_has ls 2 [] → f_Ref_least_10  s0 = some r0 → W p l e rm_Ref_least s m args below meth c s.heap [] 0 0 (MQ below (vp_Si (fun r => r = r0)) args s 0 0 (fun _ => False)) (F0 m 10 ls [.int s0]) := by
  obtain ⟨hx, hb, hml, hown, hts, hr, hlocks⟩ := id hC
  intro s0 ls hl h
  rw [f_Ref_least_10] at h
  have h := os_of h
  exact W.iret (v := s0) hx hb hr (fun t ht hW => ⟨_, rfl, h, ht⟩) (fun q hq => absurd hq List.not_mem_nil) (dt_at dt_Ref_least 6 rfl)
set_option maxRecDepth 100000 in
set_option maxHeartbeats 4000000 in
theorem k_Ref_least_0 {p : Program} {l : Launch} {e : Env} {s : State} {m : MethodId} {args : Array Value} {below : List Frame} {meth : Method} {c : Code} (hC : CX p s m args meth c prog_12_method_43_code 2 "OutwardTapeModel" (some .int)) {r0 : Int32} : ∀ (v0 : Int32) (v1 : Int32) (ls : Array Slot), lv_has ls 2 [(0, .int v0), (1, .int v1)] → f_Ref_least_0  v0 v1 = some r0 → W p l e rm_Ref_least s m args below meth c s.heap [] 0 0 (MQ below (vp_Si (fun r => r = r0)) args s 0 0 (fun _ => False)) (F0 m 0 ls []) := by
  obtain ⟨hx, hb, hml, hown, hts, hr, hlocks⟩ := id hC
  intro v0 v1 ls hl h
  rw [f_Ref_least_0] at h
  refine lv_iload_n hx hb (dt_at dt_Ref_least 0 rfl) rfl (lv_at hl 0 rfl) ?_
  refine lv_iload_n hx hb (dt_at dt_Ref_least 1 rfl) rfl (lv_at hl 1 rfl) ?_
  refine lv_icmp_ge (tgt := 9) hx hb (dt_at dt_Ref_least 2 rfl) (by decide) (fun c1 => ?_) (fun c1 => ?_)
  · have h := if_p h c1
    refine lv_iload_n hx hb (dt_at dt_Ref_least 5 rfl) rfl (lv_at hl 1 rfl) ?_
    exact k_Ref_least_10 hC   v1 ls (lv_sub hl [] rfl) h
  · have h := if_n h c1
    refine lv_iload_n hx hb (dt_at dt_Ref_least 3 rfl) rfl (lv_at hl 0 rfl) ?_
    refine lv_goto (tgt := 10) hx hb (dt_at dt_Ref_least 4 rfl) (by decide) ?_
    exact k_Ref_least_10 hC   v0 ls (lv_sub hl [] rfl) h
set_option maxRecDepth 100000 in
set_option maxHeartbeats 4000000 in
theorem c_Ref_least (l : Launch) (a0 : Int32) (a1 : Int32) (r0 : Int32) (h : f_Ref_least a0 a1 = some r0) : Met l (⟨"OutwardTapeModel", "least", "(II)I"⟩ : MethodName) (WSm (⟨"OutwardTapeModel", "least", "(II)I"⟩ : MethodName) prog_12_method_43_code 2 (some .int)) rm_Ref_least (va_Pc [.int a0, .int a1] (fun _ => True)) (vp_Si (fun r => r = r0)) 0 0 (fun _ => False) := by
  refine Met.ofW (cc := prog_12_method_43_code) (maxL := 2) (ret := (some .int)) (by decide) rfl ?_
  intro p e s m args below meth c s₁ B hml hv
  obtain ⟨rfl, -⟩ := hv
  have hC := CX.of B hml rfl
  have hl := lv_entry [.int a0, .int a1] (n := 2) (Nat.le_of_ble_eq_true rfl)
  rw [lg_entry_eq]
  generalize (lg_sl [.int a0, .int a1] ++ List.replicate (2 - (lg_sl [.int a0, .int a1]).length) Slot.unset).toArray = ls at hl ⊢
  have hl : lv_has ls 2 [(0, .int a0), (1, .int a1)] := hl
  exact k_Ref_least_0 hC a0 a1 ls (lv_sub hl [0, 1] rfl) h
abbrev rm_Ref_spelt : Room := { frames := 0, cells := 0, slots := 0, locals := 0 }
set_option maxRecDepth 100000 in
set_option maxHeartbeats 4000000 in
theorem k_Ref_spelt_0 {p : Program} {l : Launch} {e : Env} {s : State} {m : MethodId} {args : Array Value} {below : List Frame} {meth : Method} {c : Code} (hC : CX p s m args meth c prog_12_method_58_code 3 "OutwardTapeModel" (some .long)) {r0 : Int64} : ∀ (v0 : Int32) (v1 : Int32) (v2 : Int32) (ls : Array Slot), lv_has ls 3 [(0, .int v0), (1, .int v1), (2, .int v2)] → f_Ref_spelt_0  v0 v1 v2 = some r0 → W p l e rm_Ref_spelt s m args below meth c s.heap [] 0 0 (MQ below (vp_Sl (fun r => r = r0)) args s 0 0 (fun _ => False)) (F0 m 0 ls []) := by
  obtain ⟨hx, hb, hml, hown, hts, hr, hlocks⟩ := id hC
  intro v0 v1 v2 ls hl h
  rw [f_Ref_spelt_0] at h
  refine lv_iload_n hx hb (dt_at dt_Ref_spelt 0 rfl) rfl (lv_at hl 0 rfl) ?_
  refine lv_bipush (v := 97) hx hb (dt_at dt_Ref_spelt 1 rfl) (by decide) ?_
  refine lv_isub hx hb (dt_at dt_Ref_spelt 2 rfl) ?_
  refine lv_i2l (v := (v0 - (97 : Int32)).toInt64) hx hb (dt_at dt_Ref_spelt 3 rfl) rfl ?_
  refine lv_lconst (v := 1) hx hb (dt_at dt_Ref_spelt 4 rfl) (by decide) ?_
  refine lv_ladd hx hb (dt_at dt_Ref_spelt 5 rfl) ?_
  refine lv_ldc2 (v := 1024) hx hb hown (hts (Cond.constantLong "OutwardTapeModel" 236 (1024)) (m_5 41 rfl rfl)) (dt_at dt_Ref_spelt 6 rfl) ?_
  refine lv_lmul hx hb (dt_at dt_Ref_spelt 7 rfl) ?_
  refine lv_iload_n hx hb (dt_at dt_Ref_spelt 8 rfl) rfl (lv_at hl 1 rfl) ?_
  refine lv_bipush (v := 97) hx hb (dt_at dt_Ref_spelt 9 rfl) (by decide) ?_
  refine lv_isub hx hb (dt_at dt_Ref_spelt 10 rfl) ?_
  refine lv_i2l (v := (v1 - (97 : Int32)).toInt64) hx hb (dt_at dt_Ref_spelt 11 rfl) rfl ?_
  refine lv_lconst (v := 1) hx hb (dt_at dt_Ref_spelt 12 rfl) (by decide) ?_
  refine lv_ladd hx hb (dt_at dt_Ref_spelt 13 rfl) ?_
  refine lv_ldc2 (v := 32) hx hb hown (hts (Cond.constantLong "OutwardTapeModel" 230 (32)) (m_5 35 rfl rfl)) (dt_at dt_Ref_spelt 14 rfl) ?_
  refine lv_lmul hx hb (dt_at dt_Ref_spelt 15 rfl) ?_
  refine lv_ladd hx hb (dt_at dt_Ref_spelt 16 rfl) ?_
  refine lv_iload_n hx hb (dt_at dt_Ref_spelt 17 rfl) rfl (lv_at hl 2 rfl) ?_
  refine lv_bipush (v := 97) hx hb (dt_at dt_Ref_spelt 18 rfl) (by decide) ?_
  refine lv_isub hx hb (dt_at dt_Ref_spelt 19 rfl) ?_
  refine lv_i2l (v := (v2 - (97 : Int32)).toInt64) hx hb (dt_at dt_Ref_spelt 20 rfl) rfl ?_
  refine lv_lconst (v := 1) hx hb (dt_at dt_Ref_spelt 21 rfl) (by decide) ?_
  refine lv_ladd hx hb (dt_at dt_Ref_spelt 22 rfl) ?_
  refine lv_ladd hx hb (dt_at dt_Ref_spelt 23 rfl) ?_
  have h := os_of h
  exact W.lret (v := ((((((v0 - (97 : Int32)).toInt64) + (1 : Int64)) * (1024 : Int64)) + ((((v1 - (97 : Int32)).toInt64) + (1 : Int64)) * (32 : Int64))) + (((v2 - (97 : Int32)).toInt64) + (1 : Int64)))) hx hb hr (fun t ht hW => ⟨_, rfl, h, ht⟩) (fun q hq => absurd hq List.not_mem_nil) (dt_at dt_Ref_spelt 24 rfl)
set_option maxRecDepth 100000 in
set_option maxHeartbeats 4000000 in
theorem c_Ref_spelt (l : Launch) (a0 : Int32) (a1 : Int32) (a2 : Int32) (r0 : Int64) (h : f_Ref_spelt a0 a1 a2 = some r0) : Met l (⟨"OutwardTapeModel", "spelt", "(III)J"⟩ : MethodName) (WSm (⟨"OutwardTapeModel", "spelt", "(III)J"⟩ : MethodName) prog_12_method_58_code 3 (some .long)) rm_Ref_spelt (va_Pc [.int a0, .int a1, .int a2] (fun _ => True)) (vp_Sl (fun r => r = r0)) 0 0 (fun _ => False) := by
  refine Met.ofW (cc := prog_12_method_58_code) (maxL := 3) (ret := (some .long)) (by decide) rfl ?_
  intro p e s m args below meth c s₁ B hml hv
  obtain ⟨rfl, -⟩ := hv
  have hC := CX.of B hml rfl
  have hl := lv_entry [.int a0, .int a1, .int a2] (n := 3) (Nat.le_of_ble_eq_true rfl)
  rw [lg_entry_eq]
  generalize (lg_sl [.int a0, .int a1, .int a2] ++ List.replicate (3 - (lg_sl [.int a0, .int a1, .int a2]).length) Slot.unset).toArray = ls at hl ⊢
  have hl : lv_has ls 3 [(0, .int a0), (1, .int a1), (2, .int a2)] := hl
  exact k_Ref_spelt_0 hC a0 a1 a2 ls (lv_sub hl [0, 1, 2] rfl) h
abbrev rm_Ref_speltSix : Room := { frames := 1, cells := 0, slots := 0, locals := 22 }
set_option maxRecDepth 100000 in
set_option maxHeartbeats 4000000 in
theorem k_Ref_speltSix_0 {p : Program} {l : Launch} {e : Env} {s : State} {m : MethodId} {args : Array Value} {below : List Frame} {meth : Method} {c : Code} (hC : CX p s m args meth c prog_12_method_59_code 6 "OutwardTapeModel" (some .long)) {r0 : Int64} : ∀ (v0 : Int32) (v1 : Int32) (v2 : Int32) (v3 : Int32) (v4 : Int32) (v5 : Int32) (ls : Array Slot), lv_has ls 6 [(0, .int v0), (1, .int v1), (2, .int v2), (3, .int v3), (4, .int v4), (5, .int v5)] → f_Ref_speltSix_0  v0 v1 v2 v3 v4 v5 = some r0 → W p l e rm_Ref_speltSix s m args below meth c s.heap [] 0 0 (MQ below (vp_Sl (fun r => r = r0)) args s 0 0 (fun _ => False)) (F0 m 0 ls []) := by
  obtain ⟨hx, hb, hml, hown, hts, hr, hlocks⟩ := id hC
  intro v0 v1 v2 v3 v4 v5 ls hl h
  rw [f_Ref_speltSix_0] at h
  refine lv_iload_n hx hb (dt_at dt_Ref_speltSix 0 rfl) rfl (lv_at hl 0 rfl) ?_
  refine lv_iload_n hx hb (dt_at dt_Ref_speltSix 1 rfl) rfl (lv_at hl 1 rfl) ?_
  refine lv_iload_n hx hb (dt_at dt_Ref_speltSix 2 rfl) rfl (lv_at hl 2 rfl) ?_
  obtain ⟨r1, h_r1, h⟩ := ob_of h
  refine vp_callSl (W.runS (As := [.int v0, .int v1, .int v2]) (rest := []) ⟨hx, hb, hml, hown, hts⟩ (c_Ref_spelt l v0 v1 v2 r1 h_r1) (va_cwS 3 hts (gd_S (m_5 38 rfl rfl) (m_5 39 rfl rfl) (m_1 4 rfl rfl) (m_5 40 rfl rfl)) rfl rfl rfl (by decide +kernel) ⟨Nat.le_of_ble_eq_true rfl, Nat.le_of_ble_eq_true rfl⟩) ⟨fun _ _ _ _ q => q, fun U hU hW => ⟨rfl, trivial⟩⟩ rfl rfl hl.1 rfl (lv_room (Nat.le_of_ble_eq_true rfl)) (dt_at dt_Ref_speltSix 3 rfl) ⟨Nat.le_of_ble_eq_true rfl, Nat.le_of_ble_eq_true rfl⟩) (fun u_r1 q_r1 => ?_)
  obtain rfl : r1 = u_r1 := q_r1.symm
  refine lv_ldc2 (v := 32768) hx hb hown (hts (Cond.constantLong "OutwardTapeModel" 242 (32768)) (m_5 47 rfl rfl)) (dt_at dt_Ref_speltSix 4 rfl) ?_
  refine lv_lmul hx hb (dt_at dt_Ref_speltSix 5 rfl) ?_
  refine lv_iload_n hx hb (dt_at dt_Ref_speltSix 6 rfl) rfl (lv_at hl 3 rfl) ?_
  refine lv_iload hx hb (dt_at dt_Ref_speltSix 7 rfl) (lv_at hl 4 rfl) ?_
  refine lv_iload hx hb (dt_at dt_Ref_speltSix 8 rfl) (lv_at hl 5 rfl) ?_
  obtain ⟨r2, h_r2, h⟩ := ob_of h
  refine vp_callSl (W.runS (As := [.int v3, .int v4, .int v5]) (rest := [.long (r1 * (32768 : Int64))]) ⟨hx, hb, hml, hown, hts⟩ (c_Ref_spelt l v3 v4 v5 r2 h_r2) (va_cwS 3 hts (gd_S (m_5 38 rfl rfl) (m_5 39 rfl rfl) (m_1 4 rfl rfl) (m_5 40 rfl rfl)) rfl rfl rfl (by decide +kernel) ⟨Nat.le_of_ble_eq_true rfl, Nat.le_of_ble_eq_true rfl⟩) ⟨fun _ _ _ _ q => q, fun U hU hW => ⟨rfl, trivial⟩⟩ rfl rfl hl.1 rfl (lv_room (Nat.le_of_ble_eq_true rfl)) (dt_at dt_Ref_speltSix 9 rfl) ⟨Nat.le_of_ble_eq_true rfl, Nat.le_of_ble_eq_true rfl⟩) (fun u_r2 q_r2 => ?_)
  obtain rfl : r2 = u_r2 := q_r2.symm
  refine lv_ladd hx hb (dt_at dt_Ref_speltSix 10 rfl) ?_
  have h := os_of h
  exact W.lret (v := ((r1 * (32768 : Int64)) + r2)) hx hb hr (fun t ht hW => ⟨_, rfl, h, ht⟩) (fun q hq => absurd hq List.not_mem_nil) (dt_at dt_Ref_speltSix 11 rfl)
set_option maxRecDepth 100000 in
set_option maxHeartbeats 4000000 in
theorem c_Ref_speltSix (l : Launch) (a0 : Int32) (a1 : Int32) (a2 : Int32) (a3 : Int32) (a4 : Int32) (a5 : Int32) (r0 : Int64) (h : f_Ref_speltSix a0 a1 a2 a3 a4 a5 = some r0) : Met l (⟨"OutwardTapeModel", "speltSix", "(IIIIII)J"⟩ : MethodName) (WSm (⟨"OutwardTapeModel", "speltSix", "(IIIIII)J"⟩ : MethodName) prog_12_method_59_code 6 (some .long)) rm_Ref_speltSix (va_Pc [.int a0, .int a1, .int a2, .int a3, .int a4, .int a5] (fun _ => True)) (vp_Sl (fun r => r = r0)) 0 0 (fun _ => False) := by
  refine Met.ofW (cc := prog_12_method_59_code) (maxL := 6) (ret := (some .long)) (by decide) rfl ?_
  intro p e s m args below meth c s₁ B hml hv
  obtain ⟨rfl, -⟩ := hv
  have hC := CX.of B hml rfl
  have hl := lv_entry [.int a0, .int a1, .int a2, .int a3, .int a4, .int a5] (n := 6) (Nat.le_of_ble_eq_true rfl)
  rw [lg_entry_eq]
  generalize (lg_sl [.int a0, .int a1, .int a2, .int a3, .int a4, .int a5] ++ List.replicate (6 - (lg_sl [.int a0, .int a1, .int a2, .int a3, .int a4, .int a5]).length) Slot.unset).toArray = ls at hl ⊢
  have hl : lv_has ls 6 [(0, .int a0), (1, .int a1), (2, .int a2), (3, .int a3), (4, .int a4), (5, .int a5)] := hl
  exact k_Ref_speltSix_0 hC a0 a1 a2 a3 a4 a5 ls (lv_sub hl [0, 1, 2, 3, 4, 5] rfl) h
abbrev rm_Ref_bits : Room := { frames := 0, cells := 0, slots := 0, locals := 0 }
set_option maxRecDepth 100000 in
set_option maxHeartbeats 4000000 in
theorem k_Ref_bits_16 {p : Program} {l : Launch} {e : Env} {s : State} {m : MethodId} {args : Array Value} {below : List Frame} {meth : Method} {c : Code} (hC : CX p s m args meth c prog_12_method_70_code 2 "OutwardTapeModel" (some .long)) {r0 : Int64} : ∀ (s0 : Int64) (ls : Array Slot), lv_has ls 2 [] → f_Ref_bits_16  s0 = some r0 → W p l e rm_Ref_bits s m args below meth c s.heap [] 0 0 (MQ below (vp_Sl (fun r => r = r0)) args s 0 0 (fun _ => False)) (F0 m 16 ls [.long s0]) := by
  obtain ⟨hx, hb, hml, hown, hts, hr, hlocks⟩ := id hC
  intro s0 ls hl h
  rw [f_Ref_bits_16] at h
  have h := os_of h
  exact W.lret (v := s0) hx hb hr (fun t ht hW => ⟨_, rfl, h, ht⟩) (fun q hq => absurd hq List.not_mem_nil) (dt_at dt_Ref_bits 10 rfl)
set_option maxRecDepth 100000 in
set_option maxHeartbeats 4000000 in
theorem k_Ref_bits_0 {p : Program} {l : Launch} {e : Env} {s : State} {m : MethodId} {args : Array Value} {below : List Frame} {meth : Method} {c : Code} (hC : CX p s m args meth c prog_12_method_70_code 2 "OutwardTapeModel" (some .long)) {r0 : Int64} : ∀ (v0 : Int64) (ls : Array Slot), lv_has ls 2 [(0, .long v0)] → f_Ref_bits_0  v0 = some r0 → W p l e rm_Ref_bits s m args below meth c s.heap [] 0 0 (MQ below (vp_Sl (fun r => r = r0)) args s 0 0 (fun _ => False)) (F0 m 0 ls []) := by
  obtain ⟨hx, hb, hml, hown, hts, hr, hlocks⟩ := id hC
  intro v0 ls hl h
  rw [f_Ref_bits_0] at h
  refine lv_lload_n hx hb (dt_at dt_Ref_bits 0 rfl) rfl (lv_at hl 0 rfl) ?_
  refine lv_lconst (v := 0) hx hb (dt_at dt_Ref_bits 1 rfl) (by decide) ?_
  refine lc_ge (tgt := 15) hx hb (dt_at dt_Ref_bits 2 rfl) (dt_at dt_Ref_bits 3 rfl) (by decide) (fun c1 => ?_) (fun c1 => ?_)
  · have h := if_p h c1
    refine lv_lload_n hx hb (dt_at dt_Ref_bits 9 rfl) rfl (lv_at hl 0 rfl) ?_
    exact k_Ref_bits_16 hC   v0 ls (lv_sub hl [] rfl) h
  · have h := if_n h c1
    refine lv_ldc2 (v := -9223372036854775808) hx hb hown (hts (Cond.constantLong "OutwardTapeModel" 309 (-9223372036854775808)) (m_5 102 rfl rfl)) (dt_at dt_Ref_bits 4 rfl) ?_
    refine lv_lload_n hx hb (dt_at dt_Ref_bits 5 rfl) rfl (lv_at hl 0 rfl) ?_
    refine lv_lneg hx hb (dt_at dt_Ref_bits 6 rfl) ?_
    refine lv_lor hx hb (dt_at dt_Ref_bits 7 rfl) ?_
    refine lv_goto (tgt := 16) hx hb (dt_at dt_Ref_bits 8 rfl) (by decide) ?_
    exact k_Ref_bits_16 hC   ((-9223372036854775808 : Int64) ||| (-v0)) ls (lv_sub hl [] rfl) h
set_option maxRecDepth 100000 in
set_option maxHeartbeats 4000000 in
theorem c_Ref_bits (l : Launch) (a0 : Int64) (r0 : Int64) (h : f_Ref_bits a0 = some r0) : Met l (⟨"OutwardTapeModel", "bits", "(J)J"⟩ : MethodName) (WSm (⟨"OutwardTapeModel", "bits", "(J)J"⟩ : MethodName) prog_12_method_70_code 2 (some .long)) rm_Ref_bits (va_Pc [.long a0] (fun _ => True)) (vp_Sl (fun r => r = r0)) 0 0 (fun _ => False) := by
  refine Met.ofW (cc := prog_12_method_70_code) (maxL := 2) (ret := (some .long)) (by decide) rfl ?_
  intro p e s m args below meth c s₁ B hml hv
  obtain ⟨rfl, -⟩ := hv
  have hC := CX.of B hml rfl
  have hl := lv_entry [.long a0] (n := 2) (Nat.le_of_ble_eq_true rfl)
  rw [lg_entry_eq]
  generalize (lg_sl [.long a0] ++ List.replicate (2 - (lg_sl [.long a0]).length) Slot.unset).toArray = ls at hl ⊢
  have hl : lv_has ls 2 [(0, .long a0)] := hl
  exact k_Ref_bits_0 hC a0 ls (lv_sub hl [0] rfl) h
abbrev rm_Ref_under : Room := { frames := 2, cells := 0, slots := 0, locals := 42 }
set_option maxRecDepth 100000 in
set_option maxHeartbeats 4000000 in
theorem k_Ref_under_24 {p : Program} {l : Launch} {e : Env} {s : State} {m : MethodId} {args : Array Value} {below : List Frame} {meth : Method} {c : Code} (hC : CX p s m args meth c prog_12_method_73_code 4 "OutwardTapeModel" (some .boolean)) {r0 : Int32} : ∀ (s0 : Int32) (ls : Array Slot), lv_has ls 4 [] → f_Ref_under_24  s0 = some r0 → W p l e rm_Ref_under s m args below meth c s.heap [] 0 0 (MQ below (vp_Si (fun r => r = r0)) args s 0 0 (fun _ => False)) (F0 m 24 ls [.int s0]) := by
  obtain ⟨hx, hb, hml, hown, hts, hr, hlocks⟩ := id hC
  intro s0 ls hl h
  rw [f_Ref_under_24] at h
  obtain ⟨hz, h⟩ := og_of h
  have h := os_of h
  exact W.zret (v := s0) (ty := .boolean) hx hb hr (j_z_nar hz) (fun t ht hW => ⟨_, rfl, h, ht⟩) (fun q hq => absurd hq List.not_mem_nil) (dt_at dt_Ref_under 14 rfl)
set_option maxRecDepth 100000 in
set_option maxHeartbeats 4000000 in
theorem k_Ref_under_23 {p : Program} {l : Launch} {e : Env} {s : State} {m : MethodId} {args : Array Value} {below : List Frame} {meth : Method} {c : Code} (hC : CX p s m args meth c prog_12_method_73_code 4 "OutwardTapeModel" (some .boolean)) {r0 : Int32} : ∀  (ls : Array Slot), lv_has ls 4 [] → f_Ref_under_23   = some r0 → W p l e rm_Ref_under s m args below meth c s.heap [] 0 0 (MQ below (vp_Si (fun r => r = r0)) args s 0 0 (fun _ => False)) (F0 m 23 ls []) := by
  obtain ⟨hx, hb, hml, hown, hts, hr, hlocks⟩ := id hC
  intro ls hl h
  rw [f_Ref_under_23] at h
  refine lv_iconst (v := 0) hx hb (dt_at dt_Ref_under 13 rfl) (by decide) ?_
  exact k_Ref_under_24 hC   (0 : Int32) ls (lv_sub hl [] rfl) h
set_option maxRecDepth 100000 in
set_option maxHeartbeats 4000000 in
theorem k_Ref_under_19 {p : Program} {l : Launch} {e : Env} {s : State} {m : MethodId} {args : Array Value} {below : List Frame} {meth : Method} {c : Code} (hC : CX p s m args meth c prog_12_method_73_code 4 "OutwardTapeModel" (some .boolean)) {r0 : Int32} : ∀  (ls : Array Slot), lv_has ls 4 [] → f_Ref_under_19   = some r0 → W p l e rm_Ref_under s m args below meth c s.heap [] 0 0 (MQ below (vp_Si (fun r => r = r0)) args s 0 0 (fun _ => False)) (F0 m 19 ls []) := by
  obtain ⟨hx, hb, hml, hown, hts, hr, hlocks⟩ := id hC
  intro ls hl h
  rw [f_Ref_under_19] at h
  refine lv_iconst (v := 1) hx hb (dt_at dt_Ref_under 11 rfl) (by decide) ?_
  refine lv_goto (tgt := 24) hx hb (dt_at dt_Ref_under 12 rfl) (by decide) ?_
  exact k_Ref_under_24 hC   (1 : Int32) ls (lv_sub hl [] rfl) h
set_option maxRecDepth 100000 in
set_option maxHeartbeats 4000000 in
theorem k_Ref_under_0 {p : Program} {l : Launch} {e : Env} {s : State} {m : MethodId} {args : Array Value} {below : List Frame} {meth : Method} {c : Code} (hC : CX p s m args meth c prog_12_method_73_code 4 "OutwardTapeModel" (some .boolean)) {r0 : Int32} : ∀ (v0 : Int64) (v2 : Int64) (ls : Array Slot), lv_has ls 4 [(0, .long v0), (2, .long v2)] → f_Ref_under_0  v0 v2 = some r0 → W p l e rm_Ref_under s m args below meth c s.heap [] 0 0 (MQ below (vp_Si (fun r => r = r0)) args s 0 0 (fun _ => False)) (F0 m 0 ls []) := by
  obtain ⟨hx, hb, hml, hown, hts, hr, hlocks⟩ := id hC
  intro v0 v2 ls hl h
  rw [f_Ref_under_0] at h
  refine lv_lload_n hx hb (dt_at dt_Ref_under 0 rfl) rfl (lv_at hl 0 rfl) ?_
  refine lv_lload_n hx hb (dt_at dt_Ref_under 1 rfl) rfl (lv_at hl 1 rfl) ?_
  refine lc_lt (tgt := 19) hx hb (dt_at dt_Ref_under 2 rfl) (dt_at dt_Ref_under 3 rfl) (by decide) (fun c1 => ?_) (fun c1 => ?_)
  · have h := if_p h c1
    exact k_Ref_under_19 hC    ls (lv_sub hl [] rfl) h
  · have h := if_n h c1
    refine lv_lload_n hx hb (dt_at dt_Ref_under 4 rfl) rfl (lv_at hl 0 rfl) ?_
    refine lv_lload_n hx hb (dt_at dt_Ref_under 5 rfl) rfl (lv_at hl 1 rfl) ?_
    refine lc_ne (tgt := 23) hx hb (dt_at dt_Ref_under 6 rfl) (dt_at dt_Ref_under 7 rfl) (by decide) (fun c2 => ?_) (fun c2 => ?_)
    · have h := if_n h c2
      exact k_Ref_under_23 hC    ls (lv_sub hl [] rfl) h
    · have h := if_p h c2
      refine lv_lload_n hx hb (dt_at dt_Ref_under 8 rfl) rfl (lv_at hl 0 rfl) ?_
      obtain ⟨r3, h_r3, h⟩ := ob_of h
      refine vp_callSi (W.runS (As := [.long v0]) (rest := []) ⟨hx, hb, hml, hown, hts⟩ (c_Ref_infinite l v0 r3 h_r3) (va_cwS 1 hts (gd_S (m_4 78 rfl rfl) (m_4 79 rfl rfl) (m_1 4 rfl rfl) (m_4 80 rfl rfl)) rfl rfl rfl (by decide +kernel) ⟨Nat.le_of_ble_eq_true rfl, Nat.le_of_ble_eq_true rfl⟩) ⟨fun _ _ _ _ q => q, fun U hU hW => ⟨rfl, trivial⟩⟩ rfl rfl hl.1 rfl (lv_room (Nat.le_of_ble_eq_true rfl)) (dt_at dt_Ref_under 9 rfl) ⟨Nat.le_of_ble_eq_true rfl, Nat.le_of_ble_eq_true rfl⟩) (fun u_r3 q_r3 => ?_)
      obtain rfl : r3 = u_r3 := q_r3.symm
      refine lv_if_eq (tgt := 23) hx hb (dt_at dt_Ref_under 10 rfl) (by decide) (fun c4 => ?_) (fun c4 => ?_)
      · have h := if_p h c4
        exact k_Ref_under_23 hC    ls (lv_sub hl [] rfl) h
      · have h := if_n h c4
        exact k_Ref_under_19 hC    ls (lv_sub hl [] rfl) h
set_option maxRecDepth 100000 in
set_option maxHeartbeats 4000000 in
theorem c_Ref_under (l : Launch) (a0 : Int64) (a2 : Int64) (r0 : Int32) (h : f_Ref_under a0 a2 = some r0) : Met l (⟨"OutwardTapeModel", "under", "(JJ)Z"⟩ : MethodName) (WSm (⟨"OutwardTapeModel", "under", "(JJ)Z"⟩ : MethodName) prog_12_method_73_code 4 (some .boolean)) rm_Ref_under (va_Pc [.long a0, .long a2] (fun _ => True)) (vp_Si (fun r => r = r0)) 0 0 (fun _ => False) := by
  refine Met.ofW (cc := prog_12_method_73_code) (maxL := 4) (ret := (some .boolean)) (by decide) rfl ?_
  intro p e s m args below meth c s₁ B hml hv
  obtain ⟨rfl, -⟩ := hv
  have hC := CX.of B hml rfl
  have hl := lv_entry [.long a0, .long a2] (n := 4) (Nat.le_of_ble_eq_true rfl)
  rw [lg_entry_eq]
  generalize (lg_sl [.long a0, .long a2] ++ List.replicate (4 - (lg_sl [.long a0, .long a2]).length) Slot.unset).toArray = ls at hl ⊢
  have hl : lv_has ls 4 [(0, .long a0), (2, .long a2)] := hl
  exact k_Ref_under_0 hC a0 a2 ls (lv_sub hl [0, 1] rfl) h
