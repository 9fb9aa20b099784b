-- written by wip/gen/strs.py: the JDK's methods on texts
def dl_Str_coder : List (Nat × Instr × Nat) := [(0, .getstatic 38, 3), (3, .ifCond .eq 10, 3), (6, .aload_n 0, 1), (7, .getfield 15, 3), (10, .goto 4, 3), (13, .iconst 1, 1), (14, .ireturn, 1)]
theorem dt_Str_coder : dtbl prog_19_method_152_code dl_Str_coder = true := by decide +kernel
abbrev rm_Str_coder : Room := { frames := 0, cells := 0, slots := 0, locals := 0 }
set_option maxRecDepth 100000 in
set_option maxHeartbeats 4000000 in
theorem c_Str_coder (l : Launch) (n0 : Nat) (adK adV : Nat → Nat) (w : Nat) (hw : w < 12) : Met l (⟨"java/lang/String", "coder", "()B"⟩ : MethodName) (WSm (⟨"java/lang/String", "coder", "()B"⟩ : MethodName) prog_19_method_152_code 1 (some .byte)) rm_Str_coder (va_Pc [.ref (adK w)] (fun U => isS n0 adK adV U)) (vp_Si (fun r => r = 0)) 0 0 (fun _ => False) := by
  refine va_MetF (cc := prog_19_method_152_code) (maxL := 1) (ret := (some .byte)) (by decide +kernel) rfl ?_
  intro p e s m args below meth c s₁ B hml hv
  obtain ⟨rfl, hSt⟩ := hv
  obtain ⟨hx, hb, hml, hown, hts, hr, hlocks⟩ := CX.of B hml rfl
  have hS : va_S (fun x => n0 ≤ x) s.heap s.heap [] := va_S.rf
  have hl := lv_entry [.ref (adK w)] (n := 1) (Nat.le_of_ble_eq_true rfl)
  rw [lg_entry_eq]
  generalize (lg_sl [.ref (adK w)] ++ List.replicate (1 - (lg_sl [.ref (adK w)]).length) Slot.unset).toArray = ls at hl ⊢
  have hl : lv_has ls 1 [(0, .ref (adK w))] := hl
  refine va_gets hx hb hSt.2.2.1 hS hown (hts (Cond.fieldLink "java/lang/String" 38 "java/lang/String" "COMPACT_STRINGS" "Z") (m_2 168 rfl rfl)) (fun _ h9 => h9) (dt_at dt_Str_coder 0 rfl) ?_
  refine lv_if_eq (tgt := 13) hx hb (dt_at dt_Str_coder 1 rfl) (by decide) (fun c1 => absurd c1 (by decide)) (fun c1 => ?_)
  refine lv_aload_n hx hb (dt_at dt_Str_coder 2 rfl) rfl (lv_at hl 0 rfl) ?_
  refine vk_getf hx hb (hSt.2.1.1 w hw).2.1 hS hown (hts (Cond.fieldLink "java/lang/String" 15 "java/lang/String" "coder" "B") (m_5 137 rfl rfl)) (fun _ h9 => h9) (dt_at dt_Str_coder 3 rfl) ?_
  refine lv_goto (tgt := 14) hx hb (dt_at dt_Str_coder 4 rfl) (by decide) ?_
  exact W.zret (v := 0) (ty := .byte) hx hb hr (by decide) (fun t ht hW => ⟨_, rfl, rfl, ht⟩) (fun q hq => absurd hq List.not_mem_nil) (dt_at dt_Str_coder 6 rfl)
def dl_Str_isLatin1 : List (Nat × Instr × Nat) := [(0, .getstatic 38, 3), (3, .ifCond .eq 14, 3), (6, .aload_n 0, 1), (7, .getfield 15, 3), (10, .ifCond .ne 7, 3), (13, .iconst 1, 1), (14, .goto 4, 3), (17, .iconst 0, 1), (18, .ireturn, 1)]
theorem dt_Str_isLatin1 : dtbl prog_19_method_154_code dl_Str_isLatin1 = true := by decide +kernel
abbrev rm_Str_isLatin1 : Room := { frames := 0, cells := 0, slots := 0, locals := 0 }
set_option maxRecDepth 100000 in
set_option maxHeartbeats 4000000 in
theorem c_Str_isLatin1 (l : Launch) (n0 : Nat) (adK adV : Nat → Nat) (w : Nat) (hw : w < 12) : Met l (⟨"java/lang/String", "isLatin1", "()Z"⟩ : MethodName) (WSm (⟨"java/lang/String", "isLatin1", "()Z"⟩ : MethodName) prog_19_method_154_code 1 (some .boolean)) rm_Str_isLatin1 (va_Pc [.ref (adK w)] (fun U => isS n0 adK adV U)) (vp_Si (fun r => r = 1)) 0 0 (fun _ => False) := by
  refine va_MetF (cc := prog_19_method_154_code) (maxL := 1) (ret := (some .boolean)) (by decide +kernel) rfl ?_
  intro p e s m args below meth c s₁ B hml hv
  obtain ⟨rfl, hSt⟩ := hv
  obtain ⟨hx, hb, hml, hown, hts, hr, hlocks⟩ := CX.of B hml rfl
  have hS : va_S (fun x => n0 ≤ x) s.heap s.heap [] := va_S.rf
  have hl := lv_entry [.ref (adK w)] (n := 1) (Nat.le_of_ble_eq_true rfl)
  rw [lg_entry_eq]
  generalize (lg_sl [.ref (adK w)] ++ List.replicate (1 - (lg_sl [.ref (adK w)]).length) Slot.unset).toArray = ls at hl ⊢
  have hl : lv_has ls 1 [(0, .ref (adK w))] := hl
  refine va_gets hx hb hSt.2.2.1 hS hown (hts (Cond.fieldLink "java/lang/String" 38 "java/lang/String" "COMPACT_STRINGS" "Z") (m_2 168 rfl rfl)) (fun _ h9 => h9) (dt_at dt_Str_isLatin1 0 rfl) ?_
  refine lv_if_eq (tgt := 17) hx hb (dt_at dt_Str_isLatin1 1 rfl) (by decide) (fun c1 => absurd c1 (by decide)) (fun c1 => ?_)
  refine lv_aload_n hx hb (dt_at dt_Str_isLatin1 2 rfl) rfl (lv_at hl 0 rfl) ?_
  refine vk_getf hx hb (hSt.2.1.1 w hw).2.1 hS hown (hts (Cond.fieldLink "java/lang/String" 15 "java/lang/String" "coder" "B") (m_5 137 rfl rfl)) (fun _ h9 => h9) (dt_at dt_Str_isLatin1 3 rfl) ?_
  refine lv_if_ne (tgt := 17) hx hb (dt_at dt_Str_isLatin1 4 rfl) (by decide) (fun c1 => absurd rfl c1) (fun c1 => ?_)
  refine lv_iconst (v := 1) hx hb (dt_at dt_Str_isLatin1 5 rfl) (by decide) ?_
  refine lv_goto (tgt := 18) hx hb (dt_at dt_Str_isLatin1 6 rfl) (by decide) ?_
  exact W.zret (v := 1) (ty := .boolean) hx hb hr (by decide) (fun t ht hW => ⟨_, rfl, rfl, ht⟩) (fun q hq => absurd hq List.not_mem_nil) (dt_at dt_Str_isLatin1 8 rfl)
def dl_Str_length : List (Nat × Instr × Nat) := [(0, .aload_n 0, 1), (1, .getfield 9, 3), (4, .arraylength, 1), (5, .aload_n 0, 1), (6, .invokevirtual 335, 3), (9, .ishr, 1), (10, .ireturn, 1)]
theorem dt_Str_length : dtbl prog_19_method_54_code dl_Str_length = true := by decide +kernel
abbrev rm_Str_length : Room := { frames := 1, cells := 0, slots := 0, locals := 24 }
set_option maxRecDepth 100000 in
set_option maxHeartbeats 4000000 in
theorem c_Str_length (l : Launch) (n0 : Nat) (adK adV : Nat → Nat) (w : Nat) (hw : w < 12) : Met l (⟨"java/lang/String", "length", "()I"⟩ : MethodName) (WSm (⟨"java/lang/String", "length", "()I"⟩ : MethodName) prog_19_method_54_code 1 (some .int)) rm_Str_length (va_Pc [.ref (adK w)] (fun U => isS n0 adK adV U)) (vp_Si (fun r => r = nI (lenJ.getD w 0))) 0 0 (fun _ => False) := by
  refine va_MetF (cc := prog_19_method_54_code) (maxL := 1) (ret := (some .int)) (by decide +kernel) rfl ?_
  intro p e s m args below meth c s₁ B hml hv
  obtain ⟨rfl, hSt⟩ := hv
  obtain ⟨hx, hb, hml, hown, hts, hr, hlocks⟩ := CX.of B hml rfl
  have hS : va_S (fun x => n0 ≤ x) s.heap s.heap [] := va_S.rf
  have hl := lv_entry [.ref (adK w)] (n := 1) (Nat.le_of_ble_eq_true rfl)
  rw [lg_entry_eq]
  generalize (lg_sl [.ref (adK w)] ++ List.replicate (1 - (lg_sl [.ref (adK w)]).length) Slot.unset).toArray = ls at hl ⊢
  have hl : lv_has ls 1 [(0, .ref (adK w))] := hl
  refine lv_aload_n hx hb (dt_at dt_Str_length 0 rfl) rfl (lv_at hl 0 rfl) ?_
  refine vk_getf hx hb (hSt.2.1.1 w hw).2.2.1 hS hown (hts (Cond.fieldLink "java/lang/String" 9 "java/lang/String" "value" "[B") (m_5 136 rfl rfl)) (fun _ h9 => h9) (dt_at dt_Str_length 1 rfl) ?_
  refine va_tlen (v := nI (lenJ.getD w 0)) hx hb (hSt.2.1.1 w hw).2.2.2 hS rfl (dt_at dt_Str_length 2 rfl) ?_
  refine lv_aload_n hx hb (dt_at dt_Str_length 3 rfl) rfl (lv_at hl 0 rfl) ?_
  refine vp_callSi (W.runV (As := []) (rest := [.int (nI (lenJ.getD w 0))]) ⟨hx, hb, hml, hown, hts⟩ (c_Str_coder l n0 adK adV w hw) (cwV 0 hts (gd_V (m_2 164 rfl rfl) (m_2 165 rfl rfl) (m_2 166 rfl rfl) (m_1 11 rfl rfl) (m_2 167 rfl rfl)) rfl rfl rfl (by decide +kernel) ⟨Nat.le_of_ble_eq_true rfl, Nat.le_of_ble_eq_true rfl⟩) ⟨fun a U g mk q => ⟨q.1, isS.call q.2⟩, vk_recv hSt.2.1 hw hS, fun U hU hW => ⟨rfl, isS.go hSt hS (fun x h => h) hU hW⟩⟩ rfl rfl hl.1 rfl (lv_room (Nat.le_of_ble_eq_true rfl)) (dt_at dt_Str_length 4 rfl) ⟨Nat.le_of_ble_eq_true rfl, Nat.le_of_ble_eq_true rfl⟩) (fun u q => ?_)
  subst q
  refine lv_ishr hx hb (dt_at dt_Str_length 5 rfl) ?_
  exact W.iret (v := nI (lenJ.getD w 0) >>> ((0 : Int32) &&& 31)) hx hb hr (fun t ht hW => ⟨_, rfl, sb_shr0 _, ht⟩) (fun q hq => absurd hq List.not_mem_nil) (dt_at dt_Str_length 6 rfl)
def dl_Pre_cin : List (Nat × Instr × Nat) := [(0, .iload_n 0, 1), (1, .ifCond .lt 8, 3), (4, .iload_n 0, 1), (5, .iload_n 1, 1), (6, .if_icmp .lt 10, 3), (16, .iload_n 0, 1), (17, .ireturn, 1)]
theorem dt_Pre_cin : dtbl prog_23_method_11_code dl_Pre_cin = true := by decide +kernel
abbrev rm_Pre_cin : Room := { frames := 0, cells := 0, slots := 0, locals := 0 }
set_option maxRecDepth 100000 in
set_option maxHeartbeats 4000000 in
theorem c_Pre_cin (l : Launch) (n0 : Nat) (adK adV : Nat → Nat) (z : Nat) (i n : Int32) (h1 : ¬ i < 0) (h2 : i < n) : Met l (⟨"jdk/internal/util/Preconditions", "checkIndex", "(IILjava/util/function/BiFunction;)I"⟩ : MethodName) (WSm (⟨"jdk/internal/util/Preconditions", "checkIndex", "(IILjava/util/function/BiFunction;)I"⟩ : MethodName) prog_23_method_11_code 3 (some .int)) rm_Pre_cin (va_Pc [.int i, .int n, .null] (fun U => isS n0 adK adV U)) (vp_Si (fun r => r = i)) 0 0 (fun _ => False) := by
  refine va_MetF (cc := prog_23_method_11_code) (maxL := 3) (ret := (some .int)) (by decide +kernel) rfl ?_
  intro p e s m args below meth c s₁ B hml hv
  obtain ⟨rfl, hSt⟩ := hv
  obtain ⟨hx, hb, hml, hown, hts, hr, hlocks⟩ := CX.of B hml rfl
  have hS : va_S (fun x => n0 ≤ x) s.heap s.heap [] := va_S.rf
  have hl := lv_entry [.int i, .int n, .null] (n := 3) (Nat.le_of_ble_eq_true rfl)
  rw [lg_entry_eq]
  generalize (lg_sl [.int i, .int n, .null] ++ List.replicate (3 - (lg_sl [.int i, .int n, .null]).length) Slot.unset).toArray = ls at hl ⊢
  have hl : lv_has ls 3 [(0, .int i), (1, .int n), (2, .null)] := hl
  refine lv_iload_n hx hb (dt_at dt_Pre_cin 0 rfl) rfl (lv_at hl 0 rfl) ?_
  refine lv_if_lt (tgt := 9) hx hb (dt_at dt_Pre_cin 1 rfl) (by decide) (fun c1 => absurd c1 h1) (fun c1 => ?_)
  refine lv_iload_n hx hb (dt_at dt_Pre_cin 2 rfl) rfl (lv_at hl 0 rfl) ?_
  refine lv_iload_n hx hb (dt_at dt_Pre_cin 3 rfl) rfl (lv_at hl 1 rfl) ?_
  refine lv_icmp_lt (tgt := 16) hx hb (dt_at dt_Pre_cin 4 rfl) (by decide) (fun c1 => ?_) (fun c1 => absurd h2 c1)
  refine lv_iload_n hx hb (dt_at dt_Pre_cin 5 rfl) rfl (lv_at hl 0 rfl) ?_
  exact W.iret (v := i) hx hb hr (fun t ht hW => ⟨_, rfl, rfl, ht⟩) (fun q hq => absurd hq List.not_mem_nil) (dt_at dt_Pre_cin 6 rfl)
def dl_Pre_cir : List (Nat × Instr × Nat) := [(0, .iload_n 0, 1), (1, .ifCond .lt 8, 3), (4, .iload_n 0, 1), (5, .iload_n 1, 1), (6, .if_icmp .lt 10, 3), (16, .iload_n 0, 1), (17, .ireturn, 1)]
theorem dt_Pre_cir : dtbl prog_23_method_11_code dl_Pre_cir = true := by decide +kernel
abbrev rm_Pre_cir : Room := { frames := 0, cells := 0, slots := 0, locals := 0 }
set_option maxRecDepth 100000 in
set_option maxHeartbeats 4000000 in
theorem c_Pre_cir (l : Launch) (n0 : Nat) (adK adV : Nat → Nat) (z : Nat) (i n : Int32) (h1 : ¬ i < 0) (h2 : i < n) : Met l (⟨"jdk/internal/util/Preconditions", "checkIndex", "(IILjava/util/function/BiFunction;)I"⟩ : MethodName) (WSm (⟨"jdk/internal/util/Preconditions", "checkIndex", "(IILjava/util/function/BiFunction;)I"⟩ : MethodName) prog_23_method_11_code 3 (some .int)) rm_Pre_cir (va_Pc [.int i, .int n, .ref z] (fun U => isS n0 adK adV U)) (vp_Si (fun r => r = i)) 0 0 (fun _ => False) := by
  refine va_MetF (cc := prog_23_method_11_code) (maxL := 3) (ret := (some .int)) (by decide +kernel) rfl ?_
  intro p e s m args below meth c s₁ B hml hv
  obtain ⟨rfl, hSt⟩ := hv
  obtain ⟨hx, hb, hml, hown, hts, hr, hlocks⟩ := CX.of B hml rfl
  have hS : va_S (fun x => n0 ≤ x) s.heap s.heap [] := va_S.rf
  have hl := lv_entry [.int i, .int n, .ref z] (n := 3) (Nat.le_of_ble_eq_true rfl)
  rw [lg_entry_eq]
  generalize (lg_sl [.int i, .int n, .ref z] ++ List.replicate (3 - (lg_sl [.int i, .int n, .ref z]).length) Slot.unset).toArray = ls at hl ⊢
  have hl : lv_has ls 3 [(0, .int i), (1, .int n), (2, .ref z)] := hl
  refine lv_iload_n hx hb (dt_at dt_Pre_cir 0 rfl) rfl (lv_at hl 0 rfl) ?_
  refine lv_if_lt (tgt := 9) hx hb (dt_at dt_Pre_cir 1 rfl) (by decide) (fun c1 => absurd c1 h1) (fun c1 => ?_)
  refine lv_iload_n hx hb (dt_at dt_Pre_cir 2 rfl) rfl (lv_at hl 0 rfl) ?_
  refine lv_iload_n hx hb (dt_at dt_Pre_cir 3 rfl) rfl (lv_at hl 1 rfl) ?_
  refine lv_icmp_lt (tgt := 16) hx hb (dt_at dt_Pre_cir 4 rfl) (by decide) (fun c1 => ?_) (fun c1 => absurd h2 c1)
  refine lv_iload_n hx hb (dt_at dt_Pre_cir 5 rfl) rfl (lv_at hl 0 rfl) ?_
  exact W.iret (v := i) hx hb hr (fun t ht hW => ⟨_, rfl, rfl, ht⟩) (fun q hq => absurd hq List.not_mem_nil) (dt_at dt_Pre_cir 6 rfl)
def dl_Str_ci : List (Nat × Instr × Nat) := [(0, .iload_n 0, 1), (1, .iload_n 1, 1), (2, .getstatic 1053, 3), (5, .invokestatic 1059, 3), (8, .pop, 1), (9, .return_, 1)]
theorem dt_Str_ci : dtbl prog_19_method_155_code dl_Str_ci = true := by decide +kernel
abbrev rm_Str_ci : Room := { frames := 1, cells := 0, slots := 0, locals := 26 }
set_option maxRecDepth 100000 in
set_option maxHeartbeats 4000000 in
theorem c_Str_ci (l : Launch) (n0 : Nat) (adK adV : Nat → Nat) (i n : Int32) (h1 : ¬ i < 0) (h2 : i < n) : Met l (⟨"java/lang/String", "checkIndex", "(II)V"⟩ : MethodName) (WSm (⟨"java/lang/String", "checkIndex", "(II)V"⟩ : MethodName) prog_19_method_155_code 2 none) rm_Str_ci (va_Pc [.int i, .int n] (fun U => isS n0 adK adV U)) (va_Sv (fun _ => True)) 0 0 (fun _ => False) := by
  refine va_MetF (cc := prog_19_method_155_code) (maxL := 2) (ret := none) (by decide +kernel) rfl ?_
  intro p e s m args below meth c s₁ B hml hv
  obtain ⟨rfl, hSt⟩ := hv
  obtain ⟨hx, hb, hml, hown, hts, hr, hlocks⟩ := CX.of B hml rfl
  have hS : va_S (fun x => n0 ≤ x) s.heap s.heap [] := va_S.rf
  have hl := lv_entry [.int i, .int n] (n := 2) (Nat.le_of_ble_eq_true rfl)
  rw [lg_entry_eq]
  generalize (lg_sl [.int i, .int n] ++ List.replicate (2 - (lg_sl [.int i, .int n]).length) Slot.unset).toArray = ls at hl ⊢
  have hl : lv_has ls 2 [(0, .int i), (1, .int n)] := hl
  refine lv_iload_n hx hb (dt_at dt_Str_ci 0 rfl) rfl (lv_at hl 0 rfl) ?_
  refine lv_iload_n hx hb (dt_at dt_Str_ci 1 rfl) rfl (lv_at hl 1 rfl) ?_
  rcases hSt.2.2.2.1 with hz | ⟨z, hz⟩
  · refine va_gets hx hb hz hS hown (hts (Cond.fieldLink "java/lang/String" 1053 "jdk/internal/util/Preconditions" "SIOOBE_FORMATTER" "Ljava/util/function/BiFunction;") (m_2 184 rfl rfl)) (fun _ h9 => h9) (dt_at dt_Str_ci 2 rfl) ?_
    refine vp_callSi (W.runS (As := [.int i, .int n, .null]) (rest := []) ⟨hx, hb, hml, hown, hts⟩ (c_Pre_cin l n0 adK adV 0 i n h1 h2) (va_cwS 3 hts (gd_S (m_2 186 rfl rfl) (m_2 187 rfl rfl) (m_1 13 rfl rfl) (m_2 188 rfl rfl)) rfl rfl rfl (by decide +kernel) ⟨Nat.le_of_ble_eq_true rfl, Nat.le_of_ble_eq_true rfl⟩) ⟨fun a U g mk q => ⟨q.1, isS.call q.2⟩, fun U hU hW => ⟨rfl, isS.go hSt hS (fun x h => h) hU hW⟩⟩ rfl rfl hl.1 rfl (lv_room (Nat.le_of_ble_eq_true rfl)) (dt_at dt_Str_ci 3 rfl) ⟨Nat.le_of_ble_eq_true rfl, Nat.le_of_ble_eq_true rfl⟩) (fun u q => ?_)
    refine lv_pop hx hb (dt_at dt_Str_ci 4 rfl) rfl ?_
    exact W.vret hx hb hr (fun t ht hW => ⟨rfl, trivial, ht⟩) (fun q hq => absurd hq List.not_mem_nil) (dt_at dt_Str_ci 5 rfl)
  · refine va_gets hx hb hz hS hown (hts (Cond.fieldLink "java/lang/String" 1053 "jdk/internal/util/Preconditions" "SIOOBE_FORMATTER" "Ljava/util/function/BiFunction;") (m_2 184 rfl rfl)) (fun _ h9 => h9) (dt_at dt_Str_ci 2 rfl) ?_
    refine vp_callSi (W.runS (As := [.int i, .int n, .ref z]) (rest := []) ⟨hx, hb, hml, hown, hts⟩ (c_Pre_cir l n0 adK adV z i n h1 h2) (va_cwS 3 hts (gd_S (m_2 186 rfl rfl) (m_2 187 rfl rfl) (m_1 13 rfl rfl) (m_2 188 rfl rfl)) rfl rfl rfl (by decide +kernel) ⟨Nat.le_of_ble_eq_true rfl, Nat.le_of_ble_eq_true rfl⟩) ⟨fun a U g mk q => ⟨q.1, isS.call q.2⟩, fun U hU hW => ⟨rfl, isS.go hSt hS (fun x h => h) hU hW⟩⟩ rfl rfl hl.1 rfl (lv_room (Nat.le_of_ble_eq_true rfl)) (dt_at dt_Str_ci 3 rfl) ⟨Nat.le_of_ble_eq_true rfl, Nat.le_of_ble_eq_true rfl⟩) (fun u q => ?_)
    refine lv_pop hx hb (dt_at dt_Str_ci 4 rfl) rfl ?_
    exact W.vret hx hb hr (fun t ht hW => ⟨rfl, trivial, ht⟩) (fun q hq => absurd hq List.not_mem_nil) (dt_at dt_Str_ci 5 rfl)
def dl_Lat_charAt : List (Nat × Instr × Nat) := [(0, .iload_n 1, 1), (1, .aload_n 0, 1), (2, .arraylength, 1), (3, .invokestatic 9, 3), (6, .aload_n 0, 1), (7, .iload_n 1, 1), (8, .baload, 1), (9, .sipush 255, 3), (12, .iand, 1), (13, .i2c, 1), (14, .ireturn, 1)]
theorem dt_Lat_charAt : dtbl prog_20_method_2_code dl_Lat_charAt = true := by decide +kernel
theorem chJ_ok : ∀ w, w < 12 → ∀ k, k < lenJ.getD w 0 → (((bytJ.getD w []).getD k 0 &&& 255).toUInt32 % 65536).toInt32 = chJ w k ∧ narrow .char (.int (chJ w k)) = .int (chJ w k) := by decide +kernel
theorem lenJ_lt : ∀ w, w < 12 → lenJ.getD w 0 < 100 := by decide +kernel
abbrev rm_Lat_charAt : Room := { frames := 2, cells := 0, slots := 0, locals := 50 }
set_option maxRecDepth 100000 in
set_option maxHeartbeats 4000000 in
theorem c_Lat_charAt (l : Launch) (n0 : Nat) (adK adV : Nat → Nat) (w k : Nat) (hw : w < 12) (hk : k < lenJ.getD w 0) : Met l (⟨"java/lang/StringLatin1", "charAt", "([BI)C"⟩ : MethodName) (WSm (⟨"java/lang/StringLatin1", "charAt", "([BI)C"⟩ : MethodName) prog_20_method_2_code 2 (some .char)) rm_Lat_charAt (va_Pc [.ref (adV w), .int (nI k)] (fun U => isS n0 adK adV U)) (vp_Si (fun r => r = chJ w k)) 0 0 (fun _ => False) := by
  refine va_MetF (cc := prog_20_method_2_code) (maxL := 2) (ret := (some .char)) (by decide +kernel) rfl ?_
  intro p e s m args below meth c s₁ B hml hv
  obtain ⟨rfl, hSt⟩ := hv
  obtain ⟨hx, hb, hml, hown, hts, hr, hlocks⟩ := CX.of B hml rfl
  have hS : va_S (fun x => n0 ≤ x) s.heap s.heap [] := va_S.rf
  have hl := lv_entry [.ref (adV w), .int (nI k)] (n := 2) (Nat.le_of_ble_eq_true rfl)
  rw [lg_entry_eq]
  generalize (lg_sl [.ref (adV w), .int (nI k)] ++ List.replicate (2 - (lg_sl [.ref (adV w), .int (nI k)]).length) Slot.unset).toArray = ls at hl ⊢
  have hl : lv_has ls 2 [(0, .ref (adV w)), (1, .int (nI k))] := hl
  have hL := lenJ_lt w hw
  obtain ⟨e1, e2⟩ := chJ_ok w hw k hk
  refine lv_iload_n hx hb (dt_at dt_Lat_charAt 0 rfl) rfl (lv_at hl 1 rfl) ?_
  refine lv_aload_n hx hb (dt_at dt_Lat_charAt 1 rfl) rfl (lv_at hl 0 rfl) ?_
  refine va_tlen (v := nI (lenJ.getD w 0)) hx hb (hSt.2.1.1 w hw).2.2.2 hS rfl (dt_at dt_Lat_charAt 2 rfl) ?_
  refine va_csv (W.runS (As := [.int (nI k), .int (nI (lenJ.getD w 0))]) (rest := []) ⟨hx, hb, hml, hown, hts⟩ (c_Str_ci l n0 adK adV (nI k) (nI (lenJ.getD w 0)) (nI_pos (by omega)) (nI_lt hk (by omega))) (va_cwS 2 hts (gd_S (m_2 181 rfl rfl) (m_2 182 rfl rfl) (m_1 11 rfl rfl) (m_2 183 rfl rfl)) rfl rfl rfl (by decide +kernel) ⟨Nat.le_of_ble_eq_true rfl, Nat.le_of_ble_eq_true rfl⟩) ⟨fun a U g mk q => ⟨q.1, isS.call q.2⟩, fun U hU hW => ⟨rfl, isS.go hSt hS (fun x h => h) hU hW⟩⟩ rfl rfl hl.1 rfl (lv_room (Nat.le_of_ble_eq_true rfl)) (dt_at dt_Lat_charAt 3 rfl) ⟨Nat.le_of_ble_eq_true rfl, Nat.le_of_ble_eq_true rfl⟩) (fun _ => ?_)
  refine lv_aload_n hx hb (dt_at dt_Lat_charAt 4 rfl) rfl (lv_at hl 0 rfl) ?_
  refine lv_iload_n hx hb (dt_at dt_Lat_charAt 5 rfl) rfl (lv_at hl 1 rfl) ?_
  refine va_tb hx hb (hSt.2.1.1 w hw).2.2.2 hS (vp_in_nI hk (by omega)) rfl (dt_at dt_Lat_charAt 6 rfl) ?_
  refine lv_sipush (v := 255) hx hb (dt_at dt_Lat_charAt 7 rfl) (by decide) ?_
  refine lv_iand hx hb (dt_at dt_Lat_charAt 8 rfl) ?_
  refine lv_i2c (v := chJ w k) hx hb (dt_at dt_Lat_charAt 9 rfl) (by rw [nI_clamp (by omega)]; exact e1) ?_
  exact W.zret (v := chJ w k) (ty := .char) hx hb hr e2 (fun t ht hW => ⟨_, rfl, rfl, ht⟩) (fun q hq => absurd hq List.not_mem_nil) (dt_at dt_Lat_charAt 10 rfl)
def dl_Str_charAt : List (Nat × Instr × Nat) := [(0, .aload_n 0, 1), (1, .invokevirtual 492, 3), (4, .ifCond .eq 12, 3), (7, .aload_n 0, 1), (8, .getfield 9, 3), (11, .iload_n 1, 1), (12, .invokestatic 495, 3), (15, .ireturn, 1)]
theorem dt_Str_charAt : dtbl prog_19_method_56_code dl_Str_charAt = true := by decide +kernel
abbrev rm_Str_charAt : Room := { frames := 3, cells := 0, slots := 0, locals := 75 }
set_option maxRecDepth 100000 in
set_option maxHeartbeats 4000000 in
theorem c_Str_charAt (l : Launch) (n0 : Nat) (adK adV : Nat → Nat) (w k : Nat) (hw : w < 12) (hk : k < lenJ.getD w 0) : Met l (⟨"java/lang/String", "charAt", "(I)C"⟩ : MethodName) (WSm (⟨"java/lang/String", "charAt", "(I)C"⟩ : MethodName) prog_19_method_56_code 2 (some .char)) rm_Str_charAt (va_Pc [.ref (adK w), .int (nI k)] (fun U => isS n0 adK adV U)) (vp_Si (fun r => r = chJ w k)) 0 0 (fun _ => False) := by
  refine va_MetF (cc := prog_19_method_56_code) (maxL := 2) (ret := (some .char)) (by decide +kernel) rfl ?_
  intro p e s m args below meth c s₁ B hml hv
  obtain ⟨rfl, hSt⟩ := hv
  obtain ⟨hx, hb, hml, hown, hts, hr, hlocks⟩ := CX.of B hml rfl
  have hS : va_S (fun x => n0 ≤ x) s.heap s.heap [] := va_S.rf
  have hl := lv_entry [.ref (adK w), .int (nI k)] (n := 2) (Nat.le_of_ble_eq_true rfl)
  rw [lg_entry_eq]
  generalize (lg_sl [.ref (adK w), .int (nI k)] ++ List.replicate (2 - (lg_sl [.ref (adK w), .int (nI k)]).length) Slot.unset).toArray = ls at hl ⊢
  have hl : lv_has ls 2 [(0, .ref (adK w)), (1, .int (nI k))] := hl
  obtain ⟨e1, e2⟩ := chJ_ok w hw k hk
  refine lv_aload_n hx hb (dt_at dt_Str_charAt 0 rfl) rfl (lv_at hl 0 rfl) ?_
  refine vp_callSi (W.runV (As := []) (rest := []) ⟨hx, hb, hml, hown, hts⟩ (c_Str_isLatin1 l n0 adK adV w hw) (cwV 0 hts (gd_V (m_2 174 rfl rfl) (m_2 175 rfl rfl) (m_2 176 rfl rfl) (m_1 11 rfl rfl) (m_2 177 rfl rfl)) rfl rfl rfl (by decide +kernel) ⟨Nat.le_of_ble_eq_true rfl, Nat.le_of_ble_eq_true rfl⟩) ⟨fun a U g mk q => ⟨q.1, isS.call q.2⟩, vk_recv hSt.2.1 hw hS, fun U hU hW => ⟨rfl, isS.go hSt hS (fun x h => h) hU hW⟩⟩ rfl rfl hl.1 rfl (lv_room (Nat.le_of_ble_eq_true rfl)) (dt_at dt_Str_charAt 1 rfl) ⟨Nat.le_of_ble_eq_true rfl, Nat.le_of_ble_eq_true rfl⟩) (fun u q => ?_)
  subst q
  refine lv_if_eq (tgt := 16) hx hb (dt_at dt_Str_charAt 2 rfl) (by decide) (fun c1 => absurd c1 (by decide)) (fun c1 => ?_)
  refine lv_aload_n hx hb (dt_at dt_Str_charAt 3 rfl) rfl (lv_at hl 0 rfl) ?_
  refine vk_getf hx hb (hSt.2.1.1 w hw).2.2.1 hS hown (hts (Cond.fieldLink "java/lang/String" 9 "java/lang/String" "value" "[B") (m_5 136 rfl rfl)) (fun _ h9 => h9) (dt_at dt_Str_charAt 4 rfl) ?_
  refine lv_iload_n hx hb (dt_at dt_Str_charAt 5 rfl) rfl (lv_at hl 1 rfl) ?_
  refine vp_callSi (W.runS (As := [.ref (adV w), .int (nI k)]) (rest := []) ⟨hx, hb, hml, hown, hts⟩ (c_Lat_charAt l n0 adK adV w k hw hk) (va_cwS 2 hts (gd_S (m_2 178 rfl rfl) (m_2 179 rfl rfl) (m_1 12 rfl rfl) (m_2 180 rfl rfl)) rfl rfl rfl (by decide +kernel) ⟨Nat.le_of_ble_eq_true rfl, Nat.le_of_ble_eq_true rfl⟩) ⟨fun a U g mk q => ⟨q.1, isS.call q.2⟩, fun U hU hW => ⟨rfl, isS.go hSt hS (fun x h => h) hU hW⟩⟩ rfl rfl hl.1 rfl (lv_room (Nat.le_of_ble_eq_true rfl)) (dt_at dt_Str_charAt 6 rfl) ⟨Nat.le_of_ble_eq_true rfl, Nat.le_of_ble_eq_true rfl⟩) (fun u q => ?_)
  subst q
  exact W.zret (v := chJ w k) (ty := .char) hx hb hr e2 (fun t ht hW => ⟨_, rfl, rfl, ht⟩) (fun q hq => absurd hq List.not_mem_nil) (dt_at dt_Str_charAt 7 rfl)
theorem c_Str_charAtI (l : Launch) (n0 : Nat) (adK adV : Nat → Nat) (w : Nat) (i : Int32) (hw : w < 12) (hi : vp_in i (lenJ.getD w 0)) : Met l (⟨"java/lang/String", "charAt", "(I)C"⟩ : MethodName) (WSm (⟨"java/lang/String", "charAt", "(I)C"⟩ : MethodName) prog_19_method_56_code 2 (some .char)) rm_Str_charAt (va_Pc [.ref (adK w), .int i] (fun U => isS n0 adK adV U)) (vp_Si (fun r => r = chJ w i.toNatClampNeg)) 0 0 (fun _ => False) := by
  have hL := lenJ_lt w hw
  obtain ⟨k, hk, rfl⟩ := vp_in_of hi (by omega)
  rw [nI_clamp (by omega)]
  exact c_Str_charAt l n0 adK adV w k hw hk
