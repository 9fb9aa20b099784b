-- written by wip/gen/law.py: the law's cases
section LAWC
variable {p : Program} {l : Launch} {e : Env} {s : State} {m : MethodId} {args : Array Value} {below : List Frame} {meth : Method} {c : Code} {Q : State → Prop} {D : va_G} {a : Nat → Nat} {q : Nat → ClassId} {b : Nat → Nat} {r : Nat → ClassId} {u : Nat} {qu : ClassId} {x L : Nat} {xs : Nat → Int32} {adK adV : Nat → Nat} {iv v1 v2 v3 v4 v5 : Int32} {cells slots : Nat} {ls : Array Slot} {H : Heap} {locs : List Loc} {T : TS} {M : RS} {gu : Int64} {S1 : TS × RS × Int64}
set_option maxRecDepth 100000 in
set_option maxHeartbeats 4000000 in
theorem k_Law_c0 (hX0 : LwCX p l s m args meth c D a q b r u qu x L xs adK adV) (hv : LwV xs L iv v1 v2 v3 v4 v5) (hcc : cells + 4 ≤ room_1.cells ∧ slots + 12 ≤ room_1.slots) (hl : lv_has ls 7 [(0, .ref x), (1, .ref (a 0)), (2, .ref (b 0)), (3, .ref u), (4, .int iv)]) (hS : va_S (LwA s) s.heap H locs) (hLS : LwS D a q b r u qu T M gu H) (h : f_Law_c0 v1 v2 v3 v4 v5 T M gu = some S1) (kk : ∀ (ls : Array Slot) (H : Heap) (locs : List Loc), lv_has ls 7 [(0, .ref x), (1, .ref (a 0)), (2, .ref (b 0)), (3, .ref u), (4, .int iv)] → va_S (LwA s) s.heap H locs → LwS D a q b r u qu S1.1 S1.2.1 S1.2.2 H → W p l e room_1 s m args below meth c H locs (cells + 4) (slots + 12) Q (F0 m 819 ls [])) : W p l e room_1 s m args below meth c H locs cells slots Q (F0 m 120 ls []) := by
  obtain ⟨⟨hx, hb, hml, hown, hts, hr, hlocks⟩, hfl, hK, hKR, hKu, hSt, hN, hX, hxl, hDT, hDR, hau, hRT, hTR, huT, huR, hRTu⟩ := hX0
  obtain ⟨hin1, hin2, hin3, hin4, hin5, hv1, hv2, hv3, hv4, hv5⟩ := hv
  obtain ⟨⟨g3, hPT, hTC⟩, hPR, hPU⟩ := hLS
  have hdT : va_D (fun _ => True) (dT a) := hDT.weaken (fun _ _ _ _ => trivial)
  have hdR : va_D (fun _ => True) (dR b) := hDR.weaken (fun _ _ _ _ => trivial)
  rw [f_Law_c0] at h
  refine lv_aload_n hx hb (dt_at dt_Law_law_0 25 rfl) rfl (lv_at hl 1 rfl) ?_
  refine lv_aload_n hx hb (dt_at dt_Law_law_0 26 rfl) rfl (lv_at hl 0 rfl) ?_
  refine lv_iload hx hb (dt_at dt_Law_law_0 27 rfl) (lv_at hl 4 rfl) ?_
  refine lv_iconst (v := 1) hx hb (dt_at dt_Law_law_0 28 rfl) (by decide) ?_
  refine lv_iadd hx hb (dt_at dt_Law_law_0 29 rfl) ?_
  refine va_sld hx hb hX hxl (fun h9 => absurd hxl (Nat.not_lt.mpr h9)) hS hin1 (dt_at dt_Law_law_0 30 rfl) ?_
  rw [hv1]
  obtain ⟨r1, h_r1, h⟩ := ob_of h
  have hFT : ∀ y, va_A (dT a) H.size y → LwA s y := fr_of hDT hS
  refine va_calli (va_runV (As := [.int v1]) (rest := []) ⟨hx, hb, hml, hown, hts⟩ (c_Tape_type l D a q (a 5) (a 7) hdT H.size v1 T.1 T.2.1 T.2.2.1 g3 T.2.2.2.1 T.2.2.2.2.1 T.2.2.2.2.2.1 T.2.2.2.2.2.2.1 T.2.2.2.2.2.2.2.1 T.2.2.2.2.2.2.2.2.1 T.2.2.2.2.2.2.2.2.2.1 T.2.2.2.2.2.2.2.2.2.2.1 T.2.2.2.2.2.2.2.2.2.2.2.1 T.2.2.2.2.2.2.2.2.2.2.2.2.1 T.2.2.2.2.2.2.2.2.2.2.2.2.2.1 T.2.2.2.2.2.2.2.2.2.2.2.2.2.2.1 T.2.2.2.2.2.2.2.2.2.2.2.2.2.2.2.1 r1 h_r1) (cwV 1 hts (gd_V (m_1 95 rfl rfl) (m_1 96 rfl rfl) (m_1 97 rfl rfl) (m_1 1 rfl rfl) (m_1 98 rfl rfl)) rfl rfl rfl (by decide +kernel) ⟨Nat.le_of_ble_eq_true rfl, Nat.le_of_ble_eq_true rfl⟩) ⟨fun a U g mk q => ⟨q.1, q.2.1, q.2.2.1, va_K.moved (u := U) (U := U.calling g mk a) (Vm.Alike.refl U.vm) q.2.2.2⟩, va_recv hK hPT (ci := 1) (q0 := 0) rfl rfl, fun U hU hW => ⟨rfl, by rw [hU], by rw [hU]; exact hPT, va_K.moved hW.alike hK⟩⟩ rfl rfl hl.1 rfl (lv_room (Nat.le_of_ble_eq_true rfl)) (dt_at dt_Law_law_0 31 rfl) ⟨cn_le (by decide) hcc.1, cn_le (by decide) hcc.2⟩) hS (fun y _ h9 => hFT y h9) hFT (fun u_r1 uu t H1 locs ht hvm hw hB hz1 hk1 hS => ?_)
  subst hw
  rw [ht] at hB
  have hPR := kp_ap hPR (by rfl) hRT hk1
  have hPU := kp_u hPU huT hk1
  have hTC := hTC.kept hk1
  have hPT : va_P D CLS (wT a q (a 5) (a 7) r1.2.1 T.2.1 r1.2.2 g3 T.2.2.2.1 T.2.2.2.2.1 T.2.2.2.2.2.1 T.2.2.2.2.2.2.1 T.2.2.2.2.2.2.2.1 T.2.2.2.2.2.2.2.2.1 T.2.2.2.2.2.2.2.2.2.1 T.2.2.2.2.2.2.2.2.2.2.1 T.2.2.2.2.2.2.2.2.2.2.2.1 T.2.2.2.2.2.2.2.2.2.2.2.2.1 T.2.2.2.2.2.2.2.2.2.2.2.2.2.1 T.2.2.2.2.2.2.2.2.2.2.2.2.2.2.1 T.2.2.2.2.2.2.2.2.2.2.2.2.2.2.2.1) H1 := hB
  refine W.widen (k := cells) (n := slots) (Nat.le_refl _) (Nat.le_refl _) ?_
  clear hFT hk1 hz1 hB ht
  generalize H1 = H at hPT hTC hPR hPU hS ⊢
  refine lv_aload_n hx hb (dt_at dt_Law_law_0 32 rfl) rfl (lv_at hl 2 rfl) ?_
  refine lv_aload_n hx hb (dt_at dt_Law_law_0 33 rfl) rfl (lv_at hl 0 rfl) ?_
  refine lv_iload hx hb (dt_at dt_Law_law_0 34 rfl) (lv_at hl 4 rfl) ?_
  refine lv_iconst (v := 1) hx hb (dt_at dt_Law_law_0 35 rfl) (by decide) ?_
  refine lv_iadd hx hb (dt_at dt_Law_law_0 36 rfl) ?_
  refine va_sld hx hb hX hxl (fun h9 => absurd hxl (Nat.not_lt.mpr h9)) hS hin1 (dt_at dt_Law_law_0 37 rfl) ?_
  rw [hv1]
  obtain ⟨r2, h_r2, h⟩ := ob_of h
  have hFR : ∀ y, va_A (dR b) H.size y → LwA s y := fr_of hDR hS
  refine va_calli (va_runV (As := [.int v1]) (rest := [.int r1.1]) ⟨hx, hb, hml, hown, hts⟩ (c_Ref_type l D b r hdR H.size v1 M.1 M.2.1 M.2.2.1 M.2.2.2.1 M.2.2.2.2.1 M.2.2.2.2.2.1 M.2.2.2.2.2.2.1 M.2.2.2.2.2.2.2.1 M.2.2.2.2.2.2.2.2.1 M.2.2.2.2.2.2.2.2.2.1 M.2.2.2.2.2.2.2.2.2.2.1 M.2.2.2.2.2.2.2.2.2.2.2.1 M.2.2.2.2.2.2.2.2.2.2.2.2.1 M.2.2.2.2.2.2.2.2.2.2.2.2.2.1 M.2.2.2.2.2.2.2.2.2.2.2.2.2.2.1 M.2.2.2.2.2.2.2.2.2.2.2.2.2.2.2.1 M.2.2.2.2.2.2.2.2.2.2.2.2.2.2.2.2.1 M.2.2.2.2.2.2.2.2.2.2.2.2.2.2.2.2.2.1 M.2.2.2.2.2.2.2.2.2.2.2.2.2.2.2.2.2.2.1 M.2.2.2.2.2.2.2.2.2.2.2.2.2.2.2.2.2.2.2 r2 h_r2) (cwV 1 hts (gd_V (m_4 235 rfl rfl) (m_4 236 rfl rfl) (m_4 237 rfl rfl) (m_1 4 rfl rfl) (m_4 238 rfl rfl)) rfl rfl rfl (by decide +kernel) ⟨Nat.le_of_ble_eq_true rfl, Nat.le_of_ble_eq_true rfl⟩) ⟨fun a U g mk q => ⟨q.1, q.2.1, q.2.2.1, va_K.moved (u := U) (U := U.calling g mk a) (Vm.Alike.refl U.vm) q.2.2.2⟩, va_recv hKR hPR (ci := 0) (q0 := 0) rfl rfl, fun U hU hW => ⟨rfl, by rw [hU], by rw [hU]; exact hPR, va_K.moved hW.alike hKR⟩⟩ rfl rfl hl.1 rfl (lv_room (Nat.le_of_ble_eq_true rfl)) (dt_at dt_Law_law_0 38 rfl) ⟨cn_le (by decide) hcc.1, cn_le (by decide) hcc.2⟩) hS (fun y _ h9 => hFR y h9) hFR (fun u_r2 uu t H1 locs ht hvm hw hB hz1 hk1 hS => ?_)
  subst hw
  rw [ht] at hB
  have hPT := kp_ap hPT (by rfl) hTR hk1
  have hTC := tapeC.keptR hK hKR hPR hTC hk1
  have hPU := kp_u hPU huR hk1
  have hPR : va_P D CLS (wR b r M.1 M.2.1 M.2.2.1 M.2.2.2.1 M.2.2.2.2.1 r2.2.1 r2.2.2.1 r2.2.2.2 M.2.2.2.2.2.2.2.2.1 M.2.2.2.2.2.2.2.2.2.1 M.2.2.2.2.2.2.2.2.2.2.1 M.2.2.2.2.2.2.2.2.2.2.2.1 M.2.2.2.2.2.2.2.2.2.2.2.2.1 M.2.2.2.2.2.2.2.2.2.2.2.2.2.1 M.2.2.2.2.2.2.2.2.2.2.2.2.2.2.1 M.2.2.2.2.2.2.2.2.2.2.2.2.2.2.2.1 M.2.2.2.2.2.2.2.2.2.2.2.2.2.2.2.2.1 M.2.2.2.2.2.2.2.2.2.2.2.2.2.2.2.2.2.1 M.2.2.2.2.2.2.2.2.2.2.2.2.2.2.2.2.2.2.1 M.2.2.2.2.2.2.2.2.2.2.2.2.2.2.2.2.2.2.2) H1 := hB
  refine W.widen (k := cells) (n := slots) (Nat.le_refl _) (Nat.le_refl _) ?_
  clear hFR hk1 hz1 hB ht
  generalize H1 = H at hPT hTC hPR hPU hS ⊢
  refine lv_icmp_eq (tgt := 819) hx hb (dt_at dt_Law_law_0 39 rfl) (by decide) (fun c3 => ?_) (fun c3 => ?_)
  · have h := if_p h c3
    obtain rfl := os_of h
    refine W.widen (k := cells + 4) (n := slots + 12) (cn_w (by decide)) (cn_w (by decide)) ?_
    exact kk _ _ _ (lv_sub hl [0, 1, 2, 3, 4] rfl) hS ⟨⟨g3, hPT, hTC⟩, hPR, hPU⟩
  · have h := if_n h c3
    refine lv_iconst (v := 0) hx hb (dt_at dt_Law_law_0 40 rfl) (by decide) ?_
    exact nn_of h
set_option maxRecDepth 100000 in
set_option maxHeartbeats 4000000 in
theorem k_Law_c1 (hX0 : LwCX p l s m args meth c D a q b r u qu x L xs adK adV) (hv : LwV xs L iv v1 v2 v3 v4 v5) (hcc : cells + 4 ≤ room_1.cells ∧ slots + 12 ≤ room_1.slots) (hl : lv_has ls 7 [(0, .ref x), (1, .ref (a 0)), (2, .ref (b 0)), (3, .ref u), (4, .int iv)]) (hS : va_S (LwA s) s.heap H locs) (hLS : LwS D a q b r u qu T M gu H) (h : f_Law_c1 v1 v2 v3 v4 v5 T M gu = some S1) (kk : ∀ (ls : Array Slot) (H : Heap) (locs : List Loc), lv_has ls 7 [(0, .ref x), (1, .ref (a 0)), (2, .ref (b 0)), (3, .ref u), (4, .int iv)] → va_S (LwA s) s.heap H locs → LwS D a q b r u qu S1.1 S1.2.1 S1.2.2 H → W p l e room_1 s m args below meth c H locs (cells + 4) (slots + 12) Q (F0 m 819 ls [])) : W p l e room_1 s m args below meth c H locs cells slots Q (F0 m 145 ls []) := by
  obtain ⟨⟨hx, hb, hml, hown, hts, hr, hlocks⟩, hfl, hK, hKR, hKu, hSt, hN, hX, hxl, hDT, hDR, hau, hRT, hTR, huT, huR, hRTu⟩ := hX0
  obtain ⟨hin1, hin2, hin3, hin4, hin5, hv1, hv2, hv3, hv4, hv5⟩ := hv
  obtain ⟨⟨g3, hPT, hTC⟩, hPR, hPU⟩ := hLS
  have hdT : va_D (fun _ => True) (dT a) := hDT.weaken (fun _ _ _ _ => trivial)
  have hdR : va_D (fun _ => True) (dR b) := hDR.weaken (fun _ _ _ _ => trivial)
  rw [f_Law_c1] at h
  refine lv_aload_n hx hb (dt_at dt_Law_law_0 42 rfl) rfl (lv_at hl 1 rfl) ?_
  obtain ⟨r1, h_r1, h⟩ := ob_of h
  have hFT : ∀ y, va_A (dT a) H.size y → LwA s y := fr_of hDT hS
  refine va_callv (va_runV (As := []) (rest := []) ⟨hx, hb, hml, hown, hts⟩ (c_Tape_wipe l D a q (a 5) (a 7) hdT H.size  T.1 T.2.1 T.2.2.1 g3 T.2.2.2.1 T.2.2.2.2.1 T.2.2.2.2.2.1 T.2.2.2.2.2.2.1 T.2.2.2.2.2.2.2.1 T.2.2.2.2.2.2.2.2.1 T.2.2.2.2.2.2.2.2.2.1 T.2.2.2.2.2.2.2.2.2.2.1 T.2.2.2.2.2.2.2.2.2.2.2.1 T.2.2.2.2.2.2.2.2.2.2.2.2.1 T.2.2.2.2.2.2.2.2.2.2.2.2.2.1 T.2.2.2.2.2.2.2.2.2.2.2.2.2.2.1 T.2.2.2.2.2.2.2.2.2.2.2.2.2.2.2.1 r1 h_r1) (cwV 0 hts (gd_V (m_1 99 rfl rfl) (m_1 100 rfl rfl) (m_1 101 rfl rfl) (m_1 1 rfl rfl) (m_1 102 rfl rfl)) rfl rfl rfl (by decide +kernel) ⟨Nat.le_of_ble_eq_true rfl, Nat.le_of_ble_eq_true rfl⟩) ⟨fun a U g mk q => ⟨q.1, q.2.1, q.2.2.1, va_K.moved (u := U) (U := U.calling g mk a) (Vm.Alike.refl U.vm) q.2.2.2⟩, va_recv hK hPT (ci := 1) (q0 := 0) rfl rfl, fun U hU hW => ⟨rfl, by rw [hU], by rw [hU]; exact hPT, va_K.moved hW.alike hK⟩⟩ rfl rfl hl.1 rfl (lv_room (Nat.le_of_ble_eq_true rfl)) (dt_at dt_Law_law_0 43 rfl) ⟨cn_le (by decide) hcc.1, cn_le (by decide) hcc.2⟩) hS (fun y _ h9 => hFT y h9) hFT (fun uu t H1 locs ht hvm hw hB hz1 hk1 hS => ?_)
  rw [ht] at hB
  have hPR := kp_ap hPR (by rfl) hRT hk1
  have hPU := kp_u hPU huT hk1
  have hTC := hTC.kept hk1
  have hPT : va_P D CLS (wT a q (a 5) (a 7) r1 T.2.1 T.2.2.1 g3 T.2.2.2.1 T.2.2.2.2.1 T.2.2.2.2.2.1 T.2.2.2.2.2.2.1 T.2.2.2.2.2.2.2.1 T.2.2.2.2.2.2.2.2.1 T.2.2.2.2.2.2.2.2.2.1 T.2.2.2.2.2.2.2.2.2.2.1 T.2.2.2.2.2.2.2.2.2.2.2.1 T.2.2.2.2.2.2.2.2.2.2.2.2.1 T.2.2.2.2.2.2.2.2.2.2.2.2.2.1 T.2.2.2.2.2.2.2.2.2.2.2.2.2.2.1 T.2.2.2.2.2.2.2.2.2.2.2.2.2.2.2.1) H1 := hB
  refine W.widen (k := cells) (n := slots) (Nat.le_refl _) (Nat.le_refl _) ?_
  clear hFT hk1 hz1 hB ht
  generalize H1 = H at hPT hTC hPR hPU hS ⊢
  refine lv_aload_n hx hb (dt_at dt_Law_law_0 44 rfl) rfl (lv_at hl 2 rfl) ?_
  obtain ⟨r2, h_r2, h⟩ := ob_of h
  have hFR : ∀ y, va_A (dR b) H.size y → LwA s y := fr_of hDR hS
  refine va_callv (va_runV (As := []) (rest := []) ⟨hx, hb, hml, hown, hts⟩ (c_Ref_wipe l D b r hdR H.size  M.1 M.2.1 M.2.2.1 M.2.2.2.1 M.2.2.2.2.1 M.2.2.2.2.2.1 M.2.2.2.2.2.2.1 M.2.2.2.2.2.2.2.1 M.2.2.2.2.2.2.2.2.1 M.2.2.2.2.2.2.2.2.2.1 M.2.2.2.2.2.2.2.2.2.2.1 M.2.2.2.2.2.2.2.2.2.2.2.1 M.2.2.2.2.2.2.2.2.2.2.2.2.1 M.2.2.2.2.2.2.2.2.2.2.2.2.2.1 M.2.2.2.2.2.2.2.2.2.2.2.2.2.2.1 M.2.2.2.2.2.2.2.2.2.2.2.2.2.2.2.1 M.2.2.2.2.2.2.2.2.2.2.2.2.2.2.2.2.1 M.2.2.2.2.2.2.2.2.2.2.2.2.2.2.2.2.2.1 M.2.2.2.2.2.2.2.2.2.2.2.2.2.2.2.2.2.2.1 M.2.2.2.2.2.2.2.2.2.2.2.2.2.2.2.2.2.2.2 r2 h_r2) (cwV 0 hts (gd_V (m_4 239 rfl rfl) (m_5 0 rfl rfl) (m_5 1 rfl rfl) (m_1 4 rfl rfl) (m_5 2 rfl rfl)) rfl rfl rfl (by decide +kernel) ⟨Nat.le_of_ble_eq_true rfl, Nat.le_of_ble_eq_true rfl⟩) ⟨fun a U g mk q => ⟨q.1, q.2.1, q.2.2.1, va_K.moved (u := U) (U := U.calling g mk a) (Vm.Alike.refl U.vm) q.2.2.2⟩, va_recv hKR hPR (ci := 0) (q0 := 0) rfl rfl, fun U hU hW => ⟨rfl, by rw [hU], by rw [hU]; exact hPR, va_K.moved hW.alike hKR⟩⟩ rfl rfl hl.1 rfl (lv_room (Nat.le_of_ble_eq_true rfl)) (dt_at dt_Law_law_0 45 rfl) ⟨cn_le (by decide) hcc.1, cn_le (by decide) hcc.2⟩) hS (fun y _ h9 => hFR y h9) hFR (fun uu t H1 locs ht hvm hw hB hz1 hk1 hS => ?_)
  rw [ht] at hB
  have hPT := kp_ap hPT (by rfl) hTR hk1
  have hTC := tapeC.keptR hK hKR hPR hTC hk1
  have hPU := kp_u hPU huR hk1
  have hPR : va_P D CLS (wR b r M.1 M.2.1 M.2.2.1 M.2.2.2.1 M.2.2.2.2.1 r2.1 M.2.2.2.2.2.2.1 r2.2 M.2.2.2.2.2.2.2.2.1 M.2.2.2.2.2.2.2.2.2.1 M.2.2.2.2.2.2.2.2.2.2.1 M.2.2.2.2.2.2.2.2.2.2.2.1 M.2.2.2.2.2.2.2.2.2.2.2.2.1 M.2.2.2.2.2.2.2.2.2.2.2.2.2.1 M.2.2.2.2.2.2.2.2.2.2.2.2.2.2.1 M.2.2.2.2.2.2.2.2.2.2.2.2.2.2.2.1 M.2.2.2.2.2.2.2.2.2.2.2.2.2.2.2.2.1 M.2.2.2.2.2.2.2.2.2.2.2.2.2.2.2.2.2.1 M.2.2.2.2.2.2.2.2.2.2.2.2.2.2.2.2.2.2.1 M.2.2.2.2.2.2.2.2.2.2.2.2.2.2.2.2.2.2.2) H1 := hB
  refine W.widen (k := cells) (n := slots) (Nat.le_refl _) (Nat.le_refl _) ?_
  clear hFR hk1 hz1 hB ht
  generalize H1 = H at hPT hTC hPR hPU hS ⊢
  refine lv_goto (tgt := 819) hx hb (dt_at dt_Law_law_0 46 rfl) (by decide) ?_
  obtain rfl := os_of h
  refine W.widen (k := cells + 4) (n := slots + 12) (cn_w (by decide)) (cn_w (by decide)) ?_
  exact kk _ _ _ (lv_sub hl [0, 1, 2, 3, 4] rfl) hS ⟨⟨g3, hPT, hTC⟩, hPR, hPU⟩
set_option maxRecDepth 100000 in
set_option maxHeartbeats 4000000 in
theorem k_Law_c2 (hX0 : LwCX p l s m args meth c D a q b r u qu x L xs adK adV) (hv : LwV xs L iv v1 v2 v3 v4 v5) (hcc : cells + 4 ≤ room_1.cells ∧ slots + 12 ≤ room_1.slots) (hl : lv_has ls 7 [(0, .ref x), (1, .ref (a 0)), (2, .ref (b 0)), (3, .ref u), (4, .int iv)]) (hS : va_S (LwA s) s.heap H locs) (hLS : LwS D a q b r u qu T M gu H) (h : f_Law_c2 v1 v2 v3 v4 v5 T M gu = some S1) (kk : ∀ (ls : Array Slot) (H : Heap) (locs : List Loc), lv_has ls 7 [(0, .ref x), (1, .ref (a 0)), (2, .ref (b 0)), (3, .ref u), (4, .int iv)] → va_S (LwA s) s.heap H locs → LwS D a q b r u qu S1.1 S1.2.1 S1.2.2 H → W p l e room_1 s m args below meth c H locs (cells + 4) (slots + 12) Q (F0 m 819 ls [])) : W p l e room_1 s m args below meth c H locs cells slots Q (F0 m 156 ls []) := by
  obtain ⟨⟨hx, hb, hml, hown, hts, hr, hlocks⟩, hfl, hK, hKR, hKu, hSt, hN, hX, hxl, hDT, hDR, hau, hRT, hTR, huT, huR, hRTu⟩ := hX0
  obtain ⟨hin1, hin2, hin3, hin4, hin5, hv1, hv2, hv3, hv4, hv5⟩ := hv
  obtain ⟨⟨g3, hPT, hTC⟩, hPR, hPU⟩ := hLS
  have hdT : va_D (fun _ => True) (dT a) := hDT.weaken (fun _ _ _ _ => trivial)
  have hdR : va_D (fun _ => True) (dR b) := hDR.weaken (fun _ _ _ _ => trivial)
  rw [f_Law_c2] at h
  refine lv_aload_n hx hb (dt_at dt_Law_law_0 47 rfl) rfl (lv_at hl 1 rfl) ?_
  obtain ⟨r1, h_r1, h⟩ := ob_of h
  have hFT : ∀ y, va_A (dT a) H.size y → LwA s y := fr_of hDT hS
  refine va_calli (va_runV (As := []) (rest := []) ⟨hx, hb, hml, hown, hts⟩ (c_Tape_length l D a q (a 5) (a 7) hdT H.size  T.1 T.2.1 T.2.2.1 g3 T.2.2.2.1 T.2.2.2.2.1 T.2.2.2.2.2.1 T.2.2.2.2.2.2.1 T.2.2.2.2.2.2.2.1 T.2.2.2.2.2.2.2.2.1 T.2.2.2.2.2.2.2.2.2.1 T.2.2.2.2.2.2.2.2.2.2.1 T.2.2.2.2.2.2.2.2.2.2.2.1 T.2.2.2.2.2.2.2.2.2.2.2.2.1 T.2.2.2.2.2.2.2.2.2.2.2.2.2.1 T.2.2.2.2.2.2.2.2.2.2.2.2.2.2.1 T.2.2.2.2.2.2.2.2.2.2.2.2.2.2.2.1 r1 h_r1) (cwV 0 hts (gd_V (m_1 103 rfl rfl) (m_1 104 rfl rfl) (m_1 105 rfl rfl) (m_1 1 rfl rfl) (m_1 106 rfl rfl)) rfl rfl rfl (by decide +kernel) ⟨Nat.le_of_ble_eq_true rfl, Nat.le_of_ble_eq_true rfl⟩) ⟨fun a U g mk q => ⟨q.1, q.2.1, q.2.2.1, va_K.moved (u := U) (U := U.calling g mk a) (Vm.Alike.refl U.vm) q.2.2.2⟩, va_recv hK hPT (ci := 1) (q0 := 0) rfl rfl, fun U hU hW => ⟨rfl, by rw [hU], by rw [hU]; exact hPT, va_K.moved hW.alike hK⟩⟩ rfl rfl hl.1 rfl (lv_room (Nat.le_of_ble_eq_true rfl)) (dt_at dt_Law_law_0 48 rfl) ⟨cn_le (by decide) hcc.1, cn_le (by decide) hcc.2⟩) hS (fun y _ h9 => hFT y h9) hFT (fun u_r1 uu t H1 locs ht hvm hw hB hz1 hk1 hS => ?_)
  obtain rfl : r1 = u_r1 := hw.symm
  rw [ht] at hB
  have hPR := kp_ap hPR (by rfl) hRT hk1
  have hPU := kp_u hPU huT hk1
  have hTC := hTC.kept hk1
  have hPT : va_P D CLS (wT a q (a 5) (a 7) T.1 T.2.1 T.2.2.1 g3 T.2.2.2.1 T.2.2.2.2.1 T.2.2.2.2.2.1 T.2.2.2.2.2.2.1 T.2.2.2.2.2.2.2.1 T.2.2.2.2.2.2.2.2.1 T.2.2.2.2.2.2.2.2.2.1 T.2.2.2.2.2.2.2.2.2.2.1 T.2.2.2.2.2.2.2.2.2.2.2.1 T.2.2.2.2.2.2.2.2.2.2.2.2.1 T.2.2.2.2.2.2.2.2.2.2.2.2.2.1 T.2.2.2.2.2.2.2.2.2.2.2.2.2.2.1 T.2.2.2.2.2.2.2.2.2.2.2.2.2.2.2.1) H1 := hB
  refine W.widen (k := cells) (n := slots) (Nat.le_refl _) (Nat.le_refl _) ?_
  clear hFT hk1 hz1 hB ht
  generalize H1 = H at hPT hTC hPR hPU hS ⊢
  refine lv_aload_n hx hb (dt_at dt_Law_law_0 49 rfl) rfl (lv_at hl 2 rfl) ?_
  obtain ⟨r2, h_r2, h⟩ := ob_of h
  have hFR : ∀ y, va_A (dR b) H.size y → LwA s y := fr_of hDR hS
  refine va_calli (va_runV (As := []) (rest := [.int r1]) ⟨hx, hb, hml, hown, hts⟩ (c_Ref_length l D b r hdR H.size  M.1 M.2.1 M.2.2.1 M.2.2.2.1 M.2.2.2.2.1 M.2.2.2.2.2.1 M.2.2.2.2.2.2.1 M.2.2.2.2.2.2.2.1 M.2.2.2.2.2.2.2.2.1 M.2.2.2.2.2.2.2.2.2.1 M.2.2.2.2.2.2.2.2.2.2.1 M.2.2.2.2.2.2.2.2.2.2.2.1 M.2.2.2.2.2.2.2.2.2.2.2.2.1 M.2.2.2.2.2.2.2.2.2.2.2.2.2.1 M.2.2.2.2.2.2.2.2.2.2.2.2.2.2.1 M.2.2.2.2.2.2.2.2.2.2.2.2.2.2.2.1 M.2.2.2.2.2.2.2.2.2.2.2.2.2.2.2.2.1 M.2.2.2.2.2.2.2.2.2.2.2.2.2.2.2.2.2.1 M.2.2.2.2.2.2.2.2.2.2.2.2.2.2.2.2.2.2.1 M.2.2.2.2.2.2.2.2.2.2.2.2.2.2.2.2.2.2.2 r2 h_r2) (cwV 0 hts (gd_V (m_5 3 rfl rfl) (m_5 4 rfl rfl) (m_5 5 rfl rfl) (m_1 4 rfl rfl) (m_5 6 rfl rfl)) rfl rfl rfl (by decide +kernel) ⟨Nat.le_of_ble_eq_true rfl, Nat.le_of_ble_eq_true rfl⟩) ⟨fun a U g mk q => ⟨q.1, q.2.1, q.2.2.1, va_K.moved (u := U) (U := U.calling g mk a) (Vm.Alike.refl U.vm) q.2.2.2⟩, va_recv hKR hPR (ci := 0) (q0 := 0) rfl rfl, fun U hU hW => ⟨rfl, by rw [hU], by rw [hU]; exact hPR, va_K.moved hW.alike hKR⟩⟩ rfl rfl hl.1 rfl (lv_room (Nat.le_of_ble_eq_true rfl)) (dt_at dt_Law_law_1 0 rfl) ⟨cn_le (by decide) hcc.1, cn_le (by decide) hcc.2⟩) hS (fun y _ h9 => hFR y h9) hFR (fun u_r2 uu t H1 locs ht hvm hw hB hz1 hk1 hS => ?_)
  subst hw
  rw [ht] at hB
  have hPT := kp_ap hPT (by rfl) hTR hk1
  have hTC := tapeC.keptR hK hKR hPR hTC hk1
  have hPU := kp_u hPU huR hk1
  have hPR : va_P D CLS (wR b r M.1 M.2.1 M.2.2.1 M.2.2.2.1 M.2.2.2.2.1 r2.2 M.2.2.2.2.2.2.1 M.2.2.2.2.2.2.2.1 M.2.2.2.2.2.2.2.2.1 M.2.2.2.2.2.2.2.2.2.1 M.2.2.2.2.2.2.2.2.2.2.1 M.2.2.2.2.2.2.2.2.2.2.2.1 M.2.2.2.2.2.2.2.2.2.2.2.2.1 M.2.2.2.2.2.2.2.2.2.2.2.2.2.1 M.2.2.2.2.2.2.2.2.2.2.2.2.2.2.1 M.2.2.2.2.2.2.2.2.2.2.2.2.2.2.2.1 M.2.2.2.2.2.2.2.2.2.2.2.2.2.2.2.2.1 M.2.2.2.2.2.2.2.2.2.2.2.2.2.2.2.2.2.1 M.2.2.2.2.2.2.2.2.2.2.2.2.2.2.2.2.2.2.1 M.2.2.2.2.2.2.2.2.2.2.2.2.2.2.2.2.2.2.2) H1 := hB
  refine W.widen (k := cells) (n := slots) (Nat.le_refl _) (Nat.le_refl _) ?_
  clear hFR hk1 hz1 hB ht
  generalize H1 = H at hPT hTC hPR hPU hS ⊢
  refine lv_icmp_eq (tgt := 819) hx hb (dt_at dt_Law_law_1 1 rfl) (by decide) (fun c3 => ?_) (fun c3 => ?_)
  · have h := if_p h c3
    obtain rfl := os_of h
    refine W.widen (k := cells + 4) (n := slots + 12) (cn_w (by decide)) (cn_w (by decide)) ?_
    exact kk _ _ _ (lv_sub hl [0, 1, 2, 3, 4] rfl) hS ⟨⟨g3, hPT, hTC⟩, hPR, hPU⟩
  · have h := if_n h c3
    refine lv_iconst (v := 0) hx hb (dt_at dt_Law_law_1 2 rfl) (by decide) ?_
    exact nn_of h
set_option maxRecDepth 100000 in
set_option maxHeartbeats 4000000 in
theorem k_Law_c3 (hX0 : LwCX p l s m args meth c D a q b r u qu x L xs adK adV) (hv : LwV xs L iv v1 v2 v3 v4 v5) (hcc : cells + 4 ≤ room_1.cells ∧ slots + 12 ≤ room_1.slots) (hl : lv_has ls 7 [(0, .ref x), (1, .ref (a 0)), (2, .ref (b 0)), (3, .ref u), (4, .int iv)]) (hS : va_S (LwA s) s.heap H locs) (hLS : LwS D a q b r u qu T M gu H) (h : f_Law_c3 v1 v2 v3 v4 v5 T M gu = some S1) (kk : ∀ (ls : Array Slot) (H : Heap) (locs : List Loc), lv_has ls 7 [(0, .ref x), (1, .ref (a 0)), (2, .ref (b 0)), (3, .ref u), (4, .int iv)] → va_S (LwA s) s.heap H locs → LwS D a q b r u qu S1.1 S1.2.1 S1.2.2 H → W p l e room_1 s m args below meth c H locs (cells + 4) (slots + 12) Q (F0 m 819 ls [])) : W p l e room_1 s m args below meth c H locs cells slots Q (F0 m 169 ls []) := by
  obtain ⟨⟨hx, hb, hml, hown, hts, hr, hlocks⟩, hfl, hK, hKR, hKu, hSt, hN, hX, hxl, hDT, hDR, hau, hRT, hTR, huT, huR, hRTu⟩ := hX0
  obtain ⟨hin1, hin2, hin3, hin4, hin5, hv1, hv2, hv3, hv4, hv5⟩ := hv
  obtain ⟨⟨g3, hPT, hTC⟩, hPR, hPU⟩ := hLS
  have hdT : va_D (fun _ => True) (dT a) := hDT.weaken (fun _ _ _ _ => trivial)
  have hdR : va_D (fun _ => True) (dR b) := hDR.weaken (fun _ _ _ _ => trivial)
  rw [f_Law_c3] at h
  refine lv_aload_n hx hb (dt_at dt_Law_law_1 4 rfl) rfl (lv_at hl 1 rfl) ?_
  refine lv_aload_n hx hb (dt_at dt_Law_law_1 5 rfl) rfl (lv_at hl 3 rfl) ?_
  obtain ⟨r1, h_r1, h⟩ := ob_of h
  have hFW : ∀ y, va_A (dT a ++ [(u, .inr (0, []))]) H.size y → LwA s y := fr_ofU hDT hau hS
  refine va_calli (run_SW (As := [.ref (a 0), .ref u]) (rest := []) (index := 52) (n := 2) ⟨hx, hb, hml, hown, hts⟩ (c_Law_literal l hfl D a q hdT u qu huT H.size gu  T.1 T.2.1 T.2.2.1 g3 T.2.2.2.1 T.2.2.2.2.1 T.2.2.2.2.2.1 T.2.2.2.2.2.2.1 T.2.2.2.2.2.2.2.1 T.2.2.2.2.2.2.2.2.1 T.2.2.2.2.2.2.2.2.2.1 T.2.2.2.2.2.2.2.2.2.2.1 T.2.2.2.2.2.2.2.2.2.2.2.1 T.2.2.2.2.2.2.2.2.2.2.2.2.1 T.2.2.2.2.2.2.2.2.2.2.2.2.2.1 T.2.2.2.2.2.2.2.2.2.2.2.2.2.2.1 T.2.2.2.2.2.2.2.2.2.2.2.2.2.2.2.1 T.2.2.2.2.2.2.2.2.2.2.2.2.2.2.2.2 s.heap.size adK adV hFW r1 h_r1) rfl rfl (Nat.le_of_ble_eq_true rfl) (Nat.le_of_ble_eq_true rfl) (gd_c (m_2 15 rfl rfl)) List.mem_cons_self (m_1 0 rfl rfl) (m_2 13 rfl rfl) (m_2 14 rfl rfl) (by decide +kernel) ⟨fun a U g mk q => ⟨q.1, q.2.1, q.2.2.1, va_K.moved (u := U) (U := U.calling g mk a) (Vm.Alike.refl U.vm) q.2.2.2.1, q.2.2.2.2.1, isS.call q.2.2.2.2.2.1, q.2.2.2.2.2.2.1, va_K.moved (u := U) (U := U.calling g mk a) (Vm.Alike.refl U.vm) q.2.2.2.2.2.2.2.1, ncX.moved (u := U) (U := U.calling g mk a) (Vm.Alike.refl U.vm) q.2.2.2.2.2.2.2.2⟩, fun U hU hW => ⟨rfl, by rw [hU], by rw [hU]; exact hPT, va_K.moved hW.alike hK, by rw [hU]; exact hTC, hSt.go hS (fun _ h9 => h9) hU hW, by rw [hU]; exact hPU, va_K.moved hW.alike hKu, ncX.moved hW.alike hN⟩⟩ rfl rfl hl.1 rfl (lv_room (Nat.le_of_ble_eq_true rfl)) (dt_at dt_Law_law_1 6 rfl) ⟨cn_le (by decide) hcc.1, cn_le (by decide) hcc.2⟩) hS (fun y _ h9 => hFW y h9) hFW (fun u_r1 uu t H1 locs ht hvm hw hB hz1 hk1 hS => ?_)
  subst hw
  obtain ⟨g3_2, hB, hTB, hUB⟩ := hB
  rw [ht] at hTB
  rw [ht] at hB
  rw [ht] at hUB
  have hPR := kp_ap hPR (by rfl) hRTu hk1
  have hPU : va_P D CLS [(u, .inl (qu, 1, .inr (.inl (fun _ => r1.2.1))))] H1 := hUB
  have hTC : tapeC D (dT a) g3_2 r1.2.2.2.2.2.2.2.2.2.2.2.2.2.2.2.2 H1 := hTB
  have hPT : va_P D CLS (wT a q (a 5) (a 7) T.1 r1.2.2.1 T.2.2.1 g3_2 r1.2.2.2.1 r1.2.2.2.2.1 r1.2.2.2.2.2.1 r1.2.2.2.2.2.2.1 r1.2.2.2.2.2.2.2.1 r1.2.2.2.2.2.2.2.2.1 r1.2.2.2.2.2.2.2.2.2.1 r1.2.2.2.2.2.2.2.2.2.2.1 r1.2.2.2.2.2.2.2.2.2.2.2.1 r1.2.2.2.2.2.2.2.2.2.2.2.2.1 r1.2.2.2.2.2.2.2.2.2.2.2.2.2.1 r1.2.2.2.2.2.2.2.2.2.2.2.2.2.2.1 r1.2.2.2.2.2.2.2.2.2.2.2.2.2.2.2.1) H1 := hB
  refine W.widen (k := cells + 4) (n := slots + 12) (Nat.add_le_add_left (by decide) _) (Nat.add_le_add_left (by decide) _) ?_
  clear hFW hk1 hz1 hB ht
  generalize H1 = H at hPT hTC hPR hPU hS ⊢
  obtain ⟨t3, e_t3, h⟩ := ol_of h
  refine lv_topi (fun u_t3 q_t3 => ?_)
  obtain rfl : t3 = u_t3 := e_t3.trans q_t3.symm
  refine lv_istore (lv' := [(5, .int t3), (0, .ref x), (1, .ref (a 0)), (2, .ref (b 0)), (3, .ref u), (4, .int iv)]) hx hb (dt_at dt_Law_law_1 7 rfl) hl (by decide) rfl (fun ls hl => ?_)
  refine lv_aload_n hx hb (dt_at dt_Law_law_1 8 rfl) rfl (lv_at hl 3 rfl) ?_
  obtain ⟨r4, h_r4, h⟩ := ob_of h
  have hFR : ∀ y, va_A (dR b) H.size y → LwA s y := fr_of hDR hS
  refine va_calli (va_runV (As := []) (rest := []) ⟨hx, hb, hml, hown, hts⟩ (c_Ref_literal l D b r hdR H.size  M.1 M.2.1 M.2.2.1 M.2.2.2.1 M.2.2.2.2.1 M.2.2.2.2.2.1 M.2.2.2.2.2.2.1 M.2.2.2.2.2.2.2.1 M.2.2.2.2.2.2.2.2.1 M.2.2.2.2.2.2.2.2.2.1 M.2.2.2.2.2.2.2.2.2.2.1 M.2.2.2.2.2.2.2.2.2.2.2.1 M.2.2.2.2.2.2.2.2.2.2.2.2.1 M.2.2.2.2.2.2.2.2.2.2.2.2.2.1 M.2.2.2.2.2.2.2.2.2.2.2.2.2.2.1 M.2.2.2.2.2.2.2.2.2.2.2.2.2.2.2.1 M.2.2.2.2.2.2.2.2.2.2.2.2.2.2.2.2.1 M.2.2.2.2.2.2.2.2.2.2.2.2.2.2.2.2.2.1 M.2.2.2.2.2.2.2.2.2.2.2.2.2.2.2.2.2.2.1 M.2.2.2.2.2.2.2.2.2.2.2.2.2.2.2.2.2.2.2 r4 h_r4) (cwV 0 hts (gd_V (m_5 7 rfl rfl) (m_5 8 rfl rfl) (m_5 9 rfl rfl) (m_1 4 rfl rfl) (m_5 10 rfl rfl)) rfl rfl rfl (by decide +kernel) ⟨Nat.le_of_ble_eq_true rfl, Nat.le_of_ble_eq_true rfl⟩) ⟨fun a U g mk q => ⟨q.1, q.2.1, q.2.2.1, va_K.moved (u := U) (U := U.calling g mk a) (Vm.Alike.refl U.vm) q.2.2.2⟩, va_recv hKR hPR (ci := 0) (q0 := 0) rfl rfl, fun U hU hW => ⟨rfl, by rw [hU], by rw [hU]; exact hPR, va_K.moved hW.alike hKR⟩⟩ rfl rfl hl.1 rfl (lv_room (Nat.le_of_ble_eq_true rfl)) (dt_at dt_Law_law_1 9 rfl) ⟨hcc.1, hcc.2⟩) hS (fun y _ h9 => hFR y h9) hFR (fun u_r4 uu t H1 locs ht hvm hw hB hz1 hk1 hS => ?_)
  subst hw
  rw [ht] at hB
  have hPT := kp_ap hPT (by rfl) hTR hk1
  have hTC := tapeC.keptR hK hKR hPR hTC hk1
  have hPU := kp_u hPU huR hk1
  have hPR : va_P D CLS (wR b r r4.2.1 r4.2.2.1 r4.2.2.2.1 r4.2.2.2.2.1 r4.2.2.2.2.2.1 r4.2.2.2.2.2.2.1 M.2.2.2.2.2.2.1 M.2.2.2.2.2.2.2.1 r4.2.2.2.2.2.2.2.1 r4.2.2.2.2.2.2.2.2.1 r4.2.2.2.2.2.2.2.2.2.1 r4.2.2.2.2.2.2.2.2.2.2.1 M.2.2.2.2.2.2.2.2.2.2.2.2.1 r4.2.2.2.2.2.2.2.2.2.2.2.1 r4.2.2.2.2.2.2.2.2.2.2.2.2.1 r4.2.2.2.2.2.2.2.2.2.2.2.2.2.1 r4.2.2.2.2.2.2.2.2.2.2.2.2.2.2.1 r4.2.2.2.2.2.2.2.2.2.2.2.2.2.2.2.1 r4.2.2.2.2.2.2.2.2.2.2.2.2.2.2.2.2.1 r4.2.2.2.2.2.2.2.2.2.2.2.2.2.2.2.2.2) H1 := hB
  refine W.widen (k := cells + 4) (n := slots + 12) (Nat.le_refl _) (Nat.le_refl _) ?_
  clear hFR hk1 hz1 hB ht
  generalize H1 = H at hPT hTC hPR hPU hS ⊢
  obtain ⟨t5, e_t5, h⟩ := ol_of h
  refine lv_topi (fun u_t5 q_t5 => ?_)
  obtain rfl : t5 = u_t5 := e_t5.trans q_t5.symm
  refine lv_istore (lv' := [(6, .int t5), (5, .int t3), (0, .ref x), (1, .ref (a 0)), (2, .ref (b 0)), (3, .ref u), (4, .int iv)]) hx hb (dt_at dt_Law_law_1 10 rfl) hl (by decide) rfl (fun ls hl => ?_)
  refine lv_aload_n hx hb (dt_at dt_Law_law_1 11 rfl) rfl (lv_at hl 4 rfl) ?_
  obtain ⟨r6, h_r6, h⟩ := ob_of h
  have hFR : ∀ y, va_A (dR b) H.size y → LwA s y := fr_of hDR hS
  refine va_calli (va_runV (As := []) (rest := []) ⟨hx, hb, hml, hown, hts⟩ (c_Ref_thrown l D b r hdR H.size  r4.2.1 r4.2.2.1 r4.2.2.2.1 r4.2.2.2.2.1 r4.2.2.2.2.2.1 r4.2.2.2.2.2.2.1 M.2.2.2.2.2.2.1 M.2.2.2.2.2.2.2.1 r4.2.2.2.2.2.2.2.1 r4.2.2.2.2.2.2.2.2.1 r4.2.2.2.2.2.2.2.2.2.1 r4.2.2.2.2.2.2.2.2.2.2.1 M.2.2.2.2.2.2.2.2.2.2.2.2.1 r4.2.2.2.2.2.2.2.2.2.2.2.1 r4.2.2.2.2.2.2.2.2.2.2.2.2.1 r4.2.2.2.2.2.2.2.2.2.2.2.2.2.1 r4.2.2.2.2.2.2.2.2.2.2.2.2.2.2.1 r4.2.2.2.2.2.2.2.2.2.2.2.2.2.2.2.1 r4.2.2.2.2.2.2.2.2.2.2.2.2.2.2.2.2.1 r4.2.2.2.2.2.2.2.2.2.2.2.2.2.2.2.2.2 r6 h_r6) (cwV 0 hts (gd_V (m_4 61 rfl rfl) (m_4 62 rfl rfl) (m_4 63 rfl rfl) (m_1 4 rfl rfl) (m_4 64 rfl rfl)) rfl rfl rfl (by decide +kernel) ⟨Nat.le_of_ble_eq_true rfl, Nat.le_of_ble_eq_true rfl⟩) ⟨fun a U g mk q => ⟨q.1, q.2.1, q.2.2.1, va_K.moved (u := U) (U := U.calling g mk a) (Vm.Alike.refl U.vm) q.2.2.2⟩, va_recv hKR hPR (ci := 0) (q0 := 0) rfl rfl, fun U hU hW => ⟨rfl, by rw [hU], by rw [hU]; exact hPR, va_K.moved hW.alike hKR⟩⟩ rfl rfl hl.1 rfl (lv_room (Nat.le_of_ble_eq_true rfl)) (dt_at dt_Law_law_1 12 rfl) ⟨hcc.1, hcc.2⟩) hS (fun y _ h9 => hFR y h9) hFR (fun u_r6 uu t H1 locs ht hvm hw hB hz1 hk1 hS => ?_)
  obtain rfl : r6 = u_r6 := hw.symm
  rw [ht] at hB
  have hPT := kp_ap hPT (by rfl) hTR hk1
  have hTC := tapeC.keptR hK hKR hPR hTC hk1
  have hPU := kp_u hPU huR hk1
  have hPR : va_P D CLS (wR b r r4.2.1 r4.2.2.1 r4.2.2.2.1 r4.2.2.2.2.1 r4.2.2.2.2.2.1 r4.2.2.2.2.2.2.1 M.2.2.2.2.2.2.1 M.2.2.2.2.2.2.2.1 r4.2.2.2.2.2.2.2.1 r4.2.2.2.2.2.2.2.2.1 r4.2.2.2.2.2.2.2.2.2.1 r4.2.2.2.2.2.2.2.2.2.2.1 M.2.2.2.2.2.2.2.2.2.2.2.2.1 r4.2.2.2.2.2.2.2.2.2.2.2.1 r4.2.2.2.2.2.2.2.2.2.2.2.2.1 r4.2.2.2.2.2.2.2.2.2.2.2.2.2.1 r4.2.2.2.2.2.2.2.2.2.2.2.2.2.2.1 r4.2.2.2.2.2.2.2.2.2.2.2.2.2.2.2.1 r4.2.2.2.2.2.2.2.2.2.2.2.2.2.2.2.2.1 r4.2.2.2.2.2.2.2.2.2.2.2.2.2.2.2.2.2) H1 := hB
  refine W.widen (k := cells + 4) (n := slots + 12) (Nat.le_refl _) (Nat.le_refl _) ?_
  clear hFR hk1 hz1 hB ht
  generalize H1 = H at hPT hTC hPR hPU hS ⊢
  refine lv_iload hx hb (dt_at dt_Law_law_1 13 rfl) (lv_at hl 1 rfl) ?_
  refine lv_icmp_eq (tgt := 193) hx hb (dt_at dt_Law_law_1 14 rfl) (by decide) (fun c7 => ?_) (fun c7 => ?_)
  · have h := if_p h c7
    refine lv_iload hx hb (dt_at dt_Law_law_1 17 rfl) (lv_at hl 1 rfl) ?_
    refine lv_if_ne (tgt := 210) hx hb (dt_at dt_Law_law_1 18 rfl) (by decide) (fun c8 => ?_) (fun c8 => ?_)
    · have h := if_n h c8
      refine lv_goto (tgt := 819) hx hb (dt_at dt_Law_law_1 28 rfl) (by decide) ?_
      obtain rfl := os_of h
      refine W.widen (k := cells + 4) (n := slots + 12) (Nat.le_refl _) (Nat.le_refl _) ?_
      exact kk _ _ _ (lv_sub hl [2, 3, 4, 5, 6] rfl) hS ⟨⟨g3_2, hPT, hTC⟩, hPR, hPU⟩
    · have h := if_p h c8
      refine lv_aload_n hx hb (dt_at dt_Law_law_1 19 rfl) rfl (lv_at hl 5 rfl) ?_
      refine lv_iconst (v := 0) hx hb (dt_at dt_Law_law_1 20 rfl) (by decide) ?_
      refine va_lald hx hb hKu hPU 0 0 rfl rfl (i := 0) (vp_in_nI (n := 0) (by decide) (by decide)) (dt_at dt_Law_law_1 21 rfl) ?_
      refine lv_iload hx hb (dt_at dt_Law_law_1 22 rfl) (lv_at hl 0 rfl) ?_
      refine lv_i2l (v := t5.toInt64) hx hb (dt_at dt_Law_law_1 23 rfl) rfl ?_
      refine lc_eq (tgt := 210) hx hb (dt_at dt_Law_law_1 24 rfl) (dt_at dt_Law_law_1 25 rfl) (by decide) (fun c9 => ?_) (fun c9 => ?_)
      · have h := if_p h c9
        refine lv_goto (tgt := 819) hx hb (dt_at dt_Law_law_1 28 rfl) (by decide) ?_
        obtain rfl := os_of h
        refine W.widen (k := cells + 4) (n := slots + 12) (Nat.le_refl _) (Nat.le_refl _) ?_
        exact kk _ _ _ (lv_sub hl [2, 3, 4, 5, 6] rfl) hS ⟨⟨g3_2, hPT, hTC⟩, hPR, hPU⟩
      · have h := if_n h c9
        refine lv_iconst (v := 0) hx hb (dt_at dt_Law_law_1 26 rfl) (by decide) ?_
        exact nn_of h
  · have h := if_n h c7
    refine lv_iconst (v := 0) hx hb (dt_at dt_Law_law_1 15 rfl) (by decide) ?_
    exact nn_of h
set_option maxRecDepth 100000 in
set_option maxHeartbeats 4000000 in
theorem k_Law_c4 (hX0 : LwCX p l s m args meth c D a q b r u qu x L xs adK adV) (hv : LwV xs L iv v1 v2 v3 v4 v5) (hcc : cells + 4 ≤ room_1.cells ∧ slots + 12 ≤ room_1.slots) (hl : lv_has ls 7 [(0, .ref x), (1, .ref (a 0)), (2, .ref (b 0)), (3, .ref u), (4, .int iv)]) (hS : va_S (LwA s) s.heap H locs) (hLS : LwS D a q b r u qu T M gu H) (h : f_Law_c4 v1 v2 v3 v4 v5 T M gu = some S1) (kk : ∀ (ls : Array Slot) (H : Heap) (locs : List Loc), lv_has ls 7 [(0, .ref x), (1, .ref (a 0)), (2, .ref (b 0)), (3, .ref u), (4, .int iv)] → va_S (LwA s) s.heap H locs → LwS D a q b r u qu S1.1 S1.2.1 S1.2.2 H → W p l e room_1 s m args below meth c H locs (cells + 4) (slots + 12) Q (F0 m 819 ls [])) : W p l e room_1 s m args below meth c H locs cells slots Q (F0 m 213 ls []) := by
  obtain ⟨⟨hx, hb, hml, hown, hts, hr, hlocks⟩, hfl, hK, hKR, hKu, hSt, hN, hX, hxl, hDT, hDR, hau, hRT, hTR, huT, huR, hRTu⟩ := hX0
  obtain ⟨hin1, hin2, hin3, hin4, hin5, hv1, hv2, hv3, hv4, hv5⟩ := hv
  obtain ⟨⟨g3, hPT, hTC⟩, hPR, hPU⟩ := hLS
  have hdT : va_D (fun _ => True) (dT a) := hDT.weaken (fun _ _ _ _ => trivial)
  have hdR : va_D (fun _ => True) (dR b) := hDR.weaken (fun _ _ _ _ => trivial)
  rw [f_Law_c4] at h
  refine lv_aload_n hx hb (dt_at dt_Law_law_1 29 rfl) rfl (lv_at hl 1 rfl) ?_
  refine lv_aload_n hx hb (dt_at dt_Law_law_1 30 rfl) rfl (lv_at hl 0 rfl) ?_
  refine lv_iload hx hb (dt_at dt_Law_law_1 31 rfl) (lv_at hl 4 rfl) ?_
  refine lv_iconst (v := 1) hx hb (dt_at dt_Law_law_1 32 rfl) (by decide) ?_
  refine lv_iadd hx hb (dt_at dt_Law_law_1 33 rfl) ?_
  refine va_sld hx hb hX hxl (fun h9 => absurd hxl (Nat.not_lt.mpr h9)) hS hin1 (dt_at dt_Law_law_1 34 rfl) ?_
  rw [hv1]
  refine lv_i2l (v := v1.toInt64) hx hb (dt_at dt_Law_law_1 35 rfl) rfl ?_
  refine lv_bipush (v := 32) hx hb (dt_at dt_Law_law_1 36 rfl) (by decide) ?_
  refine lv_lshl (v := (j_lshl (v1.toInt64) (32 : Int32))) hx hb (dt_at dt_Law_law_1 37 rfl) rfl ?_
  refine lv_aload_n hx hb (dt_at dt_Law_law_1 38 rfl) rfl (lv_at hl 0 rfl) ?_
  refine lv_iload hx hb (dt_at dt_Law_law_1 39 rfl) (lv_at hl 4 rfl) ?_
  refine lv_iconst (v := 2) hx hb (dt_at dt_Law_law_1 40 rfl) (by decide) ?_
  refine lv_iadd hx hb (dt_at dt_Law_law_1 41 rfl) ?_
  refine va_sld hx hb hX hxl (fun h9 => absurd hxl (Nat.not_lt.mpr h9)) hS hin2 (dt_at dt_Law_law_1 42 rfl) ?_
  rw [hv2]
  refine lv_i2l (v := v2.toInt64) hx hb (dt_at dt_Law_law_1 43 rfl) rfl ?_
  refine lv_ldc2 (v := 4294967295) hx hb hown (hts (Cond.constantLong "OutwardTapeLaw" 61 (4294967295)) (m_5 134 rfl rfl)) (dt_at dt_Law_law_1 44 rfl) ?_
  refine lv_land hx hb (dt_at dt_Law_law_1 45 rfl) ?_
  refine lv_lor hx hb (dt_at dt_Law_law_1 46 rfl) ?_
  refine lv_aload_n hx hb (dt_at dt_Law_law_1 47 rfl) rfl (lv_at hl 0 rfl) ?_
  refine lv_iload hx hb (dt_at dt_Law_law_1 48 rfl) (lv_at hl 4 rfl) ?_
  refine lv_iconst (v := 3) hx hb (dt_at dt_Law_law_1 49 rfl) (by decide) ?_
  refine lv_iadd hx hb (dt_at dt_Law_law_2 0 rfl) ?_
  refine va_sld hx hb hX hxl (fun h9 => absurd hxl (Nat.not_lt.mpr h9)) hS hin3 (dt_at dt_Law_law_2 1 rfl) ?_
  rw [hv3]
  refine lv_i2l (v := v3.toInt64) hx hb (dt_at dt_Law_law_2 2 rfl) rfl ?_
  refine lv_bipush (v := 32) hx hb (dt_at dt_Law_law_2 3 rfl) (by decide) ?_
  refine lv_lshl (v := (j_lshl (v3.toInt64) (32 : Int32))) hx hb (dt_at dt_Law_law_2 4 rfl) rfl ?_
  refine lv_aload_n hx hb (dt_at dt_Law_law_2 5 rfl) rfl (lv_at hl 0 rfl) ?_
  refine lv_iload hx hb (dt_at dt_Law_law_2 6 rfl) (lv_at hl 4 rfl) ?_
  refine lv_iconst (v := 4) hx hb (dt_at dt_Law_law_2 7 rfl) (by decide) ?_
  refine lv_iadd hx hb (dt_at dt_Law_law_2 8 rfl) ?_
  refine va_sld hx hb hX hxl (fun h9 => absurd hxl (Nat.not_lt.mpr h9)) hS hin4 (dt_at dt_Law_law_2 9 rfl) ?_
  rw [hv4]
  refine lv_i2l (v := v4.toInt64) hx hb (dt_at dt_Law_law_2 10 rfl) rfl ?_
  refine lv_ldc2 (v := 4294967295) hx hb hown (hts (Cond.constantLong "OutwardTapeLaw" 61 (4294967295)) (m_5 134 rfl rfl)) (dt_at dt_Law_law_2 11 rfl) ?_
  refine lv_land hx hb (dt_at dt_Law_law_2 12 rfl) ?_
  refine lv_lor hx hb (dt_at dt_Law_law_2 13 rfl) ?_
  refine lv_aload_n hx hb (dt_at dt_Law_law_2 14 rfl) rfl (lv_at hl 0 rfl) ?_
  refine lv_iload hx hb (dt_at dt_Law_law_2 15 rfl) (lv_at hl 4 rfl) ?_
  refine lv_iconst (v := 5) hx hb (dt_at dt_Law_law_2 16 rfl) (by decide) ?_
  refine lv_iadd hx hb (dt_at dt_Law_law_2 17 rfl) ?_
  refine va_sld hx hb hX hxl (fun h9 => absurd hxl (Nat.not_lt.mpr h9)) hS hin5 (dt_at dt_Law_law_2 18 rfl) ?_
  rw [hv5]
  refine lv_aload_n hx hb (dt_at dt_Law_law_2 19 rfl) rfl (lv_at hl 3 rfl) ?_
  obtain ⟨r1, h_r1, h⟩ := ob_of h
  have hFW : ∀ y, va_A (dT a ++ [(u, .inr (0, []))]) H.size y → LwA s y := fr_ofU hDT hau hS
  refine va_calli (run_SW (As := [.ref (a 0), .long ((j_lshl (v1.toInt64) (32 : Int32)) ||| ((v2.toInt64) &&& (4294967295 : Int64))), .long ((j_lshl (v3.toInt64) (32 : Int32)) ||| ((v4.toInt64) &&& (4294967295 : Int64))), .int v5, .ref u]) (rest := []) (index := 63) (n := 5) ⟨hx, hb, hml, hown, hts⟩ (c_Law_bounds l hfl D a q hdT u qu huT H.size gu ((j_lshl (v1.toInt64) (32 : Int32)) ||| ((v2.toInt64) &&& (4294967295 : Int64))) ((j_lshl (v3.toInt64) (32 : Int32)) ||| ((v4.toInt64) &&& (4294967295 : Int64))) v5 T.1 T.2.1 T.2.2.1 g3 T.2.2.2.1 T.2.2.2.2.1 T.2.2.2.2.2.1 T.2.2.2.2.2.2.1 T.2.2.2.2.2.2.2.1 T.2.2.2.2.2.2.2.2.1 T.2.2.2.2.2.2.2.2.2.1 T.2.2.2.2.2.2.2.2.2.2.1 T.2.2.2.2.2.2.2.2.2.2.2.1 T.2.2.2.2.2.2.2.2.2.2.2.2.1 T.2.2.2.2.2.2.2.2.2.2.2.2.2.1 T.2.2.2.2.2.2.2.2.2.2.2.2.2.2.1 T.2.2.2.2.2.2.2.2.2.2.2.2.2.2.2.1 T.2.2.2.2.2.2.2.2.2.2.2.2.2.2.2.2 s.heap.size adK adV hFW r1 h_r1) rfl rfl (Nat.le_of_ble_eq_true rfl) (Nat.le_of_ble_eq_true rfl) (gd_c (m_3 74 rfl rfl)) List.mem_cons_self (m_1 0 rfl rfl) (m_3 72 rfl rfl) (m_3 73 rfl rfl) (by decide +kernel) ⟨fun a U g mk q => ⟨q.1, q.2.1, q.2.2.1, va_K.moved (u := U) (U := U.calling g mk a) (Vm.Alike.refl U.vm) q.2.2.2.1, q.2.2.2.2.1, isS.call q.2.2.2.2.2.1, q.2.2.2.2.2.2.1, va_K.moved (u := U) (U := U.calling g mk a) (Vm.Alike.refl U.vm) q.2.2.2.2.2.2.2.1, ncX.moved (u := U) (U := U.calling g mk a) (Vm.Alike.refl U.vm) q.2.2.2.2.2.2.2.2⟩, fun U hU hW => ⟨rfl, by rw [hU], by rw [hU]; exact hPT, va_K.moved hW.alike hK, by rw [hU]; exact hTC, hSt.go hS (fun _ h9 => h9) hU hW, by rw [hU]; exact hPU, va_K.moved hW.alike hKu, ncX.moved hW.alike hN⟩⟩ rfl rfl hl.1 rfl (lv_room (Nat.le_of_ble_eq_true rfl)) (dt_at dt_Law_law_2 20 rfl) ⟨cn_le (by decide) hcc.1, cn_le (by decide) hcc.2⟩) hS (fun y _ h9 => hFW y h9) hFW (fun u_r1 uu t H1 locs ht hvm hw hB hz1 hk1 hS => ?_)
  subst hw
  obtain ⟨g3_2, hB, hTB, hUB⟩ := hB
  rw [ht] at hTB
  rw [ht] at hB
  rw [ht] at hUB
  have hPR := kp_ap hPR (by rfl) hRTu hk1
  have hPU : va_P D CLS [(u, .inl (qu, 1, .inr (.inl (fun _ => r1.2.1))))] H1 := hUB
  have hTC : tapeC D (dT a) g3_2 r1.2.2.2 H1 := hTB
  have hPT : va_P D CLS (wT a q (a 5) (a 7) T.1 r1.2.2.1 T.2.2.1 g3_2 T.2.2.2.1 T.2.2.2.2.1 T.2.2.2.2.2.1 T.2.2.2.2.2.2.1 T.2.2.2.2.2.2.2.1 T.2.2.2.2.2.2.2.2.1 T.2.2.2.2.2.2.2.2.2.1 T.2.2.2.2.2.2.2.2.2.2.1 T.2.2.2.2.2.2.2.2.2.2.2.1 T.2.2.2.2.2.2.2.2.2.2.2.2.1 T.2.2.2.2.2.2.2.2.2.2.2.2.2.1 T.2.2.2.2.2.2.2.2.2.2.2.2.2.2.1 T.2.2.2.2.2.2.2.2.2.2.2.2.2.2.2.1) H1 := hB
  refine W.widen (k := cells + 4) (n := slots + 12) (Nat.add_le_add_left (by decide) _) (Nat.add_le_add_left (by decide) _) ?_
  clear hFW hk1 hz1 hB ht
  generalize H1 = H at hPT hTC hPR hPU hS ⊢
  obtain ⟨t3, e_t3, h⟩ := ol_of h
  refine lv_topi (fun u_t3 q_t3 => ?_)
  obtain rfl : t3 = u_t3 := e_t3.trans q_t3.symm
  refine lv_istore (lv' := [(5, .int t3), (0, .ref x), (1, .ref (a 0)), (2, .ref (b 0)), (3, .ref u), (4, .int iv)]) hx hb (dt_at dt_Law_law_2 21 rfl) hl (by decide) rfl (fun ls hl => ?_)
  refine lv_aload_n hx hb (dt_at dt_Law_law_2 22 rfl) rfl (lv_at hl 3 rfl) ?_
  refine lv_aload_n hx hb (dt_at dt_Law_law_2 23 rfl) rfl (lv_at hl 1 rfl) ?_
  refine lv_iload hx hb (dt_at dt_Law_law_2 24 rfl) (lv_at hl 5 rfl) ?_
  refine lv_iconst (v := 1) hx hb (dt_at dt_Law_law_2 25 rfl) (by decide) ?_
  refine lv_iadd hx hb (dt_at dt_Law_law_2 26 rfl) ?_
  refine va_sld hx hb hX hxl (fun h9 => absurd hxl (Nat.not_lt.mpr h9)) hS hin1 (dt_at dt_Law_law_2 27 rfl) ?_
  rw [hv1]
  refine lv_i2l (v := v1.toInt64) hx hb (dt_at dt_Law_law_2 28 rfl) rfl ?_
  refine lv_bipush (v := 32) hx hb (dt_at dt_Law_law_2 29 rfl) (by decide) ?_
  refine lv_lshl (v := (j_lshl (v1.toInt64) (32 : Int32))) hx hb (dt_at dt_Law_law_2 30 rfl) rfl ?_
  refine lv_aload_n hx hb (dt_at dt_Law_law_2 31 rfl) rfl (lv_at hl 1 rfl) ?_
  refine lv_iload hx hb (dt_at dt_Law_law_2 32 rfl) (lv_at hl 5 rfl) ?_
  refine lv_iconst (v := 2) hx hb (dt_at dt_Law_law_2 33 rfl) (by decide) ?_
  refine lv_iadd hx hb (dt_at dt_Law_law_2 34 rfl) ?_
  refine va_sld hx hb hX hxl (fun h9 => absurd hxl (Nat.not_lt.mpr h9)) hS hin2 (dt_at dt_Law_law_2 35 rfl) ?_
  rw [hv2]
  refine lv_i2l (v := v2.toInt64) hx hb (dt_at dt_Law_law_2 36 rfl) rfl ?_
  refine lv_ldc2 (v := 4294967295) hx hb hown (hts (Cond.constantLong "OutwardTapeLaw" 61 (4294967295)) (m_5 134 rfl rfl)) (dt_at dt_Law_law_2 37 rfl) ?_
  refine lv_land hx hb (dt_at dt_Law_law_2 38 rfl) ?_
  refine lv_lor hx hb (dt_at dt_Law_law_2 39 rfl) ?_
  refine lv_aload_n hx hb (dt_at dt_Law_law_2 40 rfl) rfl (lv_at hl 1 rfl) ?_
  refine lv_iload hx hb (dt_at dt_Law_law_2 41 rfl) (lv_at hl 5 rfl) ?_
  refine lv_iconst (v := 3) hx hb (dt_at dt_Law_law_2 42 rfl) (by decide) ?_
  refine lv_iadd hx hb (dt_at dt_Law_law_2 43 rfl) ?_
  refine va_sld hx hb hX hxl (fun h9 => absurd hxl (Nat.not_lt.mpr h9)) hS hin3 (dt_at dt_Law_law_2 44 rfl) ?_
  rw [hv3]
  refine lv_i2l (v := v3.toInt64) hx hb (dt_at dt_Law_law_2 45 rfl) rfl ?_
  refine lv_bipush (v := 32) hx hb (dt_at dt_Law_law_2 46 rfl) (by decide) ?_
  refine lv_lshl (v := (j_lshl (v3.toInt64) (32 : Int32))) hx hb (dt_at dt_Law_law_2 47 rfl) rfl ?_
  refine lv_aload_n hx hb (dt_at dt_Law_law_2 48 rfl) rfl (lv_at hl 1 rfl) ?_
  refine lv_iload hx hb (dt_at dt_Law_law_2 49 rfl) (lv_at hl 5 rfl) ?_
  refine lv_iconst (v := 4) hx hb (dt_at dt_Law_law_3 0 rfl) (by decide) ?_
  refine lv_iadd hx hb (dt_at dt_Law_law_3 1 rfl) ?_
  refine va_sld hx hb hX hxl (fun h9 => absurd hxl (Nat.not_lt.mpr h9)) hS hin4 (dt_at dt_Law_law_3 2 rfl) ?_
  rw [hv4]
  refine lv_i2l (v := v4.toInt64) hx hb (dt_at dt_Law_law_3 3 rfl) rfl ?_
  refine lv_ldc2 (v := 4294967295) hx hb hown (hts (Cond.constantLong "OutwardTapeLaw" 61 (4294967295)) (m_5 134 rfl rfl)) (dt_at dt_Law_law_3 4 rfl) ?_
  refine lv_land hx hb (dt_at dt_Law_law_3 5 rfl) ?_
  refine lv_lor hx hb (dt_at dt_Law_law_3 6 rfl) ?_
  refine lv_aload_n hx hb (dt_at dt_Law_law_3 7 rfl) rfl (lv_at hl 1 rfl) ?_
  refine lv_iload hx hb (dt_at dt_Law_law_3 8 rfl) (lv_at hl 5 rfl) ?_
  refine lv_iconst (v := 5) hx hb (dt_at dt_Law_law_3 9 rfl) (by decide) ?_
  refine lv_iadd hx hb (dt_at dt_Law_law_3 10 rfl) ?_
  refine va_sld hx hb hX hxl (fun h9 => absurd hxl (Nat.not_lt.mpr h9)) hS hin5 (dt_at dt_Law_law_3 11 rfl) ?_
  rw [hv5]
  obtain ⟨r4, h_r4, h⟩ := ob_of h
  have hFR : ∀ y, va_A (dR b) H.size y → LwA s y := fr_of hDR hS
  refine va_calli (va_runV (As := [.long ((j_lshl (v1.toInt64) (32 : Int32)) ||| ((v2.toInt64) &&& (4294967295 : Int64))), .long ((j_lshl (v3.toInt64) (32 : Int32)) ||| ((v4.toInt64) &&& (4294967295 : Int64))), .int v5]) (rest := []) ⟨hx, hb, hml, hown, hts⟩ (c_Ref_bounds l D b r hdR H.size ((j_lshl (v1.toInt64) (32 : Int32)) ||| ((v2.toInt64) &&& (4294967295 : Int64))) ((j_lshl (v3.toInt64) (32 : Int32)) ||| ((v4.toInt64) &&& (4294967295 : Int64))) v5 M.1 M.2.1 M.2.2.1 M.2.2.2.1 M.2.2.2.2.1 M.2.2.2.2.2.1 M.2.2.2.2.2.2.1 M.2.2.2.2.2.2.2.1 M.2.2.2.2.2.2.2.2.1 M.2.2.2.2.2.2.2.2.2.1 M.2.2.2.2.2.2.2.2.2.2.1 M.2.2.2.2.2.2.2.2.2.2.2.1 M.2.2.2.2.2.2.2.2.2.2.2.2.1 M.2.2.2.2.2.2.2.2.2.2.2.2.2.1 M.2.2.2.2.2.2.2.2.2.2.2.2.2.2.1 M.2.2.2.2.2.2.2.2.2.2.2.2.2.2.2.1 M.2.2.2.2.2.2.2.2.2.2.2.2.2.2.2.2.1 M.2.2.2.2.2.2.2.2.2.2.2.2.2.2.2.2.2.1 M.2.2.2.2.2.2.2.2.2.2.2.2.2.2.2.2.2.2.1 M.2.2.2.2.2.2.2.2.2.2.2.2.2.2.2.2.2.2.2 r4 h_r4) (cwV 3 hts (gd_V (m_4 65 rfl rfl) (m_4 66 rfl rfl) (m_4 67 rfl rfl) (m_1 4 rfl rfl) (m_4 68 rfl rfl)) rfl rfl rfl (by decide +kernel) ⟨Nat.le_of_ble_eq_true rfl, Nat.le_of_ble_eq_true rfl⟩) ⟨fun a U g mk q => ⟨q.1, q.2.1, q.2.2.1, va_K.moved (u := U) (U := U.calling g mk a) (Vm.Alike.refl U.vm) q.2.2.2⟩, va_recv hKR hPR (ci := 0) (q0 := 0) rfl rfl, fun U hU hW => ⟨rfl, by rw [hU], by rw [hU]; exact hPR, va_K.moved hW.alike hKR⟩⟩ rfl rfl hl.1 rfl (lv_room (Nat.le_of_ble_eq_true rfl)) (dt_at dt_Law_law_3 12 rfl) ⟨hcc.1, hcc.2⟩) hS (fun y _ h9 => hFR y h9) hFR (fun u_r4 uu t H1 locs ht hvm hw hB hz1 hk1 hS => ?_)
  subst hw
  rw [ht] at hB
  have hPT := kp_ap hPT (by rfl) hTR hk1
  have hTC := tapeC.keptR hK hKR hPR hTC hk1
  have hPU := kp_u hPU huR hk1
  have hPR : va_P D CLS (wR b r r4.2.1 r4.2.2.1 r4.2.2.2.1 r4.2.2.2.2.1 r4.2.2.2.2.2.1 r4.2.2.2.2.2.2 M.2.2.2.2.2.2.1 M.2.2.2.2.2.2.2.1 M.2.2.2.2.2.2.2.2.1 M.2.2.2.2.2.2.2.2.2.1 M.2.2.2.2.2.2.2.2.2.2.1 M.2.2.2.2.2.2.2.2.2.2.2.1 M.2.2.2.2.2.2.2.2.2.2.2.2.1 M.2.2.2.2.2.2.2.2.2.2.2.2.2.1 M.2.2.2.2.2.2.2.2.2.2.2.2.2.2.1 M.2.2.2.2.2.2.2.2.2.2.2.2.2.2.2.1 M.2.2.2.2.2.2.2.2.2.2.2.2.2.2.2.2.1 M.2.2.2.2.2.2.2.2.2.2.2.2.2.2.2.2.2.1 M.2.2.2.2.2.2.2.2.2.2.2.2.2.2.2.2.2.2.1 M.2.2.2.2.2.2.2.2.2.2.2.2.2.2.2.2.2.2.2) H1 := hB
  refine W.widen (k := cells + 4) (n := slots + 12) (Nat.le_refl _) (Nat.le_refl _) ?_
  clear hFR hk1 hz1 hB ht
  generalize H1 = H at hPT hTC hPR hPU hS ⊢
  obtain ⟨t5, e_t5, h⟩ := ol_of h
  refine lv_topi (fun u_t5 q_t5 => ?_)
  obtain rfl : t5 = u_t5 := e_t5.trans q_t5.symm
  refine lv_istore (lv' := [(6, .int t5), (5, .int t3), (0, .ref x), (1, .ref (a 0)), (2, .ref (b 0)), (3, .ref u), (4, .int iv)]) hx hb (dt_at dt_Law_law_3 13 rfl) hl (by decide) rfl (fun ls hl => ?_)
  refine lv_aload_n hx hb (dt_at dt_Law_law_3 14 rfl) rfl (lv_at hl 4 rfl) ?_
  obtain ⟨r6, h_r6, h⟩ := ob_of h
  have hFR : ∀ y, va_A (dR b) H.size y → LwA s y := fr_of hDR hS
  refine va_calli (va_runV (As := []) (rest := []) ⟨hx, hb, hml, hown, hts⟩ (c_Ref_thrown l D b r hdR H.size  r4.2.1 r4.2.2.1 r4.2.2.2.1 r4.2.2.2.2.1 r4.2.2.2.2.2.1 r4.2.2.2.2.2.2 M.2.2.2.2.2.2.1 M.2.2.2.2.2.2.2.1 M.2.2.2.2.2.2.2.2.1 M.2.2.2.2.2.2.2.2.2.1 M.2.2.2.2.2.2.2.2.2.2.1 M.2.2.2.2.2.2.2.2.2.2.2.1 M.2.2.2.2.2.2.2.2.2.2.2.2.1 M.2.2.2.2.2.2.2.2.2.2.2.2.2.1 M.2.2.2.2.2.2.2.2.2.2.2.2.2.2.1 M.2.2.2.2.2.2.2.2.2.2.2.2.2.2.2.1 M.2.2.2.2.2.2.2.2.2.2.2.2.2.2.2.2.1 M.2.2.2.2.2.2.2.2.2.2.2.2.2.2.2.2.2.1 M.2.2.2.2.2.2.2.2.2.2.2.2.2.2.2.2.2.2.1 M.2.2.2.2.2.2.2.2.2.2.2.2.2.2.2.2.2.2.2 r6 h_r6) (cwV 0 hts (gd_V (m_4 61 rfl rfl) (m_4 62 rfl rfl) (m_4 63 rfl rfl) (m_1 4 rfl rfl) (m_4 64 rfl rfl)) rfl rfl rfl (by decide +kernel) ⟨Nat.le_of_ble_eq_true rfl, Nat.le_of_ble_eq_true rfl⟩) ⟨fun a U g mk q => ⟨q.1, q.2.1, q.2.2.1, va_K.moved (u := U) (U := U.calling g mk a) (Vm.Alike.refl U.vm) q.2.2.2⟩, va_recv hKR hPR (ci := 0) (q0 := 0) rfl rfl, fun U hU hW => ⟨rfl, by rw [hU], by rw [hU]; exact hPR, va_K.moved hW.alike hKR⟩⟩ rfl rfl hl.1 rfl (lv_room (Nat.le_of_ble_eq_true rfl)) (dt_at dt_Law_law_3 15 rfl) ⟨hcc.1, hcc.2⟩) hS (fun y _ h9 => hFR y h9) hFR (fun u_r6 uu t H1 locs ht hvm hw hB hz1 hk1 hS => ?_)
  obtain rfl : r6 = u_r6 := hw.symm
  rw [ht] at hB
  have hPT := kp_ap hPT (by rfl) hTR hk1
  have hTC := tapeC.keptR hK hKR hPR hTC hk1
  have hPU := kp_u hPU huR hk1
  have hPR : va_P D CLS (wR b r r4.2.1 r4.2.2.1 r4.2.2.2.1 r4.2.2.2.2.1 r4.2.2.2.2.2.1 r4.2.2.2.2.2.2 M.2.2.2.2.2.2.1 M.2.2.2.2.2.2.2.1 M.2.2.2.2.2.2.2.2.1 M.2.2.2.2.2.2.2.2.2.1 M.2.2.2.2.2.2.2.2.2.2.1 M.2.2.2.2.2.2.2.2.2.2.2.1 M.2.2.2.2.2.2.2.2.2.2.2.2.1 M.2.2.2.2.2.2.2.2.2.2.2.2.2.1 M.2.2.2.2.2.2.2.2.2.2.2.2.2.2.1 M.2.2.2.2.2.2.2.2.2.2.2.2.2.2.2.1 M.2.2.2.2.2.2.2.2.2.2.2.2.2.2.2.2.1 M.2.2.2.2.2.2.2.2.2.2.2.2.2.2.2.2.2.1 M.2.2.2.2.2.2.2.2.2.2.2.2.2.2.2.2.2.2.1 M.2.2.2.2.2.2.2.2.2.2.2.2.2.2.2.2.2.2.2) H1 := hB
  refine W.widen (k := cells + 4) (n := slots + 12) (Nat.le_refl _) (Nat.le_refl _) ?_
  clear hFR hk1 hz1 hB ht
  generalize H1 = H at hPT hTC hPR hPU hS ⊢
  refine lv_iload hx hb (dt_at dt_Law_law_3 16 rfl) (lv_at hl 1 rfl) ?_
  refine lv_icmp_eq (tgt := 337) hx hb (dt_at dt_Law_law_3 17 rfl) (by decide) (fun c7 => ?_) (fun c7 => ?_)
  · have h := if_p h c7
    refine lv_iload hx hb (dt_at dt_Law_law_3 20 rfl) (lv_at hl 1 rfl) ?_
    refine lv_if_ne (tgt := 354) hx hb (dt_at dt_Law_law_3 21 rfl) (by decide) (fun c8 => ?_) (fun c8 => ?_)
    · have h := if_n h c8
      refine lv_goto (tgt := 819) hx hb (dt_at dt_Law_law_3 31 rfl) (by decide) ?_
      obtain rfl := os_of h
      refine W.widen (k := cells + 4) (n := slots + 12) (Nat.le_refl _) (Nat.le_refl _) ?_
      exact kk _ _ _ (lv_sub hl [2, 3, 4, 5, 6] rfl) hS ⟨⟨g3_2, hPT, hTC⟩, hPR, hPU⟩
    · have h := if_p h c8
      refine lv_aload_n hx hb (dt_at dt_Law_law_3 22 rfl) rfl (lv_at hl 5 rfl) ?_
      refine lv_iconst (v := 0) hx hb (dt_at dt_Law_law_3 23 rfl) (by decide) ?_
      refine va_lald hx hb hKu hPU 0 0 rfl rfl (i := 0) (vp_in_nI (n := 0) (by decide) (by decide)) (dt_at dt_Law_law_3 24 rfl) ?_
      refine lv_iload hx hb (dt_at dt_Law_law_3 25 rfl) (lv_at hl 0 rfl) ?_
      refine lv_i2l (v := t5.toInt64) hx hb (dt_at dt_Law_law_3 26 rfl) rfl ?_
      refine lc_eq (tgt := 354) hx hb (dt_at dt_Law_law_3 27 rfl) (dt_at dt_Law_law_3 28 rfl) (by decide) (fun c9 => ?_) (fun c9 => ?_)
      · have h := if_p h c9
        refine lv_goto (tgt := 819) hx hb (dt_at dt_Law_law_3 31 rfl) (by decide) ?_
        obtain rfl := os_of h
        refine W.widen (k := cells + 4) (n := slots + 12) (Nat.le_refl _) (Nat.le_refl _) ?_
        exact kk _ _ _ (lv_sub hl [2, 3, 4, 5, 6] rfl) hS ⟨⟨g3_2, hPT, hTC⟩, hPR, hPU⟩
      · have h := if_n h c9
        refine lv_iconst (v := 0) hx hb (dt_at dt_Law_law_3 29 rfl) (by decide) ?_
        exact nn_of h
  · have h := if_n h c7
    refine lv_iconst (v := 0) hx hb (dt_at dt_Law_law_3 18 rfl) (by decide) ?_
    exact nn_of h
set_option maxRecDepth 100000 in
set_option maxHeartbeats 4000000 in
theorem k_Law_c5 (hX0 : LwCX p l s m args meth c D a q b r u qu x L xs adK adV) (hv : LwV xs L iv v1 v2 v3 v4 v5) (hcc : cells + 4 ≤ room_1.cells ∧ slots + 12 ≤ room_1.slots) (hl : lv_has ls 7 [(0, .ref x), (1, .ref (a 0)), (2, .ref (b 0)), (3, .ref u), (4, .int iv)]) (hS : va_S (LwA s) s.heap H locs) (hLS : LwS D a q b r u qu T M gu H) (h : f_Law_c5 v1 v2 v3 v4 v5 T M gu = some S1) (kk : ∀ (ls : Array Slot) (H : Heap) (locs : List Loc), lv_has ls 7 [(0, .ref x), (1, .ref (a 0)), (2, .ref (b 0)), (3, .ref u), (4, .int iv)] → va_S (LwA s) s.heap H locs → LwS D a q b r u qu S1.1 S1.2.1 S1.2.2 H → W p l e room_1 s m args below meth c H locs (cells + 4) (slots + 12) Q (F0 m 819 ls [])) : W p l e room_1 s m args below meth c H locs cells slots Q (F0 m 357 ls []) := by
  obtain ⟨⟨hx, hb, hml, hown, hts, hr, hlocks⟩, hfl, hK, hKR, hKu, hSt, hN, hX, hxl, hDT, hDR, hau, hRT, hTR, huT, huR, hRTu⟩ := hX0
  obtain ⟨hin1, hin2, hin3, hin4, hin5, hv1, hv2, hv3, hv4, hv5⟩ := hv
  obtain ⟨⟨g3, hPT, hTC⟩, hPR, hPU⟩ := hLS
  have hdT : va_D (fun _ => True) (dT a) := hDT.weaken (fun _ _ _ _ => trivial)
  have hdR : va_D (fun _ => True) (dR b) := hDR.weaken (fun _ _ _ _ => trivial)
  rw [f_Law_c5] at h
  refine lv_aload_n hx hb (dt_at dt_Law_law_3 32 rfl) rfl (lv_at hl 1 rfl) ?_
  refine lv_aload_n hx hb (dt_at dt_Law_law_3 33 rfl) rfl (lv_at hl 0 rfl) ?_
  refine lv_iload hx hb (dt_at dt_Law_law_3 34 rfl) (lv_at hl 4 rfl) ?_
  refine lv_iconst (v := 1) hx hb (dt_at dt_Law_law_3 35 rfl) (by decide) ?_
  refine lv_iadd hx hb (dt_at dt_Law_law_3 36 rfl) ?_
  refine va_sld hx hb hX hxl (fun h9 => absurd hxl (Nat.not_lt.mpr h9)) hS hin1 (dt_at dt_Law_law_3 37 rfl) ?_
  rw [hv1]
  refine lv_aload_n hx hb (dt_at dt_Law_law_3 38 rfl) rfl (lv_at hl 0 rfl) ?_
  refine lv_iload hx hb (dt_at dt_Law_law_3 39 rfl) (lv_at hl 4 rfl) ?_
  refine lv_iconst (v := 2) hx hb (dt_at dt_Law_law_3 40 rfl) (by decide) ?_
  refine lv_iadd hx hb (dt_at dt_Law_law_3 41 rfl) ?_
  refine va_sld hx hb hX hxl (fun h9 => absurd hxl (Nat.not_lt.mpr h9)) hS hin2 (dt_at dt_Law_law_3 42 rfl) ?_
  rw [hv2]
  refine lv_aload_n hx hb (dt_at dt_Law_law_3 43 rfl) rfl (lv_at hl 3 rfl) ?_
  obtain ⟨r1, h_r1, h⟩ := ob_of h
  have hFW : ∀ y, va_A (dT a ++ [(u, .inr (0, []))]) H.size y → LwA s y := fr_ofU hDT hau hS
  refine va_calli (run_SW (As := [.ref (a 0), .int v1, .int v2, .ref u]) (rest := []) (index := 67) (n := 4) ⟨hx, hb, hml, hown, hts⟩ (c_Law_unary l hfl D a q hdT u qu huT H.size gu v1 v2 T.1 T.2.1 T.2.2.1 g3 T.2.2.2.1 T.2.2.2.2.1 T.2.2.2.2.2.1 T.2.2.2.2.2.2.1 T.2.2.2.2.2.2.2.1 T.2.2.2.2.2.2.2.2.1 T.2.2.2.2.2.2.2.2.2.1 T.2.2.2.2.2.2.2.2.2.2.1 T.2.2.2.2.2.2.2.2.2.2.2.1 T.2.2.2.2.2.2.2.2.2.2.2.2.1 T.2.2.2.2.2.2.2.2.2.2.2.2.2.1 T.2.2.2.2.2.2.2.2.2.2.2.2.2.2.1 T.2.2.2.2.2.2.2.2.2.2.2.2.2.2.2.1 T.2.2.2.2.2.2.2.2.2.2.2.2.2.2.2.2 s.heap.size adK adV hFW r1 h_r1) rfl rfl (Nat.le_of_ble_eq_true rfl) (Nat.le_of_ble_eq_true rfl) (gd_c (m_3 100 rfl rfl)) List.mem_cons_self (m_1 0 rfl rfl) (m_3 98 rfl rfl) (m_3 99 rfl rfl) (by decide +kernel) ⟨fun a U g mk q => ⟨q.1, q.2.1, q.2.2.1, va_K.moved (u := U) (U := U.calling g mk a) (Vm.Alike.refl U.vm) q.2.2.2.1, q.2.2.2.2.1, isS.call q.2.2.2.2.2.1, q.2.2.2.2.2.2.1, va_K.moved (u := U) (U := U.calling g mk a) (Vm.Alike.refl U.vm) q.2.2.2.2.2.2.2.1, ncX.moved (u := U) (U := U.calling g mk a) (Vm.Alike.refl U.vm) q.2.2.2.2.2.2.2.2⟩, fun U hU hW => ⟨rfl, by rw [hU], by rw [hU]; exact hPT, va_K.moved hW.alike hK, by rw [hU]; exact hTC, hSt.go hS (fun _ h9 => h9) hU hW, by rw [hU]; exact hPU, va_K.moved hW.alike hKu, ncX.moved hW.alike hN⟩⟩ rfl rfl hl.1 rfl (lv_room (Nat.le_of_ble_eq_true rfl)) (dt_at dt_Law_law_3 44 rfl) ⟨cn_le (by decide) hcc.1, cn_le (by decide) hcc.2⟩) hS (fun y _ h9 => hFW y h9) hFW (fun u_r1 uu t H1 locs ht hvm hw hB hz1 hk1 hS => ?_)
  subst hw
  obtain ⟨g3_2, hB, hTB, hUB⟩ := hB
  rw [ht] at hTB
  rw [ht] at hB
  rw [ht] at hUB
  have hPR := kp_ap hPR (by rfl) hRTu hk1
  have hPU : va_P D CLS [(u, .inl (qu, 1, .inr (.inl (fun _ => r1.2.1))))] H1 := hUB
  have hTC : tapeC D (dT a) g3_2 r1.2.2.2 H1 := hTB
  have hPT : va_P D CLS (wT a q (a 5) (a 7) T.1 r1.2.2.1 T.2.2.1 g3_2 T.2.2.2.1 T.2.2.2.2.1 T.2.2.2.2.2.1 T.2.2.2.2.2.2.1 T.2.2.2.2.2.2.2.1 T.2.2.2.2.2.2.2.2.1 T.2.2.2.2.2.2.2.2.2.1 T.2.2.2.2.2.2.2.2.2.2.1 T.2.2.2.2.2.2.2.2.2.2.2.1 T.2.2.2.2.2.2.2.2.2.2.2.2.1 T.2.2.2.2.2.2.2.2.2.2.2.2.2.1 T.2.2.2.2.2.2.2.2.2.2.2.2.2.2.1 T.2.2.2.2.2.2.2.2.2.2.2.2.2.2.2.1) H1 := hB
  refine W.widen (k := cells + 4) (n := slots + 12) (Nat.add_le_add_left (by decide) _) (Nat.add_le_add_left (by decide) _) ?_
  clear hFW hk1 hz1 hB ht
  generalize H1 = H at hPT hTC hPR hPU hS ⊢
  obtain ⟨t3, e_t3, h⟩ := ol_of h
  refine lv_topi (fun u_t3 q_t3 => ?_)
  obtain rfl : t3 = u_t3 := e_t3.trans q_t3.symm
  refine lv_istore (lv' := [(5, .int t3), (0, .ref x), (1, .ref (a 0)), (2, .ref (b 0)), (3, .ref u), (4, .int iv)]) hx hb (dt_at dt_Law_law_3 45 rfl) hl (by decide) rfl (fun ls hl => ?_)
  refine lv_aload_n hx hb (dt_at dt_Law_law_3 46 rfl) rfl (lv_at hl 3 rfl) ?_
  refine lv_aload_n hx hb (dt_at dt_Law_law_3 47 rfl) rfl (lv_at hl 1 rfl) ?_
  refine lv_iload hx hb (dt_at dt_Law_law_3 48 rfl) (lv_at hl 5 rfl) ?_
  refine lv_iconst (v := 1) hx hb (dt_at dt_Law_law_3 49 rfl) (by decide) ?_
  refine lv_iadd hx hb (dt_at dt_Law_law_4 0 rfl) ?_
  refine va_sld hx hb hX hxl (fun h9 => absurd hxl (Nat.not_lt.mpr h9)) hS hin1 (dt_at dt_Law_law_4 1 rfl) ?_
  rw [hv1]
  refine lv_aload_n hx hb (dt_at dt_Law_law_4 2 rfl) rfl (lv_at hl 1 rfl) ?_
  refine lv_iload hx hb (dt_at dt_Law_law_4 3 rfl) (lv_at hl 5 rfl) ?_
  refine lv_iconst (v := 2) hx hb (dt_at dt_Law_law_4 4 rfl) (by decide) ?_
  refine lv_iadd hx hb (dt_at dt_Law_law_4 5 rfl) ?_
  refine va_sld hx hb hX hxl (fun h9 => absurd hxl (Nat.not_lt.mpr h9)) hS hin2 (dt_at dt_Law_law_4 6 rfl) ?_
  rw [hv2]
  obtain ⟨r4, h_r4, h⟩ := ob_of h
  have hFR : ∀ y, va_A (dR b) H.size y → LwA s y := fr_of hDR hS
  refine va_calli (va_runV (As := [.int v1, .int v2]) (rest := []) ⟨hx, hb, hml, hown, hts⟩ (c_Ref_unary l D b r hdR H.size v1 v2 M.1 M.2.1 M.2.2.1 M.2.2.2.1 M.2.2.2.2.1 M.2.2.2.2.2.1 M.2.2.2.2.2.2.1 M.2.2.2.2.2.2.2.1 M.2.2.2.2.2.2.2.2.1 M.2.2.2.2.2.2.2.2.2.1 M.2.2.2.2.2.2.2.2.2.2.1 M.2.2.2.2.2.2.2.2.2.2.2.1 M.2.2.2.2.2.2.2.2.2.2.2.2.1 M.2.2.2.2.2.2.2.2.2.2.2.2.2.1 M.2.2.2.2.2.2.2.2.2.2.2.2.2.2.1 M.2.2.2.2.2.2.2.2.2.2.2.2.2.2.2.1 M.2.2.2.2.2.2.2.2.2.2.2.2.2.2.2.2.1 M.2.2.2.2.2.2.2.2.2.2.2.2.2.2.2.2.2.1 M.2.2.2.2.2.2.2.2.2.2.2.2.2.2.2.2.2.2.1 M.2.2.2.2.2.2.2.2.2.2.2.2.2.2.2.2.2.2.2 r4 h_r4) (cwV 2 hts (gd_V (m_4 92 rfl rfl) (m_4 93 rfl rfl) (m_4 94 rfl rfl) (m_1 4 rfl rfl) (m_4 95 rfl rfl)) rfl rfl rfl (by decide +kernel) ⟨Nat.le_of_ble_eq_true rfl, Nat.le_of_ble_eq_true rfl⟩) ⟨fun a U g mk q => ⟨q.1, q.2.1, q.2.2.1, va_K.moved (u := U) (U := U.calling g mk a) (Vm.Alike.refl U.vm) q.2.2.2⟩, va_recv hKR hPR (ci := 0) (q0 := 0) rfl rfl, fun U hU hW => ⟨rfl, by rw [hU], by rw [hU]; exact hPR, va_K.moved hW.alike hKR⟩⟩ rfl rfl hl.1 rfl (lv_room (Nat.le_of_ble_eq_true rfl)) (dt_at dt_Law_law_4 7 rfl) ⟨hcc.1, hcc.2⟩) hS (fun y _ h9 => hFR y h9) hFR (fun u_r4 uu t H1 locs ht hvm hw hB hz1 hk1 hS => ?_)
  subst hw
  rw [ht] at hB
  have hPT := kp_ap hPT (by rfl) hTR hk1
  have hTC := tapeC.keptR hK hKR hPR hTC hk1
  have hPU := kp_u hPU huR hk1
  have hPR : va_P D CLS (wR b r r4.2.1 r4.2.2.1 r4.2.2.2.1 r4.2.2.2.2.1 r4.2.2.2.2.2.1 r4.2.2.2.2.2.2.1 M.2.2.2.2.2.2.1 M.2.2.2.2.2.2.2.1 r4.2.2.2.2.2.2.2.1 r4.2.2.2.2.2.2.2.2.1 r4.2.2.2.2.2.2.2.2.2.1 r4.2.2.2.2.2.2.2.2.2.2.1 r4.2.2.2.2.2.2.2.2.2.2.2 M.2.2.2.2.2.2.2.2.2.2.2.2.2.1 M.2.2.2.2.2.2.2.2.2.2.2.2.2.2.1 M.2.2.2.2.2.2.2.2.2.2.2.2.2.2.2.1 M.2.2.2.2.2.2.2.2.2.2.2.2.2.2.2.2.1 M.2.2.2.2.2.2.2.2.2.2.2.2.2.2.2.2.2.1 M.2.2.2.2.2.2.2.2.2.2.2.2.2.2.2.2.2.2.1 M.2.2.2.2.2.2.2.2.2.2.2.2.2.2.2.2.2.2.2) H1 := hB
  refine W.widen (k := cells + 4) (n := slots + 12) (Nat.le_refl _) (Nat.le_refl _) ?_
  clear hFR hk1 hz1 hB ht
  generalize H1 = H at hPT hTC hPR hPU hS ⊢
  obtain ⟨t5, e_t5, h⟩ := ol_of h
  refine lv_topi (fun u_t5 q_t5 => ?_)
  obtain rfl : t5 = u_t5 := e_t5.trans q_t5.symm
  refine lv_istore (lv' := [(6, .int t5), (5, .int t3), (0, .ref x), (1, .ref (a 0)), (2, .ref (b 0)), (3, .ref u), (4, .int iv)]) hx hb (dt_at dt_Law_law_4 8 rfl) hl (by decide) rfl (fun ls hl => ?_)
  refine lv_aload_n hx hb (dt_at dt_Law_law_4 9 rfl) rfl (lv_at hl 4 rfl) ?_
  obtain ⟨r6, h_r6, h⟩ := ob_of h
  have hFR : ∀ y, va_A (dR b) H.size y → LwA s y := fr_of hDR hS
  refine va_calli (va_runV (As := []) (rest := []) ⟨hx, hb, hml, hown, hts⟩ (c_Ref_thrown l D b r hdR H.size  r4.2.1 r4.2.2.1 r4.2.2.2.1 r4.2.2.2.2.1 r4.2.2.2.2.2.1 r4.2.2.2.2.2.2.1 M.2.2.2.2.2.2.1 M.2.2.2.2.2.2.2.1 r4.2.2.2.2.2.2.2.1 r4.2.2.2.2.2.2.2.2.1 r4.2.2.2.2.2.2.2.2.2.1 r4.2.2.2.2.2.2.2.2.2.2.1 r4.2.2.2.2.2.2.2.2.2.2.2 M.2.2.2.2.2.2.2.2.2.2.2.2.2.1 M.2.2.2.2.2.2.2.2.2.2.2.2.2.2.1 M.2.2.2.2.2.2.2.2.2.2.2.2.2.2.2.1 M.2.2.2.2.2.2.2.2.2.2.2.2.2.2.2.2.1 M.2.2.2.2.2.2.2.2.2.2.2.2.2.2.2.2.2.1 M.2.2.2.2.2.2.2.2.2.2.2.2.2.2.2.2.2.2.1 M.2.2.2.2.2.2.2.2.2.2.2.2.2.2.2.2.2.2.2 r6 h_r6) (cwV 0 hts (gd_V (m_4 61 rfl rfl) (m_4 62 rfl rfl) (m_4 63 rfl rfl) (m_1 4 rfl rfl) (m_4 64 rfl rfl)) rfl rfl rfl (by decide +kernel) ⟨Nat.le_of_ble_eq_true rfl, Nat.le_of_ble_eq_true rfl⟩) ⟨fun a U g mk q => ⟨q.1, q.2.1, q.2.2.1, va_K.moved (u := U) (U := U.calling g mk a) (Vm.Alike.refl U.vm) q.2.2.2⟩, va_recv hKR hPR (ci := 0) (q0 := 0) rfl rfl, fun U hU hW => ⟨rfl, by rw [hU], by rw [hU]; exact hPR, va_K.moved hW.alike hKR⟩⟩ rfl rfl hl.1 rfl (lv_room (Nat.le_of_ble_eq_true rfl)) (dt_at dt_Law_law_4 10 rfl) ⟨hcc.1, hcc.2⟩) hS (fun y _ h9 => hFR y h9) hFR (fun u_r6 uu t H1 locs ht hvm hw hB hz1 hk1 hS => ?_)
  obtain rfl : r6 = u_r6 := hw.symm
  rw [ht] at hB
  have hPT := kp_ap hPT (by rfl) hTR hk1
  have hTC := tapeC.keptR hK hKR hPR hTC hk1
  have hPU := kp_u hPU huR hk1
  have hPR : va_P D CLS (wR b r r4.2.1 r4.2.2.1 r4.2.2.2.1 r4.2.2.2.2.1 r4.2.2.2.2.2.1 r4.2.2.2.2.2.2.1 M.2.2.2.2.2.2.1 M.2.2.2.2.2.2.2.1 r4.2.2.2.2.2.2.2.1 r4.2.2.2.2.2.2.2.2.1 r4.2.2.2.2.2.2.2.2.2.1 r4.2.2.2.2.2.2.2.2.2.2.1 r4.2.2.2.2.2.2.2.2.2.2.2 M.2.2.2.2.2.2.2.2.2.2.2.2.2.1 M.2.2.2.2.2.2.2.2.2.2.2.2.2.2.1 M.2.2.2.2.2.2.2.2.2.2.2.2.2.2.2.1 M.2.2.2.2.2.2.2.2.2.2.2.2.2.2.2.2.1 M.2.2.2.2.2.2.2.2.2.2.2.2.2.2.2.2.2.1 M.2.2.2.2.2.2.2.2.2.2.2.2.2.2.2.2.2.2.1 M.2.2.2.2.2.2.2.2.2.2.2.2.2.2.2.2.2.2.2) H1 := hB
  refine W.widen (k := cells + 4) (n := slots + 12) (Nat.le_refl _) (Nat.le_refl _) ?_
  clear hFR hk1 hz1 hB ht
  generalize H1 = H at hPT hTC hPR hPU hS ⊢
  refine lv_iload hx hb (dt_at dt_Law_law_4 11 rfl) (lv_at hl 1 rfl) ?_
  refine lv_icmp_eq (tgt := 405) hx hb (dt_at dt_Law_law_4 12 rfl) (by decide) (fun c7 => ?_) (fun c7 => ?_)
  · have h := if_p h c7
    refine lv_iload hx hb (dt_at dt_Law_law_4 15 rfl) (lv_at hl 1 rfl) ?_
    refine lv_if_ne (tgt := 422) hx hb (dt_at dt_Law_law_4 16 rfl) (by decide) (fun c8 => ?_) (fun c8 => ?_)
    · have h := if_n h c8
      refine lv_goto (tgt := 819) hx hb (dt_at dt_Law_law_4 26 rfl) (by decide) ?_
      obtain rfl := os_of h
      refine W.widen (k := cells + 4) (n := slots + 12) (Nat.le_refl _) (Nat.le_refl _) ?_
      exact kk _ _ _ (lv_sub hl [2, 3, 4, 5, 6] rfl) hS ⟨⟨g3_2, hPT, hTC⟩, hPR, hPU⟩
    · have h := if_p h c8
      refine lv_aload_n hx hb (dt_at dt_Law_law_4 17 rfl) rfl (lv_at hl 5 rfl) ?_
      refine lv_iconst (v := 0) hx hb (dt_at dt_Law_law_4 18 rfl) (by decide) ?_
      refine va_lald hx hb hKu hPU 0 0 rfl rfl (i := 0) (vp_in_nI (n := 0) (by decide) (by decide)) (dt_at dt_Law_law_4 19 rfl) ?_
      refine lv_iload hx hb (dt_at dt_Law_law_4 20 rfl) (lv_at hl 0 rfl) ?_
      refine lv_i2l (v := t5.toInt64) hx hb (dt_at dt_Law_law_4 21 rfl) rfl ?_
      refine lc_eq (tgt := 422) hx hb (dt_at dt_Law_law_4 22 rfl) (dt_at dt_Law_law_4 23 rfl) (by decide) (fun c9 => ?_) (fun c9 => ?_)
      · have h := if_p h c9
        refine lv_goto (tgt := 819) hx hb (dt_at dt_Law_law_4 26 rfl) (by decide) ?_
        obtain rfl := os_of h
        refine W.widen (k := cells + 4) (n := slots + 12) (Nat.le_refl _) (Nat.le_refl _) ?_
        exact kk _ _ _ (lv_sub hl [2, 3, 4, 5, 6] rfl) hS ⟨⟨g3_2, hPT, hTC⟩, hPR, hPU⟩
      · have h := if_n h c9
        refine lv_iconst (v := 0) hx hb (dt_at dt_Law_law_4 24 rfl) (by decide) ?_
        exact nn_of h
  · have h := if_n h c7
    refine lv_iconst (v := 0) hx hb (dt_at dt_Law_law_4 13 rfl) (by decide) ?_
    exact nn_of h
set_option maxRecDepth 100000 in
set_option maxHeartbeats 4000000 in
theorem k_Law_c6 (hX0 : LwCX p l s m args meth c D a q b r u qu x L xs adK adV) (hv : LwV xs L iv v1 v2 v3 v4 v5) (hcc : cells + 4 ≤ room_1.cells ∧ slots + 12 ≤ room_1.slots) (hl : lv_has ls 7 [(0, .ref x), (1, .ref (a 0)), (2, .ref (b 0)), (3, .ref u), (4, .int iv)]) (hS : va_S (LwA s) s.heap H locs) (hLS : LwS D a q b r u qu T M gu H) (h : f_Law_c6 v1 v2 v3 v4 v5 T M gu = some S1) (kk : ∀ (ls : Array Slot) (H : Heap) (locs : List Loc), lv_has ls 7 [(0, .ref x), (1, .ref (a 0)), (2, .ref (b 0)), (3, .ref u), (4, .int iv)] → va_S (LwA s) s.heap H locs → LwS D a q b r u qu S1.1 S1.2.1 S1.2.2 H → W p l e room_1 s m args below meth c H locs (cells + 4) (slots + 12) Q (F0 m 819 ls [])) : W p l e room_1 s m args below meth c H locs cells slots Q (F0 m 425 ls []) := by
  obtain ⟨⟨hx, hb, hml, hown, hts, hr, hlocks⟩, hfl, hK, hKR, hKu, hSt, hN, hX, hxl, hDT, hDR, hau, hRT, hTR, huT, huR, hRTu⟩ := hX0
  obtain ⟨hin1, hin2, hin3, hin4, hin5, hv1, hv2, hv3, hv4, hv5⟩ := hv
  obtain ⟨⟨g3, hPT, hTC⟩, hPR, hPU⟩ := hLS
  have hdT : va_D (fun _ => True) (dT a) := hDT.weaken (fun _ _ _ _ => trivial)
  have hdR : va_D (fun _ => True) (dR b) := hDR.weaken (fun _ _ _ _ => trivial)
  rw [f_Law_c6] at h
  refine lv_aload_n hx hb (dt_at dt_Law_law_4 27 rfl) rfl (lv_at hl 1 rfl) ?_
  refine lv_aload_n hx hb (dt_at dt_Law_law_4 28 rfl) rfl (lv_at hl 0 rfl) ?_
  refine lv_iload hx hb (dt_at dt_Law_law_4 29 rfl) (lv_at hl 4 rfl) ?_
  refine lv_iconst (v := 1) hx hb (dt_at dt_Law_law_4 30 rfl) (by decide) ?_
  refine lv_iadd hx hb (dt_at dt_Law_law_4 31 rfl) ?_
  refine va_sld hx hb hX hxl (fun h9 => absurd hxl (Nat.not_lt.mpr h9)) hS hin1 (dt_at dt_Law_law_4 32 rfl) ?_
  rw [hv1]
  refine lv_aload_n hx hb (dt_at dt_Law_law_4 33 rfl) rfl (lv_at hl 0 rfl) ?_
  refine lv_iload hx hb (dt_at dt_Law_law_4 34 rfl) (lv_at hl 4 rfl) ?_
  refine lv_iconst (v := 2) hx hb (dt_at dt_Law_law_4 35 rfl) (by decide) ?_
  refine lv_iadd hx hb (dt_at dt_Law_law_4 36 rfl) ?_
  refine va_sld hx hb hX hxl (fun h9 => absurd hxl (Nat.not_lt.mpr h9)) hS hin2 (dt_at dt_Law_law_4 37 rfl) ?_
  rw [hv2]
  refine lv_aload_n hx hb (dt_at dt_Law_law_4 38 rfl) rfl (lv_at hl 0 rfl) ?_
  refine lv_iload hx hb (dt_at dt_Law_law_4 39 rfl) (lv_at hl 4 rfl) ?_
  refine lv_iconst (v := 3) hx hb (dt_at dt_Law_law_4 40 rfl) (by decide) ?_
  refine lv_iadd hx hb (dt_at dt_Law_law_4 41 rfl) ?_
  refine va_sld hx hb hX hxl (fun h9 => absurd hxl (Nat.not_lt.mpr h9)) hS hin3 (dt_at dt_Law_law_4 42 rfl) ?_
  rw [hv3]
  refine lv_aload_n hx hb (dt_at dt_Law_law_4 43 rfl) rfl (lv_at hl 3 rfl) ?_
  obtain ⟨r1, h_r1, h⟩ := ob_of h
  have hFW : ∀ y, va_A (dT a ++ [(u, .inr (0, []))]) H.size y → LwA s y := fr_ofU hDT hau hS
  refine va_calli (run_SW (As := [.ref (a 0), .int v1, .int v2, .int v3, .ref u]) (rest := []) (index := 71) (n := 5) ⟨hx, hb, hml, hown, hts⟩ (c_Law_binary l hfl D a q hdT u qu huT H.size gu v1 v2 v3 T.1 T.2.1 T.2.2.1 g3 T.2.2.2.1 T.2.2.2.2.1 T.2.2.2.2.2.1 T.2.2.2.2.2.2.1 T.2.2.2.2.2.2.2.1 T.2.2.2.2.2.2.2.2.1 T.2.2.2.2.2.2.2.2.2.1 T.2.2.2.2.2.2.2.2.2.2.1 T.2.2.2.2.2.2.2.2.2.2.2.1 T.2.2.2.2.2.2.2.2.2.2.2.2.1 T.2.2.2.2.2.2.2.2.2.2.2.2.2.1 T.2.2.2.2.2.2.2.2.2.2.2.2.2.2.1 T.2.2.2.2.2.2.2.2.2.2.2.2.2.2.2.1 T.2.2.2.2.2.2.2.2.2.2.2.2.2.2.2.2 s.heap.size adK adV hFW r1 h_r1) rfl rfl (Nat.le_of_ble_eq_true rfl) (Nat.le_of_ble_eq_true rfl) (gd_c (m_3 189 rfl rfl)) List.mem_cons_self (m_1 0 rfl rfl) (m_3 187 rfl rfl) (m_3 188 rfl rfl) (by decide +kernel) ⟨fun a U g mk q => ⟨q.1, q.2.1, q.2.2.1, va_K.moved (u := U) (U := U.calling g mk a) (Vm.Alike.refl U.vm) q.2.2.2.1, q.2.2.2.2.1, isS.call q.2.2.2.2.2.1, q.2.2.2.2.2.2.1, va_K.moved (u := U) (U := U.calling g mk a) (Vm.Alike.refl U.vm) q.2.2.2.2.2.2.2.1, ncX.moved (u := U) (U := U.calling g mk a) (Vm.Alike.refl U.vm) q.2.2.2.2.2.2.2.2⟩, fun U hU hW => ⟨rfl, by rw [hU], by rw [hU]; exact hPT, va_K.moved hW.alike hK, by rw [hU]; exact hTC, hSt.go hS (fun _ h9 => h9) hU hW, by rw [hU]; exact hPU, va_K.moved hW.alike hKu, ncX.moved hW.alike hN⟩⟩ rfl rfl hl.1 rfl (lv_room (Nat.le_of_ble_eq_true rfl)) (dt_at dt_Law_law_4 44 rfl) ⟨cn_le (by decide) hcc.1, cn_le (by decide) hcc.2⟩) hS (fun y _ h9 => hFW y h9) hFW (fun u_r1 uu t H1 locs ht hvm hw hB hz1 hk1 hS => ?_)
  subst hw
  obtain ⟨g3_2, hB, hTB, hUB⟩ := hB
  rw [ht] at hTB
  rw [ht] at hB
  rw [ht] at hUB
  have hPR := kp_ap hPR (by rfl) hRTu hk1
  have hPU : va_P D CLS [(u, .inl (qu, 1, .inr (.inl (fun _ => r1.2.1))))] H1 := hUB
  have hTC : tapeC D (dT a) g3_2 r1.2.2.2 H1 := hTB
  have hPT : va_P D CLS (wT a q (a 5) (a 7) T.1 r1.2.2.1 T.2.2.1 g3_2 T.2.2.2.1 T.2.2.2.2.1 T.2.2.2.2.2.1 T.2.2.2.2.2.2.1 T.2.2.2.2.2.2.2.1 T.2.2.2.2.2.2.2.2.1 T.2.2.2.2.2.2.2.2.2.1 T.2.2.2.2.2.2.2.2.2.2.1 T.2.2.2.2.2.2.2.2.2.2.2.1 T.2.2.2.2.2.2.2.2.2.2.2.2.1 T.2.2.2.2.2.2.2.2.2.2.2.2.2.1 T.2.2.2.2.2.2.2.2.2.2.2.2.2.2.1 T.2.2.2.2.2.2.2.2.2.2.2.2.2.2.2.1) H1 := hB
  refine W.widen (k := cells + 4) (n := slots + 12) (Nat.add_le_add_left (by decide) _) (Nat.add_le_add_left (by decide) _) ?_
  clear hFW hk1 hz1 hB ht
  generalize H1 = H at hPT hTC hPR hPU hS ⊢
  obtain ⟨t3, e_t3, h⟩ := ol_of h
  refine lv_topi (fun u_t3 q_t3 => ?_)
  obtain rfl : t3 = u_t3 := e_t3.trans q_t3.symm
  refine lv_istore (lv' := [(5, .int t3), (0, .ref x), (1, .ref (a 0)), (2, .ref (b 0)), (3, .ref u), (4, .int iv)]) hx hb (dt_at dt_Law_law_4 45 rfl) hl (by decide) rfl (fun ls hl => ?_)
  refine lv_aload_n hx hb (dt_at dt_Law_law_4 46 rfl) rfl (lv_at hl 3 rfl) ?_
  refine lv_aload_n hx hb (dt_at dt_Law_law_4 47 rfl) rfl (lv_at hl 1 rfl) ?_
  refine lv_iload hx hb (dt_at dt_Law_law_4 48 rfl) (lv_at hl 5 rfl) ?_
  refine lv_iconst (v := 1) hx hb (dt_at dt_Law_law_4 49 rfl) (by decide) ?_
  refine lv_iadd hx hb (dt_at dt_Law_law_5 0 rfl) ?_
  refine va_sld hx hb hX hxl (fun h9 => absurd hxl (Nat.not_lt.mpr h9)) hS hin1 (dt_at dt_Law_law_5 1 rfl) ?_
  rw [hv1]
  refine lv_aload_n hx hb (dt_at dt_Law_law_5 2 rfl) rfl (lv_at hl 1 rfl) ?_
  refine lv_iload hx hb (dt_at dt_Law_law_5 3 rfl) (lv_at hl 5 rfl) ?_
  refine lv_iconst (v := 2) hx hb (dt_at dt_Law_law_5 4 rfl) (by decide) ?_
  refine lv_iadd hx hb (dt_at dt_Law_law_5 5 rfl) ?_
  refine va_sld hx hb hX hxl (fun h9 => absurd hxl (Nat.not_lt.mpr h9)) hS hin2 (dt_at dt_Law_law_5 6 rfl) ?_
  rw [hv2]
  refine lv_aload_n hx hb (dt_at dt_Law_law_5 7 rfl) rfl (lv_at hl 1 rfl) ?_
  refine lv_iload hx hb (dt_at dt_Law_law_5 8 rfl) (lv_at hl 5 rfl) ?_
  refine lv_iconst (v := 3) hx hb (dt_at dt_Law_law_5 9 rfl) (by decide) ?_
  refine lv_iadd hx hb (dt_at dt_Law_law_5 10 rfl) ?_
  refine va_sld hx hb hX hxl (fun h9 => absurd hxl (Nat.not_lt.mpr h9)) hS hin3 (dt_at dt_Law_law_5 11 rfl) ?_
  rw [hv3]
  obtain ⟨r4, h_r4, h⟩ := ob_of h
  have hFR : ∀ y, va_A (dR b) H.size y → LwA s y := fr_of hDR hS
  refine va_calli (va_runV (As := [.int v1, .int v2, .int v3]) (rest := []) ⟨hx, hb, hml, hown, hts⟩ (c_Ref_binary l D b r hdR H.size v1 v2 v3 M.1 M.2.1 M.2.2.1 M.2.2.2.1 M.2.2.2.2.1 M.2.2.2.2.2.1 M.2.2.2.2.2.2.1 M.2.2.2.2.2.2.2.1 M.2.2.2.2.2.2.2.2.1 M.2.2.2.2.2.2.2.2.2.1 M.2.2.2.2.2.2.2.2.2.2.1 M.2.2.2.2.2.2.2.2.2.2.2.1 M.2.2.2.2.2.2.2.2.2.2.2.2.1 M.2.2.2.2.2.2.2.2.2.2.2.2.2.1 M.2.2.2.2.2.2.2.2.2.2.2.2.2.2.1 M.2.2.2.2.2.2.2.2.2.2.2.2.2.2.2.1 M.2.2.2.2.2.2.2.2.2.2.2.2.2.2.2.2.1 M.2.2.2.2.2.2.2.2.2.2.2.2.2.2.2.2.2.1 M.2.2.2.2.2.2.2.2.2.2.2.2.2.2.2.2.2.2.1 M.2.2.2.2.2.2.2.2.2.2.2.2.2.2.2.2.2.2.2 r4 h_r4) (cwV 3 hts (gd_V (m_4 215 rfl rfl) (m_4 216 rfl rfl) (m_4 217 rfl rfl) (m_1 4 rfl rfl) (m_4 218 rfl rfl)) rfl rfl rfl (by decide +kernel) ⟨Nat.le_of_ble_eq_true rfl, Nat.le_of_ble_eq_true rfl⟩) ⟨fun a U g mk q => ⟨q.1, q.2.1, q.2.2.1, va_K.moved (u := U) (U := U.calling g mk a) (Vm.Alike.refl U.vm) q.2.2.2⟩, va_recv hKR hPR (ci := 0) (q0 := 0) rfl rfl, fun U hU hW => ⟨rfl, by rw [hU], by rw [hU]; exact hPR, va_K.moved hW.alike hKR⟩⟩ rfl rfl hl.1 rfl (lv_room (Nat.le_of_ble_eq_true rfl)) (dt_at dt_Law_law_5 12 rfl) ⟨hcc.1, hcc.2⟩) hS (fun y _ h9 => hFR y h9) hFR (fun u_r4 uu t H1 locs ht hvm hw hB hz1 hk1 hS => ?_)
  subst hw
  rw [ht] at hB
  have hPT := kp_ap hPT (by rfl) hTR hk1
  have hTC := tapeC.keptR hK hKR hPR hTC hk1
  have hPU := kp_u hPU huR hk1
  have hPR : va_P D CLS (wR b r r4.2.1 r4.2.2.1 r4.2.2.2.1 r4.2.2.2.2.1 r4.2.2.2.2.2.1 r4.2.2.2.2.2.2.1 M.2.2.2.2.2.2.1 M.2.2.2.2.2.2.2.1 r4.2.2.2.2.2.2.2.1 r4.2.2.2.2.2.2.2.2.1 r4.2.2.2.2.2.2.2.2.2.1 r4.2.2.2.2.2.2.2.2.2.2.1 r4.2.2.2.2.2.2.2.2.2.2.2 M.2.2.2.2.2.2.2.2.2.2.2.2.2.1 M.2.2.2.2.2.2.2.2.2.2.2.2.2.2.1 M.2.2.2.2.2.2.2.2.2.2.2.2.2.2.2.1 M.2.2.2.2.2.2.2.2.2.2.2.2.2.2.2.2.1 M.2.2.2.2.2.2.2.2.2.2.2.2.2.2.2.2.2.1 M.2.2.2.2.2.2.2.2.2.2.2.2.2.2.2.2.2.2.1 M.2.2.2.2.2.2.2.2.2.2.2.2.2.2.2.2.2.2.2) H1 := hB
  refine W.widen (k := cells + 4) (n := slots + 12) (Nat.le_refl _) (Nat.le_refl _) ?_
  clear hFR hk1 hz1 hB ht
  generalize H1 = H at hPT hTC hPR hPU hS ⊢
  obtain ⟨t5, e_t5, h⟩ := ol_of h
  refine lv_topi (fun u_t5 q_t5 => ?_)
  obtain rfl : t5 = u_t5 := e_t5.trans q_t5.symm
  refine lv_istore (lv' := [(6, .int t5), (5, .int t3), (0, .ref x), (1, .ref (a 0)), (2, .ref (b 0)), (3, .ref u), (4, .int iv)]) hx hb (dt_at dt_Law_law_5 13 rfl) hl (by decide) rfl (fun ls hl => ?_)
  refine lv_aload_n hx hb (dt_at dt_Law_law_5 14 rfl) rfl (lv_at hl 4 rfl) ?_
  obtain ⟨r6, h_r6, h⟩ := ob_of h
  have hFR : ∀ y, va_A (dR b) H.size y → LwA s y := fr_of hDR hS
  refine va_calli (va_runV (As := []) (rest := []) ⟨hx, hb, hml, hown, hts⟩ (c_Ref_thrown l D b r hdR H.size  r4.2.1 r4.2.2.1 r4.2.2.2.1 r4.2.2.2.2.1 r4.2.2.2.2.2.1 r4.2.2.2.2.2.2.1 M.2.2.2.2.2.2.1 M.2.2.2.2.2.2.2.1 r4.2.2.2.2.2.2.2.1 r4.2.2.2.2.2.2.2.2.1 r4.2.2.2.2.2.2.2.2.2.1 r4.2.2.2.2.2.2.2.2.2.2.1 r4.2.2.2.2.2.2.2.2.2.2.2 M.2.2.2.2.2.2.2.2.2.2.2.2.2.1 M.2.2.2.2.2.2.2.2.2.2.2.2.2.2.1 M.2.2.2.2.2.2.2.2.2.2.2.2.2.2.2.1 M.2.2.2.2.2.2.2.2.2.2.2.2.2.2.2.2.1 M.2.2.2.2.2.2.2.2.2.2.2.2.2.2.2.2.2.1 M.2.2.2.2.2.2.2.2.2.2.2.2.2.2.2.2.2.2.1 M.2.2.2.2.2.2.2.2.2.2.2.2.2.2.2.2.2.2.2 r6 h_r6) (cwV 0 hts (gd_V (m_4 61 rfl rfl) (m_4 62 rfl rfl) (m_4 63 rfl rfl) (m_1 4 rfl rfl) (m_4 64 rfl rfl)) rfl rfl rfl (by decide +kernel) ⟨Nat.le_of_ble_eq_true rfl, Nat.le_of_ble_eq_true rfl⟩) ⟨fun a U g mk q => ⟨q.1, q.2.1, q.2.2.1, va_K.moved (u := U) (U := U.calling g mk a) (Vm.Alike.refl U.vm) q.2.2.2⟩, va_recv hKR hPR (ci := 0) (q0 := 0) rfl rfl, fun U hU hW => ⟨rfl, by rw [hU], by rw [hU]; exact hPR, va_K.moved hW.alike hKR⟩⟩ rfl rfl hl.1 rfl (lv_room (Nat.le_of_ble_eq_true rfl)) (dt_at dt_Law_law_5 15 rfl) ⟨hcc.1, hcc.2⟩) hS (fun y _ h9 => hFR y h9) hFR (fun u_r6 uu t H1 locs ht hvm hw hB hz1 hk1 hS => ?_)
  obtain rfl : r6 = u_r6 := hw.symm
  rw [ht] at hB
  have hPT := kp_ap hPT (by rfl) hTR hk1
  have hTC := tapeC.keptR hK hKR hPR hTC hk1
  have hPU := kp_u hPU huR hk1
  have hPR : va_P D CLS (wR b r r4.2.1 r4.2.2.1 r4.2.2.2.1 r4.2.2.2.2.1 r4.2.2.2.2.2.1 r4.2.2.2.2.2.2.1 M.2.2.2.2.2.2.1 M.2.2.2.2.2.2.2.1 r4.2.2.2.2.2.2.2.1 r4.2.2.2.2.2.2.2.2.1 r4.2.2.2.2.2.2.2.2.2.1 r4.2.2.2.2.2.2.2.2.2.2.1 r4.2.2.2.2.2.2.2.2.2.2.2 M.2.2.2.2.2.2.2.2.2.2.2.2.2.1 M.2.2.2.2.2.2.2.2.2.2.2.2.2.2.1 M.2.2.2.2.2.2.2.2.2.2.2.2.2.2.2.1 M.2.2.2.2.2.2.2.2.2.2.2.2.2.2.2.2.1 M.2.2.2.2.2.2.2.2.2.2.2.2.2.2.2.2.2.1 M.2.2.2.2.2.2.2.2.2.2.2.2.2.2.2.2.2.2.1 M.2.2.2.2.2.2.2.2.2.2.2.2.2.2.2.2.2.2.2) H1 := hB
  refine W.widen (k := cells + 4) (n := slots + 12) (Nat.le_refl _) (Nat.le_refl _) ?_
  clear hFR hk1 hz1 hB ht
  generalize H1 = H at hPT hTC hPR hPU hS ⊢
  refine lv_iload hx hb (dt_at dt_Law_law_5 16 rfl) (lv_at hl 1 rfl) ?_
  refine lv_icmp_eq (tgt := 485) hx hb (dt_at dt_Law_law_5 17 rfl) (by decide) (fun c7 => ?_) (fun c7 => ?_)
  · have h := if_p h c7
    refine lv_iload hx hb (dt_at dt_Law_law_5 20 rfl) (lv_at hl 1 rfl) ?_
    refine lv_if_ne (tgt := 502) hx hb (dt_at dt_Law_law_5 21 rfl) (by decide) (fun c8 => ?_) (fun c8 => ?_)
    · have h := if_n h c8
      refine lv_goto (tgt := 819) hx hb (dt_at dt_Law_law_5 31 rfl) (by decide) ?_
      obtain rfl := os_of h
      refine W.widen (k := cells + 4) (n := slots + 12) (Nat.le_refl _) (Nat.le_refl _) ?_
      exact kk _ _ _ (lv_sub hl [2, 3, 4, 5, 6] rfl) hS ⟨⟨g3_2, hPT, hTC⟩, hPR, hPU⟩
    · have h := if_p h c8
      refine lv_aload_n hx hb (dt_at dt_Law_law_5 22 rfl) rfl (lv_at hl 5 rfl) ?_
      refine lv_iconst (v := 0) hx hb (dt_at dt_Law_law_5 23 rfl) (by decide) ?_
      refine va_lald hx hb hKu hPU 0 0 rfl rfl (i := 0) (vp_in_nI (n := 0) (by decide) (by decide)) (dt_at dt_Law_law_5 24 rfl) ?_
      refine lv_iload hx hb (dt_at dt_Law_law_5 25 rfl) (lv_at hl 0 rfl) ?_
      refine lv_i2l (v := t5.toInt64) hx hb (dt_at dt_Law_law_5 26 rfl) rfl ?_
      refine lc_eq (tgt := 502) hx hb (dt_at dt_Law_law_5 27 rfl) (dt_at dt_Law_law_5 28 rfl) (by decide) (fun c9 => ?_) (fun c9 => ?_)
      · have h := if_p h c9
        refine lv_goto (tgt := 819) hx hb (dt_at dt_Law_law_5 31 rfl) (by decide) ?_
        obtain rfl := os_of h
        refine W.widen (k := cells + 4) (n := slots + 12) (Nat.le_refl _) (Nat.le_refl _) ?_
        exact kk _ _ _ (lv_sub hl [2, 3, 4, 5, 6] rfl) hS ⟨⟨g3_2, hPT, hTC⟩, hPR, hPU⟩
      · have h := if_n h c9
        refine lv_iconst (v := 0) hx hb (dt_at dt_Law_law_5 29 rfl) (by decide) ?_
        exact nn_of h
  · have h := if_n h c7
    refine lv_iconst (v := 0) hx hb (dt_at dt_Law_law_5 18 rfl) (by decide) ?_
    exact nn_of h
set_option maxRecDepth 100000 in
set_option maxHeartbeats 4000000 in
theorem k_Law_c7 (hX0 : LwCX p l s m args meth c D a q b r u qu x L xs adK adV) (hv : LwV xs L iv v1 v2 v3 v4 v5) (hcc : cells + 4 ≤ room_1.cells ∧ slots + 12 ≤ room_1.slots) (hl : lv_has ls 7 [(0, .ref x), (1, .ref (a 0)), (2, .ref (b 0)), (3, .ref u), (4, .int iv)]) (hS : va_S (LwA s) s.heap H locs) (hLS : LwS D a q b r u qu T M gu H) (h : f_Law_c7 v1 v2 v3 v4 v5 T M gu = some S1) (kk : ∀ (ls : Array Slot) (H : Heap) (locs : List Loc), lv_has ls 7 [(0, .ref x), (1, .ref (a 0)), (2, .ref (b 0)), (3, .ref u), (4, .int iv)] → va_S (LwA s) s.heap H locs → LwS D a q b r u qu S1.1 S1.2.1 S1.2.2 H → W p l e room_1 s m args below meth c H locs (cells + 4) (slots + 12) Q (F0 m 819 ls [])) : W p l e room_1 s m args below meth c H locs cells slots Q (F0 m 505 ls []) := by
  obtain ⟨⟨hx, hb, hml, hown, hts, hr, hlocks⟩, hfl, hK, hKR, hKu, hSt, hN, hX, hxl, hDT, hDR, hau, hRT, hTR, huT, huR, hRTu⟩ := hX0
  obtain ⟨hin1, hin2, hin3, hin4, hin5, hv1, hv2, hv3, hv4, hv5⟩ := hv
  obtain ⟨⟨g3, hPT, hTC⟩, hPR, hPU⟩ := hLS
  have hdT : va_D (fun _ => True) (dT a) := hDT.weaken (fun _ _ _ _ => trivial)
  have hdR : va_D (fun _ => True) (dR b) := hDR.weaken (fun _ _ _ _ => trivial)
  rw [f_Law_c7] at h
  refine lv_aload_n hx hb (dt_at dt_Law_law_5 32 rfl) rfl (lv_at hl 1 rfl) ?_
  obtain ⟨r1, h_r1, h⟩ := ob_of h
  have hFT : ∀ y, va_A (dT a) H.size y → LwA s y := fr_of hDT hS
  refine va_calli (va_runV (As := []) (rest := []) ⟨hx, hb, hml, hown, hts⟩ (c_Tape_filled l D a q (a 5) (a 7) hdT H.size  T.1 T.2.1 T.2.2.1 g3 T.2.2.2.1 T.2.2.2.2.1 T.2.2.2.2.2.1 T.2.2.2.2.2.2.1 T.2.2.2.2.2.2.2.1 T.2.2.2.2.2.2.2.2.1 T.2.2.2.2.2.2.2.2.2.1 T.2.2.2.2.2.2.2.2.2.2.1 T.2.2.2.2.2.2.2.2.2.2.2.1 T.2.2.2.2.2.2.2.2.2.2.2.2.1 T.2.2.2.2.2.2.2.2.2.2.2.2.2.1 T.2.2.2.2.2.2.2.2.2.2.2.2.2.2.1 T.2.2.2.2.2.2.2.2.2.2.2.2.2.2.2.1 r1 h_r1) (cwV 0 hts (gd_V (m_1 107 rfl rfl) (m_1 108 rfl rfl) (m_1 109 rfl rfl) (m_1 1 rfl rfl) (m_1 110 rfl rfl)) rfl rfl rfl (by decide +kernel) ⟨Nat.le_of_ble_eq_true rfl, Nat.le_of_ble_eq_true rfl⟩) ⟨fun a U g mk q => ⟨q.1, q.2.1, q.2.2.1, va_K.moved (u := U) (U := U.calling g mk a) (Vm.Alike.refl U.vm) q.2.2.2⟩, va_recv hK hPT (ci := 1) (q0 := 0) rfl rfl, fun U hU hW => ⟨rfl, by rw [hU], by rw [hU]; exact hPT, va_K.moved hW.alike hK⟩⟩ rfl rfl hl.1 rfl (lv_room (Nat.le_of_ble_eq_true rfl)) (dt_at dt_Law_law_5 33 rfl) ⟨cn_le (by decide) hcc.1, cn_le (by decide) hcc.2⟩) hS (fun y _ h9 => hFT y h9) hFT (fun u_r1 uu t H1 locs ht hvm hw hB hz1 hk1 hS => ?_)
  obtain rfl : r1 = u_r1 := hw.symm
  rw [ht] at hB
  have hPR := kp_ap hPR (by rfl) hRT hk1
  have hPU := kp_u hPU huT hk1
  have hTC := hTC.kept hk1
  have hPT : va_P D CLS (wT a q (a 5) (a 7) T.1 T.2.1 T.2.2.1 g3 T.2.2.2.1 T.2.2.2.2.1 T.2.2.2.2.2.1 T.2.2.2.2.2.2.1 T.2.2.2.2.2.2.2.1 T.2.2.2.2.2.2.2.2.1 T.2.2.2.2.2.2.2.2.2.1 T.2.2.2.2.2.2.2.2.2.2.1 T.2.2.2.2.2.2.2.2.2.2.2.1 T.2.2.2.2.2.2.2.2.2.2.2.2.1 T.2.2.2.2.2.2.2.2.2.2.2.2.2.1 T.2.2.2.2.2.2.2.2.2.2.2.2.2.2.1 T.2.2.2.2.2.2.2.2.2.2.2.2.2.2.2.1) H1 := hB
  refine W.widen (k := cells) (n := slots) (Nat.le_refl _) (Nat.le_refl _) ?_
  clear hFT hk1 hz1 hB ht
  generalize H1 = H at hPT hTC hPR hPU hS ⊢
  refine lv_aload_n hx hb (dt_at dt_Law_law_5 34 rfl) rfl (lv_at hl 2 rfl) ?_
  obtain ⟨r2, h_r2, h⟩ := ob_of h
  have hFR : ∀ y, va_A (dR b) H.size y → LwA s y := fr_of hDR hS
  refine va_calli (va_runV (As := []) (rest := [.int r1]) ⟨hx, hb, hml, hown, hts⟩ (c_Ref_filled l D b r hdR H.size  M.1 M.2.1 M.2.2.1 M.2.2.2.1 M.2.2.2.2.1 M.2.2.2.2.2.1 M.2.2.2.2.2.2.1 M.2.2.2.2.2.2.2.1 M.2.2.2.2.2.2.2.2.1 M.2.2.2.2.2.2.2.2.2.1 M.2.2.2.2.2.2.2.2.2.2.1 M.2.2.2.2.2.2.2.2.2.2.2.1 M.2.2.2.2.2.2.2.2.2.2.2.2.1 M.2.2.2.2.2.2.2.2.2.2.2.2.2.1 M.2.2.2.2.2.2.2.2.2.2.2.2.2.2.1 M.2.2.2.2.2.2.2.2.2.2.2.2.2.2.2.1 M.2.2.2.2.2.2.2.2.2.2.2.2.2.2.2.2.1 M.2.2.2.2.2.2.2.2.2.2.2.2.2.2.2.2.2.1 M.2.2.2.2.2.2.2.2.2.2.2.2.2.2.2.2.2.2.1 M.2.2.2.2.2.2.2.2.2.2.2.2.2.2.2.2.2.2.2 r2 h_r2) (cwV 0 hts (gd_V (m_5 85 rfl rfl) (m_5 86 rfl rfl) (m_5 87 rfl rfl) (m_1 4 rfl rfl) (m_5 88 rfl rfl)) rfl rfl rfl (by decide +kernel) ⟨Nat.le_of_ble_eq_true rfl, Nat.le_of_ble_eq_true rfl⟩) ⟨fun a U g mk q => ⟨q.1, q.2.1, q.2.2.1, va_K.moved (u := U) (U := U.calling g mk a) (Vm.Alike.refl U.vm) q.2.2.2⟩, va_recv hKR hPR (ci := 0) (q0 := 0) rfl rfl, fun U hU hW => ⟨rfl, by rw [hU], by rw [hU]; exact hPR, va_K.moved hW.alike hKR⟩⟩ rfl rfl hl.1 rfl (lv_room (Nat.le_of_ble_eq_true rfl)) (dt_at dt_Law_law_5 35 rfl) ⟨cn_le (by decide) hcc.1, cn_le (by decide) hcc.2⟩) hS (fun y _ h9 => hFR y h9) hFR (fun u_r2 uu t H1 locs ht hvm hw hB hz1 hk1 hS => ?_)
  subst hw
  rw [ht] at hB
  have hPT := kp_ap hPT (by rfl) hTR hk1
  have hTC := tapeC.keptR hK hKR hPR hTC hk1
  have hPU := kp_u hPU huR hk1
  have hPR : va_P D CLS (wR b r M.1 M.2.1 M.2.2.1 M.2.2.2.1 M.2.2.2.2.1 r2.2 M.2.2.2.2.2.2.1 M.2.2.2.2.2.2.2.1 M.2.2.2.2.2.2.2.2.1 M.2.2.2.2.2.2.2.2.2.1 M.2.2.2.2.2.2.2.2.2.2.1 M.2.2.2.2.2.2.2.2.2.2.2.1 M.2.2.2.2.2.2.2.2.2.2.2.2.1 M.2.2.2.2.2.2.2.2.2.2.2.2.2.1 M.2.2.2.2.2.2.2.2.2.2.2.2.2.2.1 M.2.2.2.2.2.2.2.2.2.2.2.2.2.2.2.1 M.2.2.2.2.2.2.2.2.2.2.2.2.2.2.2.2.1 M.2.2.2.2.2.2.2.2.2.2.2.2.2.2.2.2.2.1 M.2.2.2.2.2.2.2.2.2.2.2.2.2.2.2.2.2.2.1 M.2.2.2.2.2.2.2.2.2.2.2.2.2.2.2.2.2.2.2) H1 := hB
  refine W.widen (k := cells) (n := slots) (Nat.le_refl _) (Nat.le_refl _) ?_
  clear hFR hk1 hz1 hB ht
  generalize H1 = H at hPT hTC hPR hPU hS ⊢
  refine lv_icmp_eq (tgt := 819) hx hb (dt_at dt_Law_law_5 36 rfl) (by decide) (fun c3 => ?_) (fun c3 => ?_)
  · have h := if_p h c3
    obtain rfl := os_of h
    refine W.widen (k := cells + 4) (n := slots + 12) (cn_w (by decide)) (cn_w (by decide)) ?_
    exact kk _ _ _ (lv_sub hl [0, 1, 2, 3, 4] rfl) hS ⟨⟨g3, hPT, hTC⟩, hPR, hPU⟩
  · have h := if_n h c3
    refine lv_iconst (v := 0) hx hb (dt_at dt_Law_law_5 37 rfl) (by decide) ?_
    exact nn_of h
set_option maxRecDepth 100000 in
set_option maxHeartbeats 4000000 in
theorem k_Law_c8 (hX0 : LwCX p l s m args meth c D a q b r u qu x L xs adK adV) (hv : LwV xs L iv v1 v2 v3 v4 v5) (hcc : cells + 4 ≤ room_1.cells ∧ slots + 12 ≤ room_1.slots) (hl : lv_has ls 7 [(0, .ref x), (1, .ref (a 0)), (2, .ref (b 0)), (3, .ref u), (4, .int iv)]) (hS : va_S (LwA s) s.heap H locs) (hLS : LwS D a q b r u qu T M gu H) (h : f_Law_c8 v1 v2 v3 v4 v5 T M gu = some S1) (kk : ∀ (ls : Array Slot) (H : Heap) (locs : List Loc), lv_has ls 7 [(0, .ref x), (1, .ref (a 0)), (2, .ref (b 0)), (3, .ref u), (4, .int iv)] → va_S (LwA s) s.heap H locs → LwS D a q b r u qu S1.1 S1.2.1 S1.2.2 H → W p l e room_1 s m args below meth c H locs (cells + 4) (slots + 12) Q (F0 m 819 ls [])) : W p l e room_1 s m args below meth c H locs cells slots Q (F0 m 518 ls []) := by
  obtain ⟨⟨hx, hb, hml, hown, hts, hr, hlocks⟩, hfl, hK, hKR, hKu, hSt, hN, hX, hxl, hDT, hDR, hau, hRT, hTR, huT, huR, hRTu⟩ := hX0
  obtain ⟨hin1, hin2, hin3, hin4, hin5, hv1, hv2, hv3, hv4, hv5⟩ := hv
  obtain ⟨⟨g3, hPT, hTC⟩, hPR, hPU⟩ := hLS
  have hdT : va_D (fun _ => True) (dT a) := hDT.weaken (fun _ _ _ _ => trivial)
  have hdR : va_D (fun _ => True) (dR b) := hDR.weaken (fun _ _ _ _ => trivial)
  rw [f_Law_c8] at h
  refine lv_aload_n hx hb (dt_at dt_Law_law_5 39 rfl) rfl (lv_at hl 1 rfl) ?_
  refine lv_aload_n hx hb (dt_at dt_Law_law_5 40 rfl) rfl (lv_at hl 0 rfl) ?_
  refine lv_iload hx hb (dt_at dt_Law_law_5 41 rfl) (lv_at hl 4 rfl) ?_
  refine lv_iconst (v := 1) hx hb (dt_at dt_Law_law_5 42 rfl) (by decide) ?_
  refine lv_iadd hx hb (dt_at dt_Law_law_5 43 rfl) ?_
  refine va_sld hx hb hX hxl (fun h9 => absurd hxl (Nat.not_lt.mpr h9)) hS hin1 (dt_at dt_Law_law_5 44 rfl) ?_
  rw [hv1]
  refine lv_aload_n hx hb (dt_at dt_Law_law_5 45 rfl) rfl (lv_at hl 3 rfl) ?_
  obtain ⟨r1, h_r1, h⟩ := ob_of h
  have hFW : ∀ y, va_A (dT a ++ [(u, .inr (0, []))]) H.size y → LwA s y := fr_ofU hDT hau hS
  refine va_calli (run_SW (As := [.ref (a 0), .int v1, .ref u]) (rest := []) (index := 79) (n := 3) ⟨hx, hb, hml, hown, hts⟩ (c_Law_decoration l hfl D a q hdT u qu huT H.size gu v1 T.1 T.2.1 T.2.2.1 g3 T.2.2.2.1 T.2.2.2.2.1 T.2.2.2.2.2.1 T.2.2.2.2.2.2.1 T.2.2.2.2.2.2.2.1 T.2.2.2.2.2.2.2.2.1 T.2.2.2.2.2.2.2.2.2.1 T.2.2.2.2.2.2.2.2.2.2.1 T.2.2.2.2.2.2.2.2.2.2.2.1 T.2.2.2.2.2.2.2.2.2.2.2.2.1 T.2.2.2.2.2.2.2.2.2.2.2.2.2.1 T.2.2.2.2.2.2.2.2.2.2.2.2.2.2.1 T.2.2.2.2.2.2.2.2.2.2.2.2.2.2.2.1 T.2.2.2.2.2.2.2.2.2.2.2.2.2.2.2.2 s.heap.size adK adV hFW r1 h_r1) rfl rfl (Nat.le_of_ble_eq_true rfl) (Nat.le_of_ble_eq_true rfl) (gd_c (m_3 228 rfl rfl)) List.mem_cons_self (m_1 0 rfl rfl) (m_3 226 rfl rfl) (m_3 227 rfl rfl) (by decide +kernel) ⟨fun a U g mk q => ⟨q.1, q.2.1, q.2.2.1, va_K.moved (u := U) (U := U.calling g mk a) (Vm.Alike.refl U.vm) q.2.2.2.1, q.2.2.2.2.1, isS.call q.2.2.2.2.2.1, q.2.2.2.2.2.2.1, va_K.moved (u := U) (U := U.calling g mk a) (Vm.Alike.refl U.vm) q.2.2.2.2.2.2.2.1, ncX.moved (u := U) (U := U.calling g mk a) (Vm.Alike.refl U.vm) q.2.2.2.2.2.2.2.2⟩, fun U hU hW => ⟨rfl, by rw [hU], by rw [hU]; exact hPT, va_K.moved hW.alike hK, by rw [hU]; exact hTC, hSt.go hS (fun _ h9 => h9) hU hW, by rw [hU]; exact hPU, va_K.moved hW.alike hKu, ncX.moved hW.alike hN⟩⟩ rfl rfl hl.1 rfl (lv_room (Nat.le_of_ble_eq_true rfl)) (dt_at dt_Law_law_5 46 rfl) ⟨cn_le (by decide) hcc.1, cn_le (by decide) hcc.2⟩) hS (fun y _ h9 => hFW y h9) hFW (fun u_r1 uu t H1 locs ht hvm hw hB hz1 hk1 hS => ?_)
  subst hw
  obtain ⟨g3_2, hB, hTB, hUB⟩ := hB
  rw [ht] at hTB
  rw [ht] at hB
  rw [ht] at hUB
  have hPR := kp_ap hPR (by rfl) hRTu hk1
  have hPU : va_P D CLS [(u, .inl (qu, 1, .inr (.inl (fun _ => r1.2))))] H1 := hUB
  have hTC : tapeC D (dT a) g3_2 T.2.2.2.2.2.2.2.2.2.2.2.2.2.2.2.2 H1 := hTB
  have hPT : va_P D CLS (wT a q (a 5) (a 7) T.1 T.2.1 T.2.2.1 g3_2 T.2.2.2.1 T.2.2.2.2.1 T.2.2.2.2.2.1 T.2.2.2.2.2.2.1 T.2.2.2.2.2.2.2.1 T.2.2.2.2.2.2.2.2.1 T.2.2.2.2.2.2.2.2.2.1 T.2.2.2.2.2.2.2.2.2.2.1 T.2.2.2.2.2.2.2.2.2.2.2.1 T.2.2.2.2.2.2.2.2.2.2.2.2.1 T.2.2.2.2.2.2.2.2.2.2.2.2.2.1 T.2.2.2.2.2.2.2.2.2.2.2.2.2.2.1 T.2.2.2.2.2.2.2.2.2.2.2.2.2.2.2.1) H1 := hB
  refine W.widen (k := cells + 4) (n := slots + 12) (Nat.add_le_add_left (by decide) _) (Nat.add_le_add_left (by decide) _) ?_
  clear hFW hk1 hz1 hB ht
  generalize H1 = H at hPT hTC hPR hPU hS ⊢
  obtain ⟨t3, e_t3, h⟩ := ol_of h
  refine lv_topi (fun u_t3 q_t3 => ?_)
  obtain rfl : t3 = u_t3 := e_t3.trans q_t3.symm
  refine lv_istore (lv' := [(5, .int t3), (0, .ref x), (1, .ref (a 0)), (2, .ref (b 0)), (3, .ref u), (4, .int iv)]) hx hb (dt_at dt_Law_law_5 47 rfl) hl (by decide) rfl (fun ls hl => ?_)
  refine lv_aload_n hx hb (dt_at dt_Law_law_5 48 rfl) rfl (lv_at hl 3 rfl) ?_
  refine lv_aload_n hx hb (dt_at dt_Law_law_5 49 rfl) rfl (lv_at hl 1 rfl) ?_
  refine lv_iload hx hb (dt_at dt_Law_law_6 0 rfl) (lv_at hl 5 rfl) ?_
  refine lv_iconst (v := 1) hx hb (dt_at dt_Law_law_6 1 rfl) (by decide) ?_
  refine lv_iadd hx hb (dt_at dt_Law_law_6 2 rfl) ?_
  refine va_sld hx hb hX hxl (fun h9 => absurd hxl (Nat.not_lt.mpr h9)) hS hin1 (dt_at dt_Law_law_6 3 rfl) ?_
  rw [hv1]
  obtain ⟨r4, h_r4, h⟩ := ob_of h
  have hFR : ∀ y, va_A (dR b) H.size y → LwA s y := fr_of hDR hS
  refine va_calli (va_runV (As := [.int v1]) (rest := []) ⟨hx, hb, hml, hown, hts⟩ (c_Ref_decoration l D b r hdR H.size v1 M.1 M.2.1 M.2.2.1 M.2.2.2.1 M.2.2.2.2.1 M.2.2.2.2.2.1 M.2.2.2.2.2.2.1 M.2.2.2.2.2.2.2.1 M.2.2.2.2.2.2.2.2.1 M.2.2.2.2.2.2.2.2.2.1 M.2.2.2.2.2.2.2.2.2.2.1 M.2.2.2.2.2.2.2.2.2.2.2.1 M.2.2.2.2.2.2.2.2.2.2.2.2.1 M.2.2.2.2.2.2.2.2.2.2.2.2.2.1 M.2.2.2.2.2.2.2.2.2.2.2.2.2.2.1 M.2.2.2.2.2.2.2.2.2.2.2.2.2.2.2.1 M.2.2.2.2.2.2.2.2.2.2.2.2.2.2.2.2.1 M.2.2.2.2.2.2.2.2.2.2.2.2.2.2.2.2.2.1 M.2.2.2.2.2.2.2.2.2.2.2.2.2.2.2.2.2.2.1 M.2.2.2.2.2.2.2.2.2.2.2.2.2.2.2.2.2.2.2 r4 h_r4) (cwV 1 hts (gd_V (m_5 89 rfl rfl) (m_5 90 rfl rfl) (m_5 91 rfl rfl) (m_1 4 rfl rfl) (m_5 92 rfl rfl)) rfl rfl rfl (by decide +kernel) ⟨Nat.le_of_ble_eq_true rfl, Nat.le_of_ble_eq_true rfl⟩) ⟨fun a U g mk q => ⟨q.1, q.2.1, q.2.2.1, va_K.moved (u := U) (U := U.calling g mk a) (Vm.Alike.refl U.vm) q.2.2.2⟩, va_recv hKR hPR (ci := 0) (q0 := 0) rfl rfl, fun U hU hW => ⟨rfl, by rw [hU], by rw [hU]; exact hPR, va_K.moved hW.alike hKR⟩⟩ rfl rfl hl.1 rfl (lv_room (Nat.le_of_ble_eq_true rfl)) (dt_at dt_Law_law_6 4 rfl) ⟨hcc.1, hcc.2⟩) hS (fun y _ h9 => hFR y h9) hFR (fun u_r4 uu t H1 locs ht hvm hw hB hz1 hk1 hS => ?_)
  subst hw
  rw [ht] at hB
  have hPT := kp_ap hPT (by rfl) hTR hk1
  have hTC := tapeC.keptR hK hKR hPR hTC hk1
  have hPU := kp_u hPU huR hk1
  have hPR : va_P D CLS (wR b r M.1 M.2.1 M.2.2.1 M.2.2.2.1 M.2.2.2.2.1 r4.2 M.2.2.2.2.2.2.1 M.2.2.2.2.2.2.2.1 M.2.2.2.2.2.2.2.2.1 M.2.2.2.2.2.2.2.2.2.1 M.2.2.2.2.2.2.2.2.2.2.1 M.2.2.2.2.2.2.2.2.2.2.2.1 M.2.2.2.2.2.2.2.2.2.2.2.2.1 M.2.2.2.2.2.2.2.2.2.2.2.2.2.1 M.2.2.2.2.2.2.2.2.2.2.2.2.2.2.1 M.2.2.2.2.2.2.2.2.2.2.2.2.2.2.2.1 M.2.2.2.2.2.2.2.2.2.2.2.2.2.2.2.2.1 M.2.2.2.2.2.2.2.2.2.2.2.2.2.2.2.2.2.1 M.2.2.2.2.2.2.2.2.2.2.2.2.2.2.2.2.2.2.1 M.2.2.2.2.2.2.2.2.2.2.2.2.2.2.2.2.2.2.2) H1 := hB
  refine W.widen (k := cells + 4) (n := slots + 12) (Nat.le_refl _) (Nat.le_refl _) ?_
  clear hFR hk1 hz1 hB ht
  generalize H1 = H at hPT hTC hPR hPU hS ⊢
  obtain ⟨t5, e_t5, h⟩ := ol_of h
  refine lv_topi (fun u_t5 q_t5 => ?_)
  obtain rfl : t5 = u_t5 := e_t5.trans q_t5.symm
  refine lv_istore (lv' := [(6, .int t5), (5, .int t3), (0, .ref x), (1, .ref (a 0)), (2, .ref (b 0)), (3, .ref u), (4, .int iv)]) hx hb (dt_at dt_Law_law_6 5 rfl) hl (by decide) rfl (fun ls hl => ?_)
  refine lv_aload_n hx hb (dt_at dt_Law_law_6 6 rfl) rfl (lv_at hl 4 rfl) ?_
  obtain ⟨r6, h_r6, h⟩ := ob_of h
  have hFR : ∀ y, va_A (dR b) H.size y → LwA s y := fr_of hDR hS
  refine va_calli (va_runV (As := []) (rest := []) ⟨hx, hb, hml, hown, hts⟩ (c_Ref_thrown l D b r hdR H.size  M.1 M.2.1 M.2.2.1 M.2.2.2.1 M.2.2.2.2.1 r4.2 M.2.2.2.2.2.2.1 M.2.2.2.2.2.2.2.1 M.2.2.2.2.2.2.2.2.1 M.2.2.2.2.2.2.2.2.2.1 M.2.2.2.2.2.2.2.2.2.2.1 M.2.2.2.2.2.2.2.2.2.2.2.1 M.2.2.2.2.2.2.2.2.2.2.2.2.1 M.2.2.2.2.2.2.2.2.2.2.2.2.2.1 M.2.2.2.2.2.2.2.2.2.2.2.2.2.2.1 M.2.2.2.2.2.2.2.2.2.2.2.2.2.2.2.1 M.2.2.2.2.2.2.2.2.2.2.2.2.2.2.2.2.1 M.2.2.2.2.2.2.2.2.2.2.2.2.2.2.2.2.2.1 M.2.2.2.2.2.2.2.2.2.2.2.2.2.2.2.2.2.2.1 M.2.2.2.2.2.2.2.2.2.2.2.2.2.2.2.2.2.2.2 r6 h_r6) (cwV 0 hts (gd_V (m_4 61 rfl rfl) (m_4 62 rfl rfl) (m_4 63 rfl rfl) (m_1 4 rfl rfl) (m_4 64 rfl rfl)) rfl rfl rfl (by decide +kernel) ⟨Nat.le_of_ble_eq_true rfl, Nat.le_of_ble_eq_true rfl⟩) ⟨fun a U g mk q => ⟨q.1, q.2.1, q.2.2.1, va_K.moved (u := U) (U := U.calling g mk a) (Vm.Alike.refl U.vm) q.2.2.2⟩, va_recv hKR hPR (ci := 0) (q0 := 0) rfl rfl, fun U hU hW => ⟨rfl, by rw [hU], by rw [hU]; exact hPR, va_K.moved hW.alike hKR⟩⟩ rfl rfl hl.1 rfl (lv_room (Nat.le_of_ble_eq_true rfl)) (dt_at dt_Law_law_6 7 rfl) ⟨hcc.1, hcc.2⟩) hS (fun y _ h9 => hFR y h9) hFR (fun u_r6 uu t H1 locs ht hvm hw hB hz1 hk1 hS => ?_)
  obtain rfl : r6 = u_r6 := hw.symm
  rw [ht] at hB
  have hPT := kp_ap hPT (by rfl) hTR hk1
  have hTC := tapeC.keptR hK hKR hPR hTC hk1
  have hPU := kp_u hPU huR hk1
  have hPR : va_P D CLS (wR b r M.1 M.2.1 M.2.2.1 M.2.2.2.1 M.2.2.2.2.1 r4.2 M.2.2.2.2.2.2.1 M.2.2.2.2.2.2.2.1 M.2.2.2.2.2.2.2.2.1 M.2.2.2.2.2.2.2.2.2.1 M.2.2.2.2.2.2.2.2.2.2.1 M.2.2.2.2.2.2.2.2.2.2.2.1 M.2.2.2.2.2.2.2.2.2.2.2.2.1 M.2.2.2.2.2.2.2.2.2.2.2.2.2.1 M.2.2.2.2.2.2.2.2.2.2.2.2.2.2.1 M.2.2.2.2.2.2.2.2.2.2.2.2.2.2.2.1 M.2.2.2.2.2.2.2.2.2.2.2.2.2.2.2.2.1 M.2.2.2.2.2.2.2.2.2.2.2.2.2.2.2.2.2.1 M.2.2.2.2.2.2.2.2.2.2.2.2.2.2.2.2.2.2.1 M.2.2.2.2.2.2.2.2.2.2.2.2.2.2.2.2.2.2.2) H1 := hB
  refine W.widen (k := cells + 4) (n := slots + 12) (Nat.le_refl _) (Nat.le_refl _) ?_
  clear hFR hk1 hz1 hB ht
  generalize H1 = H at hPT hTC hPR hPU hS ⊢
  refine lv_iload hx hb (dt_at dt_Law_law_6 8 rfl) (lv_at hl 1 rfl) ?_
  refine lv_icmp_eq (tgt := 554) hx hb (dt_at dt_Law_law_6 9 rfl) (by decide) (fun c7 => ?_) (fun c7 => ?_)
  · have h := if_p h c7
    refine lv_iload hx hb (dt_at dt_Law_law_6 12 rfl) (lv_at hl 1 rfl) ?_
    refine lv_if_ne (tgt := 571) hx hb (dt_at dt_Law_law_6 13 rfl) (by decide) (fun c8 => ?_) (fun c8 => ?_)
    · have h := if_n h c8
      refine lv_goto (tgt := 819) hx hb (dt_at dt_Law_law_6 23 rfl) (by decide) ?_
      obtain rfl := os_of h
      refine W.widen (k := cells + 4) (n := slots + 12) (Nat.le_refl _) (Nat.le_refl _) ?_
      exact kk _ _ _ (lv_sub hl [2, 3, 4, 5, 6] rfl) hS ⟨⟨g3_2, hPT, hTC⟩, hPR, hPU⟩
    · have h := if_p h c8
      refine lv_aload_n hx hb (dt_at dt_Law_law_6 14 rfl) rfl (lv_at hl 5 rfl) ?_
      refine lv_iconst (v := 0) hx hb (dt_at dt_Law_law_6 15 rfl) (by decide) ?_
      refine va_lald hx hb hKu hPU 0 0 rfl rfl (i := 0) (vp_in_nI (n := 0) (by decide) (by decide)) (dt_at dt_Law_law_6 16 rfl) ?_
      refine lv_iload hx hb (dt_at dt_Law_law_6 17 rfl) (lv_at hl 0 rfl) ?_
      refine lv_i2l (v := t5.toInt64) hx hb (dt_at dt_Law_law_6 18 rfl) rfl ?_
      refine lc_eq (tgt := 571) hx hb (dt_at dt_Law_law_6 19 rfl) (dt_at dt_Law_law_6 20 rfl) (by decide) (fun c9 => ?_) (fun c9 => ?_)
      · have h := if_p h c9
        refine lv_goto (tgt := 819) hx hb (dt_at dt_Law_law_6 23 rfl) (by decide) ?_
        obtain rfl := os_of h
        refine W.widen (k := cells + 4) (n := slots + 12) (Nat.le_refl _) (Nat.le_refl _) ?_
        exact kk _ _ _ (lv_sub hl [2, 3, 4, 5, 6] rfl) hS ⟨⟨g3_2, hPT, hTC⟩, hPR, hPU⟩
      · have h := if_n h c9
        refine lv_iconst (v := 0) hx hb (dt_at dt_Law_law_6 21 rfl) (by decide) ?_
        exact nn_of h
  · have h := if_n h c7
    refine lv_iconst (v := 0) hx hb (dt_at dt_Law_law_6 10 rfl) (by decide) ?_
    exact nn_of h
set_option maxRecDepth 100000 in
set_option maxHeartbeats 4000000 in
theorem k_Law_c9 (hX0 : LwCX p l s m args meth c D a q b r u qu x L xs adK adV) (hv : LwV xs L iv v1 v2 v3 v4 v5) (hcc : cells + 4 ≤ room_1.cells ∧ slots + 12 ≤ room_1.slots) (hl : lv_has ls 7 [(0, .ref x), (1, .ref (a 0)), (2, .ref (b 0)), (3, .ref u), (4, .int iv)]) (hS : va_S (LwA s) s.heap H locs) (hLS : LwS D a q b r u qu T M gu H) (h : f_Law_c9 v1 v2 v3 v4 v5 T M gu = some S1) (kk : ∀ (ls : Array Slot) (H : Heap) (locs : List Loc), lv_has ls 7 [(0, .ref x), (1, .ref (a 0)), (2, .ref (b 0)), (3, .ref u), (4, .int iv)] → va_S (LwA s) s.heap H locs → LwS D a q b r u qu S1.1 S1.2.1 S1.2.2 H → W p l e room_1 s m args below meth c H locs (cells + 4) (slots + 12) Q (F0 m 819 ls [])) : W p l e room_1 s m args below meth c H locs cells slots Q (F0 m 574 ls []) := by
  obtain ⟨⟨hx, hb, hml, hown, hts, hr, hlocks⟩, hfl, hK, hKR, hKu, hSt, hN, hX, hxl, hDT, hDR, hau, hRT, hTR, huT, huR, hRTu⟩ := hX0
  obtain ⟨hin1, hin2, hin3, hin4, hin5, hv1, hv2, hv3, hv4, hv5⟩ := hv
  obtain ⟨⟨g3, hPT, hTC⟩, hPR, hPU⟩ := hLS
  have hdT : va_D (fun _ => True) (dT a) := hDT.weaken (fun _ _ _ _ => trivial)
  have hdR : va_D (fun _ => True) (dR b) := hDR.weaken (fun _ _ _ _ => trivial)
  rw [f_Law_c9] at h
  refine lv_aload_n hx hb (dt_at dt_Law_law_6 24 rfl) rfl (lv_at hl 1 rfl) ?_
  refine lv_aload_n hx hb (dt_at dt_Law_law_6 25 rfl) rfl (lv_at hl 0 rfl) ?_
  refine lv_iload hx hb (dt_at dt_Law_law_6 26 rfl) (lv_at hl 4 rfl) ?_
  refine lv_iconst (v := 1) hx hb (dt_at dt_Law_law_6 27 rfl) (by decide) ?_
  refine lv_iadd hx hb (dt_at dt_Law_law_6 28 rfl) ?_
  refine va_sld hx hb hX hxl (fun h9 => absurd hxl (Nat.not_lt.mpr h9)) hS hin1 (dt_at dt_Law_law_6 29 rfl) ?_
  rw [hv1]
  obtain ⟨r1, h_r1, h⟩ := ob_of h
  have hFT : ∀ y, va_A (dT a) H.size y → LwA s y := fr_of hDT hS
  refine va_calli (va_runV (As := [.int v1]) (rest := []) ⟨hx, hb, hml, hown, hts⟩ (c_Tape_isEmpty l D a q (a 5) (a 7) hdT H.size v1 T.1 T.2.1 T.2.2.1 g3 T.2.2.2.1 T.2.2.2.2.1 T.2.2.2.2.2.1 T.2.2.2.2.2.2.1 T.2.2.2.2.2.2.2.1 T.2.2.2.2.2.2.2.2.1 T.2.2.2.2.2.2.2.2.2.1 T.2.2.2.2.2.2.2.2.2.2.1 T.2.2.2.2.2.2.2.2.2.2.2.1 T.2.2.2.2.2.2.2.2.2.2.2.2.1 T.2.2.2.2.2.2.2.2.2.2.2.2.2.1 T.2.2.2.2.2.2.2.2.2.2.2.2.2.2.1 T.2.2.2.2.2.2.2.2.2.2.2.2.2.2.2.1 T.2.2.2.2.2.2.2.2.2.2.2.2.2.2.2.2 r1 h_r1) (cwV 1 hts (gd_V (m_1 111 rfl rfl) (m_1 112 rfl rfl) (m_1 113 rfl rfl) (m_1 1 rfl rfl) (m_1 114 rfl rfl)) rfl rfl rfl (by decide +kernel) ⟨Nat.le_of_ble_eq_true rfl, Nat.le_of_ble_eq_true rfl⟩) ⟨fun a U g mk q => ⟨q.1, q.2.1, q.2.2.1, va_K.moved (u := U) (U := U.calling g mk a) (Vm.Alike.refl U.vm) q.2.2.2.1, q.2.2.2.2⟩, va_recv hK hPT (ci := 1) (q0 := 0) rfl rfl, fun U hU hW => ⟨rfl, by rw [hU], by rw [hU]; exact hPT, va_K.moved hW.alike hK, by rw [hU]; exact hTC⟩⟩ rfl rfl hl.1 rfl (lv_room (Nat.le_of_ble_eq_true rfl)) (dt_at dt_Law_law_6 30 rfl) ⟨cn_le (by decide) hcc.1, cn_le (by decide) hcc.2⟩) hS (fun y _ h9 => hFT y h9) hFT (fun u_r1 uu t H1 locs ht hvm hw hB hz1 hk1 hS => ?_)
  obtain rfl : r1 = u_r1 := hw.symm
  obtain ⟨hB, hTB⟩ := hB
  rw [ht] at hTB
  rw [ht] at hB
  have hPR := kp_ap hPR (by rfl) hRT hk1
  have hPU := kp_u hPU huT hk1
  have hTC : tapeC D (dT a) g3 T.2.2.2.2.2.2.2.2.2.2.2.2.2.2.2.2 H1 := hTB
  have hPT : va_P D CLS (wT a q (a 5) (a 7) T.1 T.2.1 T.2.2.1 g3 T.2.2.2.1 T.2.2.2.2.1 T.2.2.2.2.2.1 T.2.2.2.2.2.2.1 T.2.2.2.2.2.2.2.1 T.2.2.2.2.2.2.2.2.1 T.2.2.2.2.2.2.2.2.2.1 T.2.2.2.2.2.2.2.2.2.2.1 T.2.2.2.2.2.2.2.2.2.2.2.1 T.2.2.2.2.2.2.2.2.2.2.2.2.1 T.2.2.2.2.2.2.2.2.2.2.2.2.2.1 T.2.2.2.2.2.2.2.2.2.2.2.2.2.2.1 T.2.2.2.2.2.2.2.2.2.2.2.2.2.2.2.1) H1 := hB
  refine W.widen (k := cells) (n := slots) (Nat.le_refl _) (Nat.le_refl _) ?_
  clear hFT hk1 hz1 hB ht
  generalize H1 = H at hPT hTC hPR hPU hS ⊢
  refine lv_aload_n hx hb (dt_at dt_Law_law_6 31 rfl) rfl (lv_at hl 2 rfl) ?_
  refine lv_aload_n hx hb (dt_at dt_Law_law_6 32 rfl) rfl (lv_at hl 0 rfl) ?_
  refine lv_iload hx hb (dt_at dt_Law_law_6 33 rfl) (lv_at hl 4 rfl) ?_
  refine lv_iconst (v := 1) hx hb (dt_at dt_Law_law_6 34 rfl) (by decide) ?_
  refine lv_iadd hx hb (dt_at dt_Law_law_6 35 rfl) ?_
  refine va_sld hx hb hX hxl (fun h9 => absurd hxl (Nat.not_lt.mpr h9)) hS hin1 (dt_at dt_Law_law_6 36 rfl) ?_
  rw [hv1]
  obtain ⟨r2, h_r2, h⟩ := ob_of h
  have hFR : ∀ y, va_A (dR b) H.size y → LwA s y := fr_of hDR hS
  refine va_calli (va_runV (As := [.int v1]) (rest := [.int r1]) ⟨hx, hb, hml, hown, hts⟩ (c_Ref_isEmpty l D b r hdR H.size v1 M.1 M.2.1 M.2.2.1 M.2.2.2.1 M.2.2.2.2.1 M.2.2.2.2.2.1 M.2.2.2.2.2.2.1 M.2.2.2.2.2.2.2.1 M.2.2.2.2.2.2.2.2.1 M.2.2.2.2.2.2.2.2.2.1 M.2.2.2.2.2.2.2.2.2.2.1 M.2.2.2.2.2.2.2.2.2.2.2.1 M.2.2.2.2.2.2.2.2.2.2.2.2.1 M.2.2.2.2.2.2.2.2.2.2.2.2.2.1 M.2.2.2.2.2.2.2.2.2.2.2.2.2.2.1 M.2.2.2.2.2.2.2.2.2.2.2.2.2.2.2.1 M.2.2.2.2.2.2.2.2.2.2.2.2.2.2.2.2.1 M.2.2.2.2.2.2.2.2.2.2.2.2.2.2.2.2.2.1 M.2.2.2.2.2.2.2.2.2.2.2.2.2.2.2.2.2.2.1 M.2.2.2.2.2.2.2.2.2.2.2.2.2.2.2.2.2.2.2 r2 h_r2) (cwV 1 hts (gd_V (m_5 93 rfl rfl) (m_5 94 rfl rfl) (m_5 95 rfl rfl) (m_1 4 rfl rfl) (m_5 96 rfl rfl)) rfl rfl rfl (by decide +kernel) ⟨Nat.le_of_ble_eq_true rfl, Nat.le_of_ble_eq_true rfl⟩) ⟨fun a U g mk q => ⟨q.1, q.2.1, q.2.2.1, va_K.moved (u := U) (U := U.calling g mk a) (Vm.Alike.refl U.vm) q.2.2.2⟩, va_recv hKR hPR (ci := 0) (q0 := 0) rfl rfl, fun U hU hW => ⟨rfl, by rw [hU], by rw [hU]; exact hPR, va_K.moved hW.alike hKR⟩⟩ rfl rfl hl.1 rfl (lv_room (Nat.le_of_ble_eq_true rfl)) (dt_at dt_Law_law_6 37 rfl) ⟨cn_le (by decide) hcc.1, cn_le (by decide) hcc.2⟩) hS (fun y _ h9 => hFR y h9) hFR (fun u_r2 uu t H1 locs ht hvm hw hB hz1 hk1 hS => ?_)
  subst hw
  rw [ht] at hB
  have hPT := kp_ap hPT (by rfl) hTR hk1
  have hTC := tapeC.keptR hK hKR hPR hTC hk1
  have hPU := kp_u hPU huR hk1
  have hPR : va_P D CLS (wR b r M.1 M.2.1 M.2.2.1 M.2.2.2.1 M.2.2.2.2.1 r2.2 M.2.2.2.2.2.2.1 M.2.2.2.2.2.2.2.1 M.2.2.2.2.2.2.2.2.1 M.2.2.2.2.2.2.2.2.2.1 M.2.2.2.2.2.2.2.2.2.2.1 M.2.2.2.2.2.2.2.2.2.2.2.1 M.2.2.2.2.2.2.2.2.2.2.2.2.1 M.2.2.2.2.2.2.2.2.2.2.2.2.2.1 M.2.2.2.2.2.2.2.2.2.2.2.2.2.2.1 M.2.2.2.2.2.2.2.2.2.2.2.2.2.2.2.1 M.2.2.2.2.2.2.2.2.2.2.2.2.2.2.2.2.1 M.2.2.2.2.2.2.2.2.2.2.2.2.2.2.2.2.2.1 M.2.2.2.2.2.2.2.2.2.2.2.2.2.2.2.2.2.2.1 M.2.2.2.2.2.2.2.2.2.2.2.2.2.2.2.2.2.2.2) H1 := hB
  refine W.widen (k := cells) (n := slots) (Nat.le_refl _) (Nat.le_refl _) ?_
  clear hFR hk1 hz1 hB ht
  generalize H1 = H at hPT hTC hPR hPU hS ⊢
  refine lv_icmp_eq (tgt := 819) hx hb (dt_at dt_Law_law_6 38 rfl) (by decide) (fun c3 => ?_) (fun c3 => ?_)
  · have h := if_p h c3
    obtain rfl := os_of h
    refine W.widen (k := cells + 4) (n := slots + 12) (cn_w (by decide)) (cn_w (by decide)) ?_
    exact kk _ _ _ (lv_sub hl [0, 1, 2, 3, 4] rfl) hS ⟨⟨g3, hPT, hTC⟩, hPR, hPU⟩
  · have h := if_n h c3
    refine lv_iconst (v := 0) hx hb (dt_at dt_Law_law_6 39 rfl) (by decide) ?_
    exact nn_of h
set_option maxRecDepth 100000 in
set_option maxHeartbeats 4000000 in
theorem k_Law_c10 (hX0 : LwCX p l s m args meth c D a q b r u qu x L xs adK adV) (hv : LwV xs L iv v1 v2 v3 v4 v5) (hcc : cells + 4 ≤ room_1.cells ∧ slots + 12 ≤ room_1.slots) (hl : lv_has ls 7 [(0, .ref x), (1, .ref (a 0)), (2, .ref (b 0)), (3, .ref u), (4, .int iv)]) (hS : va_S (LwA s) s.heap H locs) (hLS : LwS D a q b r u qu T M gu H) (h : f_Law_c10 v1 v2 v3 v4 v5 T M gu = some S1) (kk : ∀ (ls : Array Slot) (H : Heap) (locs : List Loc), lv_has ls 7 [(0, .ref x), (1, .ref (a 0)), (2, .ref (b 0)), (3, .ref u), (4, .int iv)] → va_S (LwA s) s.heap H locs → LwS D a q b r u qu S1.1 S1.2.1 S1.2.2 H → W p l e room_1 s m args below meth c H locs (cells + 4) (slots + 12) Q (F0 m 819 ls [])) : W p l e room_1 s m args below meth c H locs cells slots Q (F0 m 599 ls []) := by
  obtain ⟨⟨hx, hb, hml, hown, hts, hr, hlocks⟩, hfl, hK, hKR, hKu, hSt, hN, hX, hxl, hDT, hDR, hau, hRT, hTR, huT, huR, hRTu⟩ := hX0
  obtain ⟨hin1, hin2, hin3, hin4, hin5, hv1, hv2, hv3, hv4, hv5⟩ := hv
  obtain ⟨⟨g3, hPT, hTC⟩, hPR, hPU⟩ := hLS
  have hdT : va_D (fun _ => True) (dT a) := hDT.weaken (fun _ _ _ _ => trivial)
  have hdR : va_D (fun _ => True) (dR b) := hDR.weaken (fun _ _ _ _ => trivial)
  rw [f_Law_c10] at h
  refine lv_aload_n hx hb (dt_at dt_Law_law_6 41 rfl) rfl (lv_at hl 1 rfl) ?_
  refine lv_aload_n hx hb (dt_at dt_Law_law_6 42 rfl) rfl (lv_at hl 0 rfl) ?_
  refine lv_iload hx hb (dt_at dt_Law_law_6 43 rfl) (lv_at hl 4 rfl) ?_
  refine lv_iconst (v := 1) hx hb (dt_at dt_Law_law_6 44 rfl) (by decide) ?_
  refine lv_iadd hx hb (dt_at dt_Law_law_6 45 rfl) ?_
  refine va_sld hx hb hX hxl (fun h9 => absurd hxl (Nat.not_lt.mpr h9)) hS hin1 (dt_at dt_Law_law_6 46 rfl) ?_
  rw [hv1]
  obtain ⟨r1, h_r1, h⟩ := ob_of h
  have hFT : ∀ y, va_A (dT a) H.size y → LwA s y := fr_of hDT hS
  refine va_calll (va_runV (As := [.int v1]) (rest := []) ⟨hx, hb, hml, hown, hts⟩ (c_Tape_lower l D a q (a 5) (a 7) hdT H.size v1 T.1 T.2.1 T.2.2.1 g3 T.2.2.2.1 T.2.2.2.2.1 T.2.2.2.2.2.1 T.2.2.2.2.2.2.1 T.2.2.2.2.2.2.2.1 T.2.2.2.2.2.2.2.2.1 T.2.2.2.2.2.2.2.2.2.1 T.2.2.2.2.2.2.2.2.2.2.1 T.2.2.2.2.2.2.2.2.2.2.2.1 T.2.2.2.2.2.2.2.2.2.2.2.2.1 T.2.2.2.2.2.2.2.2.2.2.2.2.2.1 T.2.2.2.2.2.2.2.2.2.2.2.2.2.2.1 T.2.2.2.2.2.2.2.2.2.2.2.2.2.2.2.1 T.2.2.2.2.2.2.2.2.2.2.2.2.2.2.2.2 r1 h_r1) (cwV 1 hts (gd_V (m_1 127 rfl rfl) (m_1 128 rfl rfl) (m_1 129 rfl rfl) (m_1 1 rfl rfl) (m_1 130 rfl rfl)) rfl rfl rfl (by decide +kernel) ⟨Nat.le_of_ble_eq_true rfl, Nat.le_of_ble_eq_true rfl⟩) ⟨fun a U g mk q => ⟨q.1, q.2.1, q.2.2.1, va_K.moved (u := U) (U := U.calling g mk a) (Vm.Alike.refl U.vm) q.2.2.2.1, q.2.2.2.2⟩, va_recv hK hPT (ci := 1) (q0 := 0) rfl rfl, fun U hU hW => ⟨rfl, by rw [hU], by rw [hU]; exact hPT, va_K.moved hW.alike hK, by rw [hU]; exact hTC⟩⟩ rfl rfl hl.1 rfl (lv_room (Nat.le_of_ble_eq_true rfl)) (dt_at dt_Law_law_6 47 rfl) ⟨cn_le (by decide) hcc.1, cn_le (by decide) hcc.2⟩) hS (fun y _ h9 => hFT y h9) hFT (fun u_r1 uu t H1 locs ht hvm hw hB hz1 hk1 hS => ?_)
  obtain rfl : r1 = u_r1 := hw.symm
  obtain ⟨hB, hTB⟩ := hB
  rw [ht] at hTB
  rw [ht] at hB
  have hPR := kp_ap hPR (by rfl) hRT hk1
  have hPU := kp_u hPU huT hk1
  have hTC : tapeC D (dT a) g3 T.2.2.2.2.2.2.2.2.2.2.2.2.2.2.2.2 H1 := hTB
  have hPT : va_P D CLS (wT a q (a 5) (a 7) T.1 T.2.1 T.2.2.1 g3 T.2.2.2.1 T.2.2.2.2.1 T.2.2.2.2.2.1 T.2.2.2.2.2.2.1 T.2.2.2.2.2.2.2.1 T.2.2.2.2.2.2.2.2.1 T.2.2.2.2.2.2.2.2.2.1 T.2.2.2.2.2.2.2.2.2.2.1 T.2.2.2.2.2.2.2.2.2.2.2.1 T.2.2.2.2.2.2.2.2.2.2.2.2.1 T.2.2.2.2.2.2.2.2.2.2.2.2.2.1 T.2.2.2.2.2.2.2.2.2.2.2.2.2.2.1 T.2.2.2.2.2.2.2.2.2.2.2.2.2.2.2.1) H1 := hB
  refine W.widen (k := cells) (n := slots) (Nat.le_refl _) (Nat.le_refl _) ?_
  clear hFT hk1 hz1 hB ht
  generalize H1 = H at hPT hTC hPR hPU hS ⊢
  refine lv_aload_n hx hb (dt_at dt_Law_law_6 48 rfl) rfl (lv_at hl 2 rfl) ?_
  refine lv_aload_n hx hb (dt_at dt_Law_law_6 49 rfl) rfl (lv_at hl 0 rfl) ?_
  refine lv_iload hx hb (dt_at dt_Law_law_7 0 rfl) (lv_at hl 4 rfl) ?_
  refine lv_iconst (v := 1) hx hb (dt_at dt_Law_law_7 1 rfl) (by decide) ?_
  refine lv_iadd hx hb (dt_at dt_Law_law_7 2 rfl) ?_
  refine va_sld hx hb hX hxl (fun h9 => absurd hxl (Nat.not_lt.mpr h9)) hS hin1 (dt_at dt_Law_law_7 3 rfl) ?_
  rw [hv1]
  obtain ⟨r2, h_r2, h⟩ := ob_of h
  have hFR : ∀ y, va_A (dR b) H.size y → LwA s y := fr_of hDR hS
  refine va_calll (va_runV (As := [.int v1]) (rest := [.long r1]) ⟨hx, hb, hml, hown, hts⟩ (c_Ref_lower l D b r hdR H.size v1 M.1 M.2.1 M.2.2.1 M.2.2.2.1 M.2.2.2.2.1 M.2.2.2.2.2.1 M.2.2.2.2.2.2.1 M.2.2.2.2.2.2.2.1 M.2.2.2.2.2.2.2.2.1 M.2.2.2.2.2.2.2.2.2.1 M.2.2.2.2.2.2.2.2.2.2.1 M.2.2.2.2.2.2.2.2.2.2.2.1 M.2.2.2.2.2.2.2.2.2.2.2.2.1 M.2.2.2.2.2.2.2.2.2.2.2.2.2.1 M.2.2.2.2.2.2.2.2.2.2.2.2.2.2.1 M.2.2.2.2.2.2.2.2.2.2.2.2.2.2.2.1 M.2.2.2.2.2.2.2.2.2.2.2.2.2.2.2.2.1 M.2.2.2.2.2.2.2.2.2.2.2.2.2.2.2.2.2.1 M.2.2.2.2.2.2.2.2.2.2.2.2.2.2.2.2.2.2.1 M.2.2.2.2.2.2.2.2.2.2.2.2.2.2.2.2.2.2.2 r2 h_r2) (cwV 1 hts (gd_V (m_5 97 rfl rfl) (m_5 98 rfl rfl) (m_5 99 rfl rfl) (m_1 4 rfl rfl) (m_5 100 rfl rfl)) rfl rfl rfl (by decide +kernel) ⟨Nat.le_of_ble_eq_true rfl, Nat.le_of_ble_eq_true rfl⟩) ⟨fun a U g mk q => ⟨q.1, q.2.1, q.2.2.1, va_K.moved (u := U) (U := U.calling g mk a) (Vm.Alike.refl U.vm) q.2.2.2⟩, va_recv hKR hPR (ci := 0) (q0 := 0) rfl rfl, fun U hU hW => ⟨rfl, by rw [hU], by rw [hU]; exact hPR, va_K.moved hW.alike hKR⟩⟩ rfl rfl hl.1 rfl (lv_room (Nat.le_of_ble_eq_true rfl)) (dt_at dt_Law_law_7 4 rfl) ⟨cn_le (by decide) hcc.1, cn_le (by decide) hcc.2⟩) hS (fun y _ h9 => hFR y h9) hFR (fun u_r2 uu t H1 locs ht hvm hw hB hz1 hk1 hS => ?_)
  subst hw
  rw [ht] at hB
  have hPT := kp_ap hPT (by rfl) hTR hk1
  have hTC := tapeC.keptR hK hKR hPR hTC hk1
  have hPU := kp_u hPU huR hk1
  have hPR : va_P D CLS (wR b r M.1 M.2.1 M.2.2.1 M.2.2.2.1 M.2.2.2.2.1 r2.2 M.2.2.2.2.2.2.1 M.2.2.2.2.2.2.2.1 M.2.2.2.2.2.2.2.2.1 M.2.2.2.2.2.2.2.2.2.1 M.2.2.2.2.2.2.2.2.2.2.1 M.2.2.2.2.2.2.2.2.2.2.2.1 M.2.2.2.2.2.2.2.2.2.2.2.2.1 M.2.2.2.2.2.2.2.2.2.2.2.2.2.1 M.2.2.2.2.2.2.2.2.2.2.2.2.2.2.1 M.2.2.2.2.2.2.2.2.2.2.2.2.2.2.2.1 M.2.2.2.2.2.2.2.2.2.2.2.2.2.2.2.2.1 M.2.2.2.2.2.2.2.2.2.2.2.2.2.2.2.2.2.1 M.2.2.2.2.2.2.2.2.2.2.2.2.2.2.2.2.2.2.1 M.2.2.2.2.2.2.2.2.2.2.2.2.2.2.2.2.2.2.2) H1 := hB
  refine W.widen (k := cells) (n := slots) (Nat.le_refl _) (Nat.le_refl _) ?_
  clear hFR hk1 hz1 hB ht
  generalize H1 = H at hPT hTC hPR hPU hS ⊢
  refine lc_eq (tgt := 819) hx hb (dt_at dt_Law_law_7 5 rfl) (dt_at dt_Law_law_7 6 rfl) (by decide) (fun c3 => ?_) (fun c3 => ?_)
  · have h := if_p h c3
    obtain rfl := os_of h
    refine W.widen (k := cells + 4) (n := slots + 12) (cn_w (by decide)) (cn_w (by decide)) ?_
    exact kk _ _ _ (lv_sub hl [0, 1, 2, 3, 4] rfl) hS ⟨⟨g3, hPT, hTC⟩, hPR, hPU⟩
  · have h := if_n h c3
    refine lv_iconst (v := 0) hx hb (dt_at dt_Law_law_7 7 rfl) (by decide) ?_
    exact nn_of h
set_option maxRecDepth 100000 in
set_option maxHeartbeats 4000000 in
theorem k_Law_c11 (hX0 : LwCX p l s m args meth c D a q b r u qu x L xs adK adV) (hv : LwV xs L iv v1 v2 v3 v4 v5) (hcc : cells + 4 ≤ room_1.cells ∧ slots + 12 ≤ room_1.slots) (hl : lv_has ls 7 [(0, .ref x), (1, .ref (a 0)), (2, .ref (b 0)), (3, .ref u), (4, .int iv)]) (hS : va_S (LwA s) s.heap H locs) (hLS : LwS D a q b r u qu T M gu H) (h : f_Law_c11 v1 v2 v3 v4 v5 T M gu = some S1) (kk : ∀ (ls : Array Slot) (H : Heap) (locs : List Loc), lv_has ls 7 [(0, .ref x), (1, .ref (a 0)), (2, .ref (b 0)), (3, .ref u), (4, .int iv)] → va_S (LwA s) s.heap H locs → LwS D a q b r u qu S1.1 S1.2.1 S1.2.2 H → W p l e room_1 s m args below meth c H locs (cells + 4) (slots + 12) Q (F0 m 819 ls [])) : W p l e room_1 s m args below meth c H locs cells slots Q (F0 m 625 ls []) := by
  obtain ⟨⟨hx, hb, hml, hown, hts, hr, hlocks⟩, hfl, hK, hKR, hKu, hSt, hN, hX, hxl, hDT, hDR, hau, hRT, hTR, huT, huR, hRTu⟩ := hX0
  obtain ⟨hin1, hin2, hin3, hin4, hin5, hv1, hv2, hv3, hv4, hv5⟩ := hv
  obtain ⟨⟨g3, hPT, hTC⟩, hPR, hPU⟩ := hLS
  have hdT : va_D (fun _ => True) (dT a) := hDT.weaken (fun _ _ _ _ => trivial)
  have hdR : va_D (fun _ => True) (dR b) := hDR.weaken (fun _ _ _ _ => trivial)
  rw [f_Law_c11] at h
  refine lv_aload_n hx hb (dt_at dt_Law_law_7 9 rfl) rfl (lv_at hl 1 rfl) ?_
  refine lv_aload_n hx hb (dt_at dt_Law_law_7 10 rfl) rfl (lv_at hl 0 rfl) ?_
  refine lv_iload hx hb (dt_at dt_Law_law_7 11 rfl) (lv_at hl 4 rfl) ?_
  refine lv_iconst (v := 1) hx hb (dt_at dt_Law_law_7 12 rfl) (by decide) ?_
  refine lv_iadd hx hb (dt_at dt_Law_law_7 13 rfl) ?_
  refine va_sld hx hb hX hxl (fun h9 => absurd hxl (Nat.not_lt.mpr h9)) hS hin1 (dt_at dt_Law_law_7 14 rfl) ?_
  rw [hv1]
  obtain ⟨r1, h_r1, h⟩ := ob_of h
  have hFT : ∀ y, va_A (dT a) H.size y → LwA s y := fr_of hDT hS
  refine va_calll (va_runV (As := [.int v1]) (rest := []) ⟨hx, hb, hml, hown, hts⟩ (c_Tape_upper l D a q (a 5) (a 7) hdT H.size v1 T.1 T.2.1 T.2.2.1 g3 T.2.2.2.1 T.2.2.2.2.1 T.2.2.2.2.2.1 T.2.2.2.2.2.2.1 T.2.2.2.2.2.2.2.1 T.2.2.2.2.2.2.2.2.1 T.2.2.2.2.2.2.2.2.2.1 T.2.2.2.2.2.2.2.2.2.2.1 T.2.2.2.2.2.2.2.2.2.2.2.1 T.2.2.2.2.2.2.2.2.2.2.2.2.1 T.2.2.2.2.2.2.2.2.2.2.2.2.2.1 T.2.2.2.2.2.2.2.2.2.2.2.2.2.2.1 T.2.2.2.2.2.2.2.2.2.2.2.2.2.2.2.1 T.2.2.2.2.2.2.2.2.2.2.2.2.2.2.2.2 r1 h_r1) (cwV 1 hts (gd_V (m_1 137 rfl rfl) (m_1 138 rfl rfl) (m_1 139 rfl rfl) (m_1 1 rfl rfl) (m_1 140 rfl rfl)) rfl rfl rfl (by decide +kernel) ⟨Nat.le_of_ble_eq_true rfl, Nat.le_of_ble_eq_true rfl⟩) ⟨fun a U g mk q => ⟨q.1, q.2.1, q.2.2.1, va_K.moved (u := U) (U := U.calling g mk a) (Vm.Alike.refl U.vm) q.2.2.2.1, q.2.2.2.2⟩, va_recv hK hPT (ci := 1) (q0 := 0) rfl rfl, fun U hU hW => ⟨rfl, by rw [hU], by rw [hU]; exact hPT, va_K.moved hW.alike hK, by rw [hU]; exact hTC⟩⟩ rfl rfl hl.1 rfl (lv_room (Nat.le_of_ble_eq_true rfl)) (dt_at dt_Law_law_7 15 rfl) ⟨cn_le (by decide) hcc.1, cn_le (by decide) hcc.2⟩) hS (fun y _ h9 => hFT y h9) hFT (fun u_r1 uu t H1 locs ht hvm hw hB hz1 hk1 hS => ?_)
  obtain rfl : r1 = u_r1 := hw.symm
  obtain ⟨hB, hTB⟩ := hB
  rw [ht] at hTB
  rw [ht] at hB
  have hPR := kp_ap hPR (by rfl) hRT hk1
  have hPU := kp_u hPU huT hk1
  have hTC : tapeC D (dT a) g3 T.2.2.2.2.2.2.2.2.2.2.2.2.2.2.2.2 H1 := hTB
  have hPT : va_P D CLS (wT a q (a 5) (a 7) T.1 T.2.1 T.2.2.1 g3 T.2.2.2.1 T.2.2.2.2.1 T.2.2.2.2.2.1 T.2.2.2.2.2.2.1 T.2.2.2.2.2.2.2.1 T.2.2.2.2.2.2.2.2.1 T.2.2.2.2.2.2.2.2.2.1 T.2.2.2.2.2.2.2.2.2.2.1 T.2.2.2.2.2.2.2.2.2.2.2.1 T.2.2.2.2.2.2.2.2.2.2.2.2.1 T.2.2.2.2.2.2.2.2.2.2.2.2.2.1 T.2.2.2.2.2.2.2.2.2.2.2.2.2.2.1 T.2.2.2.2.2.2.2.2.2.2.2.2.2.2.2.1) H1 := hB
  refine W.widen (k := cells) (n := slots) (Nat.le_refl _) (Nat.le_refl _) ?_
  clear hFT hk1 hz1 hB ht
  generalize H1 = H at hPT hTC hPR hPU hS ⊢
  refine lv_aload_n hx hb (dt_at dt_Law_law_7 16 rfl) rfl (lv_at hl 2 rfl) ?_
  refine lv_aload_n hx hb (dt_at dt_Law_law_7 17 rfl) rfl (lv_at hl 0 rfl) ?_
  refine lv_iload hx hb (dt_at dt_Law_law_7 18 rfl) (lv_at hl 4 rfl) ?_
  refine lv_iconst (v := 1) hx hb (dt_at dt_Law_law_7 19 rfl) (by decide) ?_
  refine lv_iadd hx hb (dt_at dt_Law_law_7 20 rfl) ?_
  refine va_sld hx hb hX hxl (fun h9 => absurd hxl (Nat.not_lt.mpr h9)) hS hin1 (dt_at dt_Law_law_7 21 rfl) ?_
  rw [hv1]
  obtain ⟨r2, h_r2, h⟩ := ob_of h
  have hFR : ∀ y, va_A (dR b) H.size y → LwA s y := fr_of hDR hS
  refine va_calll (va_runV (As := [.int v1]) (rest := [.long r1]) ⟨hx, hb, hml, hown, hts⟩ (c_Ref_upper l D b r hdR H.size v1 M.1 M.2.1 M.2.2.1 M.2.2.2.1 M.2.2.2.2.1 M.2.2.2.2.2.1 M.2.2.2.2.2.2.1 M.2.2.2.2.2.2.2.1 M.2.2.2.2.2.2.2.2.1 M.2.2.2.2.2.2.2.2.2.1 M.2.2.2.2.2.2.2.2.2.2.1 M.2.2.2.2.2.2.2.2.2.2.2.1 M.2.2.2.2.2.2.2.2.2.2.2.2.1 M.2.2.2.2.2.2.2.2.2.2.2.2.2.1 M.2.2.2.2.2.2.2.2.2.2.2.2.2.2.1 M.2.2.2.2.2.2.2.2.2.2.2.2.2.2.2.1 M.2.2.2.2.2.2.2.2.2.2.2.2.2.2.2.2.1 M.2.2.2.2.2.2.2.2.2.2.2.2.2.2.2.2.2.1 M.2.2.2.2.2.2.2.2.2.2.2.2.2.2.2.2.2.2.1 M.2.2.2.2.2.2.2.2.2.2.2.2.2.2.2.2.2.2.2 r2 h_r2) (cwV 1 hts (gd_V (m_5 106 rfl rfl) (m_5 107 rfl rfl) (m_5 108 rfl rfl) (m_1 4 rfl rfl) (m_5 109 rfl rfl)) rfl rfl rfl (by decide +kernel) ⟨Nat.le_of_ble_eq_true rfl, Nat.le_of_ble_eq_true rfl⟩) ⟨fun a U g mk q => ⟨q.1, q.2.1, q.2.2.1, va_K.moved (u := U) (U := U.calling g mk a) (Vm.Alike.refl U.vm) q.2.2.2⟩, va_recv hKR hPR (ci := 0) (q0 := 0) rfl rfl, fun U hU hW => ⟨rfl, by rw [hU], by rw [hU]; exact hPR, va_K.moved hW.alike hKR⟩⟩ rfl rfl hl.1 rfl (lv_room (Nat.le_of_ble_eq_true rfl)) (dt_at dt_Law_law_7 22 rfl) ⟨cn_le (by decide) hcc.1, cn_le (by decide) hcc.2⟩) hS (fun y _ h9 => hFR y h9) hFR (fun u_r2 uu t H1 locs ht hvm hw hB hz1 hk1 hS => ?_)
  subst hw
  rw [ht] at hB
  have hPT := kp_ap hPT (by rfl) hTR hk1
  have hTC := tapeC.keptR hK hKR hPR hTC hk1
  have hPU := kp_u hPU huR hk1
  have hPR : va_P D CLS (wR b r M.1 M.2.1 M.2.2.1 M.2.2.2.1 M.2.2.2.2.1 r2.2 M.2.2.2.2.2.2.1 M.2.2.2.2.2.2.2.1 M.2.2.2.2.2.2.2.2.1 M.2.2.2.2.2.2.2.2.2.1 M.2.2.2.2.2.2.2.2.2.2.1 M.2.2.2.2.2.2.2.2.2.2.2.1 M.2.2.2.2.2.2.2.2.2.2.2.2.1 M.2.2.2.2.2.2.2.2.2.2.2.2.2.1 M.2.2.2.2.2.2.2.2.2.2.2.2.2.2.1 M.2.2.2.2.2.2.2.2.2.2.2.2.2.2.2.1 M.2.2.2.2.2.2.2.2.2.2.2.2.2.2.2.2.1 M.2.2.2.2.2.2.2.2.2.2.2.2.2.2.2.2.2.1 M.2.2.2.2.2.2.2.2.2.2.2.2.2.2.2.2.2.2.1 M.2.2.2.2.2.2.2.2.2.2.2.2.2.2.2.2.2.2.2) H1 := hB
  refine W.widen (k := cells) (n := slots) (Nat.le_refl _) (Nat.le_refl _) ?_
  clear hFR hk1 hz1 hB ht
  generalize H1 = H at hPT hTC hPR hPU hS ⊢
  refine lc_eq (tgt := 819) hx hb (dt_at dt_Law_law_7 23 rfl) (dt_at dt_Law_law_7 24 rfl) (by decide) (fun c3 => ?_) (fun c3 => ?_)
  · have h := if_p h c3
    obtain rfl := os_of h
    refine W.widen (k := cells + 4) (n := slots + 12) (cn_w (by decide)) (cn_w (by decide)) ?_
    exact kk _ _ _ (lv_sub hl [0, 1, 2, 3, 4] rfl) hS ⟨⟨g3, hPT, hTC⟩, hPR, hPU⟩
  · have h := if_n h c3
    refine lv_iconst (v := 0) hx hb (dt_at dt_Law_law_7 25 rfl) (by decide) ?_
    exact nn_of h
set_option maxRecDepth 100000 in
set_option maxHeartbeats 4000000 in
theorem k_Law_c12 (hX0 : LwCX p l s m args meth c D a q b r u qu x L xs adK adV) (hv : LwV xs L iv v1 v2 v3 v4 v5) (hcc : cells + 4 ≤ room_1.cells ∧ slots + 12 ≤ room_1.slots) (hl : lv_has ls 7 [(0, .ref x), (1, .ref (a 0)), (2, .ref (b 0)), (3, .ref u), (4, .int iv)]) (hS : va_S (LwA s) s.heap H locs) (hLS : LwS D a q b r u qu T M gu H) (h : f_Law_c12 v1 v2 v3 v4 v5 T M gu = some S1) (kk : ∀ (ls : Array Slot) (H : Heap) (locs : List Loc), lv_has ls 7 [(0, .ref x), (1, .ref (a 0)), (2, .ref (b 0)), (3, .ref u), (4, .int iv)] → va_S (LwA s) s.heap H locs → LwS D a q b r u qu S1.1 S1.2.1 S1.2.2 H → W p l e room_1 s m args below meth c H locs (cells + 4) (slots + 12) Q (F0 m 819 ls [])) : W p l e room_1 s m args below meth c H locs cells slots Q (F0 m 651 ls []) := by
  obtain ⟨⟨hx, hb, hml, hown, hts, hr, hlocks⟩, hfl, hK, hKR, hKu, hSt, hN, hX, hxl, hDT, hDR, hau, hRT, hTR, huT, huR, hRTu⟩ := hX0
  obtain ⟨hin1, hin2, hin3, hin4, hin5, hv1, hv2, hv3, hv4, hv5⟩ := hv
  obtain ⟨⟨g3, hPT, hTC⟩, hPR, hPU⟩ := hLS
  have hdT : va_D (fun _ => True) (dT a) := hDT.weaken (fun _ _ _ _ => trivial)
  have hdR : va_D (fun _ => True) (dR b) := hDR.weaken (fun _ _ _ _ => trivial)
  rw [f_Law_c12] at h
  refine lv_aload_n hx hb (dt_at dt_Law_law_7 27 rfl) rfl (lv_at hl 1 rfl) ?_
  refine lv_aload_n hx hb (dt_at dt_Law_law_7 28 rfl) rfl (lv_at hl 0 rfl) ?_
  refine lv_iload hx hb (dt_at dt_Law_law_7 29 rfl) (lv_at hl 4 rfl) ?_
  refine lv_iconst (v := 1) hx hb (dt_at dt_Law_law_7 30 rfl) (by decide) ?_
  refine lv_iadd hx hb (dt_at dt_Law_law_7 31 rfl) ?_
  refine va_sld hx hb hX hxl (fun h9 => absurd hxl (Nat.not_lt.mpr h9)) hS hin1 (dt_at dt_Law_law_7 32 rfl) ?_
  rw [hv1]
  refine lv_aload_n hx hb (dt_at dt_Law_law_7 33 rfl) rfl (lv_at hl 0 rfl) ?_
  refine lv_iload hx hb (dt_at dt_Law_law_7 34 rfl) (lv_at hl 4 rfl) ?_
  refine lv_iconst (v := 2) hx hb (dt_at dt_Law_law_7 35 rfl) (by decide) ?_
  refine lv_iadd hx hb (dt_at dt_Law_law_7 36 rfl) ?_
  refine va_sld hx hb hX hxl (fun h9 => absurd hxl (Nat.not_lt.mpr h9)) hS hin2 (dt_at dt_Law_law_7 37 rfl) ?_
  rw [hv2]
  refine lv_aload_n hx hb (dt_at dt_Law_law_7 38 rfl) rfl (lv_at hl 0 rfl) ?_
  refine lv_iload hx hb (dt_at dt_Law_law_7 39 rfl) (lv_at hl 4 rfl) ?_
  refine lv_iconst (v := 3) hx hb (dt_at dt_Law_law_7 40 rfl) (by decide) ?_
  refine lv_iadd hx hb (dt_at dt_Law_law_7 41 rfl) ?_
  refine va_sld hx hb hX hxl (fun h9 => absurd hxl (Nat.not_lt.mpr h9)) hS hin3 (dt_at dt_Law_law_7 42 rfl) ?_
  rw [hv3]
  obtain ⟨r1, h_r1, h⟩ := ob_of h
  have hFT : ∀ y, va_A (dT a) H.size y → LwA s y := fr_of hDT hS
  refine va_calli (va_runV (As := [.int v1, .int v2, .int v3]) (rest := []) ⟨hx, hb, hml, hown, hts⟩ (c_Tape_relation l D a q (a 5) (a 7) hdT H.size v1 v2 v3 T.1 T.2.1 T.2.2.1 g3 T.2.2.2.1 T.2.2.2.2.1 T.2.2.2.2.2.1 T.2.2.2.2.2.2.1 T.2.2.2.2.2.2.2.1 T.2.2.2.2.2.2.2.2.1 T.2.2.2.2.2.2.2.2.2.1 T.2.2.2.2.2.2.2.2.2.2.1 T.2.2.2.2.2.2.2.2.2.2.2.1 T.2.2.2.2.2.2.2.2.2.2.2.2.1 T.2.2.2.2.2.2.2.2.2.2.2.2.2.1 T.2.2.2.2.2.2.2.2.2.2.2.2.2.2.1 T.2.2.2.2.2.2.2.2.2.2.2.2.2.2.2.1 T.2.2.2.2.2.2.2.2.2.2.2.2.2.2.2.2 r1 h_r1) (cwV 3 hts (gd_V (m_1 141 rfl rfl) (m_1 142 rfl rfl) (m_1 143 rfl rfl) (m_1 1 rfl rfl) (m_1 144 rfl rfl)) rfl rfl rfl (by decide +kernel) ⟨Nat.le_of_ble_eq_true rfl, Nat.le_of_ble_eq_true rfl⟩) ⟨fun a U g mk q => ⟨q.1, q.2.1, q.2.2.1, va_K.moved (u := U) (U := U.calling g mk a) (Vm.Alike.refl U.vm) q.2.2.2.1, q.2.2.2.2⟩, va_recv hK hPT (ci := 1) (q0 := 0) rfl rfl, fun U hU hW => ⟨rfl, by rw [hU], by rw [hU]; exact hPT, va_K.moved hW.alike hK, by rw [hU]; exact hTC⟩⟩ rfl rfl hl.1 rfl (lv_room (Nat.le_of_ble_eq_true rfl)) (dt_at dt_Law_law_7 43 rfl) ⟨cn_le (by decide) hcc.1, cn_le (by decide) hcc.2⟩) hS (fun y _ h9 => hFT y h9) hFT (fun u_r1 uu t H1 locs ht hvm hw hB hz1 hk1 hS => ?_)
  obtain rfl : r1 = u_r1 := hw.symm
  obtain ⟨hB, hTB⟩ := hB
  rw [ht] at hTB
  rw [ht] at hB
  have hPR := kp_ap hPR (by rfl) hRT hk1
  have hPU := kp_u hPU huT hk1
  have hTC : tapeC D (dT a) g3 T.2.2.2.2.2.2.2.2.2.2.2.2.2.2.2.2 H1 := hTB
  have hPT : va_P D CLS (wT a q (a 5) (a 7) T.1 T.2.1 T.2.2.1 g3 T.2.2.2.1 T.2.2.2.2.1 T.2.2.2.2.2.1 T.2.2.2.2.2.2.1 T.2.2.2.2.2.2.2.1 T.2.2.2.2.2.2.2.2.1 T.2.2.2.2.2.2.2.2.2.1 T.2.2.2.2.2.2.2.2.2.2.1 T.2.2.2.2.2.2.2.2.2.2.2.1 T.2.2.2.2.2.2.2.2.2.2.2.2.1 T.2.2.2.2.2.2.2.2.2.2.2.2.2.1 T.2.2.2.2.2.2.2.2.2.2.2.2.2.2.1 T.2.2.2.2.2.2.2.2.2.2.2.2.2.2.2.1) H1 := hB
  refine W.widen (k := cells) (n := slots) (Nat.le_refl _) (Nat.le_refl _) ?_
  clear hFT hk1 hz1 hB ht
  generalize H1 = H at hPT hTC hPR hPU hS ⊢
  refine lv_aload_n hx hb (dt_at dt_Law_law_7 44 rfl) rfl (lv_at hl 2 rfl) ?_
  refine lv_aload_n hx hb (dt_at dt_Law_law_7 45 rfl) rfl (lv_at hl 0 rfl) ?_
  refine lv_iload hx hb (dt_at dt_Law_law_7 46 rfl) (lv_at hl 4 rfl) ?_
  refine lv_iconst (v := 1) hx hb (dt_at dt_Law_law_7 47 rfl) (by decide) ?_
  refine lv_iadd hx hb (dt_at dt_Law_law_7 48 rfl) ?_
  refine va_sld hx hb hX hxl (fun h9 => absurd hxl (Nat.not_lt.mpr h9)) hS hin1 (dt_at dt_Law_law_7 49 rfl) ?_
  rw [hv1]
  refine lv_aload_n hx hb (dt_at dt_Law_law_8 0 rfl) rfl (lv_at hl 0 rfl) ?_
  refine lv_iload hx hb (dt_at dt_Law_law_8 1 rfl) (lv_at hl 4 rfl) ?_
  refine lv_iconst (v := 2) hx hb (dt_at dt_Law_law_8 2 rfl) (by decide) ?_
  refine lv_iadd hx hb (dt_at dt_Law_law_8 3 rfl) ?_
  refine va_sld hx hb hX hxl (fun h9 => absurd hxl (Nat.not_lt.mpr h9)) hS hin2 (dt_at dt_Law_law_8 4 rfl) ?_
  rw [hv2]
  refine lv_aload_n hx hb (dt_at dt_Law_law_8 5 rfl) rfl (lv_at hl 0 rfl) ?_
  refine lv_iload hx hb (dt_at dt_Law_law_8 6 rfl) (lv_at hl 4 rfl) ?_
  refine lv_iconst (v := 3) hx hb (dt_at dt_Law_law_8 7 rfl) (by decide) ?_
  refine lv_iadd hx hb (dt_at dt_Law_law_8 8 rfl) ?_
  refine va_sld hx hb hX hxl (fun h9 => absurd hxl (Nat.not_lt.mpr h9)) hS hin3 (dt_at dt_Law_law_8 9 rfl) ?_
  rw [hv3]
  obtain ⟨r2, h_r2, h⟩ := ob_of h
  have hFR : ∀ y, va_A (dR b) H.size y → LwA s y := fr_of hDR hS
  refine va_calli (va_runV (As := [.int v1, .int v2, .int v3]) (rest := [.int r1]) ⟨hx, hb, hml, hown, hts⟩ (c_Ref_relation l D b r hdR H.size v1 v2 v3 M.1 M.2.1 M.2.2.1 M.2.2.2.1 M.2.2.2.2.1 M.2.2.2.2.2.1 M.2.2.2.2.2.2.1 M.2.2.2.2.2.2.2.1 M.2.2.2.2.2.2.2.2.1 M.2.2.2.2.2.2.2.2.2.1 M.2.2.2.2.2.2.2.2.2.2.1 M.2.2.2.2.2.2.2.2.2.2.2.1 M.2.2.2.2.2.2.2.2.2.2.2.2.1 M.2.2.2.2.2.2.2.2.2.2.2.2.2.1 M.2.2.2.2.2.2.2.2.2.2.2.2.2.2.1 M.2.2.2.2.2.2.2.2.2.2.2.2.2.2.2.1 M.2.2.2.2.2.2.2.2.2.2.2.2.2.2.2.2.1 M.2.2.2.2.2.2.2.2.2.2.2.2.2.2.2.2.2.1 M.2.2.2.2.2.2.2.2.2.2.2.2.2.2.2.2.2.2.1 M.2.2.2.2.2.2.2.2.2.2.2.2.2.2.2.2.2.2.2 r2 h_r2) (cwV 3 hts (gd_V (m_5 110 rfl rfl) (m_5 111 rfl rfl) (m_5 112 rfl rfl) (m_1 4 rfl rfl) (m_5 113 rfl rfl)) rfl rfl rfl (by decide +kernel) ⟨Nat.le_of_ble_eq_true rfl, Nat.le_of_ble_eq_true rfl⟩) ⟨fun a U g mk q => ⟨q.1, q.2.1, q.2.2.1, va_K.moved (u := U) (U := U.calling g mk a) (Vm.Alike.refl U.vm) q.2.2.2⟩, va_recv hKR hPR (ci := 0) (q0 := 0) rfl rfl, fun U hU hW => ⟨rfl, by rw [hU], by rw [hU]; exact hPR, va_K.moved hW.alike hKR⟩⟩ rfl rfl hl.1 rfl (lv_room (Nat.le_of_ble_eq_true rfl)) (dt_at dt_Law_law_8 10 rfl) ⟨cn_le (by decide) hcc.1, cn_le (by decide) hcc.2⟩) hS (fun y _ h9 => hFR y h9) hFR (fun u_r2 uu t H1 locs ht hvm hw hB hz1 hk1 hS => ?_)
  subst hw
  rw [ht] at hB
  have hPT := kp_ap hPT (by rfl) hTR hk1
  have hTC := tapeC.keptR hK hKR hPR hTC hk1
  have hPU := kp_u hPU huR hk1
  have hPR : va_P D CLS (wR b r M.1 M.2.1 M.2.2.1 M.2.2.2.1 M.2.2.2.2.1 r2.2 M.2.2.2.2.2.2.1 M.2.2.2.2.2.2.2.1 M.2.2.2.2.2.2.2.2.1 M.2.2.2.2.2.2.2.2.2.1 M.2.2.2.2.2.2.2.2.2.2.1 M.2.2.2.2.2.2.2.2.2.2.2.1 M.2.2.2.2.2.2.2.2.2.2.2.2.1 M.2.2.2.2.2.2.2.2.2.2.2.2.2.1 M.2.2.2.2.2.2.2.2.2.2.2.2.2.2.1 M.2.2.2.2.2.2.2.2.2.2.2.2.2.2.2.1 M.2.2.2.2.2.2.2.2.2.2.2.2.2.2.2.2.1 M.2.2.2.2.2.2.2.2.2.2.2.2.2.2.2.2.2.1 M.2.2.2.2.2.2.2.2.2.2.2.2.2.2.2.2.2.2.1 M.2.2.2.2.2.2.2.2.2.2.2.2.2.2.2.2.2.2.2) H1 := hB
  refine W.widen (k := cells) (n := slots) (Nat.le_refl _) (Nat.le_refl _) ?_
  clear hFR hk1 hz1 hB ht
  generalize H1 = H at hPT hTC hPR hPU hS ⊢
  refine lv_icmp_eq (tgt := 819) hx hb (dt_at dt_Law_law_8 11 rfl) (by decide) (fun c3 => ?_) (fun c3 => ?_)
  · have h := if_p h c3
    obtain rfl := os_of h
    refine W.widen (k := cells + 4) (n := slots + 12) (cn_w (by decide)) (cn_w (by decide)) ?_
    exact kk _ _ _ (lv_sub hl [0, 1, 2, 3, 4] rfl) hS ⟨⟨g3, hPT, hTC⟩, hPR, hPU⟩
  · have h := if_n h c3
    refine lv_iconst (v := 0) hx hb (dt_at dt_Law_law_8 12 rfl) (by decide) ?_
    exact nn_of h
set_option maxRecDepth 100000 in
set_option maxHeartbeats 4000000 in
theorem k_Law_c13 (hX0 : LwCX p l s m args meth c D a q b r u qu x L xs adK adV) (hv : LwV xs L iv v1 v2 v3 v4 v5) (hcc : cells + 4 ≤ room_1.cells ∧ slots + 12 ≤ room_1.slots) (hl : lv_has ls 7 [(0, .ref x), (1, .ref (a 0)), (2, .ref (b 0)), (3, .ref u), (4, .int iv)]) (hS : va_S (LwA s) s.heap H locs) (hLS : LwS D a q b r u qu T M gu H) (h : f_Law_c13 v1 v2 v3 v4 v5 T M gu = some S1) (kk : ∀ (ls : Array Slot) (H : Heap) (locs : List Loc), lv_has ls 7 [(0, .ref x), (1, .ref (a 0)), (2, .ref (b 0)), (3, .ref u), (4, .int iv)] → va_S (LwA s) s.heap H locs → LwS D a q b r u qu S1.1 S1.2.1 S1.2.2 H → W p l e room_1 s m args below meth c H locs (cells + 4) (slots + 12) Q (F0 m 819 ls [])) : W p l e room_1 s m args below meth c H locs cells slots Q (F0 m 700 ls []) := by
  obtain ⟨⟨hx, hb, hml, hown, hts, hr, hlocks⟩, hfl, hK, hKR, hKu, hSt, hN, hX, hxl, hDT, hDR, hau, hRT, hTR, huT, huR, hRTu⟩ := hX0
  obtain ⟨hin1, hin2, hin3, hin4, hin5, hv1, hv2, hv3, hv4, hv5⟩ := hv
  obtain ⟨⟨g3, hPT, hTC⟩, hPR, hPU⟩ := hLS
  have hdT : va_D (fun _ => True) (dT a) := hDT.weaken (fun _ _ _ _ => trivial)
  have hdR : va_D (fun _ => True) (dR b) := hDR.weaken (fun _ _ _ _ => trivial)
  rw [f_Law_c13] at h
  refine lv_aload_n hx hb (dt_at dt_Law_law_8 14 rfl) rfl (lv_at hl 1 rfl) ?_
  refine lv_aload_n hx hb (dt_at dt_Law_law_8 15 rfl) rfl (lv_at hl 0 rfl) ?_
  refine lv_iload hx hb (dt_at dt_Law_law_8 16 rfl) (lv_at hl 4 rfl) ?_
  refine lv_iconst (v := 1) hx hb (dt_at dt_Law_law_8 17 rfl) (by decide) ?_
  refine lv_iadd hx hb (dt_at dt_Law_law_8 18 rfl) ?_
  refine va_sld hx hb hX hxl (fun h9 => absurd hxl (Nat.not_lt.mpr h9)) hS hin1 (dt_at dt_Law_law_8 19 rfl) ?_
  rw [hv1]
  refine lv_aload_n hx hb (dt_at dt_Law_law_8 20 rfl) rfl (lv_at hl 0 rfl) ?_
  refine lv_iload hx hb (dt_at dt_Law_law_8 21 rfl) (lv_at hl 4 rfl) ?_
  refine lv_iconst (v := 2) hx hb (dt_at dt_Law_law_8 22 rfl) (by decide) ?_
  refine lv_iadd hx hb (dt_at dt_Law_law_8 23 rfl) ?_
  refine va_sld hx hb hX hxl (fun h9 => absurd hxl (Nat.not_lt.mpr h9)) hS hin2 (dt_at dt_Law_law_8 24 rfl) ?_
  rw [hv2]
  obtain ⟨r1, h_r1, h⟩ := ob_of h
  have hFT : ∀ y, va_A (dT a) H.size y → LwA s y := fr_of hDT hS
  refine va_calll (va_runV (As := [.int v1, .int v2]) (rest := []) ⟨hx, hb, hml, hown, hts⟩ (c_Tape_number l D a q (a 5) (a 7) hdT H.size v1 v2 T.1 T.2.1 T.2.2.1 g3 T.2.2.2.1 T.2.2.2.2.1 T.2.2.2.2.2.1 T.2.2.2.2.2.2.1 T.2.2.2.2.2.2.2.1 T.2.2.2.2.2.2.2.2.1 T.2.2.2.2.2.2.2.2.2.1 T.2.2.2.2.2.2.2.2.2.2.1 T.2.2.2.2.2.2.2.2.2.2.2.1 T.2.2.2.2.2.2.2.2.2.2.2.2.1 T.2.2.2.2.2.2.2.2.2.2.2.2.2.1 T.2.2.2.2.2.2.2.2.2.2.2.2.2.2.1 T.2.2.2.2.2.2.2.2.2.2.2.2.2.2.2.1 T.2.2.2.2.2.2.2.2.2.2.2.2.2.2.2.2 r1 h_r1) (cwV 2 hts (gd_V (m_1 157 rfl rfl) (m_1 158 rfl rfl) (m_1 159 rfl rfl) (m_1 1 rfl rfl) (m_1 160 rfl rfl)) rfl rfl rfl (by decide +kernel) ⟨Nat.le_of_ble_eq_true rfl, Nat.le_of_ble_eq_true rfl⟩) ⟨fun a U g mk q => ⟨q.1, q.2.1, q.2.2.1, va_K.moved (u := U) (U := U.calling g mk a) (Vm.Alike.refl U.vm) q.2.2.2.1, q.2.2.2.2⟩, va_recv hK hPT (ci := 1) (q0 := 0) rfl rfl, fun U hU hW => ⟨rfl, by rw [hU], by rw [hU]; exact hPT, va_K.moved hW.alike hK, by rw [hU]; exact hTC⟩⟩ rfl rfl hl.1 rfl (lv_room (Nat.le_of_ble_eq_true rfl)) (dt_at dt_Law_law_8 25 rfl) ⟨cn_le (by decide) hcc.1, cn_le (by decide) hcc.2⟩) hS (fun y _ h9 => hFT y h9) hFT (fun u_r1 uu t H1 locs ht hvm hw hB hz1 hk1 hS => ?_)
  obtain rfl : r1 = u_r1 := hw.symm
  obtain ⟨hB, hTB⟩ := hB
  rw [ht] at hTB
  rw [ht] at hB
  have hPR := kp_ap hPR (by rfl) hRT hk1
  have hPU := kp_u hPU huT hk1
  have hTC : tapeC D (dT a) g3 T.2.2.2.2.2.2.2.2.2.2.2.2.2.2.2.2 H1 := hTB
  have hPT : va_P D CLS (wT a q (a 5) (a 7) T.1 T.2.1 T.2.2.1 g3 T.2.2.2.1 T.2.2.2.2.1 T.2.2.2.2.2.1 T.2.2.2.2.2.2.1 T.2.2.2.2.2.2.2.1 T.2.2.2.2.2.2.2.2.1 T.2.2.2.2.2.2.2.2.2.1 T.2.2.2.2.2.2.2.2.2.2.1 T.2.2.2.2.2.2.2.2.2.2.2.1 T.2.2.2.2.2.2.2.2.2.2.2.2.1 T.2.2.2.2.2.2.2.2.2.2.2.2.2.1 T.2.2.2.2.2.2.2.2.2.2.2.2.2.2.1 T.2.2.2.2.2.2.2.2.2.2.2.2.2.2.2.1) H1 := hB
  refine W.widen (k := cells) (n := slots) (Nat.le_refl _) (Nat.le_refl _) ?_
  clear hFT hk1 hz1 hB ht
  generalize H1 = H at hPT hTC hPR hPU hS ⊢
  refine lv_aload_n hx hb (dt_at dt_Law_law_8 26 rfl) rfl (lv_at hl 2 rfl) ?_
  refine lv_aload_n hx hb (dt_at dt_Law_law_8 27 rfl) rfl (lv_at hl 0 rfl) ?_
  refine lv_iload hx hb (dt_at dt_Law_law_8 28 rfl) (lv_at hl 4 rfl) ?_
  refine lv_iconst (v := 1) hx hb (dt_at dt_Law_law_8 29 rfl) (by decide) ?_
  refine lv_iadd hx hb (dt_at dt_Law_law_8 30 rfl) ?_
  refine va_sld hx hb hX hxl (fun h9 => absurd hxl (Nat.not_lt.mpr h9)) hS hin1 (dt_at dt_Law_law_8 31 rfl) ?_
  rw [hv1]
  refine lv_aload_n hx hb (dt_at dt_Law_law_8 32 rfl) rfl (lv_at hl 0 rfl) ?_
  refine lv_iload hx hb (dt_at dt_Law_law_8 33 rfl) (lv_at hl 4 rfl) ?_
  refine lv_iconst (v := 2) hx hb (dt_at dt_Law_law_8 34 rfl) (by decide) ?_
  refine lv_iadd hx hb (dt_at dt_Law_law_8 35 rfl) ?_
  refine va_sld hx hb hX hxl (fun h9 => absurd hxl (Nat.not_lt.mpr h9)) hS hin2 (dt_at dt_Law_law_8 36 rfl) ?_
  rw [hv2]
  obtain ⟨r2, h_r2, h⟩ := ob_of h
  have hFR : ∀ y, va_A (dR b) H.size y → LwA s y := fr_of hDR hS
  refine va_calll (va_runV (As := [.int v1, .int v2]) (rest := [.long r1]) ⟨hx, hb, hml, hown, hts⟩ (c_Ref_number l D b r hdR H.size v1 v2 M.1 M.2.1 M.2.2.1 M.2.2.2.1 M.2.2.2.2.1 M.2.2.2.2.2.1 M.2.2.2.2.2.2.1 M.2.2.2.2.2.2.2.1 M.2.2.2.2.2.2.2.2.1 M.2.2.2.2.2.2.2.2.2.1 M.2.2.2.2.2.2.2.2.2.2.1 M.2.2.2.2.2.2.2.2.2.2.2.1 M.2.2.2.2.2.2.2.2.2.2.2.2.1 M.2.2.2.2.2.2.2.2.2.2.2.2.2.1 M.2.2.2.2.2.2.2.2.2.2.2.2.2.2.1 M.2.2.2.2.2.2.2.2.2.2.2.2.2.2.2.1 M.2.2.2.2.2.2.2.2.2.2.2.2.2.2.2.2.1 M.2.2.2.2.2.2.2.2.2.2.2.2.2.2.2.2.2.1 M.2.2.2.2.2.2.2.2.2.2.2.2.2.2.2.2.2.2.1 M.2.2.2.2.2.2.2.2.2.2.2.2.2.2.2.2.2.2.2 r2 h_r2) (cwV 2 hts (gd_V (m_5 121 rfl rfl) (m_5 122 rfl rfl) (m_5 123 rfl rfl) (m_1 4 rfl rfl) (m_5 124 rfl rfl)) rfl rfl rfl (by decide +kernel) ⟨Nat.le_of_ble_eq_true rfl, Nat.le_of_ble_eq_true rfl⟩) ⟨fun a U g mk q => ⟨q.1, q.2.1, q.2.2.1, va_K.moved (u := U) (U := U.calling g mk a) (Vm.Alike.refl U.vm) q.2.2.2⟩, va_recv hKR hPR (ci := 0) (q0 := 0) rfl rfl, fun U hU hW => ⟨rfl, by rw [hU], by rw [hU]; exact hPR, va_K.moved hW.alike hKR⟩⟩ rfl rfl hl.1 rfl (lv_room (Nat.le_of_ble_eq_true rfl)) (dt_at dt_Law_law_8 37 rfl) ⟨cn_le (by decide) hcc.1, cn_le (by decide) hcc.2⟩) hS (fun y _ h9 => hFR y h9) hFR (fun u_r2 uu t H1 locs ht hvm hw hB hz1 hk1 hS => ?_)
  subst hw
  rw [ht] at hB
  have hPT := kp_ap hPT (by rfl) hTR hk1
  have hTC := tapeC.keptR hK hKR hPR hTC hk1
  have hPU := kp_u hPU huR hk1
  have hPR : va_P D CLS (wR b r M.1 M.2.1 M.2.2.1 M.2.2.2.1 M.2.2.2.2.1 r2.2.1 M.2.2.2.2.2.2.1 M.2.2.2.2.2.2.2.1 r2.2.2.1 r2.2.2.2 M.2.2.2.2.2.2.2.2.2.2.1 M.2.2.2.2.2.2.2.2.2.2.2.1 M.2.2.2.2.2.2.2.2.2.2.2.2.1 M.2.2.2.2.2.2.2.2.2.2.2.2.2.1 M.2.2.2.2.2.2.2.2.2.2.2.2.2.2.1 M.2.2.2.2.2.2.2.2.2.2.2.2.2.2.2.1 M.2.2.2.2.2.2.2.2.2.2.2.2.2.2.2.2.1 M.2.2.2.2.2.2.2.2.2.2.2.2.2.2.2.2.2.1 M.2.2.2.2.2.2.2.2.2.2.2.2.2.2.2.2.2.2.1 M.2.2.2.2.2.2.2.2.2.2.2.2.2.2.2.2.2.2.2) H1 := hB
  refine W.widen (k := cells) (n := slots) (Nat.le_refl _) (Nat.le_refl _) ?_
  clear hFR hk1 hz1 hB ht
  generalize H1 = H at hPT hTC hPR hPU hS ⊢
  refine lc_eq (tgt := 819) hx hb (dt_at dt_Law_law_8 38 rfl) (dt_at dt_Law_law_8 39 rfl) (by decide) (fun c3 => ?_) (fun c3 => ?_)
  · have h := if_p h c3
    obtain rfl := os_of h
    refine W.widen (k := cells + 4) (n := slots + 12) (cn_w (by decide)) (cn_w (by decide)) ?_
    exact kk _ _ _ (lv_sub hl [0, 1, 2, 3, 4] rfl) hS ⟨⟨g3, hPT, hTC⟩, hPR, hPU⟩
  · have h := if_n h c3
    refine lv_iconst (v := 0) hx hb (dt_at dt_Law_law_8 40 rfl) (by decide) ?_
    exact nn_of h
set_option maxRecDepth 100000 in
set_option maxHeartbeats 4000000 in
theorem k_Law_c14 (hX0 : LwCX p l s m args meth c D a q b r u qu x L xs adK adV) (hv : LwV xs L iv v1 v2 v3 v4 v5) (hcc : cells + 4 ≤ room_1.cells ∧ slots + 12 ≤ room_1.slots) (hl : lv_has ls 7 [(0, .ref x), (1, .ref (a 0)), (2, .ref (b 0)), (3, .ref u), (4, .int iv)]) (hS : va_S (LwA s) s.heap H locs) (hLS : LwS D a q b r u qu T M gu H) (h : f_Law_c14 v1 v2 v3 v4 v5 T M gu = some S1) (kk : ∀ (ls : Array Slot) (H : Heap) (locs : List Loc), lv_has ls 7 [(0, .ref x), (1, .ref (a 0)), (2, .ref (b 0)), (3, .ref u), (4, .int iv)] → va_S (LwA s) s.heap H locs → LwS D a q b r u qu S1.1 S1.2.1 S1.2.2 H → W p l e room_1 s m args below meth c H locs (cells + 4) (slots + 12) Q (F0 m 819 ls [])) : W p l e room_1 s m args below meth c H locs cells slots Q (F0 m 738 ls []) := by
  obtain ⟨⟨hx, hb, hml, hown, hts, hr, hlocks⟩, hfl, hK, hKR, hKu, hSt, hN, hX, hxl, hDT, hDR, hau, hRT, hTR, huT, huR, hRTu⟩ := hX0
  obtain ⟨hin1, hin2, hin3, hin4, hin5, hv1, hv2, hv3, hv4, hv5⟩ := hv
  obtain ⟨⟨g3, hPT, hTC⟩, hPR, hPU⟩ := hLS
  have hdT : va_D (fun _ => True) (dT a) := hDT.weaken (fun _ _ _ _ => trivial)
  have hdR : va_D (fun _ => True) (dR b) := hDR.weaken (fun _ _ _ _ => trivial)
  rw [f_Law_c14] at h
  refine lv_aload_n hx hb (dt_at dt_Law_law_8 42 rfl) rfl (lv_at hl 1 rfl) ?_
  refine lv_aload_n hx hb (dt_at dt_Law_law_8 43 rfl) rfl (lv_at hl 0 rfl) ?_
  refine lv_iload hx hb (dt_at dt_Law_law_8 44 rfl) (lv_at hl 4 rfl) ?_
  refine lv_iconst (v := 1) hx hb (dt_at dt_Law_law_8 45 rfl) (by decide) ?_
  refine lv_iadd hx hb (dt_at dt_Law_law_8 46 rfl) ?_
  refine va_sld hx hb hX hxl (fun h9 => absurd hxl (Nat.not_lt.mpr h9)) hS hin1 (dt_at dt_Law_law_8 47 rfl) ?_
  rw [hv1]
  refine lv_aload_n hx hb (dt_at dt_Law_law_8 48 rfl) rfl (lv_at hl 0 rfl) ?_
  refine lv_iload hx hb (dt_at dt_Law_law_8 49 rfl) (lv_at hl 4 rfl) ?_
  refine lv_iconst (v := 2) hx hb (dt_at dt_Law_law_9 0 rfl) (by decide) ?_
  refine lv_iadd hx hb (dt_at dt_Law_law_9 1 rfl) ?_
  refine va_sld hx hb hX hxl (fun h9 => absurd hxl (Nat.not_lt.mpr h9)) hS hin2 (dt_at dt_Law_law_9 2 rfl) ?_
  rw [hv2]
  refine lv_i2l (v := v2.toInt64) hx hb (dt_at dt_Law_law_9 3 rfl) rfl ?_
  refine lv_bipush (v := 32) hx hb (dt_at dt_Law_law_9 4 rfl) (by decide) ?_
  refine lv_lshl (v := (j_lshl (v2.toInt64) (32 : Int32))) hx hb (dt_at dt_Law_law_9 5 rfl) rfl ?_
  refine lv_aload_n hx hb (dt_at dt_Law_law_9 6 rfl) rfl (lv_at hl 0 rfl) ?_
  refine lv_iload hx hb (dt_at dt_Law_law_9 7 rfl) (lv_at hl 4 rfl) ?_
  refine lv_iconst (v := 3) hx hb (dt_at dt_Law_law_9 8 rfl) (by decide) ?_
  refine lv_iadd hx hb (dt_at dt_Law_law_9 9 rfl) ?_
  refine va_sld hx hb hX hxl (fun h9 => absurd hxl (Nat.not_lt.mpr h9)) hS hin3 (dt_at dt_Law_law_9 10 rfl) ?_
  rw [hv3]
  refine lv_i2l (v := v3.toInt64) hx hb (dt_at dt_Law_law_9 11 rfl) rfl ?_
  refine lv_ldc2 (v := 4294967295) hx hb hown (hts (Cond.constantLong "OutwardTapeLaw" 61 (4294967295)) (m_5 134 rfl rfl)) (dt_at dt_Law_law_9 12 rfl) ?_
  refine lv_land hx hb (dt_at dt_Law_law_9 13 rfl) ?_
  refine lv_lor hx hb (dt_at dt_Law_law_9 14 rfl) ?_
  obtain ⟨r1, h_r1, h⟩ := ob_of h
  have hFT : ∀ y, va_A (dT a) H.size y → LwA s y := fr_of hDT hS
  refine va_calll (va_runV (As := [.int v1, .long ((j_lshl (v2.toInt64) (32 : Int32)) ||| ((v3.toInt64) &&& (4294967295 : Int64)))]) (rest := []) ⟨hx, hb, hml, hown, hts⟩ (c_Tape_clamp l D a q (a 5) (a 7) hdT H.size v1 ((j_lshl (v2.toInt64) (32 : Int32)) ||| ((v3.toInt64) &&& (4294967295 : Int64))) T.1 T.2.1 T.2.2.1 g3 T.2.2.2.1 T.2.2.2.2.1 T.2.2.2.2.2.1 T.2.2.2.2.2.2.1 T.2.2.2.2.2.2.2.1 T.2.2.2.2.2.2.2.2.1 T.2.2.2.2.2.2.2.2.2.1 T.2.2.2.2.2.2.2.2.2.2.1 T.2.2.2.2.2.2.2.2.2.2.2.1 T.2.2.2.2.2.2.2.2.2.2.2.2.1 T.2.2.2.2.2.2.2.2.2.2.2.2.2.1 T.2.2.2.2.2.2.2.2.2.2.2.2.2.2.1 T.2.2.2.2.2.2.2.2.2.2.2.2.2.2.2.1 T.2.2.2.2.2.2.2.2.2.2.2.2.2.2.2.2 r1 h_r1) (cwV 2 hts (gd_V (m_1 236 rfl rfl) (m_1 237 rfl rfl) (m_1 238 rfl rfl) (m_1 1 rfl rfl) (m_1 239 rfl rfl)) rfl rfl rfl (by decide +kernel) ⟨Nat.le_of_ble_eq_true rfl, Nat.le_of_ble_eq_true rfl⟩) ⟨fun a U g mk q => ⟨q.1, q.2.1, q.2.2.1, va_K.moved (u := U) (U := U.calling g mk a) (Vm.Alike.refl U.vm) q.2.2.2.1, q.2.2.2.2⟩, va_recv hK hPT (ci := 1) (q0 := 0) rfl rfl, fun U hU hW => ⟨rfl, by rw [hU], by rw [hU]; exact hPT, va_K.moved hW.alike hK, by rw [hU]; exact hTC⟩⟩ rfl rfl hl.1 rfl (lv_room (Nat.le_of_ble_eq_true rfl)) (dt_at dt_Law_law_9 15 rfl) ⟨cn_le (by decide) hcc.1, cn_le (by decide) hcc.2⟩) hS (fun y _ h9 => hFT y h9) hFT (fun u_r1 uu t H1 locs ht hvm hw hB hz1 hk1 hS => ?_)
  obtain rfl : r1 = u_r1 := hw.symm
  obtain ⟨hB, hTB⟩ := hB
  rw [ht] at hTB
  rw [ht] at hB
  have hPR := kp_ap hPR (by rfl) hRT hk1
  have hPU := kp_u hPU huT hk1
  have hTC : tapeC D (dT a) g3 T.2.2.2.2.2.2.2.2.2.2.2.2.2.2.2.2 H1 := hTB
  have hPT : va_P D CLS (wT a q (a 5) (a 7) T.1 T.2.1 T.2.2.1 g3 T.2.2.2.1 T.2.2.2.2.1 T.2.2.2.2.2.1 T.2.2.2.2.2.2.1 T.2.2.2.2.2.2.2.1 T.2.2.2.2.2.2.2.2.1 T.2.2.2.2.2.2.2.2.2.1 T.2.2.2.2.2.2.2.2.2.2.1 T.2.2.2.2.2.2.2.2.2.2.2.1 T.2.2.2.2.2.2.2.2.2.2.2.2.1 T.2.2.2.2.2.2.2.2.2.2.2.2.2.1 T.2.2.2.2.2.2.2.2.2.2.2.2.2.2.1 T.2.2.2.2.2.2.2.2.2.2.2.2.2.2.2.1) H1 := hB
  refine W.widen (k := cells) (n := slots) (Nat.le_refl _) (Nat.le_refl _) ?_
  clear hFT hk1 hz1 hB ht
  generalize H1 = H at hPT hTC hPR hPU hS ⊢
  refine lv_aload_n hx hb (dt_at dt_Law_law_9 16 rfl) rfl (lv_at hl 2 rfl) ?_
  refine lv_aload_n hx hb (dt_at dt_Law_law_9 17 rfl) rfl (lv_at hl 0 rfl) ?_
  refine lv_iload hx hb (dt_at dt_Law_law_9 18 rfl) (lv_at hl 4 rfl) ?_
  refine lv_iconst (v := 1) hx hb (dt_at dt_Law_law_9 19 rfl) (by decide) ?_
  refine lv_iadd hx hb (dt_at dt_Law_law_9 20 rfl) ?_
  refine va_sld hx hb hX hxl (fun h9 => absurd hxl (Nat.not_lt.mpr h9)) hS hin1 (dt_at dt_Law_law_9 21 rfl) ?_
  rw [hv1]
  refine lv_aload_n hx hb (dt_at dt_Law_law_9 22 rfl) rfl (lv_at hl 0 rfl) ?_
  refine lv_iload hx hb (dt_at dt_Law_law_9 23 rfl) (lv_at hl 4 rfl) ?_
  refine lv_iconst (v := 2) hx hb (dt_at dt_Law_law_9 24 rfl) (by decide) ?_
  refine lv_iadd hx hb (dt_at dt_Law_law_9 25 rfl) ?_
  refine va_sld hx hb hX hxl (fun h9 => absurd hxl (Nat.not_lt.mpr h9)) hS hin2 (dt_at dt_Law_law_9 26 rfl) ?_
  rw [hv2]
  refine lv_i2l (v := v2.toInt64) hx hb (dt_at dt_Law_law_9 27 rfl) rfl ?_
  refine lv_bipush (v := 32) hx hb (dt_at dt_Law_law_9 28 rfl) (by decide) ?_
  refine lv_lshl (v := (j_lshl (v2.toInt64) (32 : Int32))) hx hb (dt_at dt_Law_law_9 29 rfl) rfl ?_
  refine lv_aload_n hx hb (dt_at dt_Law_law_9 30 rfl) rfl (lv_at hl 0 rfl) ?_
  refine lv_iload hx hb (dt_at dt_Law_law_9 31 rfl) (lv_at hl 4 rfl) ?_
  refine lv_iconst (v := 3) hx hb (dt_at dt_Law_law_9 32 rfl) (by decide) ?_
  refine lv_iadd hx hb (dt_at dt_Law_law_9 33 rfl) ?_
  refine va_sld hx hb hX hxl (fun h9 => absurd hxl (Nat.not_lt.mpr h9)) hS hin3 (dt_at dt_Law_law_9 34 rfl) ?_
  rw [hv3]
  refine lv_i2l (v := v3.toInt64) hx hb (dt_at dt_Law_law_9 35 rfl) rfl ?_
  refine lv_ldc2 (v := 4294967295) hx hb hown (hts (Cond.constantLong "OutwardTapeLaw" 61 (4294967295)) (m_5 134 rfl rfl)) (dt_at dt_Law_law_9 36 rfl) ?_
  refine lv_land hx hb (dt_at dt_Law_law_9 37 rfl) ?_
  refine lv_lor hx hb (dt_at dt_Law_law_9 38 rfl) ?_
  obtain ⟨r2, h_r2, h⟩ := ob_of h
  have hFR : ∀ y, va_A (dR b) H.size y → LwA s y := fr_of hDR hS
  refine va_calll (va_runV (As := [.int v1, .long ((j_lshl (v2.toInt64) (32 : Int32)) ||| ((v3.toInt64) &&& (4294967295 : Int64)))]) (rest := [.long r1]) ⟨hx, hb, hml, hown, hts⟩ (c_Ref_clamp l D b r hdR H.size v1 ((j_lshl (v2.toInt64) (32 : Int32)) ||| ((v3.toInt64) &&& (4294967295 : Int64))) M.1 M.2.1 M.2.2.1 M.2.2.2.1 M.2.2.2.2.1 M.2.2.2.2.2.1 M.2.2.2.2.2.2.1 M.2.2.2.2.2.2.2.1 M.2.2.2.2.2.2.2.2.1 M.2.2.2.2.2.2.2.2.2.1 M.2.2.2.2.2.2.2.2.2.2.1 M.2.2.2.2.2.2.2.2.2.2.2.1 M.2.2.2.2.2.2.2.2.2.2.2.2.1 M.2.2.2.2.2.2.2.2.2.2.2.2.2.1 M.2.2.2.2.2.2.2.2.2.2.2.2.2.2.1 M.2.2.2.2.2.2.2.2.2.2.2.2.2.2.2.1 M.2.2.2.2.2.2.2.2.2.2.2.2.2.2.2.2.1 M.2.2.2.2.2.2.2.2.2.2.2.2.2.2.2.2.2.1 M.2.2.2.2.2.2.2.2.2.2.2.2.2.2.2.2.2.2.1 M.2.2.2.2.2.2.2.2.2.2.2.2.2.2.2.2.2.2.2 r2 h_r2) (cwV 2 hts (gd_V (m_5 126 rfl rfl) (m_5 127 rfl rfl) (m_5 128 rfl rfl) (m_1 4 rfl rfl) (m_5 129 rfl rfl)) rfl rfl rfl (by decide +kernel) ⟨Nat.le_of_ble_eq_true rfl, Nat.le_of_ble_eq_true rfl⟩) ⟨fun a U g mk q => ⟨q.1, q.2.1, q.2.2.1, va_K.moved (u := U) (U := U.calling g mk a) (Vm.Alike.refl U.vm) q.2.2.2⟩, va_recv hKR hPR (ci := 0) (q0 := 0) rfl rfl, fun U hU hW => ⟨rfl, by rw [hU], by rw [hU]; exact hPR, va_K.moved hW.alike hKR⟩⟩ rfl rfl hl.1 rfl (lv_room (Nat.le_of_ble_eq_true rfl)) (dt_at dt_Law_law_9 39 rfl) ⟨cn_le (by decide) hcc.1, cn_le (by decide) hcc.2⟩) hS (fun y _ h9 => hFR y h9) hFR (fun u_r2 uu t H1 locs ht hvm hw hB hz1 hk1 hS => ?_)
  subst hw
  rw [ht] at hB
  have hPT := kp_ap hPT (by rfl) hTR hk1
  have hTC := tapeC.keptR hK hKR hPR hTC hk1
  have hPU := kp_u hPU huR hk1
  have hPR : va_P D CLS (wR b r M.1 M.2.1 M.2.2.1 M.2.2.2.1 M.2.2.2.2.1 r2.2 M.2.2.2.2.2.2.1 M.2.2.2.2.2.2.2.1 M.2.2.2.2.2.2.2.2.1 M.2.2.2.2.2.2.2.2.2.1 M.2.2.2.2.2.2.2.2.2.2.1 M.2.2.2.2.2.2.2.2.2.2.2.1 M.2.2.2.2.2.2.2.2.2.2.2.2.1 M.2.2.2.2.2.2.2.2.2.2.2.2.2.1 M.2.2.2.2.2.2.2.2.2.2.2.2.2.2.1 M.2.2.2.2.2.2.2.2.2.2.2.2.2.2.2.1 M.2.2.2.2.2.2.2.2.2.2.2.2.2.2.2.2.1 M.2.2.2.2.2.2.2.2.2.2.2.2.2.2.2.2.2.1 M.2.2.2.2.2.2.2.2.2.2.2.2.2.2.2.2.2.2.1 M.2.2.2.2.2.2.2.2.2.2.2.2.2.2.2.2.2.2.2) H1 := hB
  refine W.widen (k := cells) (n := slots) (Nat.le_refl _) (Nat.le_refl _) ?_
  clear hFR hk1 hz1 hB ht
  generalize H1 = H at hPT hTC hPR hPU hS ⊢
  refine lc_eq (tgt := 819) hx hb (dt_at dt_Law_law_9 40 rfl) (dt_at dt_Law_law_9 41 rfl) (by decide) (fun c3 => ?_) (fun c3 => ?_)
  · have h := if_p h c3
    obtain rfl := os_of h
    refine W.widen (k := cells + 4) (n := slots + 12) (cn_w (by decide)) (cn_w (by decide)) ?_
    exact kk _ _ _ (lv_sub hl [0, 1, 2, 3, 4] rfl) hS ⟨⟨g3, hPT, hTC⟩, hPR, hPU⟩
  · have h := if_n h c3
    refine lv_iconst (v := 0) hx hb (dt_at dt_Law_law_9 42 rfl) (by decide) ?_
    exact nn_of h
set_option maxRecDepth 100000 in
set_option maxHeartbeats 4000000 in
theorem k_Law_c15 (hX0 : LwCX p l s m args meth c D a q b r u qu x L xs adK adV) (hv : LwV xs L iv v1 v2 v3 v4 v5) (hcc : cells + 4 ≤ room_1.cells ∧ slots + 12 ≤ room_1.slots) (hl : lv_has ls 7 [(0, .ref x), (1, .ref (a 0)), (2, .ref (b 0)), (3, .ref u), (4, .int iv)]) (hS : va_S (LwA s) s.heap H locs) (hLS : LwS D a q b r u qu T M gu H) (h : f_Law_c15 v1 v2 v3 v4 v5 T M gu = some S1) (kk : ∀ (ls : Array Slot) (H : Heap) (locs : List Loc), lv_has ls 7 [(0, .ref x), (1, .ref (a 0)), (2, .ref (b 0)), (3, .ref u), (4, .int iv)] → va_S (LwA s) s.heap H locs → LwS D a q b r u qu S1.1 S1.2.1 S1.2.2 H → W p l e room_1 s m args below meth c H locs (cells + 4) (slots + 12) Q (F0 m 819 ls [])) : W p l e room_1 s m args below meth c H locs cells slots Q (F0 m 808 ls []) := by
  obtain ⟨⟨hx, hb, hml, hown, hts, hr, hlocks⟩, hfl, hK, hKR, hKu, hSt, hN, hX, hxl, hDT, hDR, hau, hRT, hTR, huT, huR, hRTu⟩ := hX0
  obtain ⟨hin1, hin2, hin3, hin4, hin5, hv1, hv2, hv3, hv4, hv5⟩ := hv
  obtain ⟨⟨g3, hPT, hTC⟩, hPR, hPU⟩ := hLS
  have hdT : va_D (fun _ => True) (dT a) := hDT.weaken (fun _ _ _ _ => trivial)
  have hdR : va_D (fun _ => True) (dR b) := hDR.weaken (fun _ _ _ _ => trivial)
  rw [f_Law_c15] at h
  refine lv_aload_n hx hb (dt_at dt_Law_law_9 44 rfl) rfl (lv_at hl 1 rfl) ?_
  obtain ⟨r1, h_r1, h⟩ := ob_of h
  have hFT : ∀ y, va_A (dT a) H.size y → LwA s y := fr_of hDT hS
  refine va_callv (va_runV (As := []) (rest := []) ⟨hx, hb, hml, hown, hts⟩ (c_Tape_clear l D a q (a 5) (a 7) hdT H.size  T.1 T.2.1 T.2.2.1 g3 T.2.2.2.1 T.2.2.2.2.1 T.2.2.2.2.2.1 T.2.2.2.2.2.2.1 T.2.2.2.2.2.2.2.1 T.2.2.2.2.2.2.2.2.1 T.2.2.2.2.2.2.2.2.2.1 T.2.2.2.2.2.2.2.2.2.2.1 T.2.2.2.2.2.2.2.2.2.2.2.1 T.2.2.2.2.2.2.2.2.2.2.2.2.1 T.2.2.2.2.2.2.2.2.2.2.2.2.2.1 T.2.2.2.2.2.2.2.2.2.2.2.2.2.2.1 T.2.2.2.2.2.2.2.2.2.2.2.2.2.2.2.1 r1 h_r1) (cwV 0 hts (gd_V (m_2 9 rfl rfl) (m_2 10 rfl rfl) (m_2 11 rfl rfl) (m_1 1 rfl rfl) (m_2 12 rfl rfl)) rfl rfl rfl (by decide +kernel) ⟨Nat.le_of_ble_eq_true rfl, Nat.le_of_ble_eq_true rfl⟩) ⟨fun a U g mk q => ⟨q.1, q.2.1, q.2.2.1, va_K.moved (u := U) (U := U.calling g mk a) (Vm.Alike.refl U.vm) q.2.2.2⟩, va_recv hK hPT (ci := 1) (q0 := 0) rfl rfl, fun U hU hW => ⟨rfl, by rw [hU], by rw [hU]; exact hPT, va_K.moved hW.alike hK⟩⟩ rfl rfl hl.1 rfl (lv_room (Nat.le_of_ble_eq_true rfl)) (dt_at dt_Law_law_9 45 rfl) ⟨cn_le (by decide) hcc.1, cn_le (by decide) hcc.2⟩) hS (fun y _ h9 => hFT y h9) hFT (fun uu t H1 locs ht hvm hw hB hz1 hk1 hS => ?_)
  rw [ht] at hB
  have hPR := kp_ap hPR (by rfl) hRT hk1
  have hPU := kp_u hPU huT hk1
  have hTC := hTC.kept hk1
  have hPT : va_P D CLS (wT a q (a 5) (a 7) T.1 r1 T.2.2.1 g3 T.2.2.2.1 T.2.2.2.2.1 T.2.2.2.2.2.1 T.2.2.2.2.2.2.1 T.2.2.2.2.2.2.2.1 T.2.2.2.2.2.2.2.2.1 T.2.2.2.2.2.2.2.2.2.1 T.2.2.2.2.2.2.2.2.2.2.1 T.2.2.2.2.2.2.2.2.2.2.2.1 T.2.2.2.2.2.2.2.2.2.2.2.2.1 T.2.2.2.2.2.2.2.2.2.2.2.2.2.1 T.2.2.2.2.2.2.2.2.2.2.2.2.2.2.1 T.2.2.2.2.2.2.2.2.2.2.2.2.2.2.2.1) H1 := hB
  refine W.widen (k := cells) (n := slots) (Nat.le_refl _) (Nat.le_refl _) ?_
  clear hFT hk1 hz1 hB ht
  generalize H1 = H at hPT hTC hPR hPU hS ⊢
  refine lv_aload_n hx hb (dt_at dt_Law_law_9 46 rfl) rfl (lv_at hl 2 rfl) ?_
  obtain ⟨r2, h_r2, h⟩ := ob_of h
  have hFR : ∀ y, va_A (dR b) H.size y → LwA s y := fr_of hDR hS
  refine va_callv (va_runV (As := []) (rest := []) ⟨hx, hb, hml, hown, hts⟩ (c_Ref_clear l D b r hdR H.size  M.1 M.2.1 M.2.2.1 M.2.2.2.1 M.2.2.2.2.1 M.2.2.2.2.2.1 M.2.2.2.2.2.2.1 M.2.2.2.2.2.2.2.1 M.2.2.2.2.2.2.2.2.1 M.2.2.2.2.2.2.2.2.2.1 M.2.2.2.2.2.2.2.2.2.2.1 M.2.2.2.2.2.2.2.2.2.2.2.1 M.2.2.2.2.2.2.2.2.2.2.2.2.1 M.2.2.2.2.2.2.2.2.2.2.2.2.2.1 M.2.2.2.2.2.2.2.2.2.2.2.2.2.2.1 M.2.2.2.2.2.2.2.2.2.2.2.2.2.2.2.1 M.2.2.2.2.2.2.2.2.2.2.2.2.2.2.2.2.1 M.2.2.2.2.2.2.2.2.2.2.2.2.2.2.2.2.2.1 M.2.2.2.2.2.2.2.2.2.2.2.2.2.2.2.2.2.2.1 M.2.2.2.2.2.2.2.2.2.2.2.2.2.2.2.2.2.2.2 r2 h_r2) (cwV 0 hts (gd_V (m_5 130 rfl rfl) (m_5 131 rfl rfl) (m_5 132 rfl rfl) (m_1 4 rfl rfl) (m_5 133 rfl rfl)) rfl rfl rfl (by decide +kernel) ⟨Nat.le_of_ble_eq_true rfl, Nat.le_of_ble_eq_true rfl⟩) ⟨fun a U g mk q => ⟨q.1, q.2.1, q.2.2.1, va_K.moved (u := U) (U := U.calling g mk a) (Vm.Alike.refl U.vm) q.2.2.2⟩, va_recv hKR hPR (ci := 0) (q0 := 0) rfl rfl, fun U hU hW => ⟨rfl, by rw [hU], by rw [hU]; exact hPR, va_K.moved hW.alike hKR⟩⟩ rfl rfl hl.1 rfl (lv_room (Nat.le_of_ble_eq_true rfl)) (dt_at dt_Law_law_9 47 rfl) ⟨cn_le (by decide) hcc.1, cn_le (by decide) hcc.2⟩) hS (fun y _ h9 => hFR y h9) hFR (fun uu t H1 locs ht hvm hw hB hz1 hk1 hS => ?_)
  rw [ht] at hB
  have hPT := kp_ap hPT (by rfl) hTR hk1
  have hTC := tapeC.keptR hK hKR hPR hTC hk1
  have hPU := kp_u hPU huR hk1
  have hPR : va_P D CLS (wR b r r2.1 M.2.1 M.2.2.1 M.2.2.2.1 M.2.2.2.2.1 r2.2 M.2.2.2.2.2.2.1 M.2.2.2.2.2.2.2.1 M.2.2.2.2.2.2.2.2.1 M.2.2.2.2.2.2.2.2.2.1 M.2.2.2.2.2.2.2.2.2.2.1 M.2.2.2.2.2.2.2.2.2.2.2.1 M.2.2.2.2.2.2.2.2.2.2.2.2.1 M.2.2.2.2.2.2.2.2.2.2.2.2.2.1 M.2.2.2.2.2.2.2.2.2.2.2.2.2.2.1 M.2.2.2.2.2.2.2.2.2.2.2.2.2.2.2.1 M.2.2.2.2.2.2.2.2.2.2.2.2.2.2.2.2.1 M.2.2.2.2.2.2.2.2.2.2.2.2.2.2.2.2.2.1 M.2.2.2.2.2.2.2.2.2.2.2.2.2.2.2.2.2.2.1 M.2.2.2.2.2.2.2.2.2.2.2.2.2.2.2.2.2.2.2) H1 := hB
  refine W.widen (k := cells) (n := slots) (Nat.le_refl _) (Nat.le_refl _) ?_
  clear hFR hk1 hz1 hB ht
  generalize H1 = H at hPT hTC hPR hPU hS ⊢
  refine lv_goto (tgt := 819) hx hb (dt_at dt_Law_law_9 48 rfl) (by decide) ?_
  obtain rfl := os_of h
  refine W.widen (k := cells + 4) (n := slots + 12) (cn_w (by decide)) (cn_w (by decide)) ?_
  exact kk _ _ _ (lv_sub hl [0, 1, 2, 3, 4] rfl) hS ⟨⟨g3, hPT, hTC⟩, hPR, hPU⟩
end LAWC
