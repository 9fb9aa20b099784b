-- the words of the tables that stay over every step; a word is found by its place
def lw_G : List Cond := lw_tbl.filter goodWord
theorem i_G {w : Cond} (h : w ∈ lw_tbl) (g : goodWord w = true) : w ∈ lw_G := List.mem_filter.mpr ⟨h, g⟩
theorem i_t1 {w : Cond} (h : w ∈ tables_1_1) : w ∈ lw_tbl := List.mem_append_right _ (List.mem_append_left _ h)
theorem i_t2 {w : Cond} (h : w ∈ tables_1_2) : w ∈ lw_tbl := List.mem_append_right _ (List.mem_append_right _ (List.mem_append_left _ h))
theorem i_t3 {w : Cond} (h : w ∈ tables_1_3) : w ∈ lw_tbl := List.mem_append_right _ (List.mem_append_right _ (List.mem_append_right _ (List.mem_append_left _ h)))
theorem i_t4 {w : Cond} (h : w ∈ tables_1_4) : w ∈ lw_tbl := List.mem_append_right _ (List.mem_append_right _ (List.mem_append_right _ (List.mem_append_right _ (List.mem_append_left _ h))))
theorem i_t5 {w : Cond} (h : w ∈ tables_1_5) : w ∈ lw_tbl := List.mem_append_right _ (List.mem_append_right _ (List.mem_append_right _ (List.mem_append_right _ (List.mem_append_right _ h))))
theorem i_sel {w : Cond} (h : w ∈ k2_sels lw_privs) : w ∈ lw_tbl := List.mem_append_left _ h
theorem m_1 {w : Cond} (k : Nat) (h : tables_1_1[k]? = some w) (g : goodWord w = true) : w ∈ lw_G := i_G (i_t1 (List.mem_of_getElem? h)) g
theorem m_2 {w : Cond} (k : Nat) (h : tables_1_2[k]? = some w) (g : goodWord w = true) : w ∈ lw_G := i_G (i_t2 (List.mem_of_getElem? h)) g
theorem m_3 {w : Cond} (k : Nat) (h : tables_1_3[k]? = some w) (g : goodWord w = true) : w ∈ lw_G := i_G (i_t3 (List.mem_of_getElem? h)) g
theorem m_4 {w : Cond} (k : Nat) (h : tables_1_4[k]? = some w) (g : goodWord w = true) : w ∈ lw_G := i_G (i_t4 (List.mem_of_getElem? h)) g
theorem m_5 {w : Cond} (k : Nat) (h : tables_1_5[k]? = some w) (g : goodWord w = true) : w ∈ lw_G := i_G (i_t5 (List.mem_of_getElem? h)) g
theorem m_s {w : Cond} (k : Nat) (h : (k2_sels lw_privs)[k]? = some w) (g : goodWord w = true) : w ∈ lw_G := i_G (i_sel (List.mem_of_getElem? h)) g
theorem lw_good : ∀ w ∈ lw_G, goodWord w = true := fun w h => (List.mem_filter.mp h).2
theorem lw_goodIn : GoodIn lw_G lw_G := fun w h => ⟨h, good_of_word (lw_good w h)⟩
theorem gd_c {w : Cond} (h : w ∈ lw_G) : GoodIn lw_G (w :: lw_G) := fun v hv => by
  rcases List.mem_cons.mp hv with rfl | hv
  · exact lw_goodIn _ h
  · exact lw_goodIn _ hv
theorem gd_cc {ws : List Cond} {w : Cond} (h : w ∈ lw_G) (hw : GoodIn lw_G ws) : GoodIn lw_G (w :: ws) := fun v hv => by
  rcases List.mem_cons.mp hv with rfl | hv
  · exact lw_goodIn _ h
  · exact hw _ hv
theorem gd_S {own : String} {idx : Nat} {y : MethodName} {w : Cond} (h1 : Cond.methodLink own idx y ∈ lw_G) (h2 : Cond.static y ∈ lw_G) (h3 : Cond.initialized y.cls ∈ lw_G) (h4 : w ∈ lw_G) : GoodIn lw_G (va_wsS own idx y (w :: lw_G)) :=
  gd_cc h1 (gd_cc h2 (gd_cc h3 (gd_c h4)))
theorem gd_V {own C : String} {idx : Nat} {y : MethodName} {w : Cond} (h1 : Cond.methodLink own idx y ∈ lw_G) (h2 : Cond.instanceMethod y ∈ lw_G) (h3 : Cond.selects C y y ∈ lw_G) (h5 : Cond.initialized C ∈ lw_G) (h4 : w ∈ lw_G) : GoodIn lw_G (wsV own idx C y (w :: lw_G)) :=
  gd_cc h1 (gd_cc h2 (gd_cc h3 (gd_cc h5 (gd_c h4))))
theorem tst1 : Cond.code (⟨"OutwardTape$Exact", "rounded", "(ZJII)J"⟩ : MethodName) prog_4_method_2_code 14 (some .long) ∈ lw_G := m_1 200 rfl rfl
theorem tst2 : Cond.methodLink "OutwardTapeLaw" 35 ⟨"OutwardTape", "<init>", "()V"⟩ ∈ lw_G := m_1 25 rfl rfl
