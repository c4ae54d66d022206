theorem gl_0 : (R_W, 51, "<e v=\"1\"><b>", 0) ∈ gLs := List.mem_of_getElem? (i := 0) rfl
theorem gl_1 : (R_W, 73, "<\x72", 1) ∈ gLs := List.mem_of_getElem? (i := 1) rfl
theorem gl_2 : (R_W, 75, "h", 2) ∈ gLs := List.mem_of_getElem? (i := 2) rfl
theorem gl_3 : (R_W, 153, "=\"", 3) ∈ gLs := List.mem_of_getElem? (i := 3) rfl
theorem gl_4 : (R_W, 81, "/>", 4) ∈ gLs := List.mem_of_getElem? (i := 4) rfl
theorem gl_5 : (R_W, 92, "<p", 5) ∈ gLs := List.mem_of_getElem? (i := 5) rfl
theorem gl_6 : (R_W, 94, "<a", 6) ∈ gLs := List.mem_of_getElem? (i := 6) rfl
theorem gl_7 : (R_W, 96, "<t", 7) ∈ gLs := List.mem_of_getElem? (i := 7) rfl
theorem gl_8 : (R_W, 98, "id", 8) ∈ gLs := List.mem_of_getElem? (i := 8) rfl
theorem gl_9 : (R_W, 100, "n", 9) ∈ gLs := List.mem_of_getElem? (i := 9) rfl
theorem gl_10 : (R_W, 105, "o", 10) ∈ gLs := List.mem_of_getElem? (i := 10) rfl
theorem gl_11 : (R_W, 147, "&lt;", 11) ∈ gLs := List.mem_of_getElem? (i := 11) rfl
theorem gl_12 : (R_W, 149, "&gt;", 12) ∈ gLs := List.mem_of_getElem? (i := 12) rfl
theorem gl_13 : (R_W, 151, "&amp;", 13) ∈ gLs := List.mem_of_getElem? (i := 13) rfl
theorem gl_14 : (R_W, 131, "<n/>", 14) ∈ gLs := List.mem_of_getElem? (i := 14) rfl
theorem gl_15 : (R_W, 133, "<i>", 15) ∈ gLs := List.mem_of_getElem? (i := 15) rfl
theorem gl_16 : (R_W, 141, "</i>", 16) ∈ gLs := List.mem_of_getElem? (i := 16) rfl
theorem gl_17 : (R_W, 118, "</p>", 17) ∈ gLs := List.mem_of_getElem? (i := 17) rfl
theorem gl_18 : (R_W, 120, "</a>", 18) ∈ gLs := List.mem_of_getElem? (i := 18) rfl
theorem gl_19 : (R_W, 122, "</t>", 19) ∈ gLs := List.mem_of_getElem? (i := 19) rfl
theorem gl_20 : (R_W, 64, "</b></e>", 20) ∈ gLs := List.mem_of_getElem? (i := 20) rfl
theorem gl_21 : (R_F, 105, "&lt;", 21) ∈ gLs := List.mem_of_getElem? (i := 21) rfl
theorem gl_22 : (R_F, 111, "&gt;", 22) ∈ gLs := List.mem_of_getElem? (i := 22) rfl
theorem gl_23 : (R_F, 113, "&amp;", 23) ∈ gLs := List.mem_of_getElem? (i := 23) rfl
theorem gl_24 : (R_F, 115, "&quot;", 24) ∈ gLs := List.mem_of_getElem? (i := 24) rfl
/-! String constants: the JDK's members on them, over any world; q is one of gLs, its text gTx at q.2.2.2 -/
def gTn (i : Nat) : Nat := (gTx.getD i []).length
theorem gTn_lt : ∀ q ∈ gLs, gTn q.2.2.2 < 100 := by decide +kernel
theorem gTx_lt : ∀ q ∈ gLs, ∀ j, j < gTn q.2.2.2 → (gTx.getD q.2.2.2 []).getD j 0 < 128 := by decide +kernel
theorem g_mapD (l : List Nat) (j : Nat) (h : j < l.length) : (l.map nI).getD j 0 = nI (l.getD j 0) := by
  rw [List.getD_eq_getElem?_getD, List.getD_eq_getElem?_getD, List.getElem?_map, List.getElem?_eq_getElem h]
  rfl
theorem gTx_nI (i j : Nat) (h : j < gTn i) : ((gTx.getD i []).map nI).getD j 0 = nI ((gTx.getD i []).getD j 0) := g_mapD _ j h
theorem g_b255 : ∀ k, k < 128 → ((nI k &&& 255).toUInt32 % 65536).toInt32 = nI k ∧ narrow .char (.int (nI k)) = .int (nI k) := by decide +kernel
set_option maxHeartbeats 4000000 in
set_option maxRecDepth 100000 in
theorem m_Q_coder {l : Launch} {X : va_G} {cI cC cZ : ClassId} {aK aV : Nat → Nat} {ws : va_W} {q : String × Nat × String × Nat} (hq : q ∈ gLs) {sz : Nat} : Met l y_Q_coder w_Q_coder { frames := 0, cells := 0, slots := 0, locals := 0 } (gPc X vwCl (gT cI cC cZ) aK aV ws sz [.ref (aK q.2.2.2)]) (gQi X vwCl ws sz (fun r' (_ : Unit) => r' = 0) (fun _ => ws)) 0 0 (va_A ws sz) := by
  refine g_met (cc := b_Q_coder) (maxL := 1) (ret := (some .byte)) (by decide) rfl (Nat.le_of_ble_eq_true rfl) ?_
  intro p e s m below meth c A ls hx hb hr hml hown hts hlocks hnm hsz hAe hA hP hK hD hS hl hE
  have hown : s.vm.findClass R_Q = some m.cls := hown
  have k0 := hts (.fieldLink R_Q 38 "java/lang/String" "COMPACT_STRINGS" "Z") (List.mem_cons_of_mem _ tb_0)
  have k1 := hts (.fieldLink R_Q 15 "java/lang/String" "coder" "B") (List.mem_cons_of_mem _ tb_1)
  obtain ⟨s1, s2, s3, s4⟩ := (hE.2.1 q hq).2.1 0 (by decide)
  refine va_gets hx hb hE.2.2.1 hS hown k0 (fun _ h9 => h9) d_Q_coder_0 ?_
  refine lv_if_eq (tgt := 13) hx hb d_Q_coder_3 rfl (fun h => absurd h (by decide)) (fun _ => ?_)
  refine lv_aload_n hx hb d_Q_coder_6 rfl (lv_at hl 0 rfl) ?_
  refine vk_getf hx hb s2 hS hown k1 (fun _ h9 => h9) d_Q_coder_7 ?_
  refine lv_goto (tgt := 14) hx hb d_Q_coder_10 rfl ?_
  exact g_zret hx hb hr hlocks rfl hAe hS () rfl hP d_Q_coder_14
set_option maxHeartbeats 4000000 in
set_option maxRecDepth 100000 in
theorem m_Q_isLatin1 {l : Launch} {X : va_G} {cI cC cZ : ClassId} {aK aV : Nat → Nat} {ws : va_W} {q : String × Nat × String × Nat} (hq : q ∈ gLs) {sz : Nat} : Met l y_Q_isLatin1 w_Q_isLatin1 { frames := 0, cells := 0, slots := 0, locals := 0 } (gPc X vwCl (gT cI cC cZ) aK aV ws sz [.ref (aK q.2.2.2)]) (gQi X vwCl ws sz (fun r' (_ : Unit) => r' = 1) (fun _ => ws)) 0 0 (va_A ws sz) := by
  refine g_met (cc := b_Q_isLatin1) (maxL := 1) (ret := (some .boolean)) (by decide) rfl (Nat.le_of_ble_eq_true rfl) ?_
  intro p e s m below meth c A ls hx hb hr hml hown hts hlocks hnm hsz hAe hA hP hK hD hS hl hE
  have hown : s.vm.findClass R_Q = some m.cls := hown
  have k0 := hts (.fieldLink R_Q 38 "java/lang/String" "COMPACT_STRINGS" "Z") (List.mem_cons_of_mem _ tb_0)
  have k1 := hts (.fieldLink R_Q 15 "java/lang/String" "coder" "B") (List.mem_cons_of_mem _ tb_1)
  obtain ⟨s1, s2, s3, s4⟩ := (hE.2.1 q hq).2.1 0 (by decide)
  refine va_gets hx hb hE.2.2.1 hS hown k0 (fun _ h9 => h9) d_Q_isLatin1_0 ?_
  refine lv_if_eq (tgt := 17) hx hb d_Q_isLatin1_3 rfl (fun h => absurd h (by decide)) (fun _ => ?_)
  refine lv_aload_n hx hb d_Q_isLatin1_6 rfl (lv_at hl 0 rfl) ?_
  refine vk_getf hx hb s2 hS hown k1 (fun _ h9 => h9) d_Q_isLatin1_7 ?_
  refine lv_if_ne (tgt := 17) hx hb d_Q_isLatin1_10 rfl (fun h => absurd rfl h) (fun _ => ?_)
  refine lv_iconst (v := 1) hx hb d_Q_isLatin1_13 (by decide) ?_
  refine lv_goto (tgt := 18) hx hb d_Q_isLatin1_14 rfl ?_
  exact g_zret hx hb hr hlocks rfl hAe hS () rfl hP d_Q_isLatin1_18
/-- a String constant as receiver -/
theorem g_preQ {s : State} {H : Heap} {locs : List Loc} {X : va_G} {cl : List vw_C} {T : List (ClassId × FieldType)} {ws : va_W} {A : Nat → Prop} {aK aV : Nat → Nat} {As : List Value} {q : String × Nat × String × Nat} (hq : q ∈ gLs) (hE : gE aK aV A s s.heap) (hK : va_K X cl T s) (hP : va_P X cl ws H) (hD : va_D A ws) (hS : va_S A s.heap H locs) (hA : ∀ q : Nat, s.heap.size ≤ q → A q) : PreV s H R_Q (aK q.2.2.2) (gPc X cl T aK aV ws H.size (.ref (aK q.2.2.2) :: As)) As := by
  have h := g_preSW (av := .ref (aK q.2.2.2) :: As) hE hK hP hD hS hA
  exact ⟨h.1, vk_recv (i := 0) (hE.2.1 q hq).2 (by decide) hS, h.2⟩
set_option maxHeartbeats 4000000 in
set_option maxRecDepth 100000 in
theorem m_Q_length {l : Launch} {X : va_G} {cI cC cZ : ClassId} {aK aV : Nat → Nat} {ws : va_W} {q : String × Nat × String × Nat} (hq : q ∈ gLs) {sz : Nat} : Met l y_Q_length w_Q_length { frames := 1, cells := 0, slots := 0, locals := 20 } (gPc X vwCl (gT cI cC cZ) aK aV ws sz [.ref (aK q.2.2.2)]) (gQi X vwCl ws sz (fun r' (_ : Unit) => r' = nI (gTn q.2.2.2)) (fun _ => ws)) 0 0 (va_A ws sz) := by
  refine g_met (cc := b_Q_length) (maxL := 1) (ret := (some .int)) (by decide) rfl (Nat.le_of_ble_eq_true rfl) ?_
  intro p e s m below meth c A ls hx hb hr hml hown hts hlocks hnm hsz hAe hA hP hK hD hS hl hE
  have hown : s.vm.findClass R_Q = some m.cls := hown
  have k0 := hts (.fieldLink R_Q 9 "java/lang/String" "value" "[B") (List.mem_cons_of_mem _ tb_2)
  obtain ⟨s1, s2, s3, s4⟩ := (hE.2.1 q hq).2.1 0 (by decide)
  refine lv_aload_n hx hb d_Q_length_0 rfl (lv_at hl 0 rfl) ?_
  refine vk_getf hx hb s3 hS hown k0 (fun _ h9 => h9) d_Q_length_1 ?_
  refine va_tlen (v := nI (gTn q.2.2.2)) hx hb s4 hS rfl d_Q_length_4 ?_
  refine lv_aload_n hx hb d_Q_length_5 rfl (lv_at hl 0 rfl) ?_
  refine g_wi (va_runV ⟨hx, hb, hml, hown, hts⟩ (m_Q_coder hq) (cwV 0 hts (gG4 (fun _ h => List.mem_cons_of_mem _ h) tb_3 tb_4 tb_5 tb_6 tc_Q_coder) rfl rfl rfl (by decide +kernel) ⟨Nat.le_of_ble_eq_true rfl, Nat.le_of_ble_eq_true rfl⟩) (g_preQ hq hE hK hP hD hS hA) rfl rfl hl.1 rfl (lv_room (Nat.le_of_ble_eq_true rfl)) d_Q_length_6 ⟨Nat.zero_le _, Nat.zero_le _⟩) hD hS hA (fun _ => rfl) (fun y1 _ H locs hu hP hD hS => ?_)
  subst hu
  refine lv_ishr hx hb d_Q_length_9 ?_
  exact g_zret hx hb hr hlocks rfl hAe hS () (sb_shr0 _) hP d_Q_length_10
set_option maxHeartbeats 4000000 in
set_option maxRecDepth 100000 in
theorem m_Z_checkIndex_null {l : Launch} {X : va_G} {cI cC cZ : ClassId} {aK aV : Nat → Nat} {ws : va_W} {j n : Nat} (hj : j < n) (hn : n < 100) {sz : Nat} : Met l y_Z_checkIndex w_Z_checkIndex { frames := 0, cells := 0, slots := 0, locals := 0 } (gPc X vwCl (gT cI cC cZ) aK aV ws sz [.int (nI j), .int (nI n), .null]) (gQi X vwCl ws sz (fun r' (_ : Unit) => r' = nI j) (fun _ => ws)) 0 0 (va_A ws sz) := by
  refine g_met (cc := b_Z_checkIndex) (maxL := 3) (ret := (some .int)) (by decide) rfl (Nat.le_of_ble_eq_true rfl) ?_
  intro p e s m below meth c A ls hx hb hr hml hown hts hlocks hnm hsz hAe hA hP hK hD hS hl hE
  refine lv_iload_n hx hb d_Z_checkIndex_0 rfl (lv_at hl 0 rfl) ?_
  refine lv_if_lt (tgt := 9) hx hb d_Z_checkIndex_1 rfl (fun h => absurd h (nI_pos (by omega))) (fun _ => ?_)
  refine lv_iload_n hx hb d_Z_checkIndex_4 rfl (lv_at hl 0 rfl) ?_
  refine lv_iload_n hx hb d_Z_checkIndex_5 rfl (lv_at hl 1 rfl) ?_
  refine lv_icmp_lt (tgt := 16) hx hb d_Z_checkIndex_6 rfl (fun _ => ?_) (fun h => absurd (nI_lt hj (by omega)) h)
  refine lv_iload_n hx hb d_Z_checkIndex_16 rfl (lv_at hl 0 rfl) ?_
  exact g_zret hx hb hr hlocks rfl hAe hS () rfl hP d_Z_checkIndex_17
set_option maxHeartbeats 4000000 in
set_option maxRecDepth 100000 in
theorem m_Z_checkIndex_ref {l : Launch} {X : va_G} {cI cC cZ : ClassId} {aK aV : Nat → Nat} {ws : va_W} {t : Nat} {j n : Nat} (hj : j < n) (hn : n < 100) {sz : Nat} : Met l y_Z_checkIndex w_Z_checkIndex { frames := 0, cells := 0, slots := 0, locals := 0 } (gPc X vwCl (gT cI cC cZ) aK aV ws sz [.int (nI j), .int (nI n), .ref t]) (gQi X vwCl ws sz (fun r' (_ : Unit) => r' = nI j) (fun _ => ws)) 0 0 (va_A ws sz) := by
  refine g_met (cc := b_Z_checkIndex) (maxL := 3) (ret := (some .int)) (by decide) rfl (Nat.le_of_ble_eq_true rfl) ?_
  intro p e s m below meth c A ls hx hb hr hml hown hts hlocks hnm hsz hAe hA hP hK hD hS hl hE
  refine lv_iload_n hx hb d_Z_checkIndex_0 rfl (lv_at hl 0 rfl) ?_
  refine lv_if_lt (tgt := 9) hx hb d_Z_checkIndex_1 rfl (fun h => absurd h (nI_pos (by omega))) (fun _ => ?_)
  refine lv_iload_n hx hb d_Z_checkIndex_4 rfl (lv_at hl 0 rfl) ?_
  refine lv_iload_n hx hb d_Z_checkIndex_5 rfl (lv_at hl 1 rfl) ?_
  refine lv_icmp_lt (tgt := 16) hx hb d_Z_checkIndex_6 rfl (fun _ => ?_) (fun h => absurd (nI_lt hj (by omega)) h)
  refine lv_iload_n hx hb d_Z_checkIndex_16 rfl (lv_at hl 0 rfl) ?_
  exact g_zret hx hb hr hlocks rfl hAe hS () rfl hP d_Z_checkIndex_17
set_option maxHeartbeats 4000000 in
set_option maxRecDepth 100000 in
theorem m_Q_checkIndex {l : Launch} {X : va_G} {cI cC cZ : ClassId} {aK aV : Nat → Nat} {ws : va_W} {j n : Nat} (hj : j < n) (hn : n < 100) {sz : Nat} : Met l y_Q_checkIndex w_Q_checkIndex { frames := 1, cells := 0, slots := 0, locals := 22 } (gPc X vwCl (gT cI cC cZ) aK aV ws sz [.int (nI j), .int (nI n)]) (gQv X vwCl ws sz (fun (_ : Unit) => True) (fun _ => ws)) 0 0 (va_A ws sz) := by
  refine g_met (cc := b_Q_checkIndex) (maxL := 2) (ret := none) (by decide) rfl (Nat.le_of_ble_eq_true rfl) ?_
  intro p e s m below meth c A ls hx hb hr hml hown hts hlocks hnm hsz hAe hA hP hK hD hS hl hE
  have hown : s.vm.findClass R_Q = some m.cls := hown
  have k0 := hts (.fieldLink R_Q 1053 "jdk/internal/util/Preconditions" "SIOOBE_FORMATTER" "Ljava/util/function/BiFunction;") (List.mem_cons_of_mem _ tb_7)
  refine lv_iload_n hx hb d_Q_checkIndex_0 rfl (lv_at hl 0 rfl) ?_
  refine lv_iload_n hx hb d_Q_checkIndex_1 rfl (lv_at hl 1 rfl) ?_
  rcases hE.2.2.2 with hz | ⟨t, hz⟩
  · skip
    refine va_gets hx hb hz hS hown k0 (fun _ h9 => h9) d_Q_checkIndex_2 ?_
    refine g_wi (va_runS ⟨hx, hb, hml, hown, hts⟩ (m_Z_checkIndex_null hj hn) ⟨callB_of 3 hts (gG (fun _ h => List.mem_cons_of_mem _ h) tc_Z_checkIndex) rfl rfl rfl (hts (.initialized R_Z) (List.mem_cons_of_mem _ tb_8)) (hts (.methodLink R_Q 1059 y_Z_checkIndex) (List.mem_cons_of_mem _ tb_9)) (by decide +kernel) ⟨Nat.le_of_ble_eq_true rfl, Nat.le_of_ble_eq_true rfl⟩, hts (.static y_Z_checkIndex) (List.mem_cons_of_mem _ tb_10)⟩ (g_preSW hE hK hP hD hS hA) rfl rfl hl.1 rfl (lv_room (Nat.le_of_ble_eq_true rfl)) d_Q_checkIndex_5 ⟨Nat.zero_le _, Nat.zero_le _⟩) hD hS hA (fun _ => rfl) (fun y1 _ H locs hu hP hD hS => ?_)
    refine lv_pop hx hb d_Q_checkIndex_8 rfl ?_
    exact g_vret hx hb hr hlocks hAe hS () trivial hP d_Q_checkIndex_9
  · skip
    refine va_gets hx hb hz hS hown k0 (fun _ h9 => h9) d_Q_checkIndex_2 ?_
    refine g_wi (va_runS ⟨hx, hb, hml, hown, hts⟩ (m_Z_checkIndex_ref hj hn) ⟨callB_of 3 hts (gG (fun _ h => List.mem_cons_of_mem _ h) tc_Z_checkIndex) rfl rfl rfl (hts (.initialized R_Z) (List.mem_cons_of_mem _ tb_8)) (hts (.methodLink R_Q 1059 y_Z_checkIndex) (List.mem_cons_of_mem _ tb_9)) (by decide +kernel) ⟨Nat.le_of_ble_eq_true rfl, Nat.le_of_ble_eq_true rfl⟩, hts (.static y_Z_checkIndex) (List.mem_cons_of_mem _ tb_10)⟩ (g_preSW hE hK hP hD hS hA) rfl rfl hl.1 rfl (lv_room (Nat.le_of_ble_eq_true rfl)) d_Q_checkIndex_5 ⟨Nat.zero_le _, Nat.zero_le _⟩) hD hS hA (fun _ => rfl) (fun y1 _ H locs hu hP hD hS => ?_)
    refine lv_pop hx hb d_Q_checkIndex_8 rfl ?_
    exact g_vret hx hb hr hlocks hAe hS () trivial hP d_Q_checkIndex_9
set_option maxHeartbeats 4000000 in
set_option maxRecDepth 100000 in
theorem m_Y_charAt {l : Launch} {X : va_G} {cI cC cZ : ClassId} {aK aV : Nat → Nat} {ws : va_W} {q : String × Nat × String × Nat} (hq : q ∈ gLs) {j : Nat} (hj : j < gTn q.2.2.2) {sz : Nat} : Met l y_Y_charAt w_Y_charAt { frames := 2, cells := 0, slots := 0, locals := 43 } (gPc X vwCl (gT cI cC cZ) aK aV ws sz [.ref (aV q.2.2.2), .int (nI j)]) (gQi X vwCl ws sz (fun r' (_ : Unit) => r' = nI ((gTx.getD q.2.2.2 []).getD j 0)) (fun _ => ws)) 0 0 (va_A ws sz) := by
  refine g_met (cc := b_Y_charAt) (maxL := 2) (ret := (some .char)) (by decide) rfl (Nat.le_of_ble_eq_true rfl) ?_
  intro p e s m below meth c A ls hx hb hr hml hown hts hlocks hnm hsz hAe hA hP hK hD hS hl hE
  have hown : s.vm.findClass R_Y = some m.cls := hown
  have hlt := gTn_lt q hq
  obtain ⟨s1, s2, s3, s4⟩ := (hE.2.1 q hq).2.1 0 (by decide)
  refine lv_iload_n hx hb d_Y_charAt_0 rfl (lv_at hl 1 rfl) ?_
  refine lv_aload_n hx hb d_Y_charAt_1 rfl (lv_at hl 0 rfl) ?_
  refine va_tlen (v := nI (gTn q.2.2.2)) hx hb s4 hS rfl d_Y_charAt_2 ?_
  refine g_wv (va_runS ⟨hx, hb, hml, hown, hts⟩ (m_Q_checkIndex hj hlt) ⟨callB_of 2 hts (gG (fun _ h => List.mem_cons_of_mem _ h) tc_Q_checkIndex) rfl rfl rfl (hts (.initialized R_Q) (List.mem_cons_of_mem _ tb_6)) (hts (.methodLink R_Y 9 y_Q_checkIndex) (List.mem_cons_of_mem _ tb_11)) (by decide +kernel) ⟨Nat.le_of_ble_eq_true rfl, Nat.le_of_ble_eq_true rfl⟩, hts (.static y_Q_checkIndex) (List.mem_cons_of_mem _ tb_12)⟩ (g_preSW hE hK hP hD hS hA) rfl rfl hl.1 rfl (lv_room (Nat.le_of_ble_eq_true rfl)) d_Y_charAt_3 ⟨Nat.zero_le _, Nat.zero_le _⟩) hD hS hA (fun _ => rfl) (fun _ H locs _ hP hD hS => ?_)
  refine lv_aload_n hx hb d_Y_charAt_6 rfl (lv_at hl 0 rfl) ?_
  refine lv_iload_n hx hb d_Y_charAt_7 rfl (lv_at hl 1 rfl) ?_
  refine va_tb (v := .int (nI ((gTx.getD q.2.2.2 []).getD j 0))) hx hb s4 hS (show vp_in (nI j) (gTn q.2.2.2) from vp_in_nI hj (by omega)) (by rw [nI_clamp (by omega)]; exact congrArg Value.int (gTx_nI q.2.2.2 j hj)) d_Y_charAt_8 ?_
  refine lv_sipush (v := 255) hx hb d_Y_charAt_9 (by decide) ?_
  refine lv_iand hx hb d_Y_charAt_12 ?_
  obtain ⟨z1, z2⟩ := g_b255 _ (gTx_lt q hq j hj)
  refine lv_i2c (v := nI ((gTx.getD q.2.2.2 []).getD j 0)) hx hb d_Y_charAt_13 z1 ?_
  exact g_zret hx hb hr hlocks z2 hAe hS () rfl hP d_Y_charAt_14
set_option maxHeartbeats 4000000 in
set_option maxRecDepth 100000 in
theorem m_Q_charAt {l : Launch} {X : va_G} {cI cC cZ : ClassId} {aK aV : Nat → Nat} {ws : va_W} {q : String × Nat × String × Nat} (hq : q ∈ gLs) {j : Nat} (hj : j < gTn q.2.2.2) {sz : Nat} : Met l y_Q_charAt w_Q_charAt { frames := 3, cells := 0, slots := 0, locals := 64 } (gPc X vwCl (gT cI cC cZ) aK aV ws sz [.ref (aK q.2.2.2), .int (nI j)]) (gQi X vwCl ws sz (fun r' (_ : Unit) => r' = nI ((gTx.getD q.2.2.2 []).getD j 0)) (fun _ => ws)) 0 0 (va_A ws sz) := by
  refine g_met (cc := b_Q_charAt) (maxL := 2) (ret := (some .char)) (by decide) rfl (Nat.le_of_ble_eq_true rfl) ?_
  intro p e s m below meth c A ls hx hb hr hml hown hts hlocks hnm hsz hAe hA hP hK hD hS hl hE
  have hown : s.vm.findClass R_Q = some m.cls := hown
  have k0 := hts (.fieldLink R_Q 9 "java/lang/String" "value" "[B") (List.mem_cons_of_mem _ tb_2)
  obtain ⟨s1, s2, s3, s4⟩ := (hE.2.1 q hq).2.1 0 (by decide)
  refine lv_aload_n hx hb d_Q_charAt_0 rfl (lv_at hl 0 rfl) ?_
  refine g_wi (va_runV ⟨hx, hb, hml, hown, hts⟩ (m_Q_isLatin1 hq) (cwV 0 hts (gG4 (fun _ h => List.mem_cons_of_mem _ h) tb_13 tb_14 tb_15 tb_6 tc_Q_isLatin1) rfl rfl rfl (by decide +kernel) ⟨Nat.le_of_ble_eq_true rfl, Nat.le_of_ble_eq_true rfl⟩) (g_preQ hq hE hK hP hD hS hA) rfl rfl hl.1 rfl (lv_room (Nat.le_of_ble_eq_true rfl)) d_Q_charAt_1 ⟨Nat.zero_le _, Nat.zero_le _⟩) hD hS hA (fun _ => rfl) (fun y1 _ H locs hu hP hD hS => ?_)
  subst hu
  refine lv_if_eq (tgt := 16) hx hb d_Q_charAt_4 rfl (fun h => absurd h (by decide)) (fun _ => ?_)
  refine lv_aload_n hx hb d_Q_charAt_7 rfl (lv_at hl 0 rfl) ?_
  refine vk_getf hx hb s3 hS hown k0 (fun _ h9 => h9) d_Q_charAt_8 ?_
  refine lv_iload_n hx hb d_Q_charAt_11 rfl (lv_at hl 1 rfl) ?_
  refine g_wi (va_runS ⟨hx, hb, hml, hown, hts⟩ (m_Y_charAt hq hj) ⟨callB_of 2 hts (gG (fun _ h => List.mem_cons_of_mem _ h) tc_Y_charAt) rfl rfl rfl (hts (.initialized R_Y) (List.mem_cons_of_mem _ tb_16)) (hts (.methodLink R_Q 495 y_Y_charAt) (List.mem_cons_of_mem _ tb_17)) (by decide +kernel) ⟨Nat.le_of_ble_eq_true rfl, Nat.le_of_ble_eq_true rfl⟩, hts (.static y_Y_charAt) (List.mem_cons_of_mem _ tb_18)⟩ (g_preSW hE hK hP hD hS hA) rfl rfl hl.1 rfl (lv_room (Nat.le_of_ble_eq_true rfl)) d_Q_charAt_12 ⟨Nat.zero_le _, Nat.zero_le _⟩) hD hS hA (fun _ => rfl) (fun y1 _ H locs hu hP hD hS => ?_)
  subst hu
  exact g_zret hx hb hr hlocks (g_b255 _ (gTx_lt q hq j hj)).2 hAe hS () rfl hP d_Q_charAt_15
/-- a char of a text, in the pure functions -/
def gChr {β : Type} (i : Nat) (k : Int32) (K : Int32 → Option β) : Option β := if k < 0 ∨ gTn i ≤ k.toNatClampNeg then none else K (nI ((gTx.getD i []).getD k.toNatClampNeg 0))
theorem gChr_e {β : Type} {i : Nat} {k : Int32} {K : Int32 → Option β} {z : β} (h : gChr i k K = some z) (hi : gTn i < 100) : ∃ (y : Int32) (j : Nat), j < gTn i ∧ k = nI j ∧ y = nI ((gTx.getD i []).getD j 0) ∧ K y = some z := by
  unfold gChr at h
  by_cases hin : k < 0 ∨ gTn i ≤ k.toNatClampNeg
  · rw [if_pos hin] at h
    cases h
  · rw [if_neg hin] at h
    obtain ⟨j, hj, rfl⟩ := vp_in_of (n := gTn i) hin (by omega)
    rw [nI_clamp (by omega)] at h
    exact ⟨_, j, hj, rfl, rfl, h⟩
