def f_W_writeAttribute_S2 (σ : gS) (x2 : Int32) : Option (Int32 × gS) := gBd (f_P_append σ 32) (fun y1 σ2 => gBd (f_W_writeRow_S2 σ2) (fun _ σ5 => gBd (f_W_writeRow_S3 σ5) (fun _ σ8 => gBd (f_W_writeNumber σ8 x2) (fun _ σ11 => gBd (f_P_append σ11 34) (fun y13 σ14 => some (0, σ14))))))
set_option maxHeartbeats 4000000 in
set_option maxRecDepth 100000 in
theorem m_W_writeAttribute_S2 {l : Launch} {X : va_G} {cI cC cZ : ClassId} {aK aV : Nat → Nat} {a : Nat → Nat} {σ σ' : gS} {r : Int32} {x2 : Int32} (hf : f_W_writeAttribute_S2 σ x2 = some (r, σ')) {sz : Nat} : Met l y_W_writeAttribute w_W_writeAttribute { frames := 5, cells := 0, slots := 0, locals := 107 } (gPc X vwCl (gT cI cC cZ) aK aV (cW cI cC cZ a σ) sz [.ref (a 17), .ref (aK 2), .int x2]) (gQv X vwCl (cW cI cC cZ a σ) sz (fun (_ : Unit) => True) (fun _ => cW cI cC cZ a σ')) 0 0 (va_A (cW cI cC cZ a σ) sz) := by
  refine g_met (cc := b_W_writeAttribute) (maxL := 3) (ret := none) (by decide) rfl (Nat.le_of_ble_eq_true rfl) ?_
  intro p e s m below meth c A ls hx hb hr hml hown hts hlocks hnm hsz hAe hA hP hK hD hS hl hE
  have hown : s.vm.findClass R_W = some m.cls := hown
  have u_0 : ∀ w ∈ u_ws R_W T_W 6, w ∈ w_W_writeAttribute := fun w h => List.mem_cons_of_mem _ (tu_W w h)
  have k_0 := hts (.fieldLink R_W 26 "GraphPages$Writer" "page" "LGraphPages$Page;") (List.mem_cons_of_mem _ tb_287)
  unfold f_W_writeAttribute_S2 at hf
  refine lv_aload_n hx hb d_W_writeAttribute_0 rfl (lv_at hl 0 rfl) ?_
  refine va_get (D := X) (ci := 7) (C := R_W) (T := T_W) (N := 6) hx hb hts u_0 hown hK hP 17 gc_17 rfl 2 (by decide) k_0 (fun _ h9 => h9) rfl d_W_writeAttribute_1 ?_
  refine lv_bipush (v := 32) hx hb d_W_writeAttribute_4 (by decide) ?_
  obtain ⟨y1, σ2, e3, hf⟩ := gBd_e hf
  refine g_wi (va_runV ⟨hx, hb, hml, hown, hts⟩ (m_P_append e3) (cwV 1 hts (gG4 (fun _ h => List.mem_cons_of_mem _ h) tb_284 tb_285 tb_286 tb_38 tc_P_append) rfl rfl rfl (by decide +kernel) ⟨Nat.le_of_ble_eq_true rfl, Nat.le_of_ble_eq_true rfl⟩) (g_preVW (q0 := 7) hE hK hP hD hS hA gc_7 rfl) rfl rfl hl.1 rfl (lv_room (Nat.le_of_ble_eq_true rfl)) d_W_writeAttribute_6 ⟨Nat.zero_le _, Nat.zero_le _⟩) hD hS hA (fun _ => cW_fst) (fun y1 _ H locs hu hP hD hS => ?_)
  subst hu
  refine lv_pop hx hb d_W_writeAttribute_9 rfl ?_
  refine lv_aload_n hx hb d_W_writeAttribute_10 rfl (lv_at hl 0 rfl) ?_
  refine lv_aload_n hx hb d_W_writeAttribute_11 rfl (lv_at hl 1 rfl) ?_
  obtain ⟨y4, σ5, e6, hf⟩ := gBd_e hf
  refine g_wv (va_runV ⟨hx, hb, hml, hown, hts⟩ (m_W_writeRow_S2 e6) (cwV 1 hts (gG4 (fun _ h => List.mem_cons_of_mem _ h) tb_292 tb_293 tb_294 tb_295 tc_W_writeRow) rfl rfl rfl (by decide +kernel) ⟨Nat.le_of_ble_eq_true rfl, Nat.le_of_ble_eq_true rfl⟩) (g_preVW (q0 := 17) hE hK hP hD hS hA gc_17 rfl) rfl rfl hl.1 rfl (lv_room (Nat.le_of_ble_eq_true rfl)) d_W_writeAttribute_12 ⟨Nat.zero_le _, Nat.zero_le _⟩) hD hS hA (fun _ => cW_fst) (fun _ H locs _ hP hD hS => ?_)
  refine lv_aload_n hx hb d_W_writeAttribute_15 rfl (lv_at hl 0 rfl) ?_
  refine va_ldcS hx hb hown (hE.2.1 _ gl_3).1 d_W_writeAttribute_16 ?_
  obtain ⟨y7, σ8, e9, hf⟩ := gBd_e hf
  refine g_wv (va_runV ⟨hx, hb, hml, hown, hts⟩ (m_W_writeRow_S3 e9) (cwV 1 hts (gG4 (fun _ h => List.mem_cons_of_mem _ h) tb_292 tb_293 tb_294 tb_295 tc_W_writeRow) rfl rfl rfl (by decide +kernel) ⟨Nat.le_of_ble_eq_true rfl, Nat.le_of_ble_eq_true rfl⟩) (g_preVW (q0 := 17) hE hK hP hD hS hA gc_17 rfl) rfl rfl hl.1 rfl (lv_room (Nat.le_of_ble_eq_true rfl)) d_W_writeAttribute_18 ⟨Nat.zero_le _, Nat.zero_le _⟩) hD hS hA (fun _ => cW_fst) (fun _ H locs _ hP hD hS => ?_)
  refine lv_aload_n hx hb d_W_writeAttribute_21 rfl (lv_at hl 0 rfl) ?_
  refine lv_iload_n hx hb d_W_writeAttribute_22 rfl (lv_at hl 2 rfl) ?_
  obtain ⟨y10, σ11, e12, hf⟩ := gBd_e hf
  refine g_wv (va_runV ⟨hx, hb, hml, hown, hts⟩ (m_W_writeNumber e12) (cwV 1 hts (gG4 (fun _ h => List.mem_cons_of_mem _ h) tb_296 tb_297 tb_298 tb_295 tc_W_writeNumber) rfl rfl rfl (by decide +kernel) ⟨Nat.le_of_ble_eq_true rfl, Nat.le_of_ble_eq_true rfl⟩) (g_preVW (q0 := 17) hE hK hP hD hS hA gc_17 rfl) rfl rfl hl.1 rfl (lv_room (Nat.le_of_ble_eq_true rfl)) d_W_writeAttribute_23 ⟨Nat.zero_le _, Nat.zero_le _⟩) hD hS hA (fun _ => cW_fst) (fun _ H locs _ hP hD hS => ?_)
  refine lv_aload_n hx hb d_W_writeAttribute_26 rfl (lv_at hl 0 rfl) ?_
  refine va_get (D := X) (ci := 7) (C := R_W) (T := T_W) (N := 6) hx hb hts u_0 hown hK hP 17 gc_17 rfl 2 (by decide) k_0 (fun _ h9 => h9) rfl d_W_writeAttribute_27 ?_
  refine lv_bipush (v := 34) hx hb d_W_writeAttribute_30 (by decide) ?_
  obtain ⟨y13, σ14, e15, hf⟩ := gBd_e hf
  refine g_wi (va_runV ⟨hx, hb, hml, hown, hts⟩ (m_P_append e15) (cwV 1 hts (gG4 (fun _ h => List.mem_cons_of_mem _ h) tb_284 tb_285 tb_286 tb_38 tc_P_append) rfl rfl rfl (by decide +kernel) ⟨Nat.le_of_ble_eq_true rfl, Nat.le_of_ble_eq_true rfl⟩) (g_preVW (q0 := 7) hE hK hP hD hS hA gc_7 rfl) rfl rfl hl.1 rfl (lv_room (Nat.le_of_ble_eq_true rfl)) d_W_writeAttribute_32 ⟨Nat.zero_le _, Nat.zero_le _⟩) hD hS hA (fun _ => cW_fst) (fun y13 _ H locs hu hP hD hS => ?_)
  subst hu
  refine lv_pop hx hb d_W_writeAttribute_35 rfl ?_
  obtain ⟨-, rfl⟩ := gRt_e hf
  exact g_vret hx hb hr hlocks hAe hS () trivial hP d_W_writeAttribute_36

def f_W_writeAttribute_S8 (σ : gS) (x2 : Int32) : Option (Int32 × gS) := gBd (f_P_append σ 32) (fun y1 σ2 => gBd (f_W_writeRow_S8 σ2) (fun _ σ5 => gBd (f_W_writeRow_S3 σ5) (fun _ σ8 => gBd (f_W_writeNumber σ8 x2) (fun _ σ11 => gBd (f_P_append σ11 34) (fun y13 σ14 => some (0, σ14))))))
set_option maxHeartbeats 4000000 in
set_option maxRecDepth 100000 in
theorem m_W_writeAttribute_S8 {l : Launch} {X : va_G} {cI cC cZ : ClassId} {aK aV : Nat → Nat} {a : Nat → Nat} {σ σ' : gS} {r : Int32} {x2 : Int32} (hf : f_W_writeAttribute_S8 σ x2 = some (r, σ')) {sz : Nat} : Met l y_W_writeAttribute w_W_writeAttribute { frames := 5, cells := 0, slots := 0, locals := 107 } (gPc X vwCl (gT cI cC cZ) aK aV (cW cI cC cZ a σ) sz [.ref (a 17), .ref (aK 8), .int x2]) (gQv X vwCl (cW cI cC cZ a σ) sz (fun (_ : Unit) => True) (fun _ => cW cI cC cZ a σ')) 0 0 (va_A (cW cI cC cZ a σ) sz) := by
  refine g_met (cc := b_W_writeAttribute) (maxL := 3) (ret := none) (by decide) rfl (Nat.le_of_ble_eq_true rfl) ?_
  intro p e s m below meth c A ls hx hb hr hml hown hts hlocks hnm hsz hAe hA hP hK hD hS hl hE
  have hown : s.vm.findClass R_W = some m.cls := hown
  have u_0 : ∀ w ∈ u_ws R_W T_W 6, w ∈ w_W_writeAttribute := fun w h => List.mem_cons_of_mem _ (tu_W w h)
  have k_0 := hts (.fieldLink R_W 26 "GraphPages$Writer" "page" "LGraphPages$Page;") (List.mem_cons_of_mem _ tb_287)
  unfold f_W_writeAttribute_S8 at hf
  refine lv_aload_n hx hb d_W_writeAttribute_0 rfl (lv_at hl 0 rfl) ?_
  refine va_get (D := X) (ci := 7) (C := R_W) (T := T_W) (N := 6) hx hb hts u_0 hown hK hP 17 gc_17 rfl 2 (by decide) k_0 (fun _ h9 => h9) rfl d_W_writeAttribute_1 ?_
  refine lv_bipush (v := 32) hx hb d_W_writeAttribute_4 (by decide) ?_
  obtain ⟨y1, σ2, e3, hf⟩ := gBd_e hf
  refine g_wi (va_runV ⟨hx, hb, hml, hown, hts⟩ (m_P_append e3) (cwV 1 hts (gG4 (fun _ h => List.mem_cons_of_mem _ h) tb_284 tb_285 tb_286 tb_38 tc_P_append) rfl rfl rfl (by decide +kernel) ⟨Nat.le_of_ble_eq_true rfl, Nat.le_of_ble_eq_true rfl⟩) (g_preVW (q0 := 7) hE hK hP hD hS hA gc_7 rfl) rfl rfl hl.1 rfl (lv_room (Nat.le_of_ble_eq_true rfl)) d_W_writeAttribute_6 ⟨Nat.zero_le _, Nat.zero_le _⟩) hD hS hA (fun _ => cW_fst) (fun y1 _ H locs hu hP hD hS => ?_)
  subst hu
  refine lv_pop hx hb d_W_writeAttribute_9 rfl ?_
  refine lv_aload_n hx hb d_W_writeAttribute_10 rfl (lv_at hl 0 rfl) ?_
  refine lv_aload_n hx hb d_W_writeAttribute_11 rfl (lv_at hl 1 rfl) ?_
  obtain ⟨y4, σ5, e6, hf⟩ := gBd_e hf
  refine g_wv (va_runV ⟨hx, hb, hml, hown, hts⟩ (m_W_writeRow_S8 e6) (cwV 1 hts (gG4 (fun _ h => List.mem_cons_of_mem _ h) tb_292 tb_293 tb_294 tb_295 tc_W_writeRow) rfl rfl rfl (by decide +kernel) ⟨Nat.le_of_ble_eq_true rfl, Nat.le_of_ble_eq_true rfl⟩) (g_preVW (q0 := 17) hE hK hP hD hS hA gc_17 rfl) rfl rfl hl.1 rfl (lv_room (Nat.le_of_ble_eq_true rfl)) d_W_writeAttribute_12 ⟨Nat.zero_le _, Nat.zero_le _⟩) hD hS hA (fun _ => cW_fst) (fun _ H locs _ hP hD hS => ?_)
  refine lv_aload_n hx hb d_W_writeAttribute_15 rfl (lv_at hl 0 rfl) ?_
  refine va_ldcS hx hb hown (hE.2.1 _ gl_3).1 d_W_writeAttribute_16 ?_
  obtain ⟨y7, σ8, e9, hf⟩ := gBd_e hf
  refine g_wv (va_runV ⟨hx, hb, hml, hown, hts⟩ (m_W_writeRow_S3 e9) (cwV 1 hts (gG4 (fun _ h => List.mem_cons_of_mem _ h) tb_292 tb_293 tb_294 tb_295 tc_W_writeRow) rfl rfl rfl (by decide +kernel) ⟨Nat.le_of_ble_eq_true rfl, Nat.le_of_ble_eq_true rfl⟩) (g_preVW (q0 := 17) hE hK hP hD hS hA gc_17 rfl) rfl rfl hl.1 rfl (lv_room (Nat.le_of_ble_eq_true rfl)) d_W_writeAttribute_18 ⟨Nat.zero_le _, Nat.zero_le _⟩) hD hS hA (fun _ => cW_fst) (fun _ H locs _ hP hD hS => ?_)
  refine lv_aload_n hx hb d_W_writeAttribute_21 rfl (lv_at hl 0 rfl) ?_
  refine lv_iload_n hx hb d_W_writeAttribute_22 rfl (lv_at hl 2 rfl) ?_
  obtain ⟨y10, σ11, e12, hf⟩ := gBd_e hf
  refine g_wv (va_runV ⟨hx, hb, hml, hown, hts⟩ (m_W_writeNumber e12) (cwV 1 hts (gG4 (fun _ h => List.mem_cons_of_mem _ h) tb_296 tb_297 tb_298 tb_295 tc_W_writeNumber) rfl rfl rfl (by decide +kernel) ⟨Nat.le_of_ble_eq_true rfl, Nat.le_of_ble_eq_true rfl⟩) (g_preVW (q0 := 17) hE hK hP hD hS hA gc_17 rfl) rfl rfl hl.1 rfl (lv_room (Nat.le_of_ble_eq_true rfl)) d_W_writeAttribute_23 ⟨Nat.zero_le _, Nat.zero_le _⟩) hD hS hA (fun _ => cW_fst) (fun _ H locs _ hP hD hS => ?_)
  refine lv_aload_n hx hb d_W_writeAttribute_26 rfl (lv_at hl 0 rfl) ?_
  refine va_get (D := X) (ci := 7) (C := R_W) (T := T_W) (N := 6) hx hb hts u_0 hown hK hP 17 gc_17 rfl 2 (by decide) k_0 (fun _ h9 => h9) rfl d_W_writeAttribute_27 ?_
  refine lv_bipush (v := 34) hx hb d_W_writeAttribute_30 (by decide) ?_
  obtain ⟨y13, σ14, e15, hf⟩ := gBd_e hf
  refine g_wi (va_runV ⟨hx, hb, hml, hown, hts⟩ (m_P_append e15) (cwV 1 hts (gG4 (fun _ h => List.mem_cons_of_mem _ h) tb_284 tb_285 tb_286 tb_38 tc_P_append) rfl rfl rfl (by decide +kernel) ⟨Nat.le_of_ble_eq_true rfl, Nat.le_of_ble_eq_true rfl⟩) (g_preVW (q0 := 7) hE hK hP hD hS hA gc_7 rfl) rfl rfl hl.1 rfl (lv_room (Nat.le_of_ble_eq_true rfl)) d_W_writeAttribute_32 ⟨Nat.zero_le _, Nat.zero_le _⟩) hD hS hA (fun _ => cW_fst) (fun y13 _ H locs hu hP hD hS => ?_)
  subst hu
  refine lv_pop hx hb d_W_writeAttribute_35 rfl ?_
  obtain ⟨-, rfl⟩ := gRt_e hf
  exact g_vret hx hb hr hlocks hAe hS () trivial hP d_W_writeAttribute_36

def f_W_writeAttribute_S9 (σ : gS) (x2 : Int32) : Option (Int32 × gS) := gBd (f_P_append σ 32) (fun y1 σ2 => gBd (f_W_writeRow_S9 σ2) (fun _ σ5 => gBd (f_W_writeRow_S3 σ5) (fun _ σ8 => gBd (f_W_writeNumber σ8 x2) (fun _ σ11 => gBd (f_P_append σ11 34) (fun y13 σ14 => some (0, σ14))))))
set_option maxHeartbeats 4000000 in
set_option maxRecDepth 100000 in
theorem m_W_writeAttribute_S9 {l : Launch} {X : va_G} {cI cC cZ : ClassId} {aK aV : Nat → Nat} {a : Nat → Nat} {σ σ' : gS} {r : Int32} {x2 : Int32} (hf : f_W_writeAttribute_S9 σ x2 = some (r, σ')) {sz : Nat} : Met l y_W_writeAttribute w_W_writeAttribute { frames := 5, cells := 0, slots := 0, locals := 107 } (gPc X vwCl (gT cI cC cZ) aK aV (cW cI cC cZ a σ) sz [.ref (a 17), .ref (aK 9), .int x2]) (gQv X vwCl (cW cI cC cZ a σ) sz (fun (_ : Unit) => True) (fun _ => cW cI cC cZ a σ')) 0 0 (va_A (cW cI cC cZ a σ) sz) := by
  refine g_met (cc := b_W_writeAttribute) (maxL := 3) (ret := none) (by decide) rfl (Nat.le_of_ble_eq_true rfl) ?_
  intro p e s m below meth c A ls hx hb hr hml hown hts hlocks hnm hsz hAe hA hP hK hD hS hl hE
  have hown : s.vm.findClass R_W = some m.cls := hown
  have u_0 : ∀ w ∈ u_ws R_W T_W 6, w ∈ w_W_writeAttribute := fun w h => List.mem_cons_of_mem _ (tu_W w h)
  have k_0 := hts (.fieldLink R_W 26 "GraphPages$Writer" "page" "LGraphPages$Page;") (List.mem_cons_of_mem _ tb_287)
  unfold f_W_writeAttribute_S9 at hf
  refine lv_aload_n hx hb d_W_writeAttribute_0 rfl (lv_at hl 0 rfl) ?_
  refine va_get (D := X) (ci := 7) (C := R_W) (T := T_W) (N := 6) hx hb hts u_0 hown hK hP 17 gc_17 rfl 2 (by decide) k_0 (fun _ h9 => h9) rfl d_W_writeAttribute_1 ?_
  refine lv_bipush (v := 32) hx hb d_W_writeAttribute_4 (by decide) ?_
  obtain ⟨y1, σ2, e3, hf⟩ := gBd_e hf
  refine g_wi (va_runV ⟨hx, hb, hml, hown, hts⟩ (m_P_append e3) (cwV 1 hts (gG4 (fun _ h => List.mem_cons_of_mem _ h) tb_284 tb_285 tb_286 tb_38 tc_P_append) rfl rfl rfl (by decide +kernel) ⟨Nat.le_of_ble_eq_true rfl, Nat.le_of_ble_eq_true rfl⟩) (g_preVW (q0 := 7) hE hK hP hD hS hA gc_7 rfl) rfl rfl hl.1 rfl (lv_room (Nat.le_of_ble_eq_true rfl)) d_W_writeAttribute_6 ⟨Nat.zero_le _, Nat.zero_le _⟩) hD hS hA (fun _ => cW_fst) (fun y1 _ H locs hu hP hD hS => ?_)
  subst hu
  refine lv_pop hx hb d_W_writeAttribute_9 rfl ?_
  refine lv_aload_n hx hb d_W_writeAttribute_10 rfl (lv_at hl 0 rfl) ?_
  refine lv_aload_n hx hb d_W_writeAttribute_11 rfl (lv_at hl 1 rfl) ?_
  obtain ⟨y4, σ5, e6, hf⟩ := gBd_e hf
  refine g_wv (va_runV ⟨hx, hb, hml, hown, hts⟩ (m_W_writeRow_S9 e6) (cwV 1 hts (gG4 (fun _ h => List.mem_cons_of_mem _ h) tb_292 tb_293 tb_294 tb_295 tc_W_writeRow) rfl rfl rfl (by decide +kernel) ⟨Nat.le_of_ble_eq_true rfl, Nat.le_of_ble_eq_true rfl⟩) (g_preVW (q0 := 17) hE hK hP hD hS hA gc_17 rfl) rfl rfl hl.1 rfl (lv_room (Nat.le_of_ble_eq_true rfl)) d_W_writeAttribute_12 ⟨Nat.zero_le _, Nat.zero_le _⟩) hD hS hA (fun _ => cW_fst) (fun _ H locs _ hP hD hS => ?_)
  refine lv_aload_n hx hb d_W_writeAttribute_15 rfl (lv_at hl 0 rfl) ?_
  refine va_ldcS hx hb hown (hE.2.1 _ gl_3).1 d_W_writeAttribute_16 ?_
  obtain ⟨y7, σ8, e9, hf⟩ := gBd_e hf
  refine g_wv (va_runV ⟨hx, hb, hml, hown, hts⟩ (m_W_writeRow_S3 e9) (cwV 1 hts (gG4 (fun _ h => List.mem_cons_of_mem _ h) tb_292 tb_293 tb_294 tb_295 tc_W_writeRow) rfl rfl rfl (by decide +kernel) ⟨Nat.le_of_ble_eq_true rfl, Nat.le_of_ble_eq_true rfl⟩) (g_preVW (q0 := 17) hE hK hP hD hS hA gc_17 rfl) rfl rfl hl.1 rfl (lv_room (Nat.le_of_ble_eq_true rfl)) d_W_writeAttribute_18 ⟨Nat.zero_le _, Nat.zero_le _⟩) hD hS hA (fun _ => cW_fst) (fun _ H locs _ hP hD hS => ?_)
  refine lv_aload_n hx hb d_W_writeAttribute_21 rfl (lv_at hl 0 rfl) ?_
  refine lv_iload_n hx hb d_W_writeAttribute_22 rfl (lv_at hl 2 rfl) ?_
  obtain ⟨y10, σ11, e12, hf⟩ := gBd_e hf
  refine g_wv (va_runV ⟨hx, hb, hml, hown, hts⟩ (m_W_writeNumber e12) (cwV 1 hts (gG4 (fun _ h => List.mem_cons_of_mem _ h) tb_296 tb_297 tb_298 tb_295 tc_W_writeNumber) rfl rfl rfl (by decide +kernel) ⟨Nat.le_of_ble_eq_true rfl, Nat.le_of_ble_eq_true rfl⟩) (g_preVW (q0 := 17) hE hK hP hD hS hA gc_17 rfl) rfl rfl hl.1 rfl (lv_room (Nat.le_of_ble_eq_true rfl)) d_W_writeAttribute_23 ⟨Nat.zero_le _, Nat.zero_le _⟩) hD hS hA (fun _ => cW_fst) (fun _ H locs _ hP hD hS => ?_)
  refine lv_aload_n hx hb d_W_writeAttribute_26 rfl (lv_at hl 0 rfl) ?_
  refine va_get (D := X) (ci := 7) (C := R_W) (T := T_W) (N := 6) hx hb hts u_0 hown hK hP 17 gc_17 rfl 2 (by decide) k_0 (fun _ h9 => h9) rfl d_W_writeAttribute_27 ?_
  refine lv_bipush (v := 34) hx hb d_W_writeAttribute_30 (by decide) ?_
  obtain ⟨y13, σ14, e15, hf⟩ := gBd_e hf
  refine g_wi (va_runV ⟨hx, hb, hml, hown, hts⟩ (m_P_append e15) (cwV 1 hts (gG4 (fun _ h => List.mem_cons_of_mem _ h) tb_284 tb_285 tb_286 tb_38 tc_P_append) rfl rfl rfl (by decide +kernel) ⟨Nat.le_of_ble_eq_true rfl, Nat.le_of_ble_eq_true rfl⟩) (g_preVW (q0 := 7) hE hK hP hD hS hA gc_7 rfl) rfl rfl hl.1 rfl (lv_room (Nat.le_of_ble_eq_true rfl)) d_W_writeAttribute_32 ⟨Nat.zero_le _, Nat.zero_le _⟩) hD hS hA (fun _ => cW_fst) (fun y13 _ H locs hu hP hD hS => ?_)
  subst hu
  refine lv_pop hx hb d_W_writeAttribute_35 rfl ?_
  obtain ⟨-, rfl⟩ := gRt_e hf
  exact g_vret hx hb hr hlocks hAe hS () trivial hP d_W_writeAttribute_36

def f_W_writeAttribute_S10 (σ : gS) (x2 : Int32) : Option (Int32 × gS) := gBd (f_P_append σ 32) (fun y1 σ2 => gBd (f_W_writeRow_S10 σ2) (fun _ σ5 => gBd (f_W_writeRow_S3 σ5) (fun _ σ8 => gBd (f_W_writeNumber σ8 x2) (fun _ σ11 => gBd (f_P_append σ11 34) (fun y13 σ14 => some (0, σ14))))))
set_option maxHeartbeats 4000000 in
set_option maxRecDepth 100000 in
theorem m_W_writeAttribute_S10 {l : Launch} {X : va_G} {cI cC cZ : ClassId} {aK aV : Nat → Nat} {a : Nat → Nat} {σ σ' : gS} {r : Int32} {x2 : Int32} (hf : f_W_writeAttribute_S10 σ x2 = some (r, σ')) {sz : Nat} : Met l y_W_writeAttribute w_W_writeAttribute { frames := 5, cells := 0, slots := 0, locals := 107 } (gPc X vwCl (gT cI cC cZ) aK aV (cW cI cC cZ a σ) sz [.ref (a 17), .ref (aK 10), .int x2]) (gQv X vwCl (cW cI cC cZ a σ) sz (fun (_ : Unit) => True) (fun _ => cW cI cC cZ a σ')) 0 0 (va_A (cW cI cC cZ a σ) sz) := by
  refine g_met (cc := b_W_writeAttribute) (maxL := 3) (ret := none) (by decide) rfl (Nat.le_of_ble_eq_true rfl) ?_
  intro p e s m below meth c A ls hx hb hr hml hown hts hlocks hnm hsz hAe hA hP hK hD hS hl hE
  have hown : s.vm.findClass R_W = some m.cls := hown
  have u_0 : ∀ w ∈ u_ws R_W T_W 6, w ∈ w_W_writeAttribute := fun w h => List.mem_cons_of_mem _ (tu_W w h)
  have k_0 := hts (.fieldLink R_W 26 "GraphPages$Writer" "page" "LGraphPages$Page;") (List.mem_cons_of_mem _ tb_287)
  unfold f_W_writeAttribute_S10 at hf
  refine lv_aload_n hx hb d_W_writeAttribute_0 rfl (lv_at hl 0 rfl) ?_
  refine va_get (D := X) (ci := 7) (C := R_W) (T := T_W) (N := 6) hx hb hts u_0 hown hK hP 17 gc_17 rfl 2 (by decide) k_0 (fun _ h9 => h9) rfl d_W_writeAttribute_1 ?_
  refine lv_bipush (v := 32) hx hb d_W_writeAttribute_4 (by decide) ?_
  obtain ⟨y1, σ2, e3, hf⟩ := gBd_e hf
  refine g_wi (va_runV ⟨hx, hb, hml, hown, hts⟩ (m_P_append e3) (cwV 1 hts (gG4 (fun _ h => List.mem_cons_of_mem _ h) tb_284 tb_285 tb_286 tb_38 tc_P_append) rfl rfl rfl (by decide +kernel) ⟨Nat.le_of_ble_eq_true rfl, Nat.le_of_ble_eq_true rfl⟩) (g_preVW (q0 := 7) hE hK hP hD hS hA gc_7 rfl) rfl rfl hl.1 rfl (lv_room (Nat.le_of_ble_eq_true rfl)) d_W_writeAttribute_6 ⟨Nat.zero_le _, Nat.zero_le _⟩) hD hS hA (fun _ => cW_fst) (fun y1 _ H locs hu hP hD hS => ?_)
  subst hu
  refine lv_pop hx hb d_W_writeAttribute_9 rfl ?_
  refine lv_aload_n hx hb d_W_writeAttribute_10 rfl (lv_at hl 0 rfl) ?_
  refine lv_aload_n hx hb d_W_writeAttribute_11 rfl (lv_at hl 1 rfl) ?_
  obtain ⟨y4, σ5, e6, hf⟩ := gBd_e hf
  refine g_wv (va_runV ⟨hx, hb, hml, hown, hts⟩ (m_W_writeRow_S10 e6) (cwV 1 hts (gG4 (fun _ h => List.mem_cons_of_mem _ h) tb_292 tb_293 tb_294 tb_295 tc_W_writeRow) rfl rfl rfl (by decide +kernel) ⟨Nat.le_of_ble_eq_true rfl, Nat.le_of_ble_eq_true rfl⟩) (g_preVW (q0 := 17) hE hK hP hD hS hA gc_17 rfl) rfl rfl hl.1 rfl (lv_room (Nat.le_of_ble_eq_true rfl)) d_W_writeAttribute_12 ⟨Nat.zero_le _, Nat.zero_le _⟩) hD hS hA (fun _ => cW_fst) (fun _ H locs _ hP hD hS => ?_)
  refine lv_aload_n hx hb d_W_writeAttribute_15 rfl (lv_at hl 0 rfl) ?_
  refine va_ldcS hx hb hown (hE.2.1 _ gl_3).1 d_W_writeAttribute_16 ?_
  obtain ⟨y7, σ8, e9, hf⟩ := gBd_e hf
  refine g_wv (va_runV ⟨hx, hb, hml, hown, hts⟩ (m_W_writeRow_S3 e9) (cwV 1 hts (gG4 (fun _ h => List.mem_cons_of_mem _ h) tb_292 tb_293 tb_294 tb_295 tc_W_writeRow) rfl rfl rfl (by decide +kernel) ⟨Nat.le_of_ble_eq_true rfl, Nat.le_of_ble_eq_true rfl⟩) (g_preVW (q0 := 17) hE hK hP hD hS hA gc_17 rfl) rfl rfl hl.1 rfl (lv_room (Nat.le_of_ble_eq_true rfl)) d_W_writeAttribute_18 ⟨Nat.zero_le _, Nat.zero_le _⟩) hD hS hA (fun _ => cW_fst) (fun _ H locs _ hP hD hS => ?_)
  refine lv_aload_n hx hb d_W_writeAttribute_21 rfl (lv_at hl 0 rfl) ?_
  refine lv_iload_n hx hb d_W_writeAttribute_22 rfl (lv_at hl 2 rfl) ?_
  obtain ⟨y10, σ11, e12, hf⟩ := gBd_e hf
  refine g_wv (va_runV ⟨hx, hb, hml, hown, hts⟩ (m_W_writeNumber e12) (cwV 1 hts (gG4 (fun _ h => List.mem_cons_of_mem _ h) tb_296 tb_297 tb_298 tb_295 tc_W_writeNumber) rfl rfl rfl (by decide +kernel) ⟨Nat.le_of_ble_eq_true rfl, Nat.le_of_ble_eq_true rfl⟩) (g_preVW (q0 := 17) hE hK hP hD hS hA gc_17 rfl) rfl rfl hl.1 rfl (lv_room (Nat.le_of_ble_eq_true rfl)) d_W_writeAttribute_23 ⟨Nat.zero_le _, Nat.zero_le _⟩) hD hS hA (fun _ => cW_fst) (fun _ H locs _ hP hD hS => ?_)
  refine lv_aload_n hx hb d_W_writeAttribute_26 rfl (lv_at hl 0 rfl) ?_
  refine va_get (D := X) (ci := 7) (C := R_W) (T := T_W) (N := 6) hx hb hts u_0 hown hK hP 17 gc_17 rfl 2 (by decide) k_0 (fun _ h9 => h9) rfl d_W_writeAttribute_27 ?_
  refine lv_bipush (v := 34) hx hb d_W_writeAttribute_30 (by decide) ?_
  obtain ⟨y13, σ14, e15, hf⟩ := gBd_e hf
  refine g_wi (va_runV ⟨hx, hb, hml, hown, hts⟩ (m_P_append e15) (cwV 1 hts (gG4 (fun _ h => List.mem_cons_of_mem _ h) tb_284 tb_285 tb_286 tb_38 tc_P_append) rfl rfl rfl (by decide +kernel) ⟨Nat.le_of_ble_eq_true rfl, Nat.le_of_ble_eq_true rfl⟩) (g_preVW (q0 := 7) hE hK hP hD hS hA gc_7 rfl) rfl rfl hl.1 rfl (lv_room (Nat.le_of_ble_eq_true rfl)) d_W_writeAttribute_32 ⟨Nat.zero_le _, Nat.zero_le _⟩) hD hS hA (fun _ => cW_fst) (fun y13 _ H locs hu hP hD hS => ?_)
  subst hu
  refine lv_pop hx hb d_W_writeAttribute_35 rfl ?_
  obtain ⟨-, rfl⟩ := gRt_e hf
  exact g_vret hx hb hr hlocks hAe hS () trivial hP d_W_writeAttribute_36

def B_W_firstWrittenSlot_0 (rec : Nat → List Int32 → gS → Option (Int32 × gS)) (x1 : Int32) (σ0 : gS) : Option (Int32 × gS) := rec 1 [x1, 0] σ0
def B_W_firstWrittenSlot_1 (rec : Nat → List Int32 → gS → Option (Int32 × gS)) (x1 : Int32) (x2 : Int32) (σ0 : gS) : Option (Int32 × gS) := gLd σ0 2 16 x1 (fun y1 => if y1 = 1 then (gLd σ0 3 16 x1 (fun y5 => if y5 ≤ x2 then (some (0, σ0)) else (gBd (f_G_contentOf σ0 x1 x2) (fun y9 σ10 => if y9 = 0 then (rec 1 [x1, (x2 + 1)] σ10) else (some (x2, σ10)))))) else (some (0, σ0)))
def S_W_firstWrittenSlot (rec : Nat → List Int32 → gS → Option (Int32 × gS)) (k : Nat) (l : List Int32) (σ0 : gS) : Option (Int32 × gS) := match k, l with
  | 0, [x1] => B_W_firstWrittenSlot_0 rec x1 σ0
  | 1, [x1, x2] => B_W_firstWrittenSlot_1 rec x1 x2 σ0
  | _, _ => none
def R_W_firstWrittenSlot : Nat → Nat → List Int32 → gS → Option (Int32 × gS)
  | 0 => fun _ _ _ => none
  | t + 1 => fun k l σ0 => S_W_firstWrittenSlot (R_W_firstWrittenSlot t) k l σ0
def f_W_firstWrittenSlot (σ : gS) (x1 : Int32) : Option (Int32 × gS) := R_W_firstWrittenSlot gFuel 0 [x1] σ
set_option maxHeartbeats 4000000 in
set_option maxRecDepth 100000 in
theorem m_W_firstWrittenSlot {l : Launch} {X : va_G} {cI cC cZ : ClassId} {aK aV : Nat → Nat} {a : Nat → Nat} {σ σ' : gS} {r : Int32} {q1 : Int32} (hf : f_W_firstWrittenSlot σ q1 = some (r, σ')) {sz : Nat} : Met l y_W_firstWrittenSlot w_W_firstWrittenSlot { frames := 1, cells := 0, slots := 0, locals := 22 } (gPc X vwCl (gT cI cC cZ) aK aV (cW cI cC cZ a σ) sz [.ref (a 17), .int q1]) (gQi X vwCl (cW cI cC cZ a σ) sz (fun r' (_ : Unit) => r' = r) (fun _ => cW cI cC cZ a σ')) 0 0 (va_A (cW cI cC cZ a σ) sz) := by
  refine g_met (cc := b_W_firstWrittenSlot) (maxL := 3) (ret := (some .int)) (by decide) rfl (Nat.le_of_ble_eq_true rfl) ?_
  intro p e s m below meth c A ls hx hb hr hml hown hts hlocks hnm hsz hAe hA hP hK hD hS hl hE
  have hown : s.vm.findClass R_W = some m.cls := hown
  have u_0 : ∀ w ∈ u_ws R_W T_W 6, w ∈ w_W_firstWrittenSlot := fun w h => List.mem_cons_of_mem _ (tu_W w h)
  have u_1 : ∀ w ∈ u_ws R_G T_G 6, w ∈ w_W_firstWrittenSlot := fun w h => List.mem_cons_of_mem _ (tu_G w h)
  have k_0 := hts (.fieldLink R_W 18 "GraphPages$Writer" "graph" "LGraphPages$Graph;") (List.mem_cons_of_mem _ tb_300)
  have k_1 := hts (.fieldLink R_W 83 "GraphPages$Graph" "kinds" "[I") (List.mem_cons_of_mem _ tb_301)
  have k_2 := hts (.fieldLink R_W 102 "GraphPages$Graph" "sizes" "[I") (List.mem_cons_of_mem _ tb_302)
  unfold f_W_firstWrittenSlot at hf
  have key : ∀ t : Nat, (∀ (x1 : Int32) (σ0 : gS) (H : Heap) (locs : List Loc) (ls : Array Slot), R_W_firstWrittenSlot t 0 [x1] σ0 = some (r, σ') → va_P X vwCl (cW cI cC cZ a σ0) H → va_D A (cW cI cC cZ a σ0) → va_S A s.heap H locs → lv_has ls 3 [(0, .ref (a 17)), (1, .int x1)] → W p l e (headSpec w_W_firstWrittenSlot { frames := 1, cells := 0, slots := 0, locals := 22 }).room s m [.ref (a 17), .int q1].toArray below meth c H locs 0 0 (MQ below (gQi X vwCl (cW cI cC cZ a σ) sz (fun r' (_ : Unit) => r' = r) (fun _ => cW cI cC cZ a σ')) [.ref (a 17), .int q1].toArray s 0 0 (va_A (cW cI cC cZ a σ) sz)) (F0 m 0 ls [])) ∧ (∀ (x1 : Int32) (x2 : Int32) (σ0 : gS) (H : Heap) (locs : List Loc) (ls : Array Slot), R_W_firstWrittenSlot t 1 [x1, x2] σ0 = some (r, σ') → va_P X vwCl (cW cI cC cZ a σ0) H → va_D A (cW cI cC cZ a σ0) → va_S A s.heap H locs → lv_has ls 3 [(0, .ref (a 17)), (1, .int x1), (2, .int x2)] → W p l e (headSpec w_W_firstWrittenSlot { frames := 1, cells := 0, slots := 0, locals := 22 }).room s m [.ref (a 17), .int q1].toArray below meth c H locs 0 0 (MQ below (gQi X vwCl (cW cI cC cZ a σ) sz (fun r' (_ : Unit) => r' = r) (fun _ => cW cI cC cZ a σ')) [.ref (a 17), .int q1].toArray s 0 0 (va_A (cW cI cC cZ a σ) sz)) (F0 m 2 ls [])) := by
    intro t
    induction t with
    | zero => exact ⟨fun _ _ _ _ _ hf => (by have hf : (none : Option (Int32 × gS)) = some (r, σ') := hf; cases hf), fun _ _ _ _ _ _ hf => (by have hf : (none : Option (Int32 × gS)) = some (r, σ') := hf; cases hf)⟩
    | succ t ih =>
      obtain ⟨ih0, ih1⟩ := ih
      refine ⟨?_, ?_⟩
      · intro x1 σ0 H locs ls hf hP hD hS hl
        have hf : B_W_firstWrittenSlot_0 (R_W_firstWrittenSlot t) x1 σ0 = some (r, σ') := hf
        unfold B_W_firstWrittenSlot_0 at hf
        refine lv_iconst (v := 0) hx hb d_W_firstWrittenSlot_0 (by decide) ?_
        refine lv_istore_n hx hb d_W_firstWrittenSlot_1 rfl hl (by decide) rfl (fun ls hl => ?_)
        exact ih1 (x1) (0) σ0 _ _ _ hf hP hD hS (lv_sub hl [1, 2, 0] rfl)
      · intro x1 x2 σ0 H locs ls hf hP hD hS hl
        have hf : B_W_firstWrittenSlot_1 (R_W_firstWrittenSlot t) x1 x2 σ0 = some (r, σ') := hf
        unfold B_W_firstWrittenSlot_1 at hf
        refine lv_aload_n hx hb d_W_firstWrittenSlot_2 rfl (lv_at hl 0 rfl) ?_
        refine va_get (D := X) (ci := 7) (C := R_W) (T := T_W) (N := 6) hx hb hts u_0 hown hK hP 17 gc_17 rfl 0 (by decide) k_0 (fun _ h9 => h9) rfl d_W_firstWrittenSlot_3 ?_
        refine va_get (D := X) (ci := 2) (C := R_G) (T := T_G) (N := 6) hx hb hts u_1 hown hK hP 1 gc_1 rfl 1 (by decide) k_1 (fun _ h9 => h9) rfl d_W_firstWrittenSlot_6 ?_
        refine lv_iload_n hx hb d_W_firstWrittenSlot_9 rfl (lv_at hl 1 rfl) ?_
        obtain ⟨y1, h2, e3, hf⟩ := gLd_e hf
        refine va_iald hx hb hK hP 2 0 gc_2 rfl h2 d_W_firstWrittenSlot_10 ?_
        rw [← e3]
        refine lv_iconst (v := 1) hx hb d_W_firstWrittenSlot_11 (by decide) ?_
        refine lv_icmp_ne (tgt := 48) hx hb d_W_firstWrittenSlot_12 rfl (fun c4 => ?_) (fun c4 => ?_)
        · skip
          rw [if_neg c4] at hf
          refine lv_iconst (v := 0) hx hb d_W_firstWrittenSlot_48 (by decide) ?_
          obtain ⟨rfl, rfl⟩ := gRt_e hf
          exact g_zret hx hb hr hlocks rfl hAe hS () rfl hP d_W_firstWrittenSlot_49
        rw [if_pos c4] at hf
        refine lv_iload_n hx hb d_W_firstWrittenSlot_15 rfl (lv_at hl 2 rfl) ?_
        refine lv_aload_n hx hb d_W_firstWrittenSlot_16 rfl (lv_at hl 0 rfl) ?_
        refine va_get (D := X) (ci := 7) (C := R_W) (T := T_W) (N := 6) hx hb hts u_0 hown hK hP 17 gc_17 rfl 0 (by decide) k_0 (fun _ h9 => h9) rfl d_W_firstWrittenSlot_17 ?_
        refine va_get (D := X) (ci := 2) (C := R_G) (T := T_G) (N := 6) hx hb hts u_1 hown hK hP 1 gc_1 rfl 2 (by decide) k_2 (fun _ h9 => h9) rfl d_W_firstWrittenSlot_20 ?_
        refine lv_iload_n hx hb d_W_firstWrittenSlot_23 rfl (lv_at hl 1 rfl) ?_
        obtain ⟨y5, h6, e7, hf⟩ := gLd_e hf
        refine va_iald hx hb hK hP 3 0 gc_3 rfl h6 d_W_firstWrittenSlot_24 ?_
        rw [← e7]
        refine lv_icmp_ge (tgt := 48) hx hb d_W_firstWrittenSlot_25 rfl (fun c8 => ?_) (fun c8 => ?_)
        · skip
          rw [if_pos c8] at hf
          refine lv_iconst (v := 0) hx hb d_W_firstWrittenSlot_48 (by decide) ?_
          obtain ⟨rfl, rfl⟩ := gRt_e hf
          exact g_zret hx hb hr hlocks rfl hAe hS () rfl hP d_W_firstWrittenSlot_49
        rw [if_neg c8] at hf
        refine lv_aload_n hx hb d_W_firstWrittenSlot_28 rfl (lv_at hl 0 rfl) ?_
        refine va_get (D := X) (ci := 7) (C := R_W) (T := T_W) (N := 6) hx hb hts u_0 hown hK hP 17 gc_17 rfl 0 (by decide) k_0 (fun _ h9 => h9) rfl d_W_firstWrittenSlot_29 ?_
        refine lv_iload_n hx hb d_W_firstWrittenSlot_32 rfl (lv_at hl 1 rfl) ?_
        refine lv_iload_n hx hb d_W_firstWrittenSlot_33 rfl (lv_at hl 2 rfl) ?_
        obtain ⟨y9, σ10, e11, hf⟩ := gBd_e hf
        refine g_wi (va_runV ⟨hx, hb, hml, hown, hts⟩ (m_G_contentOf e11) (cwV 2 hts (gG4 (fun _ h => List.mem_cons_of_mem _ h) tb_299 tb_236 tb_237 tb_116 tc_G_contentOf) rfl rfl rfl (by decide +kernel) ⟨Nat.le_of_ble_eq_true rfl, Nat.le_of_ble_eq_true rfl⟩) (g_preVW (q0 := 1) hE hK hP hD hS hA gc_1 rfl) rfl rfl hl.1 rfl (lv_room (Nat.le_of_ble_eq_true rfl)) d_W_firstWrittenSlot_34 ⟨Nat.zero_le _, Nat.zero_le _⟩) hD hS hA (fun _ => cW_fst) (fun y9 _ H locs hu hP hD hS => ?_)
        subst hu
        refine lv_if_eq (tgt := 42) hx hb d_W_firstWrittenSlot_37 rfl (fun c12 => ?_) (fun c12 => ?_)
        · skip
          rw [if_pos c12] at hf
          refine lv_iinc (k := 2) (v := (x2 + 1)) hx hb d_W_firstWrittenSlot_42 hl rfl (by rw [show Int32.ofInt (1) = (1 : Int32) by decide]) (by decide) rfl (fun ls hl => ?_)
          refine lv_goto (tgt := 2) hx hb d_W_firstWrittenSlot_45 rfl ?_
          exact ih1 (x1) ((x2 + 1)) σ10 _ _ _ hf hP hD hS (lv_sub hl [1, 2, 0] rfl)
        rw [if_neg c12] at hf
        refine lv_iload_n hx hb d_W_firstWrittenSlot_40 rfl (lv_at hl 2 rfl) ?_
        obtain ⟨rfl, rfl⟩ := gRt_e hf
        exact g_zret hx hb hr hlocks rfl hAe hS () rfl hP d_W_firstWrittenSlot_41
  exact (key gFuel).1 q1 σ _ _ _ hf hP hD hS hl

def B_W_writeCharacters_0 (rec : Nat → List Int32 → gS → Option (Int32 × gS)) (x1 : Int32) (σ0 : gS) : Option (Int32 × gS) := rec 1 [x1, 0] σ0
def B_W_writeCharacters_1 (rec : Nat → List Int32 → gS → Option (Int32 × gS)) (x1 : Int32) (x2 : Int32) (σ0 : gS) : Option (Int32 × gS) := gLd σ0 3 16 x1 (fun y1 => if y1 ≤ x2 then (some (0, σ0)) else (gBd (f_G_characterOf σ0 x1 x2) (fun y5 σ6 => if y5 = 60 then (gBd (f_W_writeRow_S11 σ6) (fun _ σ21 => rec 2 [x1, x2] σ21)) else (if y5 = 62 then (gBd (f_W_writeRow_S12 σ6) (fun _ σ18 => rec 2 [x1, x2] σ18)) else (if y5 = 38 then (gBd (f_W_writeRow_S13 σ6) (fun _ σ15 => rec 2 [x1, x2] σ15)) else (gBd (f_P_append σ6 y5) (fun y11 σ12 => rec 2 [x1, x2] σ12)))))))
def B_W_writeCharacters_2 (rec : Nat → List Int32 → gS → Option (Int32 × gS)) (x1 : Int32) (x2 : Int32) (σ0 : gS) : Option (Int32 × gS) := rec 1 [x1, (x2 + 1)] σ0
def S_W_writeCharacters (rec : Nat → List Int32 → gS → Option (Int32 × gS)) (k : Nat) (l : List Int32) (σ0 : gS) : Option (Int32 × gS) := match k, l with
  | 0, [x1] => B_W_writeCharacters_0 rec x1 σ0
  | 1, [x1, x2] => B_W_writeCharacters_1 rec x1 x2 σ0
  | 2, [x1, x2] => B_W_writeCharacters_2 rec x1 x2 σ0
  | _, _ => none
def R_W_writeCharacters : Nat → Nat → List Int32 → gS → Option (Int32 × gS)
  | 0 => fun _ _ _ => none
  | t + 1 => fun k l σ0 => S_W_writeCharacters (R_W_writeCharacters t) k l σ0
def f_W_writeCharacters (σ : gS) (x1 : Int32) : Option (Int32 × gS) := R_W_writeCharacters gFuel 0 [x1] σ
set_option maxHeartbeats 4000000 in
set_option maxRecDepth 100000 in
theorem m_W_writeCharacters {l : Launch} {X : va_G} {cI cC cZ : ClassId} {aK aV : Nat → Nat} {a : Nat → Nat} {σ σ' : gS} {r : Int32} {q1 : Int32} (hf : f_W_writeCharacters σ q1 = some (r, σ')) {sz : Nat} : Met l y_W_writeCharacters w_W_writeCharacters { frames := 5, cells := 0, slots := 0, locals := 107 } (gPc X vwCl (gT cI cC cZ) aK aV (cW cI cC cZ a σ) sz [.ref (a 17), .int q1]) (gQv X vwCl (cW cI cC cZ a σ) sz (fun (_ : Unit) => True) (fun _ => cW cI cC cZ a σ')) 0 0 (va_A (cW cI cC cZ a σ) sz) := by
  refine g_met (cc := b_W_writeCharacters) (maxL := 4) (ret := none) (by decide) rfl (Nat.le_of_ble_eq_true rfl) ?_
  intro p e s m below meth c A ls hx hb hr hml hown hts hlocks hnm hsz hAe hA hP hK hD hS hl hE
  have hown : s.vm.findClass R_W = some m.cls := hown
  have u_0 : ∀ w ∈ u_ws R_W T_W 6, w ∈ w_W_writeCharacters := fun w h => List.mem_cons_of_mem _ (tu_W w h)
  have u_1 : ∀ w ∈ u_ws R_G T_G 6, w ∈ w_W_writeCharacters := fun w h => List.mem_cons_of_mem _ (tu_G w h)
  have k_0 := hts (.fieldLink R_W 18 "GraphPages$Writer" "graph" "LGraphPages$Graph;") (List.mem_cons_of_mem _ tb_300)
  have k_1 := hts (.fieldLink R_W 102 "GraphPages$Graph" "sizes" "[I") (List.mem_cons_of_mem _ tb_302)
  have k_2 := hts (.fieldLink R_W 26 "GraphPages$Writer" "page" "LGraphPages$Page;") (List.mem_cons_of_mem _ tb_287)
  unfold f_W_writeCharacters at hf
  have key : ∀ t : Nat, (∀ (x1 : Int32) (σ0 : gS) (H : Heap) (locs : List Loc) (ls : Array Slot), R_W_writeCharacters t 0 [x1] σ0 = some (r, σ') → va_P X vwCl (cW cI cC cZ a σ0) H → va_D A (cW cI cC cZ a σ0) → va_S A s.heap H locs → lv_has ls 4 [(0, .ref (a 17)), (1, .int x1)] → W p l e (headSpec w_W_writeCharacters { frames := 5, cells := 0, slots := 0, locals := 107 }).room s m [.ref (a 17), .int q1].toArray below meth c H locs 0 0 (MQ below (gQv X vwCl (cW cI cC cZ a σ) sz (fun (_ : Unit) => True) (fun _ => cW cI cC cZ a σ')) [.ref (a 17), .int q1].toArray s 0 0 (va_A (cW cI cC cZ a σ) sz)) (F0 m 0 ls [])) ∧ (∀ (x1 : Int32) (x2 : Int32) (σ0 : gS) (H : Heap) (locs : List Loc) (ls : Array Slot), R_W_writeCharacters t 1 [x1, x2] σ0 = some (r, σ') → va_P X vwCl (cW cI cC cZ a σ0) H → va_D A (cW cI cC cZ a σ0) → va_S A s.heap H locs → lv_has ls 4 [(0, .ref (a 17)), (1, .int x1), (2, .int x2)] → W p l e (headSpec w_W_writeCharacters { frames := 5, cells := 0, slots := 0, locals := 107 }).room s m [.ref (a 17), .int q1].toArray below meth c H locs 0 0 (MQ below (gQv X vwCl (cW cI cC cZ a σ) sz (fun (_ : Unit) => True) (fun _ => cW cI cC cZ a σ')) [.ref (a 17), .int q1].toArray s 0 0 (va_A (cW cI cC cZ a σ) sz)) (F0 m 2 ls [])) ∧ (∀ (x1 : Int32) (x2 : Int32) (σ0 : gS) (H : Heap) (locs : List Loc) (ls : Array Slot), R_W_writeCharacters t 2 [x1, x2] σ0 = some (r, σ') → va_P X vwCl (cW cI cC cZ a σ0) H → va_D A (cW cI cC cZ a σ0) → va_S A s.heap H locs → lv_has ls 4 [(0, .ref (a 17)), (1, .int x1), (2, .int x2)] → W p l e (headSpec w_W_writeCharacters { frames := 5, cells := 0, slots := 0, locals := 107 }).room s m [.ref (a 17), .int q1].toArray below meth c H locs 0 0 (MQ below (gQv X vwCl (cW cI cC cZ a σ) sz (fun (_ : Unit) => True) (fun _ => cW cI cC cZ a σ')) [.ref (a 17), .int q1].toArray s 0 0 (va_A (cW cI cC cZ a σ) sz)) (F0 m 79 ls [])) := by
    intro t
    induction t with
    | zero => exact ⟨fun _ _ _ _ _ hf => (by have hf : (none : Option (Int32 × gS)) = some (r, σ') := hf; cases hf), fun _ _ _ _ _ _ hf => (by have hf : (none : Option (Int32 × gS)) = some (r, σ') := hf; cases hf), fun _ _ _ _ _ _ hf => (by have hf : (none : Option (Int32 × gS)) = some (r, σ') := hf; cases hf)⟩
    | succ t ih =>
      obtain ⟨ih0, ih1, ih2⟩ := ih
      refine ⟨?_, ?_, ?_⟩
      · intro x1 σ0 H locs ls hf hP hD hS hl
        have hf : B_W_writeCharacters_0 (R_W_writeCharacters t) x1 σ0 = some (r, σ') := hf
        unfold B_W_writeCharacters_0 at hf
        refine lv_iconst (v := 0) hx hb d_W_writeCharacters_0 (by decide) ?_
        refine lv_istore_n hx hb d_W_writeCharacters_1 rfl hl (by decide) rfl (fun ls hl => ?_)
        exact ih1 (x1) (0) σ0 _ _ _ hf hP hD hS (lv_sub hl [1, 2, 0] rfl)
      · intro x1 x2 σ0 H locs ls hf hP hD hS hl
        have hf : B_W_writeCharacters_1 (R_W_writeCharacters t) x1 x2 σ0 = some (r, σ') := hf
        unfold B_W_writeCharacters_1 at hf
        refine lv_iload_n hx hb d_W_writeCharacters_2 rfl (lv_at hl 2 rfl) ?_
        refine lv_aload_n hx hb d_W_writeCharacters_3 rfl (lv_at hl 0 rfl) ?_
        refine va_get (D := X) (ci := 7) (C := R_W) (T := T_W) (N := 6) hx hb hts u_0 hown hK hP 17 gc_17 rfl 0 (by decide) k_0 (fun _ h9 => h9) rfl d_W_writeCharacters_4 ?_
        refine va_get (D := X) (ci := 2) (C := R_G) (T := T_G) (N := 6) hx hb hts u_1 hown hK hP 1 gc_1 rfl 2 (by decide) k_1 (fun _ h9 => h9) rfl d_W_writeCharacters_7 ?_
        refine lv_iload_n hx hb d_W_writeCharacters_10 rfl (lv_at hl 1 rfl) ?_
        obtain ⟨y1, h2, e3, hf⟩ := gLd_e hf
        refine va_iald hx hb hK hP 3 0 gc_3 rfl h2 d_W_writeCharacters_11 ?_
        rw [← e3]
        refine lv_icmp_ge (tgt := 85) hx hb d_W_writeCharacters_12 rfl (fun c4 => ?_) (fun c4 => ?_)
        · skip
          rw [if_pos c4] at hf
          obtain ⟨-, rfl⟩ := gRt_e hf
          exact g_vret hx hb hr hlocks hAe hS () trivial hP d_W_writeCharacters_85
        rw [if_neg c4] at hf
        refine lv_aload_n hx hb d_W_writeCharacters_15 rfl (lv_at hl 0 rfl) ?_
        refine va_get (D := X) (ci := 7) (C := R_W) (T := T_W) (N := 6) hx hb hts u_0 hown hK hP 17 gc_17 rfl 0 (by decide) k_0 (fun _ h9 => h9) rfl d_W_writeCharacters_16 ?_
        refine lv_iload_n hx hb d_W_writeCharacters_19 rfl (lv_at hl 1 rfl) ?_
        refine lv_iload_n hx hb d_W_writeCharacters_20 rfl (lv_at hl 2 rfl) ?_
        obtain ⟨y5, σ6, e7, hf⟩ := gBd_e hf
        refine g_wi (va_runV ⟨hx, hb, hml, hown, hts⟩ (m_G_characterOf e7) (cwV 2 hts (gG4 (fun _ h => List.mem_cons_of_mem _ h) tb_303 tb_231 tb_232 tb_116 tc_G_characterOf) rfl rfl rfl (by decide +kernel) ⟨Nat.le_of_ble_eq_true rfl, Nat.le_of_ble_eq_true rfl⟩) (g_preVW (q0 := 1) hE hK hP hD hS hA gc_1 rfl) rfl rfl hl.1 rfl (lv_room (Nat.le_of_ble_eq_true rfl)) d_W_writeCharacters_21 ⟨Nat.zero_le _, Nat.zero_le _⟩) hD hS hA (fun _ => cW_fst) (fun y5 _ H locs hu hP hD hS => ?_)
        subst hu
        refine lv_istore_n hx hb d_W_writeCharacters_24 rfl hl (by decide) rfl (fun ls hl => ?_)
        refine lv_iload_n hx hb d_W_writeCharacters_25 rfl (lv_at hl 0 rfl) ?_
        refine lv_bipush (v := 60) hx hb d_W_writeCharacters_26 (by decide) ?_
        refine lv_icmp_ne (tgt := 40) hx hb d_W_writeCharacters_28 rfl (fun c8 => ?_) (fun c8 => ?_)
        · skip
          rw [if_neg c8] at hf
          refine lv_iload_n hx hb d_W_writeCharacters_40 rfl (lv_at hl 0 rfl) ?_
          refine lv_bipush (v := 62) hx hb d_W_writeCharacters_41 (by decide) ?_
          refine lv_icmp_ne (tgt := 55) hx hb d_W_writeCharacters_43 rfl (fun c9 => ?_) (fun c9 => ?_)
          · skip
            rw [if_neg c9] at hf
            refine lv_iload_n hx hb d_W_writeCharacters_55 rfl (lv_at hl 0 rfl) ?_
            refine lv_bipush (v := 38) hx hb d_W_writeCharacters_56 (by decide) ?_
            refine lv_icmp_ne (tgt := 70) hx hb d_W_writeCharacters_58 rfl (fun c10 => ?_) (fun c10 => ?_)
            · skip
              rw [if_neg c10] at hf
              refine lv_aload_n hx hb d_W_writeCharacters_70 rfl (lv_at hl 1 rfl) ?_
              refine va_get (D := X) (ci := 7) (C := R_W) (T := T_W) (N := 6) hx hb hts u_0 hown hK hP 17 gc_17 rfl 2 (by decide) k_2 (fun _ h9 => h9) rfl d_W_writeCharacters_71 ?_
              refine lv_iload_n hx hb d_W_writeCharacters_74 rfl (lv_at hl 0 rfl) ?_
              obtain ⟨y11, σ12, e13, hf⟩ := gBd_e hf
              refine g_wi (va_runV ⟨hx, hb, hml, hown, hts⟩ (m_P_append e13) (cwV 1 hts (gG4 (fun _ h => List.mem_cons_of_mem _ h) tb_284 tb_285 tb_286 tb_38 tc_P_append) rfl rfl rfl (by decide +kernel) ⟨Nat.le_of_ble_eq_true rfl, Nat.le_of_ble_eq_true rfl⟩) (g_preVW (q0 := 7) hE hK hP hD hS hA gc_7 rfl) rfl rfl hl.1 rfl (lv_room (Nat.le_of_ble_eq_true rfl)) d_W_writeCharacters_75 ⟨Nat.zero_le _, Nat.zero_le _⟩) hD hS hA (fun _ => cW_fst) (fun y11 _ H locs hu hP hD hS => ?_)
              subst hu
              refine lv_pop hx hb d_W_writeCharacters_78 rfl ?_
              exact ih2 (x1) (x2) σ12 _ _ _ hf hP hD hS (lv_sub hl [1, 2, 3] rfl)
            rw [if_pos c10] at hf
            refine lv_aload_n hx hb d_W_writeCharacters_61 rfl (lv_at hl 1 rfl) ?_
            refine va_ldcS hx hb hown (hE.2.1 _ gl_13).1 d_W_writeCharacters_62 ?_
            obtain ⟨y14, σ15, e16, hf⟩ := gBd_e hf
            refine g_wv (va_runV ⟨hx, hb, hml, hown, hts⟩ (m_W_writeRow_S13 e16) (cwV 1 hts (gG4 (fun _ h => List.mem_cons_of_mem _ h) tb_292 tb_293 tb_294 tb_295 tc_W_writeRow) rfl rfl rfl (by decide +kernel) ⟨Nat.le_of_ble_eq_true rfl, Nat.le_of_ble_eq_true rfl⟩) (g_preVW (q0 := 17) hE hK hP hD hS hA gc_17 rfl) rfl rfl hl.1 rfl (lv_room (Nat.le_of_ble_eq_true rfl)) d_W_writeCharacters_64 ⟨Nat.zero_le _, Nat.zero_le _⟩) hD hS hA (fun _ => cW_fst) (fun _ H locs _ hP hD hS => ?_)
            refine lv_goto (tgt := 79) hx hb d_W_writeCharacters_67 rfl ?_
            exact ih2 (x1) (x2) σ15 _ _ _ hf hP hD hS (lv_sub hl [1, 2, 3] rfl)
          rw [if_pos c9] at hf
          refine lv_aload_n hx hb d_W_writeCharacters_46 rfl (lv_at hl 1 rfl) ?_
          refine va_ldcS hx hb hown (hE.2.1 _ gl_12).1 d_W_writeCharacters_47 ?_
          obtain ⟨y17, σ18, e19, hf⟩ := gBd_e hf
          refine g_wv (va_runV ⟨hx, hb, hml, hown, hts⟩ (m_W_writeRow_S12 e19) (cwV 1 hts (gG4 (fun _ h => List.mem_cons_of_mem _ h) tb_292 tb_293 tb_294 tb_295 tc_W_writeRow) rfl rfl rfl (by decide +kernel) ⟨Nat.le_of_ble_eq_true rfl, Nat.le_of_ble_eq_true rfl⟩) (g_preVW (q0 := 17) hE hK hP hD hS hA gc_17 rfl) rfl rfl hl.1 rfl (lv_room (Nat.le_of_ble_eq_true rfl)) d_W_writeCharacters_49 ⟨Nat.zero_le _, Nat.zero_le _⟩) hD hS hA (fun _ => cW_fst) (fun _ H locs _ hP hD hS => ?_)
          refine lv_goto (tgt := 79) hx hb d_W_writeCharacters_52 rfl ?_
          exact ih2 (x1) (x2) σ18 _ _ _ hf hP hD hS (lv_sub hl [1, 2, 3] rfl)
        rw [if_pos c8] at hf
        refine lv_aload_n hx hb d_W_writeCharacters_31 rfl (lv_at hl 1 rfl) ?_
        refine va_ldcS hx hb hown (hE.2.1 _ gl_11).1 d_W_writeCharacters_32 ?_
        obtain ⟨y20, σ21, e22, hf⟩ := gBd_e hf
        refine g_wv (va_runV ⟨hx, hb, hml, hown, hts⟩ (m_W_writeRow_S11 e22) (cwV 1 hts (gG4 (fun _ h => List.mem_cons_of_mem _ h) tb_292 tb_293 tb_294 tb_295 tc_W_writeRow) rfl rfl rfl (by decide +kernel) ⟨Nat.le_of_ble_eq_true rfl, Nat.le_of_ble_eq_true rfl⟩) (g_preVW (q0 := 17) hE hK hP hD hS hA gc_17 rfl) rfl rfl hl.1 rfl (lv_room (Nat.le_of_ble_eq_true rfl)) d_W_writeCharacters_34 ⟨Nat.zero_le _, Nat.zero_le _⟩) hD hS hA (fun _ => cW_fst) (fun _ H locs _ hP hD hS => ?_)
        refine lv_goto (tgt := 79) hx hb d_W_writeCharacters_37 rfl ?_
        exact ih2 (x1) (x2) σ21 _ _ _ hf hP hD hS (lv_sub hl [1, 2, 3] rfl)
      · intro x1 x2 σ0 H locs ls hf hP hD hS hl
        have hf : B_W_writeCharacters_2 (R_W_writeCharacters t) x1 x2 σ0 = some (r, σ') := hf
        unfold B_W_writeCharacters_2 at hf
        refine lv_iinc (k := 2) (v := (x2 + 1)) hx hb d_W_writeCharacters_79 hl rfl (by rw [show Int32.ofInt (1) = (1 : Int32) by decide]) (by decide) rfl (fun ls hl => ?_)
        refine lv_goto (tgt := 2) hx hb d_W_writeCharacters_82 rfl ?_
        exact ih1 (x1) ((x2 + 1)) σ0 _ _ _ hf hP hD hS (lv_sub hl [1, 2, 0] rfl)
  exact (key gFuel).1 q1 σ _ _ _ hf hP hD hS hl

def B_W_behindLastWrittenSlot_0 (rec : Nat → List Int32 → gS → Option (Int32 × gS)) (x1 : Int32) (σ0 : gS) : Option (Int32 × gS) := gLd σ0 3 16 x1 (fun y1 => rec 1 [x1, y1] σ0)
def B_W_behindLastWrittenSlot_1 (rec : Nat → List Int32 → gS → Option (Int32 × gS)) (x1 : Int32) (x2 : Int32) (σ0 : gS) : Option (Int32 × gS) := gLd σ0 2 16 x1 (fun y4 => if y4 = 1 then (if x2 ≤ 0 then (some (x2, σ0)) else (gBd (f_G_contentOf σ0 x1 (x2 - 1)) (fun y9 σ10 => if y9 = 0 then (rec 1 [x1, (x2 + (-1))] σ10) else (some (x2, σ10))))) else (some (x2, σ0)))
def S_W_behindLastWrittenSlot (rec : Nat → List Int32 → gS → Option (Int32 × gS)) (k : Nat) (l : List Int32) (σ0 : gS) : Option (Int32 × gS) := match k, l with
  | 0, [x1] => B_W_behindLastWrittenSlot_0 rec x1 σ0
  | 1, [x1, x2] => B_W_behindLastWrittenSlot_1 rec x1 x2 σ0
  | _, _ => none
def R_W_behindLastWrittenSlot : Nat → Nat → List Int32 → gS → Option (Int32 × gS)
  | 0 => fun _ _ _ => none
  | t + 1 => fun k l σ0 => S_W_behindLastWrittenSlot (R_W_behindLastWrittenSlot t) k l σ0
def f_W_behindLastWrittenSlot (σ : gS) (x1 : Int32) : Option (Int32 × gS) := R_W_behindLastWrittenSlot gFuel 0 [x1] σ
set_option maxHeartbeats 4000000 in
set_option maxRecDepth 100000 in
theorem m_W_behindLastWrittenSlot {l : Launch} {X : va_G} {cI cC cZ : ClassId} {aK aV : Nat → Nat} {a : Nat → Nat} {σ σ' : gS} {r : Int32} {q1 : Int32} (hf : f_W_behindLastWrittenSlot σ q1 = some (r, σ')) {sz : Nat} : Met l y_W_behindLastWrittenSlot w_W_behindLastWrittenSlot { frames := 1, cells := 0, slots := 0, locals := 22 } (gPc X vwCl (gT cI cC cZ) aK aV (cW cI cC cZ a σ) sz [.ref (a 17), .int q1]) (gQi X vwCl (cW cI cC cZ a σ) sz (fun r' (_ : Unit) => r' = r) (fun _ => cW cI cC cZ a σ')) 0 0 (va_A (cW cI cC cZ a σ) sz) := by
  refine g_met (cc := b_W_behindLastWrittenSlot) (maxL := 3) (ret := (some .int)) (by decide) rfl (Nat.le_of_ble_eq_true rfl) ?_
  intro p e s m below meth c A ls hx hb hr hml hown hts hlocks hnm hsz hAe hA hP hK hD hS hl hE
  have hown : s.vm.findClass R_W = some m.cls := hown
  have u_0 : ∀ w ∈ u_ws R_W T_W 6, w ∈ w_W_behindLastWrittenSlot := fun w h => List.mem_cons_of_mem _ (tu_W w h)
  have u_1 : ∀ w ∈ u_ws R_G T_G 6, w ∈ w_W_behindLastWrittenSlot := fun w h => List.mem_cons_of_mem _ (tu_G w h)
  have k_0 := hts (.fieldLink R_W 18 "GraphPages$Writer" "graph" "LGraphPages$Graph;") (List.mem_cons_of_mem _ tb_300)
  have k_1 := hts (.fieldLink R_W 102 "GraphPages$Graph" "sizes" "[I") (List.mem_cons_of_mem _ tb_302)
  have k_2 := hts (.fieldLink R_W 83 "GraphPages$Graph" "kinds" "[I") (List.mem_cons_of_mem _ tb_301)
  unfold f_W_behindLastWrittenSlot at hf
  have key : ∀ t : Nat, (∀ (x1 : Int32) (σ0 : gS) (H : Heap) (locs : List Loc) (ls : Array Slot), R_W_behindLastWrittenSlot t 0 [x1] σ0 = some (r, σ') → va_P X vwCl (cW cI cC cZ a σ0) H → va_D A (cW cI cC cZ a σ0) → va_S A s.heap H locs → lv_has ls 3 [(0, .ref (a 17)), (1, .int x1)] → W p l e (headSpec w_W_behindLastWrittenSlot { frames := 1, cells := 0, slots := 0, locals := 22 }).room s m [.ref (a 17), .int q1].toArray below meth c H locs 0 0 (MQ below (gQi X vwCl (cW cI cC cZ a σ) sz (fun r' (_ : Unit) => r' = r) (fun _ => cW cI cC cZ a σ')) [.ref (a 17), .int q1].toArray s 0 0 (va_A (cW cI cC cZ a σ) sz)) (F0 m 0 ls [])) ∧ (∀ (x1 : Int32) (x2 : Int32) (σ0 : gS) (H : Heap) (locs : List Loc) (ls : Array Slot), R_W_behindLastWrittenSlot t 1 [x1, x2] σ0 = some (r, σ') → va_P X vwCl (cW cI cC cZ a σ0) H → va_D A (cW cI cC cZ a σ0) → va_S A s.heap H locs → lv_has ls 3 [(0, .ref (a 17)), (1, .int x1), (2, .int x2)] → W p l e (headSpec w_W_behindLastWrittenSlot { frames := 1, cells := 0, slots := 0, locals := 22 }).room s m [.ref (a 17), .int q1].toArray below meth c H locs 0 0 (MQ below (gQi X vwCl (cW cI cC cZ a σ) sz (fun r' (_ : Unit) => r' = r) (fun _ => cW cI cC cZ a σ')) [.ref (a 17), .int q1].toArray s 0 0 (va_A (cW cI cC cZ a σ) sz)) (F0 m 10 ls [])) := by
    intro t
    induction t with
    | zero => exact ⟨fun _ _ _ _ _ hf => (by have hf : (none : Option (Int32 × gS)) = some (r, σ') := hf; cases hf), fun _ _ _ _ _ _ hf => (by have hf : (none : Option (Int32 × gS)) = some (r, σ') := hf; cases hf)⟩
    | succ t ih =>
      obtain ⟨ih0, ih1⟩ := ih
      refine ⟨?_, ?_⟩
      · intro x1 σ0 H locs ls hf hP hD hS hl
        have hf : B_W_behindLastWrittenSlot_0 (R_W_behindLastWrittenSlot t) x1 σ0 = some (r, σ') := hf
        unfold B_W_behindLastWrittenSlot_0 at hf
        refine lv_aload_n hx hb d_W_behindLastWrittenSlot_0 rfl (lv_at hl 0 rfl) ?_
        refine va_get (D := X) (ci := 7) (C := R_W) (T := T_W) (N := 6) hx hb hts u_0 hown hK hP 17 gc_17 rfl 0 (by decide) k_0 (fun _ h9 => h9) rfl d_W_behindLastWrittenSlot_1 ?_
        refine va_get (D := X) (ci := 2) (C := R_G) (T := T_G) (N := 6) hx hb hts u_1 hown hK hP 1 gc_1 rfl 2 (by decide) k_1 (fun _ h9 => h9) rfl d_W_behindLastWrittenSlot_4 ?_
        refine lv_iload_n hx hb d_W_behindLastWrittenSlot_7 rfl (lv_at hl 1 rfl) ?_
        obtain ⟨y1, h2, e3, hf⟩ := gLd_e hf
        refine va_iald hx hb hK hP 3 0 gc_3 rfl h2 d_W_behindLastWrittenSlot_8 ?_
        rw [← e3]
        refine lv_istore_n hx hb d_W_behindLastWrittenSlot_9 rfl hl (by decide) rfl (fun ls hl => ?_)
        exact ih1 (x1) (y1) σ0 _ _ _ hf hP hD hS (lv_sub hl [1, 2, 0] rfl)
      · intro x1 x2 σ0 H locs ls hf hP hD hS hl
        have hf : B_W_behindLastWrittenSlot_1 (R_W_behindLastWrittenSlot t) x1 x2 σ0 = some (r, σ') := hf
        unfold B_W_behindLastWrittenSlot_1 at hf
        refine lv_aload_n hx hb d_W_behindLastWrittenSlot_10 rfl (lv_at hl 0 rfl) ?_
        refine va_get (D := X) (ci := 7) (C := R_W) (T := T_W) (N := 6) hx hb hts u_0 hown hK hP 17 gc_17 rfl 0 (by decide) k_0 (fun _ h9 => h9) rfl d_W_behindLastWrittenSlot_11 ?_
        refine va_get (D := X) (ci := 2) (C := R_G) (T := T_G) (N := 6) hx hb hts u_1 hown hK hP 1 gc_1 rfl 1 (by decide) k_2 (fun _ h9 => h9) rfl d_W_behindLastWrittenSlot_14 ?_
        refine lv_iload_n hx hb d_W_behindLastWrittenSlot_17 rfl (lv_at hl 1 rfl) ?_
        obtain ⟨y4, h5, e6, hf⟩ := gLd_e hf
        refine va_iald hx hb hK hP 2 0 gc_2 rfl h5 d_W_behindLastWrittenSlot_18 ?_
        rw [← e6]
        refine lv_iconst (v := 1) hx hb d_W_behindLastWrittenSlot_19 (by decide) ?_
        refine lv_icmp_ne (tgt := 47) hx hb d_W_behindLastWrittenSlot_20 rfl (fun c7 => ?_) (fun c7 => ?_)
        · skip
          rw [if_neg c7] at hf
          refine lv_iload_n hx hb d_W_behindLastWrittenSlot_47 rfl (lv_at hl 2 rfl) ?_
          obtain ⟨rfl, rfl⟩ := gRt_e hf
          exact g_zret hx hb hr hlocks rfl hAe hS () rfl hP d_W_behindLastWrittenSlot_48
        rw [if_pos c7] at hf
        refine lv_iload_n hx hb d_W_behindLastWrittenSlot_23 rfl (lv_at hl 2 rfl) ?_
        refine lv_if_le (tgt := 47) hx hb d_W_behindLastWrittenSlot_24 rfl (fun c8 => ?_) (fun c8 => ?_)
        · skip
          rw [if_pos c8] at hf
          refine lv_iload_n hx hb d_W_behindLastWrittenSlot_47 rfl (lv_at hl 2 rfl) ?_
          obtain ⟨rfl, rfl⟩ := gRt_e hf
          exact g_zret hx hb hr hlocks rfl hAe hS () rfl hP d_W_behindLastWrittenSlot_48
        rw [if_neg c8] at hf
        refine lv_aload_n hx hb d_W_behindLastWrittenSlot_27 rfl (lv_at hl 0 rfl) ?_
        refine va_get (D := X) (ci := 7) (C := R_W) (T := T_W) (N := 6) hx hb hts u_0 hown hK hP 17 gc_17 rfl 0 (by decide) k_0 (fun _ h9 => h9) rfl d_W_behindLastWrittenSlot_28 ?_
        refine lv_iload_n hx hb d_W_behindLastWrittenSlot_31 rfl (lv_at hl 1 rfl) ?_
        refine lv_iload_n hx hb d_W_behindLastWrittenSlot_32 rfl (lv_at hl 2 rfl) ?_
        refine lv_iconst (v := 1) hx hb d_W_behindLastWrittenSlot_33 (by decide) ?_
        refine lv_isub hx hb d_W_behindLastWrittenSlot_34 ?_
        obtain ⟨y9, σ10, e11, hf⟩ := gBd_e hf
        refine g_wi (va_runV ⟨hx, hb, hml, hown, hts⟩ (m_G_contentOf e11) (cwV 2 hts (gG4 (fun _ h => List.mem_cons_of_mem _ h) tb_299 tb_236 tb_237 tb_116 tc_G_contentOf) rfl rfl rfl (by decide +kernel) ⟨Nat.le_of_ble_eq_true rfl, Nat.le_of_ble_eq_true rfl⟩) (g_preVW (q0 := 1) hE hK hP hD hS hA gc_1 rfl) rfl rfl hl.1 rfl (lv_room (Nat.le_of_ble_eq_true rfl)) d_W_behindLastWrittenSlot_35 ⟨Nat.zero_le _, Nat.zero_le _⟩) hD hS hA (fun _ => cW_fst) (fun y9 _ H locs hu hP hD hS => ?_)
        subst hu
        refine lv_if_ne (tgt := 47) hx hb d_W_behindLastWrittenSlot_38 rfl (fun c12 => ?_) (fun c12 => ?_)
        · skip
          rw [if_neg c12] at hf
          refine lv_iload_n hx hb d_W_behindLastWrittenSlot_47 rfl (lv_at hl 2 rfl) ?_
          obtain ⟨rfl, rfl⟩ := gRt_e hf
          exact g_zret hx hb hr hlocks rfl hAe hS () rfl hP d_W_behindLastWrittenSlot_48
        rw [if_pos c12] at hf
        refine lv_iinc (k := 2) (v := (x2 + (-1))) hx hb d_W_behindLastWrittenSlot_41 hl rfl (by rw [show Int32.ofInt (-1) = ((-1) : Int32) by decide]) (by decide) rfl (fun ls hl => ?_)
        refine lv_goto (tgt := 10) hx hb d_W_behindLastWrittenSlot_44 rfl ?_
        exact ih1 (x1) ((x2 + (-1))) σ10 _ _ _ hf hP hD hS (lv_sub hl [1, 2, 0] rfl)
  exact (key gFuel).1 q1 σ _ _ _ hf hP hD hS hl

def B_W_writeSlots_0 (fnr : gS → Int32 → Int32 → Option (Int32 × gS)) (rec : Nat → List Int32 → gS → Option (Int32 × gS)) (x1 : Int32) (x2 : Int32) (x3 : Int32) (σ0 : gS) : Option (Int32 × gS) := gBd (f_W_behindLastWrittenSlot σ0 x1) (fun y1 σ2 => rec 1 [x1, x3, y1, x2] σ2)
def B_W_writeSlots_1 (fnr : gS → Int32 → Int32 → Option (Int32 × gS)) (rec : Nat → List Int32 → gS → Option (Int32 × gS)) (x1 : Int32) (x3 : Int32) (x4 : Int32) (x5 : Int32) (σ0 : gS) : Option (Int32 × gS) := if x4 ≤ x5 then (some (0, σ0)) else (gBd (f_G_contentOf σ0 x1 x5) (fun y5 σ6 => if y5 = 0 then (gBd (f_W_writeRow_S14 σ6) (fun _ σ32 => rec 2 [x1, x3, x4, x5] σ32)) else (gBd (f_G_contentOf σ6 x1 x5) (fun y9 σ10 => if y9 = 1 then (gBd (f_W_writeRow_S15 σ10) (fun _ σ20 => gBd (f_G_valueOf σ20 x1 x5) (fun y22 σ23 => gBd (f_W_writeNumber σ23 y22) (fun _ σ26 => gBd (f_W_writeRow_S16 σ26) (fun _ σ29 => rec 2 [x1, x3, x4, x5] σ29))))) else (gBd (f_G_valueOf σ10 x1 x5) (fun y13 σ14 => gBd (fnr σ14 y13 x3) (fun _ σ17 => rec 2 [x1, x3, x4, x5] σ17)))))))
def B_W_writeSlots_2 (fnr : gS → Int32 → Int32 → Option (Int32 × gS)) (rec : Nat → List Int32 → gS → Option (Int32 × gS)) (x1 : Int32) (x3 : Int32) (x4 : Int32) (x5 : Int32) (σ0 : gS) : Option (Int32 × gS) := rec 1 [x1, x3, x4, (x5 + 1)] σ0
def S_W_writeSlots (fnr : gS → Int32 → Int32 → Option (Int32 × gS)) (rec : Nat → List Int32 → gS → Option (Int32 × gS)) (k : Nat) (l : List Int32) (σ0 : gS) : Option (Int32 × gS) := match k, l with
  | 0, [x1, x2, x3] => B_W_writeSlots_0 fnr rec x1 x2 x3 σ0
  | 1, [x1, x3, x4, x5] => B_W_writeSlots_1 fnr rec x1 x3 x4 x5 σ0
  | 2, [x1, x3, x4, x5] => B_W_writeSlots_2 fnr rec x1 x3 x4 x5 σ0
  | _, _ => none
def R_W_writeSlots (fnr : gS → Int32 → Int32 → Option (Int32 × gS)) : Nat → Nat → List Int32 → gS → Option (Int32 × gS)
  | 0 => fun _ _ _ => none
  | t + 1 => fun k l σ0 => S_W_writeSlots fnr (R_W_writeSlots fnr t) k l σ0
def F_W_writeSlots (fnr : gS → Int32 → Int32 → Option (Int32 × gS)) (σ : gS) (x1 : Int32) (x2 : Int32) (x3 : Int32) : Option (Int32 × gS) := R_W_writeSlots fnr gFuel 0 [x1, x2, x3] σ
set_option maxHeartbeats 4000000 in
set_option maxRecDepth 100000 in
theorem M_W_writeSlots {l : Launch} {X : va_G} {cI cC cZ : ClassId} {aK aV : Nat → Nat} {a : Nat → Nat} {fnr : gS → Int32 → Int32 → Option (Int32 × gS)} {nF nL : Nat} (hsym : ∀ {σ σ' : gS} {r : Int32} {v0 v1 : Int32}, fnr σ v0 v1 = some (r, σ') → ∀ {sz : Nat}, Met l y_W_writeReference w_W_writeReference { frames := nF, cells := 0, slots := 0, locals := nL } (gPc X vwCl (gT cI cC cZ) aK aV (cW cI cC cZ a σ) sz [.ref (a 17), .int v0, .int v1]) (gQv X vwCl (cW cI cC cZ a σ) sz (fun (_ : Unit) => True) (fun _ => cW cI cC cZ a σ')) 0 0 (va_A (cW cI cC cZ a σ) sz)) {σ σ' : gS} {r : Int32} {q1 : Int32} {q2 : Int32} {q3 : Int32} (hf : F_W_writeSlots fnr σ q1 q2 q3 = some (r, σ')) {sz : Nat} : Met l y_W_writeSlots w_W_writeSlots { frames := nF + 5, cells := 0, slots := 0, locals := nL + 107 } (gPc X vwCl (gT cI cC cZ) aK aV (cW cI cC cZ a σ) sz [.ref (a 17), .int q1, .int q2, .int q3]) (gQv X vwCl (cW cI cC cZ a σ) sz (fun (_ : Unit) => True) (fun _ => cW cI cC cZ a σ')) 0 0 (va_A (cW cI cC cZ a σ) sz) := by
  refine g_met (cc := b_W_writeSlots) (maxL := 6) (ret := none) (by decide) rfl (Nat.le_of_ble_eq_true rfl) ?_
  intro p e s m below meth c A ls hx hb hr hml hown hts hlocks hnm hsz hAe hA hP hK hD hS hl hE
  have hown : s.vm.findClass R_W = some m.cls := hown
  have u_0 : ∀ w ∈ u_ws R_W T_W 6, w ∈ w_W_writeSlots := fun w h => List.mem_cons_of_mem _ (tu_W w h)
  have k_0 := hts (.fieldLink R_W 18 "GraphPages$Writer" "graph" "LGraphPages$Graph;") (List.mem_cons_of_mem _ tb_300)
  unfold F_W_writeSlots at hf
  have key : ∀ t : Nat, (∀ (x1 : Int32) (x2 : Int32) (x3 : Int32) (σ0 : gS) (H : Heap) (locs : List Loc) (ls : Array Slot), R_W_writeSlots fnr t 0 [x1, x2, x3] σ0 = some (r, σ') → va_P X vwCl (cW cI cC cZ a σ0) H → va_D A (cW cI cC cZ a σ0) → va_S A s.heap H locs → lv_has ls 6 [(0, .ref (a 17)), (1, .int x1), (2, .int x2), (3, .int x3)] → W p l e (headSpec w_W_writeSlots { frames := nF + 5, cells := 0, slots := 0, locals := nL + 107 }).room s m [.ref (a 17), .int q1, .int q2, .int q3].toArray below meth c H locs 0 0 (MQ below (gQv X vwCl (cW cI cC cZ a σ) sz (fun (_ : Unit) => True) (fun _ => cW cI cC cZ a σ')) [.ref (a 17), .int q1, .int q2, .int q3].toArray s 0 0 (va_A (cW cI cC cZ a σ) sz)) (F0 m 0 ls [])) ∧ (∀ (x1 : Int32) (x3 : Int32) (x4 : Int32) (x5 : Int32) (σ0 : gS) (H : Heap) (locs : List Loc) (ls : Array Slot), R_W_writeSlots fnr t 1 [x1, x3, x4, x5] σ0 = some (r, σ') → va_P X vwCl (cW cI cC cZ a σ0) H → va_D A (cW cI cC cZ a σ0) → va_S A s.heap H locs → lv_has ls 6 [(0, .ref (a 17)), (1, .int x1), (3, .int x3), (4, .int x4), (5, .int x5)] → W p l e (headSpec w_W_writeSlots { frames := nF + 5, cells := 0, slots := 0, locals := nL + 107 }).room s m [.ref (a 17), .int q1, .int q2, .int q3].toArray below meth c H locs 0 0 (MQ below (gQv X vwCl (cW cI cC cZ a σ) sz (fun (_ : Unit) => True) (fun _ => cW cI cC cZ a σ')) [.ref (a 17), .int q1, .int q2, .int q3].toArray s 0 0 (va_A (cW cI cC cZ a σ) sz)) (F0 m 10 ls [])) ∧ (∀ (x1 : Int32) (x3 : Int32) (x4 : Int32) (x5 : Int32) (σ0 : gS) (H : Heap) (locs : List Loc) (ls : Array Slot), R_W_writeSlots fnr t 2 [x1, x3, x4, x5] σ0 = some (r, σ') → va_P X vwCl (cW cI cC cZ a σ0) H → va_D A (cW cI cC cZ a σ0) → va_S A s.heap H locs → lv_has ls 6 [(0, .ref (a 17)), (1, .int x1), (3, .int x3), (4, .int x4), (5, .int x5)] → W p l e (headSpec w_W_writeSlots { frames := nF + 5, cells := 0, slots := 0, locals := nL + 107 }).room s m [.ref (a 17), .int q1, .int q2, .int q3].toArray below meth c H locs 0 0 (MQ below (gQv X vwCl (cW cI cC cZ a σ) sz (fun (_ : Unit) => True) (fun _ => cW cI cC cZ a σ')) [.ref (a 17), .int q1, .int q2, .int q3].toArray s 0 0 (va_A (cW cI cC cZ a σ) sz)) (F0 m 97 ls [])) := by
    intro t
    induction t with
    | zero => exact ⟨fun _ _ _ _ _ _ _ hf => (by have hf : (none : Option (Int32 × gS)) = some (r, σ') := hf; cases hf), fun _ _ _ _ _ _ _ _ hf => (by have hf : (none : Option (Int32 × gS)) = some (r, σ') := hf; cases hf), fun _ _ _ _ _ _ _ _ hf => (by have hf : (none : Option (Int32 × gS)) = some (r, σ') := hf; cases hf)⟩
    | succ t ih =>
      obtain ⟨ih0, ih1, ih2⟩ := ih
      refine ⟨?_, ?_, ?_⟩
      · intro x1 x2 x3 σ0 H locs ls hf hP hD hS hl
        have hf : B_W_writeSlots_0 fnr (R_W_writeSlots fnr t) x1 x2 x3 σ0 = some (r, σ') := hf
        unfold B_W_writeSlots_0 at hf
        refine lv_aload_n hx hb d_W_writeSlots_0 rfl (lv_at hl 0 rfl) ?_
        refine lv_iload_n hx hb d_W_writeSlots_1 rfl (lv_at hl 1 rfl) ?_
        obtain ⟨y1, σ2, e3, hf⟩ := gBd_e hf
        refine g_wi (va_runV ⟨hx, hb, hml, hown, hts⟩ (m_W_behindLastWrittenSlot e3) (cwV 1 hts (gG4 (fun _ h => List.mem_cons_of_mem _ h) tb_304 tb_305 tb_306 tb_295 tc_W_behindLastWrittenSlot) rfl rfl rfl (by decide +kernel) ⟨(show 1 + 1 ≤ nF + 5 by omega), (show 8 + (3 + 11) + 22 ≤ nL + 107 by omega)⟩) (g_preVW (q0 := 17) hE hK hP hD hS hA gc_17 rfl) rfl rfl hl.1 rfl (lv_room (Nat.le_of_ble_eq_true rfl)) d_W_writeSlots_2 ⟨Nat.zero_le _, Nat.zero_le _⟩) hD hS hA (fun _ => cW_fst) (fun y1 _ H locs hu hP hD hS => ?_)
        subst hu
        refine lv_istore hx hb d_W_writeSlots_5 hl (by decide) rfl (fun ls hl => ?_)
        refine lv_iload_n hx hb d_W_writeSlots_7 rfl (lv_at hl 3 rfl) ?_
        refine lv_istore hx hb d_W_writeSlots_8 hl (by decide) rfl (fun ls hl => ?_)
        exact ih1 (x1) (x3) (y1) (x2) σ2 _ _ _ hf hP hD hS (lv_sub hl [2, 3, 5, 1, 0] rfl)
      · intro x1 x3 x4 x5 σ0 H locs ls hf hP hD hS hl
        have hf : B_W_writeSlots_1 fnr (R_W_writeSlots fnr t) x1 x3 x4 x5 σ0 = some (r, σ') := hf
        unfold B_W_writeSlots_1 at hf
        refine lv_iload hx hb d_W_writeSlots_10 (lv_at hl 4 rfl) ?_
        refine lv_iload hx hb d_W_writeSlots_12 (lv_at hl 3 rfl) ?_
        refine lv_icmp_ge (tgt := 103) hx hb d_W_writeSlots_14 rfl (fun c4 => ?_) (fun c4 => ?_)
        · skip
          rw [if_pos c4] at hf
          obtain ⟨-, rfl⟩ := gRt_e hf
          exact g_vret hx hb hr hlocks hAe hS () trivial hP d_W_writeSlots_103
        rw [if_neg c4] at hf
        refine lv_aload_n hx hb d_W_writeSlots_17 rfl (lv_at hl 0 rfl) ?_
        refine va_get (D := X) (ci := 7) (C := R_W) (T := T_W) (N := 6) hx hb hts u_0 hown hK hP 17 gc_17 rfl 0 (by decide) k_0 (fun _ h9 => h9) rfl d_W_writeSlots_18 ?_
        refine lv_iload_n hx hb d_W_writeSlots_21 rfl (lv_at hl 1 rfl) ?_
        refine lv_iload hx hb d_W_writeSlots_22 (lv_at hl 4 rfl) ?_
        obtain ⟨y5, σ6, e7, hf⟩ := gBd_e hf
        refine g_wi (va_runV ⟨hx, hb, hml, hown, hts⟩ (m_G_contentOf e7) (cwV 2 hts (gG4 (fun _ h => List.mem_cons_of_mem _ h) tb_299 tb_236 tb_237 tb_116 tc_G_contentOf) rfl rfl rfl (by decide +kernel) ⟨(show 0 + 1 ≤ nF + 5 by omega), (show 8 + (3 + 11) + 0 ≤ nL + 107 by omega)⟩) (g_preVW (q0 := 1) hE hK hP hD hS hA gc_1 rfl) rfl rfl hl.1 rfl (lv_room (Nat.le_of_ble_eq_true rfl)) d_W_writeSlots_24 ⟨Nat.zero_le _, Nat.zero_le _⟩) hD hS hA (fun _ => cW_fst) (fun y5 _ H locs hu hP hD hS => ?_)
        subst hu
        refine lv_if_ne (tgt := 39) hx hb d_W_writeSlots_27 rfl (fun c8 => ?_) (fun c8 => ?_)
        · skip
          rw [if_neg c8] at hf
          refine lv_aload_n hx hb d_W_writeSlots_39 rfl (lv_at hl 0 rfl) ?_
          refine va_get (D := X) (ci := 7) (C := R_W) (T := T_W) (N := 6) hx hb hts u_0 hown hK hP 17 gc_17 rfl 0 (by decide) k_0 (fun _ h9 => h9) rfl d_W_writeSlots_40 ?_
          refine lv_iload_n hx hb d_W_writeSlots_43 rfl (lv_at hl 1 rfl) ?_
          refine lv_iload hx hb d_W_writeSlots_44 (lv_at hl 4 rfl) ?_
          obtain ⟨y9, σ10, e11, hf⟩ := gBd_e hf
          refine g_wi (va_runV ⟨hx, hb, hml, hown, hts⟩ (m_G_contentOf e11) (cwV 2 hts (gG4 (fun _ h => List.mem_cons_of_mem _ h) tb_299 tb_236 tb_237 tb_116 tc_G_contentOf) rfl rfl rfl (by decide +kernel) ⟨(show 0 + 1 ≤ nF + 5 by omega), (show 8 + (3 + 11) + 0 ≤ nL + 107 by omega)⟩) (g_preVW (q0 := 1) hE hK hP hD hS hA gc_1 rfl) rfl rfl hl.1 rfl (lv_room (Nat.le_of_ble_eq_true rfl)) d_W_writeSlots_46 ⟨Nat.zero_le _, Nat.zero_le _⟩) hD hS hA (fun _ => cW_fst) (fun y9 _ H locs hu hP hD hS => ?_)
          subst hu
          refine lv_iconst (v := 1) hx hb d_W_writeSlots_49 (by decide) ?_
          refine lv_icmp_ne (tgt := 82) hx hb d_W_writeSlots_50 rfl (fun c12 => ?_) (fun c12 => ?_)
          · skip
            rw [if_neg c12] at hf
            refine lv_aload_n hx hb d_W_writeSlots_82 rfl (lv_at hl 0 rfl) ?_
            refine lv_aload_n hx hb d_W_writeSlots_83 rfl (lv_at hl 0 rfl) ?_
            refine va_get (D := X) (ci := 7) (C := R_W) (T := T_W) (N := 6) hx hb hts u_0 hown hK hP 17 gc_17 rfl 0 (by decide) k_0 (fun _ h9 => h9) rfl d_W_writeSlots_84 ?_
            refine lv_iload_n hx hb d_W_writeSlots_87 rfl (lv_at hl 1 rfl) ?_
            refine lv_iload hx hb d_W_writeSlots_88 (lv_at hl 4 rfl) ?_
            obtain ⟨y13, σ14, e15, hf⟩ := gBd_e hf
            refine g_wi (va_runV ⟨hx, hb, hml, hown, hts⟩ (m_G_valueOf e15) (cwV 2 hts (gG4 (fun _ h => List.mem_cons_of_mem _ h) tb_307 tb_239 tb_240 tb_116 tc_G_valueOf) rfl rfl rfl (by decide +kernel) ⟨(show 0 + 1 ≤ nF + 5 by omega), (show 8 + (3 + 11) + 0 ≤ nL + 107 by omega)⟩) (g_preVW (q0 := 1) hE hK hP hD hS hA gc_1 rfl) rfl rfl hl.1 rfl (lv_room (Nat.le_of_ble_eq_true rfl)) d_W_writeSlots_90 ⟨Nat.zero_le _, Nat.zero_le _⟩) hD hS hA (fun _ => cW_fst) (fun y13 _ H locs hu hP hD hS => ?_)
            subst hu
            refine lv_iload_n hx hb d_W_writeSlots_93 rfl (lv_at hl 2 rfl) ?_
            obtain ⟨y16, σ17, e18, hf⟩ := gBd_e hf
            refine g_wv (va_runV ⟨hx, hb, hml, hown, hts⟩ (hsym e18) (cwV 2 hts (gG4 (fun _ h => List.mem_cons_of_mem _ h) tb_308 tb_309 tb_310 tb_295 tc_W_writeReference) rfl rfl rfl (by decide +kernel) ⟨(show nF + 1 ≤ nF + 5 by omega), (show 8 + (3 + 11) + nL ≤ nL + 107 by omega)⟩) (g_preVW (q0 := 17) hE hK hP hD hS hA gc_17 rfl) rfl rfl hl.1 rfl (lv_room (Nat.le_of_ble_eq_true rfl)) d_W_writeSlots_94 ⟨Nat.zero_le _, Nat.zero_le _⟩) hD hS hA (fun _ => cW_fst) (fun _ H locs _ hP hD hS => ?_)
            exact ih2 (x1) (x3) (x4) (x5) σ17 _ _ _ hf hP hD hS (lv_sub hl [0, 1, 2, 3, 4] rfl)
          rw [if_pos c12] at hf
          refine lv_aload_n hx hb d_W_writeSlots_53 rfl (lv_at hl 0 rfl) ?_
          refine va_ldcS hx hb hown (hE.2.1 _ gl_15).1 d_W_writeSlots_54 ?_
          obtain ⟨y19, σ20, e21, hf⟩ := gBd_e hf
          refine g_wv (va_runV ⟨hx, hb, hml, hown, hts⟩ (m_W_writeRow_S15 e21) (cwV 1 hts (gG4 (fun _ h => List.mem_cons_of_mem _ h) tb_292 tb_293 tb_294 tb_295 tc_W_writeRow) rfl rfl rfl (by decide +kernel) ⟨(show 4 + 1 ≤ nF + 5 by omega), (show 8 + (3 + 11) + 85 ≤ nL + 107 by omega)⟩) (g_preVW (q0 := 17) hE hK hP hD hS hA gc_17 rfl) rfl rfl hl.1 rfl (lv_room (Nat.le_of_ble_eq_true rfl)) d_W_writeSlots_56 ⟨Nat.zero_le _, Nat.zero_le _⟩) hD hS hA (fun _ => cW_fst) (fun _ H locs _ hP hD hS => ?_)
          refine lv_aload_n hx hb d_W_writeSlots_59 rfl (lv_at hl 0 rfl) ?_
          refine lv_aload_n hx hb d_W_writeSlots_60 rfl (lv_at hl 0 rfl) ?_
          refine va_get (D := X) (ci := 7) (C := R_W) (T := T_W) (N := 6) hx hb hts u_0 hown hK hP 17 gc_17 rfl 0 (by decide) k_0 (fun _ h9 => h9) rfl d_W_writeSlots_61 ?_
          refine lv_iload_n hx hb d_W_writeSlots_64 rfl (lv_at hl 1 rfl) ?_
          refine lv_iload hx hb d_W_writeSlots_65 (lv_at hl 4 rfl) ?_
          obtain ⟨y22, σ23, e24, hf⟩ := gBd_e hf
          refine g_wi (va_runV ⟨hx, hb, hml, hown, hts⟩ (m_G_valueOf e24) (cwV 2 hts (gG4 (fun _ h => List.mem_cons_of_mem _ h) tb_307 tb_239 tb_240 tb_116 tc_G_valueOf) rfl rfl rfl (by decide +kernel) ⟨(show 0 + 1 ≤ nF + 5 by omega), (show 8 + (3 + 11) + 0 ≤ nL + 107 by omega)⟩) (g_preVW (q0 := 1) hE hK hP hD hS hA gc_1 rfl) rfl rfl hl.1 rfl (lv_room (Nat.le_of_ble_eq_true rfl)) d_W_writeSlots_67 ⟨Nat.zero_le _, Nat.zero_le _⟩) hD hS hA (fun _ => cW_fst) (fun y22 _ H locs hu hP hD hS => ?_)
          subst hu
          obtain ⟨y25, σ26, e27, hf⟩ := gBd_e hf
          refine g_wv (va_runV ⟨hx, hb, hml, hown, hts⟩ (m_W_writeNumber e27) (cwV 1 hts (gG4 (fun _ h => List.mem_cons_of_mem _ h) tb_296 tb_297 tb_298 tb_295 tc_W_writeNumber) rfl rfl rfl (by decide +kernel) ⟨(show 1 + 1 ≤ nF + 5 by omega), (show 8 + (7 + 11) + 21 ≤ nL + 107 by omega)⟩) (g_preVW (q0 := 17) hE hK hP hD hS hA gc_17 rfl) rfl rfl hl.1 rfl (lv_room (Nat.le_of_ble_eq_true rfl)) d_W_writeSlots_70 ⟨Nat.zero_le _, Nat.zero_le _⟩) hD hS hA (fun _ => cW_fst) (fun _ H locs _ hP hD hS => ?_)
          refine lv_aload_n hx hb d_W_writeSlots_73 rfl (lv_at hl 0 rfl) ?_
          refine va_ldcS hx hb hown (hE.2.1 _ gl_16).1 d_W_writeSlots_74 ?_
          obtain ⟨y28, σ29, e30, hf⟩ := gBd_e hf
          refine g_wv (va_runV ⟨hx, hb, hml, hown, hts⟩ (m_W_writeRow_S16 e30) (cwV 1 hts (gG4 (fun _ h => List.mem_cons_of_mem _ h) tb_292 tb_293 tb_294 tb_295 tc_W_writeRow) rfl rfl rfl (by decide +kernel) ⟨(show 4 + 1 ≤ nF + 5 by omega), (show 8 + (3 + 11) + 85 ≤ nL + 107 by omega)⟩) (g_preVW (q0 := 17) hE hK hP hD hS hA gc_17 rfl) rfl rfl hl.1 rfl (lv_room (Nat.le_of_ble_eq_true rfl)) d_W_writeSlots_76 ⟨Nat.zero_le _, Nat.zero_le _⟩) hD hS hA (fun _ => cW_fst) (fun _ H locs _ hP hD hS => ?_)
          refine lv_goto (tgt := 97) hx hb d_W_writeSlots_79 rfl ?_
          exact ih2 (x1) (x3) (x4) (x5) σ29 _ _ _ hf hP hD hS (lv_sub hl [0, 1, 2, 3, 4] rfl)
        rw [if_pos c8] at hf
        refine lv_aload_n hx hb d_W_writeSlots_30 rfl (lv_at hl 0 rfl) ?_
        refine va_ldcS hx hb hown (hE.2.1 _ gl_14).1 d_W_writeSlots_31 ?_
        obtain ⟨y31, σ32, e33, hf⟩ := gBd_e hf
        refine g_wv (va_runV ⟨hx, hb, hml, hown, hts⟩ (m_W_writeRow_S14 e33) (cwV 1 hts (gG4 (fun _ h => List.mem_cons_of_mem _ h) tb_292 tb_293 tb_294 tb_295 tc_W_writeRow) rfl rfl rfl (by decide +kernel) ⟨(show 4 + 1 ≤ nF + 5 by omega), (show 8 + (3 + 11) + 85 ≤ nL + 107 by omega)⟩) (g_preVW (q0 := 17) hE hK hP hD hS hA gc_17 rfl) rfl rfl hl.1 rfl (lv_room (Nat.le_of_ble_eq_true rfl)) d_W_writeSlots_33 ⟨Nat.zero_le _, Nat.zero_le _⟩) hD hS hA (fun _ => cW_fst) (fun _ H locs _ hP hD hS => ?_)
        refine lv_goto (tgt := 97) hx hb d_W_writeSlots_36 rfl ?_
        exact ih2 (x1) (x3) (x4) (x5) σ32 _ _ _ hf hP hD hS (lv_sub hl [0, 1, 2, 3, 4] rfl)
      · intro x1 x3 x4 x5 σ0 H locs ls hf hP hD hS hl
        have hf : B_W_writeSlots_2 fnr (R_W_writeSlots fnr t) x1 x3 x4 x5 σ0 = some (r, σ') := hf
        unfold B_W_writeSlots_2 at hf
        refine lv_iinc (k := 4) (v := (x5 + 1)) hx hb d_W_writeSlots_97 hl rfl (by rw [show Int32.ofInt (1) = (1 : Int32) by decide]) (by decide) rfl (fun ls hl => ?_)
        refine lv_goto (tgt := 10) hx hb d_W_writeSlots_100 rfl ?_
        exact ih1 (x1) (x3) (x4) ((x5 + 1)) σ0 _ _ _ hf hP hD hS (lv_sub hl [1, 2, 3, 4, 0] rfl)
  exact (key gFuel).1 q1 q2 q3 σ _ _ _ hf hP hD hS hl

def B_W_writeElement_0 (fns : gS → Int32 → Int32 → Int32 → Option (Int32 × gS)) (rec : Nat → List Int32 → gS → Option (Int32 × gS)) (x1 : Int32) (x2 : Int32) (σ0 : gS) : Option (Int32 × gS) := gLd σ0 2 16 x1 (fun y1 => gBd (f_W_firstWrittenSlot σ0 x1) (fun y4 σ5 => if y1 = 0 then (gBd (f_W_writeRow_S5 σ5) (fun _ σ36 => gLd σ36 18 16 x1 (fun y38 => if y38 = 0 then (rec 1 [x1, x2, y1, y4] σ36) else (gLd σ36 18 16 x1 (fun y42 => gBd (f_W_writeAttribute_S8 σ36 y42) (fun _ σ46 => rec 1 [x1, x2, y1, y4] σ46)))))) else (if y1 = 1 then (gBd (f_W_writeRow_S6 σ5) (fun _ σ23 => gLd σ23 18 16 x1 (fun y25 => if y25 = 0 then (rec 1 [x1, x2, y1, y4] σ23) else (gLd σ23 18 16 x1 (fun y29 => gBd (f_W_writeAttribute_S8 σ23 y29) (fun _ σ33 => rec 1 [x1, x2, y1, y4] σ33)))))) else (gBd (f_W_writeRow_S7 σ5) (fun _ σ10 => gLd σ10 18 16 x1 (fun y12 => if y12 = 0 then (rec 1 [x1, x2, y1, y4] σ10) else (gLd σ10 18 16 x1 (fun y16 => gBd (f_W_writeAttribute_S8 σ10 y16) (fun _ σ20 => rec 1 [x1, x2, y1, y4] σ20)))))))))
def B_W_writeElement_1 (fns : gS → Int32 → Int32 → Int32 → Option (Int32 × gS)) (rec : Nat → List Int32 → gS → Option (Int32 × gS)) (x1 : Int32) (x2 : Int32) (x3 : Int32) (x4 : Int32) (σ0 : gS) : Option (Int32 × gS) := if x3 = 1 then (gLd σ0 3 16 x1 (fun y49 => gBd (f_W_writeAttribute_S9 σ0 y49) (fun _ σ53 => rec 2 [x1, x2, x3, x4] σ53))) else (rec 2 [x1, x2, x3, x4] σ0)
def B_W_writeElement_2 (fns : gS → Int32 → Int32 → Int32 → Option (Int32 × gS)) (rec : Nat → List Int32 → gS → Option (Int32 × gS)) (x1 : Int32) (x2 : Int32) (x3 : Int32) (x4 : Int32) (σ0 : gS) : Option (Int32 × gS) := if x4 ≤ 0 then (rec 3 [x1, x2, x3, x4] σ0) else (gBd (f_W_writeAttribute_S10 σ0 x4) (fun _ σ57 => rec 3 [x1, x2, x3, x4] σ57))
def B_W_writeElement_3 (fns : gS → Int32 → Int32 → Int32 → Option (Int32 × gS)) (rec : Nat → List Int32 → gS → Option (Int32 × gS)) (x1 : Int32) (x2 : Int32) (x3 : Int32) (x4 : Int32) (σ0 : gS) : Option (Int32 × gS) := gBd (f_P_append σ0 62) (fun y59 σ60 => if x3 = 2 then (gBd (f_W_writeCharacters σ60 x1) (fun _ σ67 => rec 4 [x3] σ67)) else (gBd (fns σ60 x1 x4 x2) (fun _ σ64 => rec 4 [x3] σ64)))
def B_W_writeElement_4 (fns : gS → Int32 → Int32 → Int32 → Option (Int32 × gS)) (rec : Nat → List Int32 → gS → Option (Int32 × gS)) (x3 : Int32) (σ0 : gS) : Option (Int32 × gS) := if x3 = 0 then (gBd (f_W_writeRow_S17 σ0) (fun _ σ78 => some (0, σ78))) else (if x3 = 1 then (gBd (f_W_writeRow_S18 σ0) (fun _ σ75 => some (0, σ75))) else (gBd (f_W_writeRow_S19 σ0) (fun _ σ72 => some (0, σ72))))
def S_W_writeElement (fns : gS → Int32 → Int32 → Int32 → Option (Int32 × gS)) (rec : Nat → List Int32 → gS → Option (Int32 × gS)) (k : Nat) (l : List Int32) (σ0 : gS) : Option (Int32 × gS) := match k, l with
  | 0, [x1, x2] => B_W_writeElement_0 fns rec x1 x2 σ0
  | 1, [x1, x2, x3, x4] => B_W_writeElement_1 fns rec x1 x2 x3 x4 σ0
  | 2, [x1, x2, x3, x4] => B_W_writeElement_2 fns rec x1 x2 x3 x4 σ0
  | 3, [x1, x2, x3, x4] => B_W_writeElement_3 fns rec x1 x2 x3 x4 σ0
  | 4, [x3] => B_W_writeElement_4 fns rec x3 σ0
  | _, _ => none
def R_W_writeElement (fns : gS → Int32 → Int32 → Int32 → Option (Int32 × gS)) : Nat → Nat → List Int32 → gS → Option (Int32 × gS)
  | 0 => fun _ _ _ => none
  | t + 1 => fun k l σ0 => S_W_writeElement fns (R_W_writeElement fns t) k l σ0
def F_W_writeElement (fns : gS → Int32 → Int32 → Int32 → Option (Int32 × gS)) (σ : gS) (x1 : Int32) (x2 : Int32) : Option (Int32 × gS) := R_W_writeElement fns gFuel 0 [x1, x2] σ
set_option maxHeartbeats 4000000 in
set_option maxRecDepth 100000 in
theorem M_W_writeElement {l : Launch} {X : va_G} {cI cC cZ : ClassId} {aK aV : Nat → Nat} {a : Nat → Nat} {fns : gS → Int32 → Int32 → Int32 → Option (Int32 × gS)} {nF nL : Nat} (hsym : ∀ {σ σ' : gS} {r : Int32} {v0 v1 v2 : Int32}, fns σ v0 v1 v2 = some (r, σ') → ∀ {sz : Nat}, Met l y_W_writeSlots w_W_writeSlots { frames := nF, cells := 0, slots := 0, locals := nL } (gPc X vwCl (gT cI cC cZ) aK aV (cW cI cC cZ a σ) sz [.ref (a 17), .int v0, .int v1, .int v2]) (gQv X vwCl (cW cI cC cZ a σ) sz (fun (_ : Unit) => True) (fun _ => cW cI cC cZ a σ')) 0 0 (va_A (cW cI cC cZ a σ) sz)) {σ σ' : gS} {r : Int32} {q1 : Int32} {q2 : Int32} (hf : F_W_writeElement fns σ q1 q2 = some (r, σ')) {sz : Nat} : Met l y_W_writeElement w_W_writeElement { frames := nF + 6, cells := 0, slots := 0, locals := nL + 130 } (gPc X vwCl (gT cI cC cZ) aK aV (cW cI cC cZ a σ) sz [.ref (a 17), .int q1, .int q2]) (gQv X vwCl (cW cI cC cZ a σ) sz (fun (_ : Unit) => True) (fun _ => cW cI cC cZ a σ')) 0 0 (va_A (cW cI cC cZ a σ) sz) := by
  refine g_met (cc := b_W_writeElement) (maxL := 5) (ret := none) (by decide) rfl (Nat.le_of_ble_eq_true rfl) ?_
  intro p e s m below meth c A ls hx hb hr hml hown hts hlocks hnm hsz hAe hA hP hK hD hS hl hE
  have hown : s.vm.findClass R_W = some m.cls := hown
  have u_0 : ∀ w ∈ u_ws R_W T_W 6, w ∈ w_W_writeElement := fun w h => List.mem_cons_of_mem _ (tu_W w h)
  have u_1 : ∀ w ∈ u_ws R_G T_G 6, w ∈ w_W_writeElement := fun w h => List.mem_cons_of_mem _ (tu_G w h)
  have k_0 := hts (.fieldLink R_W 18 "GraphPages$Writer" "graph" "LGraphPages$Graph;") (List.mem_cons_of_mem _ tb_300)
  have k_1 := hts (.fieldLink R_W 83 "GraphPages$Graph" "kinds" "[I") (List.mem_cons_of_mem _ tb_301)
  have k_2 := hts (.fieldLink R_W 9 "GraphPages$Writer" "ids" "[I") (List.mem_cons_of_mem _ tb_288)
  have k_3 := hts (.fieldLink R_W 102 "GraphPages$Graph" "sizes" "[I") (List.mem_cons_of_mem _ tb_302)
  have k_4 := hts (.fieldLink R_W 26 "GraphPages$Writer" "page" "LGraphPages$Page;") (List.mem_cons_of_mem _ tb_287)
  unfold F_W_writeElement at hf
  have key : ∀ t : Nat, (∀ (x1 : Int32) (x2 : Int32) (σ0 : gS) (H : Heap) (locs : List Loc) (ls : Array Slot), R_W_writeElement fns t 0 [x1, x2] σ0 = some (r, σ') → va_P X vwCl (cW cI cC cZ a σ0) H → va_D A (cW cI cC cZ a σ0) → va_S A s.heap H locs → lv_has ls 5 [(0, .ref (a 17)), (1, .int x1), (2, .int x2)] → W p l e (headSpec w_W_writeElement { frames := nF + 6, cells := 0, slots := 0, locals := nL + 130 }).room s m [.ref (a 17), .int q1, .int q2].toArray below meth c H locs 0 0 (MQ below (gQv X vwCl (cW cI cC cZ a σ) sz (fun (_ : Unit) => True) (fun _ => cW cI cC cZ a σ')) [.ref (a 17), .int q1, .int q2].toArray s 0 0 (va_A (cW cI cC cZ a σ) sz)) (F0 m 0 ls [])) ∧ (∀ (x1 : Int32) (x2 : Int32) (x3 : Int32) (x4 : Int32) (σ0 : gS) (H : Heap) (locs : List Loc) (ls : Array Slot), R_W_writeElement fns t 1 [x1, x2, x3, x4] σ0 = some (r, σ') → va_P X vwCl (cW cI cC cZ a σ0) H → va_D A (cW cI cC cZ a σ0) → va_S A s.heap H locs → lv_has ls 5 [(0, .ref (a 17)), (1, .int x1), (2, .int x2), (3, .int x3), (4, .int x4)] → W p l e (headSpec w_W_writeElement { frames := nF + 6, cells := 0, slots := 0, locals := nL + 130 }).room s m [.ref (a 17), .int q1, .int q2].toArray below meth c H locs 0 0 (MQ below (gQv X vwCl (cW cI cC cZ a σ) sz (fun (_ : Unit) => True) (fun _ => cW cI cC cZ a σ')) [.ref (a 17), .int q1, .int q2].toArray s 0 0 (va_A (cW cI cC cZ a σ) sz)) (F0 m 63 ls [])) ∧ (∀ (x1 : Int32) (x2 : Int32) (x3 : Int32) (x4 : Int32) (σ0 : gS) (H : Heap) (locs : List Loc) (ls : Array Slot), R_W_writeElement fns t 2 [x1, x2, x3, x4] σ0 = some (r, σ') → va_P X vwCl (cW cI cC cZ a σ0) H → va_D A (cW cI cC cZ a σ0) → va_S A s.heap H locs → lv_has ls 5 [(0, .ref (a 17)), (1, .int x1), (2, .int x2), (3, .int x3), (4, .int x4)] → W p l e (headSpec w_W_writeElement { frames := nF + 6, cells := 0, slots := 0, locals := nL + 130 }).room s m [.ref (a 17), .int q1, .int q2].toArray below meth c H locs 0 0 (MQ below (gQv X vwCl (cW cI cC cZ a σ) sz (fun (_ : Unit) => True) (fun _ => cW cI cC cZ a σ')) [.ref (a 17), .int q1, .int q2].toArray s 0 0 (va_A (cW cI cC cZ a σ) sz)) (F0 m 83 ls [])) ∧ (∀ (x1 : Int32) (x2 : Int32) (x3 : Int32) (x4 : Int32) (σ0 : gS) (H : Heap) (locs : List Loc) (ls : Array Slot), R_W_writeElement fns t 3 [x1, x2, x3, x4] σ0 = some (r, σ') → va_P X vwCl (cW cI cC cZ a σ0) H → va_D A (cW cI cC cZ a σ0) → va_S A s.heap H locs → lv_has ls 5 [(0, .ref (a 17)), (1, .int x1), (2, .int x2), (3, .int x3), (4, .int x4)] → W p l e (headSpec w_W_writeElement { frames := nF + 6, cells := 0, slots := 0, locals := nL + 130 }).room s m [.ref (a 17), .int q1, .int q2].toArray below meth c H locs 0 0 (MQ below (gQv X vwCl (cW cI cC cZ a σ) sz (fun (_ : Unit) => True) (fun _ => cW cI cC cZ a σ')) [.ref (a 17), .int q1, .int q2].toArray s 0 0 (va_A (cW cI cC cZ a σ) sz)) (F0 m 96 ls [])) ∧ (∀ (x3 : Int32) (σ0 : gS) (H : Heap) (locs : List Loc) (ls : Array Slot), R_W_writeElement fns t 4 [x3] σ0 = some (r, σ') → va_P X vwCl (cW cI cC cZ a σ0) H → va_D A (cW cI cC cZ a σ0) → va_S A s.heap H locs → lv_has ls 5 [(0, .ref (a 17)), (3, .int x3)] → W p l e (headSpec w_W_writeElement { frames := nF + 6, cells := 0, slots := 0, locals := nL + 130 }).room s m [.ref (a 17), .int q1, .int q2].toArray below meth c H locs 0 0 (MQ below (gQv X vwCl (cW cI cC cZ a σ) sz (fun (_ : Unit) => True) (fun _ => cW cI cC cZ a σ')) [.ref (a 17), .int q1, .int q2].toArray s 0 0 (va_A (cW cI cC cZ a σ) sz)) (F0 m 127 ls [])) := by
    intro t
    induction t with
    | zero => exact ⟨fun _ _ _ _ _ _ hf => (by have hf : (none : Option (Int32 × gS)) = some (r, σ') := hf; cases hf), fun _ _ _ _ _ _ _ _ hf => (by have hf : (none : Option (Int32 × gS)) = some (r, σ') := hf; cases hf), fun _ _ _ _ _ _ _ _ hf => (by have hf : (none : Option (Int32 × gS)) = some (r, σ') := hf; cases hf), fun _ _ _ _ _ _ _ _ hf => (by have hf : (none : Option (Int32 × gS)) = some (r, σ') := hf; cases hf), fun _ _ _ _ _ hf => (by have hf : (none : Option (Int32 × gS)) = some (r, σ') := hf; cases hf)⟩
    | succ t ih =>
      obtain ⟨ih0, ih1, ih2, ih3, ih4⟩ := ih
      refine ⟨?_, ?_, ?_, ?_, ?_⟩
      · intro x1 x2 σ0 H locs ls hf hP hD hS hl
        have hf : B_W_writeElement_0 fns (R_W_writeElement fns t) x1 x2 σ0 = some (r, σ') := hf
        unfold B_W_writeElement_0 at hf
        refine lv_aload_n hx hb d_W_writeElement_0 rfl (lv_at hl 0 rfl) ?_
        refine va_get (D := X) (ci := 7) (C := R_W) (T := T_W) (N := 6) hx hb hts u_0 hown hK hP 17 gc_17 rfl 0 (by decide) k_0 (fun _ h9 => h9) rfl d_W_writeElement_1 ?_
        refine va_get (D := X) (ci := 2) (C := R_G) (T := T_G) (N := 6) hx hb hts u_1 hown hK hP 1 gc_1 rfl 1 (by decide) k_1 (fun _ h9 => h9) rfl d_W_writeElement_4 ?_
        refine lv_iload_n hx hb d_W_writeElement_7 rfl (lv_at hl 1 rfl) ?_
        obtain ⟨y1, h2, e3, hf⟩ := gLd_e hf
        refine va_iald hx hb hK hP 2 0 gc_2 rfl h2 d_W_writeElement_8 ?_
        rw [← e3]
        refine lv_istore_n hx hb d_W_writeElement_9 rfl hl (by decide) rfl (fun ls hl => ?_)
        refine lv_aload_n hx hb d_W_writeElement_10 rfl (lv_at hl 1 rfl) ?_
        refine lv_iload_n hx hb d_W_writeElement_11 rfl (lv_at hl 2 rfl) ?_
        obtain ⟨y4, σ5, e6, hf⟩ := gBd_e hf
        refine g_wi (va_runV ⟨hx, hb, hml, hown, hts⟩ (m_W_firstWrittenSlot e6) (cwV 1 hts (gG4 (fun _ h => List.mem_cons_of_mem _ h) tb_311 tb_312 tb_313 tb_295 tc_W_firstWrittenSlot) rfl rfl rfl (by decide +kernel) ⟨(show 1 + 1 ≤ nF + 6 by omega), (show 8 + (3 + 11) + 22 ≤ nL + 130 by omega)⟩) (g_preVW (q0 := 17) hE hK hP hD hS hA gc_17 rfl) rfl rfl hl.1 rfl (lv_room (Nat.le_of_ble_eq_true rfl)) d_W_writeElement_12 ⟨Nat.zero_le _, Nat.zero_le _⟩) hD hS hA (fun _ => cW_fst) (fun y4 _ H locs hu hP hD hS => ?_)
        subst hu
        refine lv_istore hx hb d_W_writeElement_15 hl (by decide) rfl (fun ls hl => ?_)
        refine lv_aload_n hx hb d_W_writeElement_17 rfl (lv_at hl 2 rfl) ?_
        refine lv_iload_n hx hb d_W_writeElement_18 rfl (lv_at hl 1 rfl) ?_
        refine lv_if_ne (tgt := 27) hx hb d_W_writeElement_19 rfl (fun c7 => ?_) (fun c7 => ?_)
        · skip
          rw [if_neg c7] at hf
          refine lv_iload_n hx hb d_W_writeElement_27 rfl (lv_at hl 1 rfl) ?_
          refine lv_iconst (v := 1) hx hb d_W_writeElement_28 (by decide) ?_
          refine lv_icmp_ne (tgt := 37) hx hb d_W_writeElement_29 rfl (fun c8 => ?_) (fun c8 => ?_)
          · skip
            rw [if_neg c8] at hf
            refine va_ldcS hx hb hown (hE.2.1 _ gl_7).1 d_W_writeElement_37 ?_
            obtain ⟨y9, σ10, e11, hf⟩ := gBd_e hf
            refine g_wv (va_runV ⟨hx, hb, hml, hown, hts⟩ (m_W_writeRow_S7 e11) (cwV 1 hts (gG4 (fun _ h => List.mem_cons_of_mem _ h) tb_292 tb_293 tb_294 tb_295 tc_W_writeRow) rfl rfl rfl (by decide +kernel) ⟨(show 4 + 1 ≤ nF + 6 by omega), (show 8 + (3 + 11) + 85 ≤ nL + 130 by omega)⟩) (g_preVW (q0 := 17) hE hK hP hD hS hA gc_17 rfl) rfl rfl hl.1 rfl (lv_room (Nat.le_of_ble_eq_true rfl)) d_W_writeElement_39 ⟨Nat.zero_le _, Nat.zero_le _⟩) hD hS hA (fun _ => cW_fst) (fun _ H locs _ hP hD hS => ?_)
            refine lv_aload_n hx hb d_W_writeElement_42 rfl (lv_at hl 2 rfl) ?_
            refine va_get (D := X) (ci := 7) (C := R_W) (T := T_W) (N := 6) hx hb hts u_0 hown hK hP 17 gc_17 rfl 3 (by decide) k_2 (fun _ h9 => h9) rfl d_W_writeElement_43 ?_
            refine lv_iload_n hx hb d_W_writeElement_46 rfl (lv_at hl 3 rfl) ?_
            obtain ⟨y12, h13, e14, hf⟩ := gLd_e hf
            refine va_iald hx hb hK hP 18 0 gc_18 rfl h13 d_W_writeElement_47 ?_
            rw [← e14]
            refine lv_if_eq (tgt := 63) hx hb d_W_writeElement_48 rfl (fun c15 => ?_) (fun c15 => ?_)
            · skip
              rw [if_pos c15] at hf
              exact ih1 (x1) (x2) (y1) (y4) σ10 _ _ _ hf hP hD hS (lv_sub hl [2, 3, 4, 1, 0] rfl)
            rw [if_neg c15] at hf
            refine lv_aload_n hx hb d_W_writeElement_51 rfl (lv_at hl 2 rfl) ?_
            refine va_ldcS hx hb hown (hE.2.1 _ gl_8).1 d_W_writeElement_52 ?_
            refine lv_aload_n hx hb d_W_writeElement_54 rfl (lv_at hl 2 rfl) ?_
            refine va_get (D := X) (ci := 7) (C := R_W) (T := T_W) (N := 6) hx hb hts u_0 hown hK hP 17 gc_17 rfl 3 (by decide) k_2 (fun _ h9 => h9) rfl d_W_writeElement_55 ?_
            refine lv_iload_n hx hb d_W_writeElement_58 rfl (lv_at hl 3 rfl) ?_
            obtain ⟨y16, h17, e18, hf⟩ := gLd_e hf
            refine va_iald hx hb hK hP 18 0 gc_18 rfl h17 d_W_writeElement_59 ?_
            rw [← e18]
            obtain ⟨y19, σ20, e21, hf⟩ := gBd_e hf
            refine g_wv (va_runV ⟨hx, hb, hml, hown, hts⟩ (m_W_writeAttribute_S8 e21) (cwV 2 hts (gG4 (fun _ h => List.mem_cons_of_mem _ h) tb_314 tb_315 tb_316 tb_295 tc_W_writeAttribute) rfl rfl rfl (by decide +kernel) ⟨(show 5 + 1 ≤ nF + 6 by omega), (show 8 + (3 + 11) + 107 ≤ nL + 130 by omega)⟩) (g_preVW (q0 := 17) hE hK hP hD hS hA gc_17 rfl) rfl rfl hl.1 rfl (lv_room (Nat.le_of_ble_eq_true rfl)) d_W_writeElement_60 ⟨Nat.zero_le _, Nat.zero_le _⟩) hD hS hA (fun _ => cW_fst) (fun _ H locs _ hP hD hS => ?_)
            exact ih1 (x1) (x2) (y1) (y4) σ20 _ _ _ hf hP hD hS (lv_sub hl [2, 3, 4, 1, 0] rfl)
          rw [if_pos c8] at hf
          refine va_ldcS hx hb hown (hE.2.1 _ gl_6).1 d_W_writeElement_32 ?_
          refine lv_goto (tgt := 39) hx hb d_W_writeElement_34 rfl ?_
          obtain ⟨y22, σ23, e24, hf⟩ := gBd_e hf
          refine g_wv (va_runV ⟨hx, hb, hml, hown, hts⟩ (m_W_writeRow_S6 e24) (cwV 1 hts (gG4 (fun _ h => List.mem_cons_of_mem _ h) tb_292 tb_293 tb_294 tb_295 tc_W_writeRow) rfl rfl rfl (by decide +kernel) ⟨(show 4 + 1 ≤ nF + 6 by omega), (show 8 + (3 + 11) + 85 ≤ nL + 130 by omega)⟩) (g_preVW (q0 := 17) hE hK hP hD hS hA gc_17 rfl) rfl rfl hl.1 rfl (lv_room (Nat.le_of_ble_eq_true rfl)) d_W_writeElement_39 ⟨Nat.zero_le _, Nat.zero_le _⟩) hD hS hA (fun _ => cW_fst) (fun _ H locs _ hP hD hS => ?_)
          refine lv_aload_n hx hb d_W_writeElement_42 rfl (lv_at hl 2 rfl) ?_
          refine va_get (D := X) (ci := 7) (C := R_W) (T := T_W) (N := 6) hx hb hts u_0 hown hK hP 17 gc_17 rfl 3 (by decide) k_2 (fun _ h9 => h9) rfl d_W_writeElement_43 ?_
          refine lv_iload_n hx hb d_W_writeElement_46 rfl (lv_at hl 3 rfl) ?_
          obtain ⟨y25, h26, e27, hf⟩ := gLd_e hf
          refine va_iald hx hb hK hP 18 0 gc_18 rfl h26 d_W_writeElement_47 ?_
          rw [← e27]
          refine lv_if_eq (tgt := 63) hx hb d_W_writeElement_48 rfl (fun c28 => ?_) (fun c28 => ?_)
          · skip
            rw [if_pos c28] at hf
            exact ih1 (x1) (x2) (y1) (y4) σ23 _ _ _ hf hP hD hS (lv_sub hl [2, 3, 4, 1, 0] rfl)
          rw [if_neg c28] at hf
          refine lv_aload_n hx hb d_W_writeElement_51 rfl (lv_at hl 2 rfl) ?_
          refine va_ldcS hx hb hown (hE.2.1 _ gl_8).1 d_W_writeElement_52 ?_
          refine lv_aload_n hx hb d_W_writeElement_54 rfl (lv_at hl 2 rfl) ?_
          refine va_get (D := X) (ci := 7) (C := R_W) (T := T_W) (N := 6) hx hb hts u_0 hown hK hP 17 gc_17 rfl 3 (by decide) k_2 (fun _ h9 => h9) rfl d_W_writeElement_55 ?_
          refine lv_iload_n hx hb d_W_writeElement_58 rfl (lv_at hl 3 rfl) ?_
          obtain ⟨y29, h30, e31, hf⟩ := gLd_e hf
          refine va_iald hx hb hK hP 18 0 gc_18 rfl h30 d_W_writeElement_59 ?_
          rw [← e31]
          obtain ⟨y32, σ33, e34, hf⟩ := gBd_e hf
          refine g_wv (va_runV ⟨hx, hb, hml, hown, hts⟩ (m_W_writeAttribute_S8 e34) (cwV 2 hts (gG4 (fun _ h => List.mem_cons_of_mem _ h) tb_314 tb_315 tb_316 tb_295 tc_W_writeAttribute) rfl rfl rfl (by decide +kernel) ⟨(show 5 + 1 ≤ nF + 6 by omega), (show 8 + (3 + 11) + 107 ≤ nL + 130 by omega)⟩) (g_preVW (q0 := 17) hE hK hP hD hS hA gc_17 rfl) rfl rfl hl.1 rfl (lv_room (Nat.le_of_ble_eq_true rfl)) d_W_writeElement_60 ⟨Nat.zero_le _, Nat.zero_le _⟩) hD hS hA (fun _ => cW_fst) (fun _ H locs _ hP hD hS => ?_)
          exact ih1 (x1) (x2) (y1) (y4) σ33 _ _ _ hf hP hD hS (lv_sub hl [2, 3, 4, 1, 0] rfl)
        rw [if_pos c7] at hf
        refine va_ldcS hx hb hown (hE.2.1 _ gl_5).1 d_W_writeElement_22 ?_
        refine lv_goto (tgt := 39) hx hb d_W_writeElement_24 rfl ?_
        obtain ⟨y35, σ36, e37, hf⟩ := gBd_e hf
        refine g_wv (va_runV ⟨hx, hb, hml, hown, hts⟩ (m_W_writeRow_S5 e37) (cwV 1 hts (gG4 (fun _ h => List.mem_cons_of_mem _ h) tb_292 tb_293 tb_294 tb_295 tc_W_writeRow) rfl rfl rfl (by decide +kernel) ⟨(show 4 + 1 ≤ nF + 6 by omega), (show 8 + (3 + 11) + 85 ≤ nL + 130 by omega)⟩) (g_preVW (q0 := 17) hE hK hP hD hS hA gc_17 rfl) rfl rfl hl.1 rfl (lv_room (Nat.le_of_ble_eq_true rfl)) d_W_writeElement_39 ⟨Nat.zero_le _, Nat.zero_le _⟩) hD hS hA (fun _ => cW_fst) (fun _ H locs _ hP hD hS => ?_)
        refine lv_aload_n hx hb d_W_writeElement_42 rfl (lv_at hl 2 rfl) ?_
        refine va_get (D := X) (ci := 7) (C := R_W) (T := T_W) (N := 6) hx hb hts u_0 hown hK hP 17 gc_17 rfl 3 (by decide) k_2 (fun _ h9 => h9) rfl d_W_writeElement_43 ?_
        refine lv_iload_n hx hb d_W_writeElement_46 rfl (lv_at hl 3 rfl) ?_
        obtain ⟨y38, h39, e40, hf⟩ := gLd_e hf
        refine va_iald hx hb hK hP 18 0 gc_18 rfl h39 d_W_writeElement_47 ?_
        rw [← e40]
        refine lv_if_eq (tgt := 63) hx hb d_W_writeElement_48 rfl (fun c41 => ?_) (fun c41 => ?_)
        · skip
          rw [if_pos c41] at hf
          exact ih1 (x1) (x2) (y1) (y4) σ36 _ _ _ hf hP hD hS (lv_sub hl [2, 3, 4, 1, 0] rfl)
        rw [if_neg c41] at hf
        refine lv_aload_n hx hb d_W_writeElement_51 rfl (lv_at hl 2 rfl) ?_
        refine va_ldcS hx hb hown (hE.2.1 _ gl_8).1 d_W_writeElement_52 ?_
        refine lv_aload_n hx hb d_W_writeElement_54 rfl (lv_at hl 2 rfl) ?_
        refine va_get (D := X) (ci := 7) (C := R_W) (T := T_W) (N := 6) hx hb hts u_0 hown hK hP 17 gc_17 rfl 3 (by decide) k_2 (fun _ h9 => h9) rfl d_W_writeElement_55 ?_
        refine lv_iload_n hx hb d_W_writeElement_58 rfl (lv_at hl 3 rfl) ?_
        obtain ⟨y42, h43, e44, hf⟩ := gLd_e hf
        refine va_iald hx hb hK hP 18 0 gc_18 rfl h43 d_W_writeElement_59 ?_
        rw [← e44]
        obtain ⟨y45, σ46, e47, hf⟩ := gBd_e hf
        refine g_wv (va_runV ⟨hx, hb, hml, hown, hts⟩ (m_W_writeAttribute_S8 e47) (cwV 2 hts (gG4 (fun _ h => List.mem_cons_of_mem _ h) tb_314 tb_315 tb_316 tb_295 tc_W_writeAttribute) rfl rfl rfl (by decide +kernel) ⟨(show 5 + 1 ≤ nF + 6 by omega), (show 8 + (3 + 11) + 107 ≤ nL + 130 by omega)⟩) (g_preVW (q0 := 17) hE hK hP hD hS hA gc_17 rfl) rfl rfl hl.1 rfl (lv_room (Nat.le_of_ble_eq_true rfl)) d_W_writeElement_60 ⟨Nat.zero_le _, Nat.zero_le _⟩) hD hS hA (fun _ => cW_fst) (fun _ H locs _ hP hD hS => ?_)
        exact ih1 (x1) (x2) (y1) (y4) σ46 _ _ _ hf hP hD hS (lv_sub hl [2, 3, 4, 1, 0] rfl)
      · intro x1 x2 x3 x4 σ0 H locs ls hf hP hD hS hl
        have hf : B_W_writeElement_1 fns (R_W_writeElement fns t) x1 x2 x3 x4 σ0 = some (r, σ') := hf
        unfold B_W_writeElement_1 at hf
        refine lv_iload_n hx hb d_W_writeElement_63 rfl (lv_at hl 3 rfl) ?_
        refine lv_iconst (v := 1) hx hb d_W_writeElement_64 (by decide) ?_
        refine lv_icmp_ne (tgt := 83) hx hb d_W_writeElement_65 rfl (fun c48 => ?_) (fun c48 => ?_)
        · skip
          rw [if_neg c48] at hf
          exact ih2 (x1) (x2) (x3) (x4) σ0 _ _ _ hf hP hD hS (lv_sub hl [0, 1, 2, 3, 4] rfl)
        rw [if_pos c48] at hf
        refine lv_aload_n hx hb d_W_writeElement_68 rfl (lv_at hl 0 rfl) ?_
        refine va_ldcS hx hb hown (hE.2.1 _ gl_9).1 d_W_writeElement_69 ?_
        refine lv_aload_n hx hb d_W_writeElement_71 rfl (lv_at hl 0 rfl) ?_
        refine va_get (D := X) (ci := 7) (C := R_W) (T := T_W) (N := 6) hx hb hts u_0 hown hK hP 17 gc_17 rfl 0 (by decide) k_0 (fun _ h9 => h9) rfl d_W_writeElement_72 ?_
        refine va_get (D := X) (ci := 2) (C := R_G) (T := T_G) (N := 6) hx hb hts u_1 hown hK hP 1 gc_1 rfl 2 (by decide) k_3 (fun _ h9 => h9) rfl d_W_writeElement_75 ?_
        refine lv_iload_n hx hb d_W_writeElement_78 rfl (lv_at hl 1 rfl) ?_
        obtain ⟨y49, h50, e51, hf⟩ := gLd_e hf
        refine va_iald hx hb hK hP 3 0 gc_3 rfl h50 d_W_writeElement_79 ?_
        rw [← e51]
        obtain ⟨y52, σ53, e54, hf⟩ := gBd_e hf
        refine g_wv (va_runV ⟨hx, hb, hml, hown, hts⟩ (m_W_writeAttribute_S9 e54) (cwV 2 hts (gG4 (fun _ h => List.mem_cons_of_mem _ h) tb_314 tb_315 tb_316 tb_295 tc_W_writeAttribute) rfl rfl rfl (by decide +kernel) ⟨(show 5 + 1 ≤ nF + 6 by omega), (show 8 + (3 + 11) + 107 ≤ nL + 130 by omega)⟩) (g_preVW (q0 := 17) hE hK hP hD hS hA gc_17 rfl) rfl rfl hl.1 rfl (lv_room (Nat.le_of_ble_eq_true rfl)) d_W_writeElement_80 ⟨Nat.zero_le _, Nat.zero_le _⟩) hD hS hA (fun _ => cW_fst) (fun _ H locs _ hP hD hS => ?_)
        exact ih2 (x1) (x2) (x3) (x4) σ53 _ _ _ hf hP hD hS (lv_sub hl [0, 1, 2, 3, 4] rfl)
      · intro x1 x2 x3 x4 σ0 H locs ls hf hP hD hS hl
        have hf : B_W_writeElement_2 fns (R_W_writeElement fns t) x1 x2 x3 x4 σ0 = some (r, σ') := hf
        unfold B_W_writeElement_2 at hf
        refine lv_iload hx hb d_W_writeElement_83 (lv_at hl 4 rfl) ?_
        refine lv_if_le (tgt := 96) hx hb d_W_writeElement_85 rfl (fun c55 => ?_) (fun c55 => ?_)
        · skip
          rw [if_pos c55] at hf
          exact ih3 (x1) (x2) (x3) (x4) σ0 _ _ _ hf hP hD hS (lv_sub hl [0, 1, 2, 3, 4] rfl)
        rw [if_neg c55] at hf
        refine lv_aload_n hx hb d_W_writeElement_88 rfl (lv_at hl 0 rfl) ?_
        refine va_ldcS hx hb hown (hE.2.1 _ gl_10).1 d_W_writeElement_89 ?_
        refine lv_iload hx hb d_W_writeElement_91 (lv_at hl 4 rfl) ?_
        obtain ⟨y56, σ57, e58, hf⟩ := gBd_e hf
        refine g_wv (va_runV ⟨hx, hb, hml, hown, hts⟩ (m_W_writeAttribute_S10 e58) (cwV 2 hts (gG4 (fun _ h => List.mem_cons_of_mem _ h) tb_314 tb_315 tb_316 tb_295 tc_W_writeAttribute) rfl rfl rfl (by decide +kernel) ⟨(show 5 + 1 ≤ nF + 6 by omega), (show 8 + (3 + 11) + 107 ≤ nL + 130 by omega)⟩) (g_preVW (q0 := 17) hE hK hP hD hS hA gc_17 rfl) rfl rfl hl.1 rfl (lv_room (Nat.le_of_ble_eq_true rfl)) d_W_writeElement_93 ⟨Nat.zero_le _, Nat.zero_le _⟩) hD hS hA (fun _ => cW_fst) (fun _ H locs _ hP hD hS => ?_)
        exact ih3 (x1) (x2) (x3) (x4) σ57 _ _ _ hf hP hD hS (lv_sub hl [0, 1, 2, 3, 4] rfl)
      · intro x1 x2 x3 x4 σ0 H locs ls hf hP hD hS hl
        have hf : B_W_writeElement_3 fns (R_W_writeElement fns t) x1 x2 x3 x4 σ0 = some (r, σ') := hf
        unfold B_W_writeElement_3 at hf
        refine lv_aload_n hx hb d_W_writeElement_96 rfl (lv_at hl 0 rfl) ?_
        refine va_get (D := X) (ci := 7) (C := R_W) (T := T_W) (N := 6) hx hb hts u_0 hown hK hP 17 gc_17 rfl 2 (by decide) k_4 (fun _ h9 => h9) rfl d_W_writeElement_97 ?_
        refine lv_bipush (v := 62) hx hb d_W_writeElement_100 (by decide) ?_
        obtain ⟨y59, σ60, e61, hf⟩ := gBd_e hf
        refine g_wi (va_runV ⟨hx, hb, hml, hown, hts⟩ (m_P_append e61) (cwV 1 hts (gG4 (fun _ h => List.mem_cons_of_mem _ h) tb_284 tb_285 tb_286 tb_38 tc_P_append) rfl rfl rfl (by decide +kernel) ⟨(show 0 + 1 ≤ nF + 6 by omega), (show 8 + (2 + 11) + 0 ≤ nL + 130 by omega)⟩) (g_preVW (q0 := 7) hE hK hP hD hS hA gc_7 rfl) rfl rfl hl.1 rfl (lv_room (Nat.le_of_ble_eq_true rfl)) d_W_writeElement_102 ⟨Nat.zero_le _, Nat.zero_le _⟩) hD hS hA (fun _ => cW_fst) (fun y59 _ H locs hu hP hD hS => ?_)
        subst hu
        refine lv_pop hx hb d_W_writeElement_105 rfl ?_
        refine lv_iload_n hx hb d_W_writeElement_106 rfl (lv_at hl 3 rfl) ?_
        refine lv_iconst (v := 2) hx hb d_W_writeElement_107 (by decide) ?_
        refine lv_icmp_ne (tgt := 119) hx hb d_W_writeElement_108 rfl (fun c62 => ?_) (fun c62 => ?_)
        · skip
          rw [if_neg c62] at hf
          refine lv_aload_n hx hb d_W_writeElement_119 rfl (lv_at hl 0 rfl) ?_
          refine lv_iload_n hx hb d_W_writeElement_120 rfl (lv_at hl 1 rfl) ?_
          refine lv_iload hx hb d_W_writeElement_121 (lv_at hl 4 rfl) ?_
          refine lv_iload_n hx hb d_W_writeElement_123 rfl (lv_at hl 2 rfl) ?_
          obtain ⟨y63, σ64, e65, hf⟩ := gBd_e hf
          refine g_wv (va_runV ⟨hx, hb, hml, hown, hts⟩ (hsym e65) (cwV 3 hts (gG4 (fun _ h => List.mem_cons_of_mem _ h) tb_317 tb_318 tb_319 tb_295 tc_W_writeSlots) rfl rfl rfl (by decide +kernel) ⟨(show nF + 1 ≤ nF + 6 by omega), (show 8 + (6 + 11) + nL ≤ nL + 130 by omega)⟩) (g_preVW (q0 := 17) hE hK hP hD hS hA gc_17 rfl) rfl rfl hl.1 rfl (lv_room (Nat.le_of_ble_eq_true rfl)) d_W_writeElement_124 ⟨Nat.zero_le _, Nat.zero_le _⟩) hD hS hA (fun _ => cW_fst) (fun _ H locs _ hP hD hS => ?_)
          exact ih4 (x3) σ64 _ _ _ hf hP hD hS (lv_sub hl [0, 3] rfl)
        rw [if_pos c62] at hf
        refine lv_aload_n hx hb d_W_writeElement_111 rfl (lv_at hl 0 rfl) ?_
        refine lv_iload_n hx hb d_W_writeElement_112 rfl (lv_at hl 1 rfl) ?_
        obtain ⟨y66, σ67, e68, hf⟩ := gBd_e hf
        refine g_wv (va_runV ⟨hx, hb, hml, hown, hts⟩ (m_W_writeCharacters e68) (cwV 1 hts (gG4 (fun _ h => List.mem_cons_of_mem _ h) tb_320 tb_321 tb_322 tb_295 tc_W_writeCharacters) rfl rfl rfl (by decide +kernel) ⟨(show 5 + 1 ≤ nF + 6 by omega), (show 8 + (4 + 11) + 107 ≤ nL + 130 by omega)⟩) (g_preVW (q0 := 17) hE hK hP hD hS hA gc_17 rfl) rfl rfl hl.1 rfl (lv_room (Nat.le_of_ble_eq_true rfl)) d_W_writeElement_113 ⟨Nat.zero_le _, Nat.zero_le _⟩) hD hS hA (fun _ => cW_fst) (fun _ H locs _ hP hD hS => ?_)
        refine lv_goto (tgt := 127) hx hb d_W_writeElement_116 rfl ?_
        exact ih4 (x3) σ67 _ _ _ hf hP hD hS (lv_sub hl [0, 3] rfl)
      · intro x3 σ0 H locs ls hf hP hD hS hl
        have hf : B_W_writeElement_4 fns (R_W_writeElement fns t) x3 σ0 = some (r, σ') := hf
        unfold B_W_writeElement_4 at hf
        refine lv_aload_n hx hb d_W_writeElement_127 rfl (lv_at hl 0 rfl) ?_
        refine lv_iload_n hx hb d_W_writeElement_128 rfl (lv_at hl 1 rfl) ?_
        refine lv_if_ne (tgt := 137) hx hb d_W_writeElement_129 rfl (fun c69 => ?_) (fun c69 => ?_)
        · skip
          rw [if_neg c69] at hf
          refine lv_iload_n hx hb d_W_writeElement_137 rfl (lv_at hl 1 rfl) ?_
          refine lv_iconst (v := 1) hx hb d_W_writeElement_138 (by decide) ?_
          refine lv_icmp_ne (tgt := 147) hx hb d_W_writeElement_139 rfl (fun c70 => ?_) (fun c70 => ?_)
          · skip
            rw [if_neg c70] at hf
            refine va_ldcS hx hb hown (hE.2.1 _ gl_19).1 d_W_writeElement_147 ?_
            obtain ⟨y71, σ72, e73, hf⟩ := gBd_e hf
            refine g_wv (va_runV ⟨hx, hb, hml, hown, hts⟩ (m_W_writeRow_S19 e73) (cwV 1 hts (gG4 (fun _ h => List.mem_cons_of_mem _ h) tb_292 tb_293 tb_294 tb_295 tc_W_writeRow) rfl rfl rfl (by decide +kernel) ⟨(show 4 + 1 ≤ nF + 6 by omega), (show 8 + (3 + 11) + 85 ≤ nL + 130 by omega)⟩) (g_preVW (q0 := 17) hE hK hP hD hS hA gc_17 rfl) rfl rfl hl.1 rfl (lv_room (Nat.le_of_ble_eq_true rfl)) d_W_writeElement_149 ⟨Nat.zero_le _, Nat.zero_le _⟩) hD hS hA (fun _ => cW_fst) (fun _ H locs _ hP hD hS => ?_)
            obtain ⟨-, rfl⟩ := gRt_e hf
            exact g_vret hx hb hr hlocks hAe hS () trivial hP d_W_writeElement_152
          rw [if_pos c70] at hf
          refine va_ldcS hx hb hown (hE.2.1 _ gl_18).1 d_W_writeElement_142 ?_
          refine lv_goto (tgt := 149) hx hb d_W_writeElement_144 rfl ?_
          obtain ⟨y74, σ75, e76, hf⟩ := gBd_e hf
          refine g_wv (va_runV ⟨hx, hb, hml, hown, hts⟩ (m_W_writeRow_S18 e76) (cwV 1 hts (gG4 (fun _ h => List.mem_cons_of_mem _ h) tb_292 tb_293 tb_294 tb_295 tc_W_writeRow) rfl rfl rfl (by decide +kernel) ⟨(show 4 + 1 ≤ nF + 6 by omega), (show 8 + (3 + 11) + 85 ≤ nL + 130 by omega)⟩) (g_preVW (q0 := 17) hE hK hP hD hS hA gc_17 rfl) rfl rfl hl.1 rfl (lv_room (Nat.le_of_ble_eq_true rfl)) d_W_writeElement_149 ⟨Nat.zero_le _, Nat.zero_le _⟩) hD hS hA (fun _ => cW_fst) (fun _ H locs _ hP hD hS => ?_)
          obtain ⟨-, rfl⟩ := gRt_e hf
          exact g_vret hx hb hr hlocks hAe hS () trivial hP d_W_writeElement_152
        rw [if_pos c69] at hf
        refine va_ldcS hx hb hown (hE.2.1 _ gl_17).1 d_W_writeElement_132 ?_
        refine lv_goto (tgt := 149) hx hb d_W_writeElement_134 rfl ?_
        obtain ⟨y77, σ78, e79, hf⟩ := gBd_e hf
        refine g_wv (va_runV ⟨hx, hb, hml, hown, hts⟩ (m_W_writeRow_S17 e79) (cwV 1 hts (gG4 (fun _ h => List.mem_cons_of_mem _ h) tb_292 tb_293 tb_294 tb_295 tc_W_writeRow) rfl rfl rfl (by decide +kernel) ⟨(show 4 + 1 ≤ nF + 6 by omega), (show 8 + (3 + 11) + 85 ≤ nL + 130 by omega)⟩) (g_preVW (q0 := 17) hE hK hP hD hS hA gc_17 rfl) rfl rfl hl.1 rfl (lv_room (Nat.le_of_ble_eq_true rfl)) d_W_writeElement_149 ⟨Nat.zero_le _, Nat.zero_le _⟩) hD hS hA (fun _ => cW_fst) (fun _ H locs _ hP hD hS => ?_)
        obtain ⟨-, rfl⟩ := gRt_e hf
        exact g_vret hx hb hr hlocks hAe hS () trivial hP d_W_writeElement_152
  exact (key gFuel).1 q1 q2 σ _ _ _ hf hP hD hS hl

def F_W_writeReference (fne : gS → Int32 → Int32 → Option (Int32 × gS)) (σ : gS) (x1 : Int32) (x2 : Int32) : Option (Int32 × gS) := gBd (f_R_isShared σ x1) (fun y1 σ2 => if y1 = 0 then (if 16 ≤ x2 then (some (0, σ2)) else (gBd (fne σ2 x1 (x2 + 1)) (fun _ σ7 => some (0, σ7)))) else (gBd (f_W_giveId σ2 x1) (fun _ σ10 => gBd (f_W_writeRow_S1 σ10) (fun _ σ13 => gLd σ13 18 16 x1 (fun y15 => gBd (f_W_writeAttribute_S2 σ13 y15) (fun _ σ19 => gBd (f_W_writeRow_S4 σ19) (fun _ σ22 => some (0, σ22))))))))
set_option maxHeartbeats 4000000 in
set_option maxRecDepth 100000 in
theorem M_W_writeReference {l : Launch} {X : va_G} {cI cC cZ : ClassId} {aK aV : Nat → Nat} {a : Nat → Nat} {fne : gS → Int32 → Int32 → Option (Int32 × gS)} {nF nL : Nat} (hsym : ∀ {σ σ' : gS} {r : Int32} {v0 v1 : Int32}, fne σ v0 v1 = some (r, σ') → ∀ {sz : Nat}, Met l y_W_writeElement w_W_writeElement { frames := nF, cells := 0, slots := 0, locals := nL } (gPc X vwCl (gT cI cC cZ) aK aV (cW cI cC cZ a σ) sz [.ref (a 17), .int v0, .int v1]) (gQv X vwCl (cW cI cC cZ a σ) sz (fun (_ : Unit) => True) (fun _ => cW cI cC cZ a σ')) 0 0 (va_A (cW cI cC cZ a σ) sz)) {σ σ' : gS} {r : Int32} {x1 : Int32} {x2 : Int32} (hf : F_W_writeReference fne σ x1 x2 = some (r, σ')) {sz : Nat} : Met l y_W_writeReference w_W_writeReference { frames := nF + 6, cells := 0, slots := 0, locals := nL + 129 } (gPc X vwCl (gT cI cC cZ) aK aV (cW cI cC cZ a σ) sz [.ref (a 17), .int x1, .int x2]) (gQv X vwCl (cW cI cC cZ a σ) sz (fun (_ : Unit) => True) (fun _ => cW cI cC cZ a σ')) 0 0 (va_A (cW cI cC cZ a σ) sz) := by
  refine g_met (cc := b_W_writeReference) (maxL := 3) (ret := none) (by decide) rfl (Nat.le_of_ble_eq_true rfl) ?_
  intro p e s m below meth c A ls hx hb hr hml hown hts hlocks hnm hsz hAe hA hP hK hD hS hl hE
  have hown : s.vm.findClass R_W = some m.cls := hown
  have u_0 : ∀ w ∈ u_ws R_W T_W 6, w ∈ w_W_writeReference := fun w h => List.mem_cons_of_mem _ (tu_W w h)
  have k_0 := hts (.fieldLink R_W 22 "GraphPages$Writer" "reach" "LGraphPages$Reach;") (List.mem_cons_of_mem _ tb_330)
  have k_1 := hts (.fieldLink R_W 9 "GraphPages$Writer" "ids" "[I") (List.mem_cons_of_mem _ tb_288)
  unfold F_W_writeReference at hf
  refine lv_aload_n hx hb d_W_writeReference_0 rfl (lv_at hl 0 rfl) ?_
  refine va_get (D := X) (ci := 7) (C := R_W) (T := T_W) (N := 6) hx hb hts u_0 hown hK hP 17 gc_17 rfl 1 (by decide) k_0 (fun _ h9 => h9) rfl d_W_writeReference_1 ?_
  refine lv_iload_n hx hb d_W_writeReference_4 rfl (lv_at hl 1 rfl) ?_
  obtain ⟨y1, σ2, e3, hf⟩ := gBd_e hf
  refine g_wi (va_runV ⟨hx, hb, hml, hown, hts⟩ (m_R_isShared e3) (cwV 1 hts (gG4 (fun _ h => List.mem_cons_of_mem _ h) tb_323 tb_280 tb_281 tb_273 tc_R_isShared) rfl rfl rfl (by decide +kernel) ⟨(show 0 + 1 ≤ nF + 6 by omega), (show 8 + (2 + 11) + 0 ≤ nL + 129 by omega)⟩) (g_preVW (q0 := 10) hE hK hP hD hS hA gc_10 rfl) rfl rfl hl.1 rfl (lv_room (Nat.le_of_ble_eq_true rfl)) d_W_writeReference_5 ⟨Nat.zero_le _, Nat.zero_le _⟩) hD hS hA (fun _ => cW_fst) (fun y1 _ H locs hu hP hD hS => ?_)
  subst hu
  refine lv_if_eq (tgt := 43) hx hb d_W_writeReference_8 rfl (fun c4 => ?_) (fun c4 => ?_)
  · skip
    rw [if_pos c4] at hf
    refine lv_iload_n hx hb d_W_writeReference_43 rfl (lv_at hl 2 rfl) ?_
    refine lv_bipush (v := 16) hx hb d_W_writeReference_44 (by decide) ?_
    refine lv_icmp_ge (tgt := 57) hx hb d_W_writeReference_46 rfl (fun c5 => ?_) (fun c5 => ?_)
    · skip
      rw [if_pos c5] at hf
      obtain ⟨-, rfl⟩ := gRt_e hf
      exact g_vret hx hb hr hlocks hAe hS () trivial hP d_W_writeReference_57
    rw [if_neg c5] at hf
    refine lv_aload_n hx hb d_W_writeReference_49 rfl (lv_at hl 0 rfl) ?_
    refine lv_iload_n hx hb d_W_writeReference_50 rfl (lv_at hl 1 rfl) ?_
    refine lv_iload_n hx hb d_W_writeReference_51 rfl (lv_at hl 2 rfl) ?_
    refine lv_iconst (v := 1) hx hb d_W_writeReference_52 (by decide) ?_
    refine lv_iadd hx hb d_W_writeReference_53 ?_
    obtain ⟨y6, σ7, e8, hf⟩ := gBd_e hf
    refine g_wv (va_runV ⟨hx, hb, hml, hown, hts⟩ (hsym e8) (cwV 2 hts (gG4 (fun _ h => List.mem_cons_of_mem _ h) tb_324 tb_325 tb_326 tb_295 tc_W_writeElement) rfl rfl rfl (by decide +kernel) ⟨(show nF + 1 ≤ nF + 6 by omega), (show 8 + (5 + 11) + nL ≤ nL + 129 by omega)⟩) (g_preVW (q0 := 17) hE hK hP hD hS hA gc_17 rfl) rfl rfl hl.1 rfl (lv_room (Nat.le_of_ble_eq_true rfl)) d_W_writeReference_54 ⟨Nat.zero_le _, Nat.zero_le _⟩) hD hS hA (fun _ => cW_fst) (fun _ H locs _ hP hD hS => ?_)
    obtain ⟨-, rfl⟩ := gRt_e hf
    exact g_vret hx hb hr hlocks hAe hS () trivial hP d_W_writeReference_57
  rw [if_neg c4] at hf
  refine lv_aload_n hx hb d_W_writeReference_11 rfl (lv_at hl 0 rfl) ?_
  refine lv_iload_n hx hb d_W_writeReference_12 rfl (lv_at hl 1 rfl) ?_
  obtain ⟨y9, σ10, e11, hf⟩ := gBd_e hf
  refine g_wv (va_runV ⟨hx, hb, hml, hown, hts⟩ (m_W_giveId e11) (cwV 1 hts (gG4 (fun _ h => List.mem_cons_of_mem _ h) tb_327 tb_328 tb_329 tb_295 tc_W_giveId) rfl rfl rfl (by decide +kernel) ⟨(show 0 + 1 ≤ nF + 6 by omega), (show 8 + (2 + 11) + 0 ≤ nL + 129 by omega)⟩) (g_preVW (q0 := 17) hE hK hP hD hS hA gc_17 rfl) rfl rfl hl.1 rfl (lv_room (Nat.le_of_ble_eq_true rfl)) d_W_writeReference_13 ⟨Nat.zero_le _, Nat.zero_le _⟩) hD hS hA (fun _ => cW_fst) (fun _ H locs _ hP hD hS => ?_)
  refine lv_aload_n hx hb d_W_writeReference_16 rfl (lv_at hl 0 rfl) ?_
  refine va_ldcS hx hb hown (hE.2.1 _ gl_1).1 d_W_writeReference_17 ?_
  obtain ⟨y12, σ13, e14, hf⟩ := gBd_e hf
  refine g_wv (va_runV ⟨hx, hb, hml, hown, hts⟩ (m_W_writeRow_S1 e14) (cwV 1 hts (gG4 (fun _ h => List.mem_cons_of_mem _ h) tb_292 tb_293 tb_294 tb_295 tc_W_writeRow) rfl rfl rfl (by decide +kernel) ⟨(show 4 + 1 ≤ nF + 6 by omega), (show 8 + (3 + 11) + 85 ≤ nL + 129 by omega)⟩) (g_preVW (q0 := 17) hE hK hP hD hS hA gc_17 rfl) rfl rfl hl.1 rfl (lv_room (Nat.le_of_ble_eq_true rfl)) d_W_writeReference_19 ⟨Nat.zero_le _, Nat.zero_le _⟩) hD hS hA (fun _ => cW_fst) (fun _ H locs _ hP hD hS => ?_)
  refine lv_aload_n hx hb d_W_writeReference_22 rfl (lv_at hl 0 rfl) ?_
  refine va_ldcS hx hb hown (hE.2.1 _ gl_2).1 d_W_writeReference_23 ?_
  refine lv_aload_n hx hb d_W_writeReference_25 rfl (lv_at hl 0 rfl) ?_
  refine va_get (D := X) (ci := 7) (C := R_W) (T := T_W) (N := 6) hx hb hts u_0 hown hK hP 17 gc_17 rfl 3 (by decide) k_1 (fun _ h9 => h9) rfl d_W_writeReference_26 ?_
  refine lv_iload_n hx hb d_W_writeReference_29 rfl (lv_at hl 1 rfl) ?_
  obtain ⟨y15, h16, e17, hf⟩ := gLd_e hf
  refine va_iald hx hb hK hP 18 0 gc_18 rfl h16 d_W_writeReference_30 ?_
  rw [← e17]
  obtain ⟨y18, σ19, e20, hf⟩ := gBd_e hf
  refine g_wv (va_runV ⟨hx, hb, hml, hown, hts⟩ (m_W_writeAttribute_S2 e20) (cwV 2 hts (gG4 (fun _ h => List.mem_cons_of_mem _ h) tb_314 tb_315 tb_316 tb_295 tc_W_writeAttribute) rfl rfl rfl (by decide +kernel) ⟨(show 5 + 1 ≤ nF + 6 by omega), (show 8 + (3 + 11) + 107 ≤ nL + 129 by omega)⟩) (g_preVW (q0 := 17) hE hK hP hD hS hA gc_17 rfl) rfl rfl hl.1 rfl (lv_room (Nat.le_of_ble_eq_true rfl)) d_W_writeReference_31 ⟨Nat.zero_le _, Nat.zero_le _⟩) hD hS hA (fun _ => cW_fst) (fun _ H locs _ hP hD hS => ?_)
  refine lv_aload_n hx hb d_W_writeReference_34 rfl (lv_at hl 0 rfl) ?_
  refine va_ldcS hx hb hown (hE.2.1 _ gl_4).1 d_W_writeReference_35 ?_
  obtain ⟨y21, σ22, e23, hf⟩ := gBd_e hf
  refine g_wv (va_runV ⟨hx, hb, hml, hown, hts⟩ (m_W_writeRow_S4 e23) (cwV 1 hts (gG4 (fun _ h => List.mem_cons_of_mem _ h) tb_292 tb_293 tb_294 tb_295 tc_W_writeRow) rfl rfl rfl (by decide +kernel) ⟨(show 4 + 1 ≤ nF + 6 by omega), (show 8 + (3 + 11) + 85 ≤ nL + 129 by omega)⟩) (g_preVW (q0 := 17) hE hK hP hD hS hA gc_17 rfl) rfl rfl hl.1 rfl (lv_room (Nat.le_of_ble_eq_true rfl)) d_W_writeReference_37 ⟨Nat.zero_le _, Nat.zero_le _⟩) hD hS hA (fun _ => cW_fst) (fun _ H locs _ hP hD hS => ?_)
  refine lv_goto (tgt := 57) hx hb d_W_writeReference_40 rfl ?_
  obtain ⟨-, rfl⟩ := gRt_e hf
  exact g_vret hx hb hr hlocks hAe hS () trivial hP d_W_writeReference_57

def gW_ref : Nat → gS → Int32 → Int32 → Option (Int32 × gS)
  | 0 => fun _ _ _ => none
  | d + 1 => F_W_writeReference (F_W_writeElement (F_W_writeSlots (gW_ref d)))
def f_W_writeReference (σ : gS) (x1 x2 : Int32) : Option (Int32 × gS) := gW_ref 18 σ x1 x2
def f_W_writeElement (σ : gS) (x1 x2 : Int32) : Option (Int32 × gS) := F_W_writeElement (F_W_writeSlots (gW_ref 18)) σ x1 x2
theorem mW_ref {l : Launch} {X : va_G} {cI cC cZ : ClassId} {aK aV a : Nat → Nat} : ∀ (d : Nat) {σ σ' : gS} {r x1 x2 : Int32}, gW_ref d σ x1 x2 = some (r, σ') → ∀ {sz : Nat}, Met l y_W_writeReference w_W_writeReference { frames := d * 17, cells := 0, slots := 0, locals := d * 366 } (gPc X vwCl (gT cI cC cZ) aK aV (cW cI cC cZ a σ) sz [.ref (a 17), .int x1, .int x2]) (gQv X vwCl (cW cI cC cZ a σ) sz (fun (_ : Unit) => True) (fun _ => cW cI cC cZ a σ')) 0 0 (va_A (cW cI cC cZ a σ) sz) := by
  intro d
  induction d with
  | zero =>
    intro σ σ' r x1 x2 hf
    have hf : (none : Option (Int32 × gS)) = some (r, σ') := hf
    cases hf
  | succ d ih =>
    intro σ σ' r x1 x2 hf sz
    have hf : F_W_writeReference (F_W_writeElement (F_W_writeSlots (gW_ref d))) σ x1 x2 = some (r, σ') := hf
    have h := M_W_writeReference (l := l) (X := X) (cI := cI) (cC := cC) (cZ := cZ) (aK := aK) (aV := aV) (a := a) (fun h2 => M_W_writeElement (fun h3 => M_W_writeSlots (fun h4 => ih h4) h3) h2) hf (sz := sz)
    rw [show d * 17 + 5 + 6 + 6 = (d + 1) * 17 by omega, show d * 366 + 107 + 130 + 129 = (d + 1) * 366 by omega] at h
    exact h
theorem m_W_writeReference {l : Launch} {X : va_G} {cI cC cZ : ClassId} {aK aV a : Nat → Nat} {σ σ' : gS} {r x1 x2 : Int32} (hf : f_W_writeReference σ x1 x2 = some (r, σ')) {sz : Nat} : Met l y_W_writeReference w_W_writeReference { frames := 306, cells := 0, slots := 0, locals := 6588 } (gPc X vwCl (gT cI cC cZ) aK aV (cW cI cC cZ a σ) sz [.ref (a 17), .int x1, .int x2]) (gQv X vwCl (cW cI cC cZ a σ) sz (fun (_ : Unit) => True) (fun _ => cW cI cC cZ a σ')) 0 0 (va_A (cW cI cC cZ a σ) sz) := mW_ref 18 hf
theorem m_W_writeElement {l : Launch} {X : va_G} {cI cC cZ : ClassId} {aK aV a : Nat → Nat} {σ σ' : gS} {r x1 x2 : Int32} (hf : f_W_writeElement σ x1 x2 = some (r, σ')) {sz : Nat} : Met l y_W_writeElement w_W_writeElement { frames := 317, cells := 0, slots := 0, locals := 6825 } (gPc X vwCl (gT cI cC cZ) aK aV (cW cI cC cZ a σ) sz [.ref (a 17), .int x1, .int x2]) (gQv X vwCl (cW cI cC cZ a σ) sz (fun (_ : Unit) => True) (fun _ => cW cI cC cZ a σ')) 0 0 (va_A (cW cI cC cZ a σ) sz) := M_W_writeElement (fun h3 => M_W_writeSlots (fun h4 => mW_ref 18 h4) h3) hf

def B_W_writeFrom_0 (rec : Nat → List Int32 → gS → Option (Int32 × gS)) (x1 : Int32) (σ0 : gS) : Option (Int32 × gS) := gBd (f_R_startFrom σ0 x1) (fun _ σ2 => gBd (f_J_fill_WI σ2 0) (fun _ σ5 => gPut σ5 4 0 (fun σ7 => gPut σ7 1 0 (fun σ9 => gBd (f_W_writeRow_S0 σ9) (fun _ σ12 => gBd (f_W_writeReference σ12 x1 0) (fun _ σ15 => rec 1 [0] σ15))))))
def B_W_writeFrom_1 (rec : Nat → List Int32 → gS → Option (Int32 × gS)) (x2 : Int32) (σ0 : gS) : Option (Int32 × gS) := if 16 ≤ x2 then (rec 2 [] σ0) else (if (σ0.1 4) ≤ x2 then (rec 2 [] σ0) else (gLd σ0 19 16 x2 (fun y19 => gBd (f_W_writeElement σ0 y19 0) (fun _ σ23 => rec 1 [(x2 + 1)] σ23))))
def B_W_writeFrom_2 (rec : Nat → List Int32 → gS → Option (Int32 × gS)) (σ0 : gS) : Option (Int32 × gS) := gBd (f_W_writeRow_S20 σ0) (fun _ σ26 => some (0, σ26))
def S_W_writeFrom (rec : Nat → List Int32 → gS → Option (Int32 × gS)) (k : Nat) (l : List Int32) (σ0 : gS) : Option (Int32 × gS) := match k, l with
  | 0, [x1] => B_W_writeFrom_0 rec x1 σ0
  | 1, [x2] => B_W_writeFrom_1 rec x2 σ0
  | 2, [] => B_W_writeFrom_2 rec  σ0
  | _, _ => none
def R_W_writeFrom : Nat → Nat → List Int32 → gS → Option (Int32 × gS)
  | 0 => fun _ _ _ => none
  | t + 1 => fun k l σ0 => S_W_writeFrom (R_W_writeFrom t) k l σ0
def f_W_writeFrom (σ : gS) (x1 : Int32) : Option (Int32 × gS) := R_W_writeFrom gFuel 0 [x1] σ
set_option maxHeartbeats 4000000 in
set_option maxRecDepth 100000 in
theorem m_W_writeFrom {l : Launch} {X : va_G} {cI cC cZ : ClassId} {aK aV : Nat → Nat} {a : Nat → Nat} {σ σ' : gS} {r : Int32} {q1 : Int32} (hf : f_W_writeFrom σ q1 = some (r, σ')) {sz : Nat} : Met l y_W_writeFrom w_W_writeFrom { frames := 318, cells := 0, slots := 0, locals := 6849 } (gPc X vwCl (gT cI cC cZ) aK aV (cW cI cC cZ a σ) sz [.ref (a 17), .int q1]) (gQv X vwCl (cW cI cC cZ a σ) sz (fun (_ : Unit) => True) (fun _ => cW cI cC cZ a σ')) 0 0 (va_A (cW cI cC cZ a σ) sz) := by
  refine g_met (cc := b_W_writeFrom) (maxL := 3) (ret := none) (by decide) rfl (Nat.le_of_ble_eq_true rfl) ?_
  intro p e s m below meth c A ls hx hb hr hml hown hts hlocks hnm hsz hAe hA hP hK hD hS hl hE
  have hown : s.vm.findClass R_W = some m.cls := hown
  have u_0 : ∀ w ∈ u_ws R_W T_W 6, w ∈ w_W_writeFrom := fun w h => List.mem_cons_of_mem _ (tu_W w h)
  have u_1 : ∀ w ∈ u_ws R_P T_P 2, w ∈ w_W_writeFrom := fun w h => List.mem_cons_of_mem _ (tu_P w h)
  have k_0 := hts (.fieldLink R_W 22 "GraphPages$Writer" "reach" "LGraphPages$Reach;") (List.mem_cons_of_mem _ tb_330)
  have k_1 := hts (.fieldLink R_W 9 "GraphPages$Writer" "ids" "[I") (List.mem_cons_of_mem _ tb_288)
  have k_2 := hts (.initialized R_J) (List.mem_cons_of_mem _ tb_222)
  have k_3 := hts (.methodLink R_W 36 y_J_fill) (List.mem_cons_of_mem _ tb_334)
  have k_4 := hts (.static y_J_fill) (List.mem_cons_of_mem _ tb_224)
  have k_5 := hts (.fieldLink R_W 42 "GraphPages$Writer" "count" "I") (List.mem_cons_of_mem _ tb_290)
  have k_6 := hts (.fieldLink R_W 26 "GraphPages$Writer" "page" "LGraphPages$Page;") (List.mem_cons_of_mem _ tb_287)
  have k_7 := hts (.fieldLink R_W 46 "GraphPages$Page" "end" "I") (List.mem_cons_of_mem _ tb_335)
  have k_8 := hts (.fieldLink R_W 15 "GraphPages$Writer" "order" "[I") (List.mem_cons_of_mem _ tb_289)
  unfold f_W_writeFrom at hf
  have key : ∀ t : Nat, (∀ (x1 : Int32) (σ0 : gS) (H : Heap) (locs : List Loc) (ls : Array Slot), R_W_writeFrom t 0 [x1] σ0 = some (r, σ') → va_P X vwCl (cW cI cC cZ a σ0) H → va_D A (cW cI cC cZ a σ0) → va_S A s.heap H locs → lv_has ls 3 [(0, .ref (a 17)), (1, .int x1)] → W p l e (headSpec w_W_writeFrom { frames := 318, cells := 0, slots := 0, locals := 6849 }).room s m [.ref (a 17), .int q1].toArray below meth c H locs 0 0 (MQ below (gQv X vwCl (cW cI cC cZ a σ) sz (fun (_ : Unit) => True) (fun _ => cW cI cC cZ a σ')) [.ref (a 17), .int q1].toArray s 0 0 (va_A (cW cI cC cZ a σ) sz)) (F0 m 0 ls [])) ∧ (∀ (x2 : Int32) (σ0 : gS) (H : Heap) (locs : List Loc) (ls : Array Slot), R_W_writeFrom t 1 [x2] σ0 = some (r, σ') → va_P X vwCl (cW cI cC cZ a σ0) H → va_D A (cW cI cC cZ a σ0) → va_S A s.heap H locs → lv_has ls 3 [(0, .ref (a 17)), (2, .int x2)] → W p l e (headSpec w_W_writeFrom { frames := 318, cells := 0, slots := 0, locals := 6849 }).room s m [.ref (a 17), .int q1].toArray below meth c H locs 0 0 (MQ below (gQv X vwCl (cW cI cC cZ a σ) sz (fun (_ : Unit) => True) (fun _ => cW cI cC cZ a σ')) [.ref (a 17), .int q1].toArray s 0 0 (va_A (cW cI cC cZ a σ) sz)) (F0 m 43 ls [])) ∧ (∀ (σ0 : gS) (H : Heap) (locs : List Loc) (ls : Array Slot), R_W_writeFrom t 2 [] σ0 = some (r, σ') → va_P X vwCl (cW cI cC cZ a σ0) H → va_D A (cW cI cC cZ a σ0) → va_S A s.heap H locs → lv_has ls 3 [(0, .ref (a 17))] → W p l e (headSpec w_W_writeFrom { frames := 318, cells := 0, slots := 0, locals := 6849 }).room s m [.ref (a 17), .int q1].toArray below meth c H locs 0 0 (MQ below (gQv X vwCl (cW cI cC cZ a σ) sz (fun (_ : Unit) => True) (fun _ => cW cI cC cZ a σ')) [.ref (a 17), .int q1].toArray s 0 0 (va_A (cW cI cC cZ a σ) sz)) (F0 m 74 ls [])) := by
    intro t
    induction t with
    | zero => exact ⟨fun _ _ _ _ _ hf => (by have hf : (none : Option (Int32 × gS)) = some (r, σ') := hf; cases hf), fun _ _ _ _ _ hf => (by have hf : (none : Option (Int32 × gS)) = some (r, σ') := hf; cases hf), fun  _ _ _ _ hf => (by have hf : (none : Option (Int32 × gS)) = some (r, σ') := hf; cases hf)⟩
    | succ t ih =>
      obtain ⟨ih0, ih1, ih2⟩ := ih
      refine ⟨?_, ?_, ?_⟩
      · intro x1 σ0 H locs ls hf hP hD hS hl
        have hf : B_W_writeFrom_0 (R_W_writeFrom t) x1 σ0 = some (r, σ') := hf
        unfold B_W_writeFrom_0 at hf
        refine lv_aload_n hx hb d_W_writeFrom_0 rfl (lv_at hl 0 rfl) ?_
        refine va_get (D := X) (ci := 7) (C := R_W) (T := T_W) (N := 6) hx hb hts u_0 hown hK hP 17 gc_17 rfl 1 (by decide) k_0 (fun _ h9 => h9) rfl d_W_writeFrom_1 ?_
        refine lv_iload_n hx hb d_W_writeFrom_4 rfl (lv_at hl 1 rfl) ?_
        obtain ⟨y1, σ2, e3, hf⟩ := gBd_e hf
        refine g_wv (va_runV ⟨hx, hb, hml, hown, hts⟩ (m_R_startFrom e3) (cwV 1 hts (gG4 (fun _ h => List.mem_cons_of_mem _ h) tb_331 tb_332 tb_333 tb_273 tc_R_startFrom) rfl rfl rfl (by decide +kernel) ⟨Nat.le_of_ble_eq_true rfl, Nat.le_of_ble_eq_true rfl⟩) (g_preVW (q0 := 10) hE hK hP hD hS hA gc_10 rfl) rfl rfl hl.1 rfl (lv_room (Nat.le_of_ble_eq_true rfl)) d_W_writeFrom_5 ⟨Nat.zero_le _, Nat.zero_le _⟩) hD hS hA (fun _ => cW_fst) (fun _ H locs _ hP hD hS => ?_)
        refine lv_aload_n hx hb d_W_writeFrom_8 rfl (lv_at hl 0 rfl) ?_
        refine va_get (D := X) (ci := 7) (C := R_W) (T := T_W) (N := 6) hx hb hts u_0 hown hK hP 17 gc_17 rfl 3 (by decide) k_1 (fun _ h9 => h9) rfl d_W_writeFrom_9 ?_
        refine lv_iconst (v := 0) hx hb d_W_writeFrom_12 (by decide) ?_
        obtain ⟨y4, σ5, e6, hf⟩ := gBd_e hf
        refine g_wv (va_runS ⟨hx, hb, hml, hown, hts⟩ (m_J_fill_WI e6) ⟨callB_of 2 hts (gG (fun _ h => List.mem_cons_of_mem _ h) tc_J_fill) rfl rfl rfl k_2 k_3 (by decide +kernel) ⟨Nat.le_of_ble_eq_true rfl, Nat.le_of_ble_eq_true rfl⟩, k_4⟩ (g_preSW hE hK hP hD hS hA) rfl rfl hl.1 rfl (lv_room (Nat.le_of_ble_eq_true rfl)) d_W_writeFrom_13 ⟨Nat.zero_le _, Nat.zero_le _⟩) hD hS hA (fun _ => cW_fst) (fun _ H locs _ hP hD hS => ?_)
        refine lv_aload_n hx hb d_W_writeFrom_16 rfl (lv_at hl 0 rfl) ?_
        refine lv_iconst (v := 0) hx hb d_W_writeFrom_17 (by decide) ?_
        obtain ⟨σ7, e8, hf⟩ := gPut_e hf
        refine va_put (D := X) (ci := 7) (ty := .int) (C := R_W) (T := T_W) (N := 6) hx hb hts u_0 t_W t_W_ok n_W hown hK hP hD hS 17 gc_17 rfl 5 (by decide) k_5 (fun _ h9 => h9) rfl (by decide +kernel) rfl rfl (Nat.le_of_ble_eq_true rfl) d_W_writeFrom_18 (fun H locs hP hD hS => ?_)
        rw [sc_17_5, ← e8] at hP hD
        refine lv_aload_n hx hb d_W_writeFrom_21 rfl (lv_at hl 0 rfl) ?_
        refine va_get (D := X) (ci := 7) (C := R_W) (T := T_W) (N := 6) hx hb hts u_0 hown hK hP 17 gc_17 rfl 2 (by decide) k_6 (fun _ h9 => h9) rfl d_W_writeFrom_22 ?_
        refine lv_iconst (v := 0) hx hb d_W_writeFrom_25 (by decide) ?_
        obtain ⟨σ9, e10, hf⟩ := gPut_e hf
        refine va_put (D := X) (ci := 5) (ty := .int) (C := R_P) (T := T_P) (N := 2) hx hb hts u_1 t_P t_P_ok n_P hown hK hP hD hS 7 gc_7 rfl 0 (by decide) k_7 (fun _ h9 => h9) rfl (by decide +kernel) rfl rfl (Nat.le_of_ble_eq_true rfl) d_W_writeFrom_26 (fun H locs hP hD hS => ?_)
        rw [sc_7_0, ← e10] at hP hD
        refine lv_aload_n hx hb d_W_writeFrom_29 rfl (lv_at hl 0 rfl) ?_
        refine va_ldcS hx hb hown (hE.2.1 _ gl_0).1 d_W_writeFrom_30 ?_
        obtain ⟨y11, σ12, e13, hf⟩ := gBd_e hf
        refine g_wv (va_runV ⟨hx, hb, hml, hown, hts⟩ (m_W_writeRow_S0 e13) (cwV 1 hts (gG4 (fun _ h => List.mem_cons_of_mem _ h) tb_292 tb_293 tb_294 tb_295 tc_W_writeRow) rfl rfl rfl (by decide +kernel) ⟨Nat.le_of_ble_eq_true rfl, Nat.le_of_ble_eq_true rfl⟩) (g_preVW (q0 := 17) hE hK hP hD hS hA gc_17 rfl) rfl rfl hl.1 rfl (lv_room (Nat.le_of_ble_eq_true rfl)) d_W_writeFrom_32 ⟨Nat.zero_le _, Nat.zero_le _⟩) hD hS hA (fun _ => cW_fst) (fun _ H locs _ hP hD hS => ?_)
        refine lv_aload_n hx hb d_W_writeFrom_35 rfl (lv_at hl 0 rfl) ?_
        refine lv_iload_n hx hb d_W_writeFrom_36 rfl (lv_at hl 1 rfl) ?_
        refine lv_iconst (v := 0) hx hb d_W_writeFrom_37 (by decide) ?_
        obtain ⟨y14, σ15, e16, hf⟩ := gBd_e hf
        refine g_wv (va_runV ⟨hx, hb, hml, hown, hts⟩ (m_W_writeReference e16) (cwV 2 hts (gG4 (fun _ h => List.mem_cons_of_mem _ h) tb_308 tb_309 tb_310 tb_295 tc_W_writeReference) rfl rfl rfl (by decide +kernel) ⟨Nat.le_of_ble_eq_true rfl, Nat.le_of_ble_eq_true rfl⟩) (g_preVW (q0 := 17) hE hK hP hD hS hA gc_17 rfl) rfl rfl hl.1 rfl (lv_room (Nat.le_of_ble_eq_true rfl)) d_W_writeFrom_38 ⟨Nat.zero_le _, Nat.zero_le _⟩) hD hS hA (fun _ => cW_fst) (fun _ H locs _ hP hD hS => ?_)
        refine lv_iconst (v := 0) hx hb d_W_writeFrom_41 (by decide) ?_
        refine lv_istore_n hx hb d_W_writeFrom_42 rfl hl (by decide) rfl (fun ls hl => ?_)
        exact ih1 (0) σ15 _ _ _ hf hP hD hS (lv_sub hl [1, 0] rfl)
      · intro x2 σ0 H locs ls hf hP hD hS hl
        have hf : B_W_writeFrom_1 (R_W_writeFrom t) x2 σ0 = some (r, σ') := hf
        unfold B_W_writeFrom_1 at hf
        refine lv_iload_n hx hb d_W_writeFrom_43 rfl (lv_at hl 1 rfl) ?_
        refine lv_bipush (v := 16) hx hb d_W_writeFrom_44 (by decide) ?_
        refine lv_icmp_ge (tgt := 74) hx hb d_W_writeFrom_46 rfl (fun c17 => ?_) (fun c17 => ?_)
        · skip
          rw [if_pos c17] at hf
          exact ih2 σ0 _ _ _ hf hP hD hS (lv_sub hl [0] rfl)
        rw [if_neg c17] at hf
        refine lv_iload_n hx hb d_W_writeFrom_49 rfl (lv_at hl 1 rfl) ?_
        refine lv_aload_n hx hb d_W_writeFrom_50 rfl (lv_at hl 0 rfl) ?_
        refine va_get (D := X) (ci := 7) (C := R_W) (T := T_W) (N := 6) hx hb hts u_0 hown hK hP 17 gc_17 rfl 5 (by decide) k_5 (fun _ h9 => h9) rfl d_W_writeFrom_51 ?_
        refine lv_icmp_ge (tgt := 74) hx hb d_W_writeFrom_54 rfl (fun c18 => ?_) (fun c18 => ?_)
        · skip
          rw [if_pos c18] at hf
          exact ih2 σ0 _ _ _ hf hP hD hS (lv_sub hl [0] rfl)
        rw [if_neg c18] at hf
        refine lv_aload_n hx hb d_W_writeFrom_57 rfl (lv_at hl 0 rfl) ?_
        refine lv_aload_n hx hb d_W_writeFrom_58 rfl (lv_at hl 0 rfl) ?_
        refine va_get (D := X) (ci := 7) (C := R_W) (T := T_W) (N := 6) hx hb hts u_0 hown hK hP 17 gc_17 rfl 4 (by decide) k_8 (fun _ h9 => h9) rfl d_W_writeFrom_59 ?_
        refine lv_iload_n hx hb d_W_writeFrom_62 rfl (lv_at hl 1 rfl) ?_
        obtain ⟨y19, h20, e21, hf⟩ := gLd_e hf
        refine va_iald hx hb hK hP 19 0 gc_19 rfl h20 d_W_writeFrom_63 ?_
        rw [← e21]
        refine lv_iconst (v := 0) hx hb d_W_writeFrom_64 (by decide) ?_
        obtain ⟨y22, σ23, e24, hf⟩ := gBd_e hf
        refine g_wv (va_runV ⟨hx, hb, hml, hown, hts⟩ (m_W_writeElement e24) (cwV 2 hts (gG4 (fun _ h => List.mem_cons_of_mem _ h) tb_324 tb_325 tb_326 tb_295 tc_W_writeElement) rfl rfl rfl (by decide +kernel) ⟨Nat.le_of_ble_eq_true rfl, Nat.le_of_ble_eq_true rfl⟩) (g_preVW (q0 := 17) hE hK hP hD hS hA gc_17 rfl) rfl rfl hl.1 rfl (lv_room (Nat.le_of_ble_eq_true rfl)) d_W_writeFrom_65 ⟨Nat.zero_le _, Nat.zero_le _⟩) hD hS hA (fun _ => cW_fst) (fun _ H locs _ hP hD hS => ?_)
        refine lv_iinc (k := 1) (v := (x2 + 1)) hx hb d_W_writeFrom_68 hl rfl (by rw [show Int32.ofInt (1) = (1 : Int32) by decide]) (by decide) rfl (fun ls hl => ?_)
        refine lv_goto (tgt := 43) hx hb d_W_writeFrom_71 rfl ?_
        exact ih1 ((x2 + 1)) σ23 _ _ _ hf hP hD hS (lv_sub hl [1, 0] rfl)
      · intro  σ0 H locs ls hf hP hD hS hl
        have hf : B_W_writeFrom_2 (R_W_writeFrom t)  σ0 = some (r, σ') := hf
        unfold B_W_writeFrom_2 at hf
        refine lv_aload_n hx hb d_W_writeFrom_74 rfl (lv_at hl 0 rfl) ?_
        refine va_ldcS hx hb hown (hE.2.1 _ gl_20).1 d_W_writeFrom_75 ?_
        obtain ⟨y25, σ26, e27, hf⟩ := gBd_e hf
        refine g_wv (va_runV ⟨hx, hb, hml, hown, hts⟩ (m_W_writeRow_S20 e27) (cwV 1 hts (gG4 (fun _ h => List.mem_cons_of_mem _ h) tb_292 tb_293 tb_294 tb_295 tc_W_writeRow) rfl rfl rfl (by decide +kernel) ⟨Nat.le_of_ble_eq_true rfl, Nat.le_of_ble_eq_true rfl⟩) (g_preVW (q0 := 17) hE hK hP hD hS hA gc_17 rfl) rfl rfl hl.1 rfl (lv_room (Nat.le_of_ble_eq_true rfl)) d_W_writeFrom_77 ⟨Nat.zero_le _, Nat.zero_le _⟩) hD hS hA (fun _ => cW_fst) (fun _ H locs _ hP hD hS => ?_)
        obtain ⟨-, rfl⟩ := gRt_e hf
        exact g_vret hx hb hr hlocks hAe hS () trivial hP d_W_writeFrom_80
  exact (key gFuel).1 q1 σ _ _ _ hf hP hD hS hl
