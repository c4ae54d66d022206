def f_H_keepId (σ : gS) (x1 : Int32) : Option (Int32 × gS) := gBd (f_H_countIn σ x1 247) (fun y1 σ2 => if y1 = (-1) then (some (1, σ2)) else (gLd σ2 35 100 y1 (fun y5 => if y5 = (-1) then (gLd σ2 34 533 x1 (fun y9 => gSt σ2 35 100 y1 y9 (fun σ12 => some (1, σ12)))) else (some (0, σ2)))))
set_option maxHeartbeats 4000000 in
set_option maxRecDepth 100000 in
theorem m_H_keepId {l : Launch} {X : va_G} {cI cC cZ : ClassId} {aK aV : Nat → Nat} {a : Nat → Nat} {σ σ' : gS} {r : Int32} {x1 : Int32} (hf : f_H_keepId σ x1 = some (r, σ')) {sz : Nat} : Met l y_H_keepId w_H_keepId { frames := 3, cells := 0, slots := 0, locals := 69 } (gPc X vwCl (gT cI cC cZ) aK aV (cW cI cC cZ a σ) sz [.ref (a 33), .int x1]) (gQi X vwCl (cW cI cC cZ a σ) sz (fun r' (_ : Unit) => r' = r) (fun _ => cW cI cC cZ a σ')) 0 0 (va_A (cW cI cC cZ a σ) sz) := by
  refine g_met (cc := b_H_keepId) (maxL := 3) (ret := (some .boolean)) (by decide) rfl (Nat.le_of_ble_eq_true rfl) ?_
  intro p e s m below meth c A ls hx hb hr hml hown hts hlocks hnm hsz hAe hA hP hK hD hS hl hE
  have hown : s.vm.findClass R_H = some m.cls := hown
  have u_0 : ∀ w ∈ u_ws R_H T_H 8, w ∈ w_H_keepId := fun w h => List.mem_cons_of_mem _ (tu_H w h)
  have k_0 := hts (.fieldLink R_H 19 "GraphPages$GraphReader" "objectsOfIds" "[I") (List.mem_cons_of_mem _ tb_187)
  have k_1 := hts (.fieldLink R_H 15 "GraphPages$GraphReader" "objectsOfElements" "[I") (List.mem_cons_of_mem _ tb_188)
  unfold f_H_keepId at hf
  refine lv_aload_n hx hb d_H_keepId_0 rfl (lv_at hl 0 rfl) ?_
  refine lv_iload_n hx hb d_H_keepId_1 rfl (lv_at hl 1 rfl) ?_
  refine lv_sipush (v := 247) hx hb d_H_keepId_2 (by decide) ?_
  obtain ⟨y1, σ2, e3, hf⟩ := gBd_e hf
  refine g_wi (va_runV ⟨hx, hb, hml, hown, hts⟩ (m_H_countIn e3) (cwV 2 hts (gG4 (fun _ h => List.mem_cons_of_mem _ h) tb_142 tb_143 tb_144 tb_137 tc_H_countIn) rfl rfl rfl (by decide +kernel) ⟨Nat.le_of_ble_eq_true rfl, Nat.le_of_ble_eq_true rfl⟩) (g_preVW (q0 := 33) hE hK hP hD hS hA gc_33 rfl) rfl rfl hl.1 rfl (lv_room (Nat.le_of_ble_eq_true rfl)) d_H_keepId_5 ⟨Nat.zero_le _, Nat.zero_le _⟩) hD hS hA (fun _ => cW_fst) (fun y1 _ H locs hu hP hD hS => ?_)
  subst hu
  refine lv_istore_n hx hb d_H_keepId_8 rfl hl (by decide) rfl (fun ls hl => ?_)
  refine lv_iload_n hx hb d_H_keepId_9 rfl (lv_at hl 0 rfl) ?_
  refine lv_iconst (v := (-1)) hx hb d_H_keepId_10 (by decide) ?_
  refine lv_icmp_ne (tgt := 16) hx hb d_H_keepId_11 rfl (fun c4 => ?_) (fun c4 => ?_)
  · skip
    rw [if_neg c4] at hf
    refine lv_aload_n hx hb d_H_keepId_16 rfl (lv_at hl 1 rfl) ?_
    refine va_get (D := X) (ci := 3) (C := R_H) (T := T_H) (N := 8) hx hb hts u_0 hown hK hP 33 gc_33 rfl 4 (by decide) k_0 (fun _ h9 => h9) rfl d_H_keepId_17 ?_
    refine lv_iload_n hx hb d_H_keepId_20 rfl (lv_at hl 0 rfl) ?_
    obtain ⟨y5, h6, e7, hf⟩ := gLd_e hf
    refine va_iald hx hb hK hP 35 0 gc_35 rfl h6 d_H_keepId_21 ?_
    rw [← e7]
    refine lv_iconst (v := (-1)) hx hb d_H_keepId_22 (by decide) ?_
    refine lv_icmp_eq (tgt := 28) hx hb d_H_keepId_23 rfl (fun c8 => ?_) (fun c8 => ?_)
    · skip
      rw [if_pos c8] at hf
      refine lv_aload_n hx hb d_H_keepId_28 rfl (lv_at hl 1 rfl) ?_
      refine va_get (D := X) (ci := 3) (C := R_H) (T := T_H) (N := 8) hx hb hts u_0 hown hK hP 33 gc_33 rfl 4 (by decide) k_0 (fun _ h9 => h9) rfl d_H_keepId_29 ?_
      refine lv_iload_n hx hb d_H_keepId_32 rfl (lv_at hl 0 rfl) ?_
      refine lv_aload_n hx hb d_H_keepId_33 rfl (lv_at hl 1 rfl) ?_
      refine va_get (D := X) (ci := 3) (C := R_H) (T := T_H) (N := 8) hx hb hts u_0 hown hK hP 33 gc_33 rfl 3 (by decide) k_1 (fun _ h9 => h9) rfl d_H_keepId_34 ?_
      refine lv_iload_n hx hb d_H_keepId_37 rfl (lv_at hl 2 rfl) ?_
      obtain ⟨y9, h10, e11, hf⟩ := gLd_e hf
      refine va_iald hx hb hK hP 34 0 gc_34 rfl h10 d_H_keepId_38 ?_
      rw [← e11]
      obtain ⟨σ12, h13, e14, hf⟩ := gSt_e hf
      refine va_iast hx hb hK hP hD hS 35 0 gc_35 rfl h13 d_H_keepId_39 (fun H locs hP hD hS => ?_)
      rw [sc_35, ← e14] at hP hD
      refine lv_iconst (v := 1) hx hb d_H_keepId_40 (by decide) ?_
      obtain ⟨rfl, rfl⟩ := gRt_e hf
      exact g_zret hx hb hr hlocks rfl hAe hS () rfl hP d_H_keepId_41
    rw [if_neg c8] at hf
    refine lv_iconst (v := 0) hx hb d_H_keepId_26 (by decide) ?_
    obtain ⟨rfl, rfl⟩ := gRt_e hf
    exact g_zret hx hb hr hlocks rfl hAe hS () rfl hP d_H_keepId_27
  rw [if_pos c4] at hf
  refine lv_iconst (v := 1) hx hb d_H_keepId_14 (by decide) ?_
  obtain ⟨rfl, rfl⟩ := gRt_e hf
  exact g_zret hx hb hr hlocks rfl hAe hS () rfl hP d_H_keepId_15

def f_H_numberObject (σ : gS) (x1 : Int32) : Option (Int32 × gS) := gSt σ 34 533 x1 (-1) (fun σ1 => gBd (f_H_isObject σ1 x1) (fun y4 σ5 => if y4 = 0 then (some (1, σ5)) else (if (σ5.1 11) < 16 then (gSt σ5 34 533 x1 (σ5.1 11) (fun σ9 => gBd (f_H_layObject σ9 x1 (σ9.1 11)) (fun _ σ13 => gPut σ13 11 ((σ13.1 11) + 1) (fun σ15 => gBd (f_H_keepId σ15 x1) (fun y17 σ18 => gNr .boolean y17 (some (y17, σ18))))))) else (some (0, σ5)))))
set_option maxHeartbeats 4000000 in
set_option maxRecDepth 100000 in
theorem m_H_numberObject {l : Launch} {X : va_G} {cI cC cZ : ClassId} {aK aV : Nat → Nat} {a : Nat → Nat} {σ σ' : gS} {r : Int32} {x1 : Int32} (hf : f_H_numberObject σ x1 = some (r, σ')) {sz : Nat} : Met l y_H_numberObject w_H_numberObject { frames := 4, cells := 0, slots := 0, locals := 92 } (gPc X vwCl (gT cI cC cZ) aK aV (cW cI cC cZ a σ) sz [.ref (a 33), .int x1]) (gQi X vwCl (cW cI cC cZ a σ) sz (fun r' (_ : Unit) => r' = r) (fun _ => cW cI cC cZ a σ')) 0 0 (va_A (cW cI cC cZ a σ) sz) := by
  refine g_met (cc := b_H_numberObject) (maxL := 2) (ret := (some .boolean)) (by decide) rfl (Nat.le_of_ble_eq_true rfl) ?_
  intro p e s m below meth c A ls hx hb hr hml hown hts hlocks hnm hsz hAe hA hP hK hD hS hl hE
  have hown : s.vm.findClass R_H = some m.cls := hown
  have u_0 : ∀ w ∈ u_ws R_H T_H 8, w ∈ w_H_numberObject := fun w h => List.mem_cons_of_mem _ (tu_H w h)
  have k_0 := hts (.fieldLink R_H 15 "GraphPages$GraphReader" "objectsOfElements" "[I") (List.mem_cons_of_mem _ tb_188)
  have k_1 := hts (.fieldLink R_H 79 "GraphPages$GraphReader" "count" "I") (List.mem_cons_of_mem _ tb_195)
  unfold f_H_numberObject at hf
  refine lv_aload_n hx hb d_H_numberObject_0 rfl (lv_at hl 0 rfl) ?_
  refine va_get (D := X) (ci := 3) (C := R_H) (T := T_H) (N := 8) hx hb hts u_0 hown hK hP 33 gc_33 rfl 3 (by decide) k_0 (fun _ h9 => h9) rfl d_H_numberObject_1 ?_
  refine lv_iload_n hx hb d_H_numberObject_4 rfl (lv_at hl 1 rfl) ?_
  refine lv_iconst (v := (-1)) hx hb d_H_numberObject_5 (by decide) ?_
  obtain ⟨σ1, h2, e3, hf⟩ := gSt_e hf
  refine va_iast hx hb hK hP hD hS 34 0 gc_34 rfl h2 d_H_numberObject_6 (fun H locs hP hD hS => ?_)
  rw [sc_34, ← e3] at hP hD
  refine lv_aload_n hx hb d_H_numberObject_7 rfl (lv_at hl 0 rfl) ?_
  refine lv_iload_n hx hb d_H_numberObject_8 rfl (lv_at hl 1 rfl) ?_
  obtain ⟨y4, σ5, e6, hf⟩ := gBd_e hf
  refine g_wi (va_runV ⟨hx, hb, hml, hown, hts⟩ (m_H_isObject e6) (cwV 1 hts (gG4 (fun _ h => List.mem_cons_of_mem _ h) tb_152 tb_153 tb_154 tb_137 tc_H_isObject) rfl rfl rfl (by decide +kernel) ⟨Nat.le_of_ble_eq_true rfl, Nat.le_of_ble_eq_true rfl⟩) (g_preVW (q0 := 33) hE hK hP hD hS hA gc_33 rfl) rfl rfl hl.1 rfl (lv_room (Nat.le_of_ble_eq_true rfl)) d_H_numberObject_9 ⟨Nat.zero_le _, Nat.zero_le _⟩) hD hS hA (fun _ => cW_fst) (fun y4 _ H locs hu hP hD hS => ?_)
  subst hu
  refine lv_if_ne (tgt := 17) hx hb d_H_numberObject_12 rfl (fun c7 => ?_) (fun c7 => ?_)
  · skip
    rw [if_neg c7] at hf
    refine lv_aload_n hx hb d_H_numberObject_17 rfl (lv_at hl 0 rfl) ?_
    refine va_get (D := X) (ci := 3) (C := R_H) (T := T_H) (N := 8) hx hb hts u_0 hown hK hP 33 gc_33 rfl 7 (by decide) k_1 (fun _ h9 => h9) rfl d_H_numberObject_18 ?_
    refine lv_bipush (v := 16) hx hb d_H_numberObject_21 (by decide) ?_
    refine lv_icmp_lt (tgt := 28) hx hb d_H_numberObject_23 rfl (fun c8 => ?_) (fun c8 => ?_)
    · skip
      rw [if_pos c8] at hf
      refine lv_aload_n hx hb d_H_numberObject_28 rfl (lv_at hl 0 rfl) ?_
      refine va_get (D := X) (ci := 3) (C := R_H) (T := T_H) (N := 8) hx hb hts u_0 hown hK hP 33 gc_33 rfl 3 (by decide) k_0 (fun _ h9 => h9) rfl d_H_numberObject_29 ?_
      refine lv_iload_n hx hb d_H_numberObject_32 rfl (lv_at hl 1 rfl) ?_
      refine lv_aload_n hx hb d_H_numberObject_33 rfl (lv_at hl 0 rfl) ?_
      refine va_get (D := X) (ci := 3) (C := R_H) (T := T_H) (N := 8) hx hb hts u_0 hown hK hP 33 gc_33 rfl 7 (by decide) k_1 (fun _ h9 => h9) rfl d_H_numberObject_34 ?_
      obtain ⟨σ9, h10, e11, hf⟩ := gSt_e hf
      refine va_iast hx hb hK hP hD hS 34 0 gc_34 rfl h10 d_H_numberObject_37 (fun H locs hP hD hS => ?_)
      rw [sc_34, ← e11] at hP hD
      refine lv_aload_n hx hb d_H_numberObject_38 rfl (lv_at hl 0 rfl) ?_
      refine lv_iload_n hx hb d_H_numberObject_39 rfl (lv_at hl 1 rfl) ?_
      refine lv_aload_n hx hb d_H_numberObject_40 rfl (lv_at hl 0 rfl) ?_
      refine va_get (D := X) (ci := 3) (C := R_H) (T := T_H) (N := 8) hx hb hts u_0 hown hK hP 33 gc_33 rfl 7 (by decide) k_1 (fun _ h9 => h9) rfl d_H_numberObject_41 ?_
      obtain ⟨y12, σ13, e14, hf⟩ := gBd_e hf
      refine g_wv (va_runV ⟨hx, hb, hml, hown, hts⟩ (m_H_layObject e14) (cwV 2 hts (gG4 (fun _ h => List.mem_cons_of_mem _ h) tb_189 tb_190 tb_191 tb_137 tc_H_layObject) rfl rfl rfl (by decide +kernel) ⟨Nat.le_of_ble_eq_true rfl, Nat.le_of_ble_eq_true rfl⟩) (g_preVW (q0 := 33) hE hK hP hD hS hA gc_33 rfl) rfl rfl hl.1 rfl (lv_room (Nat.le_of_ble_eq_true rfl)) d_H_numberObject_44 ⟨Nat.zero_le _, Nat.zero_le _⟩) hD hS hA (fun _ => cW_fst) (fun _ H locs _ hP hD hS => ?_)
      refine lv_aload_n hx hb d_H_numberObject_47 rfl (lv_at hl 0 rfl) ?_
      refine lv_dup hx hb d_H_numberObject_48 rfl ?_
      refine va_get (D := X) (ci := 3) (C := R_H) (T := T_H) (N := 8) hx hb hts u_0 hown hK hP 33 gc_33 rfl 7 (by decide) k_1 (fun _ h9 => h9) rfl d_H_numberObject_49 ?_
      refine lv_iconst (v := 1) hx hb d_H_numberObject_52 (by decide) ?_
      refine lv_iadd hx hb d_H_numberObject_53 ?_
      obtain ⟨σ15, e16, hf⟩ := gPut_e hf
      refine va_put (D := X) (ci := 3) (ty := .int) (C := R_H) (T := T_H) (N := 8) hx hb hts u_0 t_H t_H_ok n_H hown hK hP hD hS 33 gc_33 rfl 7 (by decide) k_1 (fun _ h9 => h9) rfl (by decide +kernel) rfl rfl (Nat.le_of_ble_eq_true rfl) d_H_numberObject_54 (fun H locs hP hD hS => ?_)
      rw [sc_33_7, ← e16] at hP hD
      refine lv_aload_n hx hb d_H_numberObject_57 rfl (lv_at hl 0 rfl) ?_
      refine lv_iload_n hx hb d_H_numberObject_58 rfl (lv_at hl 1 rfl) ?_
      obtain ⟨y17, σ18, e19, hf⟩ := gBd_e hf
      refine g_wi (va_runV ⟨hx, hb, hml, hown, hts⟩ (m_H_keepId e19) (cwV 1 hts (gG4 (fun _ h => List.mem_cons_of_mem _ h) tb_192 tb_193 tb_194 tb_137 tc_H_keepId) rfl rfl rfl (by decide +kernel) ⟨Nat.le_of_ble_eq_true rfl, Nat.le_of_ble_eq_true rfl⟩) (g_preVW (q0 := 33) hE hK hP hD hS hA gc_33 rfl) rfl rfl hl.1 rfl (lv_room (Nat.le_of_ble_eq_true rfl)) d_H_numberObject_59 ⟨Nat.zero_le _, Nat.zero_le _⟩) hD hS hA (fun _ => cW_fst) (fun y17 _ H locs hu hP hD hS => ?_)
      subst hu
      obtain ⟨h20, hf⟩ := gNr_e hf
      obtain ⟨rfl, rfl⟩ := gRt_e hf
      exact g_zret hx hb hr hlocks h20 hAe hS () rfl hP d_H_numberObject_62
    rw [if_neg c8] at hf
    refine lv_iconst (v := 0) hx hb d_H_numberObject_26 (by decide) ?_
    obtain ⟨rfl, rfl⟩ := gRt_e hf
    exact g_zret hx hb hr hlocks rfl hAe hS () rfl hP d_H_numberObject_27
  rw [if_pos c7] at hf
  refine lv_iconst (v := 1) hx hb d_H_numberObject_15 (by decide) ?_
  obtain ⟨rfl, rfl⟩ := gRt_e hf
  exact g_zret hx hb hr hlocks rfl hAe hS () rfl hP d_H_numberObject_16

def f_H_referredBy (σ : gS) (x1 : Int32) : Option (Int32 × gS) := gLd σ 21 533 x1 (fun y1 => if y1 = 18 then (gBd (f_H_countIn σ x1 8) (fun y5 σ6 => if y5 = (-1) then (some ((-1), σ6)) else (gLd σ6 35 100 y5 (fun y9 => some (y9, σ6))))) else (gLd σ 34 533 x1 (fun y12 => some (y12, σ))))
set_option maxHeartbeats 4000000 in
set_option maxRecDepth 100000 in
theorem m_H_referredBy {l : Launch} {X : va_G} {cI cC cZ : ClassId} {aK aV : Nat → Nat} {a : Nat → Nat} {σ σ' : gS} {r : Int32} {x1 : Int32} (hf : f_H_referredBy σ x1 = some (r, σ')) {sz : Nat} : Met l y_H_referredBy w_H_referredBy { frames := 3, cells := 0, slots := 0, locals := 69 } (gPc X vwCl (gT cI cC cZ) aK aV (cW cI cC cZ a σ) sz [.ref (a 33), .int x1]) (gQi X vwCl (cW cI cC cZ a σ) sz (fun r' (_ : Unit) => r' = r) (fun _ => cW cI cC cZ a σ')) 0 0 (va_A (cW cI cC cZ a σ) sz) := by
  refine g_met (cc := b_H_referredBy) (maxL := 3) (ret := (some .int)) (by decide) rfl (Nat.le_of_ble_eq_true rfl) ?_
  intro p e s m below meth c A ls hx hb hr hml hown hts hlocks hnm hsz hAe hA hP hK hD hS hl hE
  have hown : s.vm.findClass R_H = some m.cls := hown
  have u_0 : ∀ w ∈ u_ws R_H T_H 8, w ∈ w_H_referredBy := fun w h => List.mem_cons_of_mem _ (tu_H w h)
  have u_1 : ∀ w ∈ u_ws R_E T_E 14, w ∈ w_H_referredBy := fun w h => List.mem_cons_of_mem _ (tu_E w h)
  have k_0 := hts (.fieldLink R_H 32 "GraphPages$GraphReader" "elements" "LGraphPages$Elements;") (List.mem_cons_of_mem _ tb_130)
  have k_1 := hts (.fieldLink R_H 40 "GraphPages$Elements" "names" "[I") (List.mem_cons_of_mem _ tb_138)
  have k_2 := hts (.fieldLink R_H 19 "GraphPages$GraphReader" "objectsOfIds" "[I") (List.mem_cons_of_mem _ tb_187)
  have k_3 := hts (.fieldLink R_H 15 "GraphPages$GraphReader" "objectsOfElements" "[I") (List.mem_cons_of_mem _ tb_188)
  unfold f_H_referredBy at hf
  refine lv_aload_n hx hb d_H_referredBy_0 rfl (lv_at hl 0 rfl) ?_
  refine va_get (D := X) (ci := 3) (C := R_H) (T := T_H) (N := 8) hx hb hts u_0 hown hK hP 33 gc_33 rfl 1 (by decide) k_0 (fun _ h9 => h9) rfl d_H_referredBy_1 ?_
  refine va_get (D := X) (ci := 0) (C := R_E) (T := T_E) (N := 14) hx hb hts u_1 hown hK hP 20 gc_20 rfl 1 (by decide) k_1 (fun _ h9 => h9) rfl d_H_referredBy_4 ?_
  refine lv_iload_n hx hb d_H_referredBy_7 rfl (lv_at hl 1 rfl) ?_
  obtain ⟨y1, h2, e3, hf⟩ := gLd_e hf
  refine va_iald hx hb hK hP 21 0 gc_21 rfl h2 d_H_referredBy_8 ?_
  rw [← e3]
  refine lv_bipush (v := 18) hx hb d_H_referredBy_9 (by decide) ?_
  refine lv_icmp_eq (tgt := 21) hx hb d_H_referredBy_11 rfl (fun c4 => ?_) (fun c4 => ?_)
  · skip
    rw [if_pos c4] at hf
    refine lv_aload_n hx hb d_H_referredBy_21 rfl (lv_at hl 0 rfl) ?_
    refine lv_iload_n hx hb d_H_referredBy_22 rfl (lv_at hl 1 rfl) ?_
    refine lv_bipush (v := 8) hx hb d_H_referredBy_23 (by decide) ?_
    obtain ⟨y5, σ6, e7, hf⟩ := gBd_e hf
    refine g_wi (va_runV ⟨hx, hb, hml, hown, hts⟩ (m_H_countIn e7) (cwV 2 hts (gG4 (fun _ h => List.mem_cons_of_mem _ h) tb_142 tb_143 tb_144 tb_137 tc_H_countIn) rfl rfl rfl (by decide +kernel) ⟨Nat.le_of_ble_eq_true rfl, Nat.le_of_ble_eq_true rfl⟩) (g_preVW (q0 := 33) hE hK hP hD hS hA gc_33 rfl) rfl rfl hl.1 rfl (lv_room (Nat.le_of_ble_eq_true rfl)) d_H_referredBy_25 ⟨Nat.zero_le _, Nat.zero_le _⟩) hD hS hA (fun _ => cW_fst) (fun y5 _ H locs hu hP hD hS => ?_)
    subst hu
    refine lv_istore_n hx hb d_H_referredBy_28 rfl hl (by decide) rfl (fun ls hl => ?_)
    refine lv_iload_n hx hb d_H_referredBy_29 rfl (lv_at hl 0 rfl) ?_
    refine lv_iconst (v := (-1)) hx hb d_H_referredBy_30 (by decide) ?_
    refine lv_icmp_ne (tgt := 38) hx hb d_H_referredBy_31 rfl (fun c8 => ?_) (fun c8 => ?_)
    · skip
      rw [if_neg c8] at hf
      refine lv_aload_n hx hb d_H_referredBy_38 rfl (lv_at hl 1 rfl) ?_
      refine va_get (D := X) (ci := 3) (C := R_H) (T := T_H) (N := 8) hx hb hts u_0 hown hK hP 33 gc_33 rfl 4 (by decide) k_2 (fun _ h9 => h9) rfl d_H_referredBy_39 ?_
      refine lv_iload_n hx hb d_H_referredBy_42 rfl (lv_at hl 0 rfl) ?_
      obtain ⟨y9, h10, e11, hf⟩ := gLd_e hf
      refine va_iald hx hb hK hP 35 0 gc_35 rfl h10 d_H_referredBy_43 ?_
      rw [← e11]
      obtain ⟨rfl, rfl⟩ := gRt_e hf
      exact g_zret hx hb hr hlocks rfl hAe hS () rfl hP d_H_referredBy_44
    rw [if_pos c8] at hf
    refine lv_iconst (v := (-1)) hx hb d_H_referredBy_34 (by decide) ?_
    refine lv_goto (tgt := 44) hx hb d_H_referredBy_35 rfl ?_
    obtain ⟨rfl, rfl⟩ := gRt_e hf
    exact g_zret hx hb hr hlocks rfl hAe hS () rfl hP d_H_referredBy_44
  rw [if_neg c4] at hf
  refine lv_aload_n hx hb d_H_referredBy_14 rfl (lv_at hl 0 rfl) ?_
  refine va_get (D := X) (ci := 3) (C := R_H) (T := T_H) (N := 8) hx hb hts u_0 hown hK hP 33 gc_33 rfl 3 (by decide) k_3 (fun _ h9 => h9) rfl d_H_referredBy_15 ?_
  refine lv_iload_n hx hb d_H_referredBy_18 rfl (lv_at hl 1 rfl) ?_
  obtain ⟨y12, h13, e14, hf⟩ := gLd_e hf
  refine va_iald hx hb hK hP 34 0 gc_34 rfl h13 d_H_referredBy_19 ?_
  rw [← e14]
  obtain ⟨rfl, rfl⟩ := gRt_e hf
  exact g_zret hx hb hr hlocks rfl hAe hS () rfl hP d_H_referredBy_20

def f_H_mayStandInBody (σ : gS) (x1 : Int32) (x2 : Int32) : Option (Int32 × gS) := if x1 = (x2 + 1) then (gBd (f_H_referredBy σ x1) (fun y10 σ11 => if y10 = (-1) then (some (0, σ11)) else (some (1, σ11)))) else (gBd (f_H_isObject σ x1) (fun y2 σ3 => if y2 = 0 then (some (0, σ3)) else (gBd (f_E_findAttribute σ3 x1 247) (fun y6 σ7 => if y6 = (-1) then (some (0, σ7)) else (some (1, σ7))))))
set_option maxHeartbeats 4000000 in
set_option maxRecDepth 100000 in
theorem m_H_mayStandInBody {l : Launch} {X : va_G} {cI cC cZ : ClassId} {aK aV : Nat → Nat} {a : Nat → Nat} {σ σ' : gS} {r : Int32} {x1 : Int32} {x2 : Int32} (hf : f_H_mayStandInBody σ x1 x2 = some (r, σ')) {sz : Nat} : Met l y_H_mayStandInBody w_H_mayStandInBody { frames := 4, cells := 0, slots := 0, locals := 91 } (gPc X vwCl (gT cI cC cZ) aK aV (cW cI cC cZ a σ) sz [.ref (a 33), .int x1, .int x2]) (gQi X vwCl (cW cI cC cZ a σ) sz (fun r' (_ : Unit) => r' = r) (fun _ => cW cI cC cZ a σ')) 0 0 (va_A (cW cI cC cZ a σ) sz) := by
  refine g_met (cc := b_H_mayStandInBody) (maxL := 3) (ret := (some .boolean)) (by decide) rfl (Nat.le_of_ble_eq_true rfl) ?_
  intro p e s m below meth c A ls hx hb hr hml hown hts hlocks hnm hsz hAe hA hP hK hD hS hl hE
  have hown : s.vm.findClass R_H = some m.cls := hown
  have u_0 : ∀ w ∈ u_ws R_H T_H 8, w ∈ w_H_mayStandInBody := fun w h => List.mem_cons_of_mem _ (tu_H w h)
  have k_0 := hts (.fieldLink R_H 32 "GraphPages$GraphReader" "elements" "LGraphPages$Elements;") (List.mem_cons_of_mem _ tb_130)
  unfold f_H_mayStandInBody at hf
  refine lv_iload_n hx hb d_H_mayStandInBody_0 rfl (lv_at hl 1 rfl) ?_
  refine lv_iload_n hx hb d_H_mayStandInBody_1 rfl (lv_at hl 2 rfl) ?_
  refine lv_iconst (v := 1) hx hb d_H_mayStandInBody_2 (by decide) ?_
  refine lv_iadd hx hb d_H_mayStandInBody_3 ?_
  refine lv_icmp_ne (tgt := 22) hx hb d_H_mayStandInBody_4 rfl (fun c1 => ?_) (fun c1 => ?_)
  · skip
    rw [if_neg c1] at hf
    refine lv_aload_n hx hb d_H_mayStandInBody_22 rfl (lv_at hl 0 rfl) ?_
    refine lv_iload_n hx hb d_H_mayStandInBody_23 rfl (lv_at hl 1 rfl) ?_
    obtain ⟨y2, σ3, e4, hf⟩ := gBd_e hf
    refine g_wi (va_runV ⟨hx, hb, hml, hown, hts⟩ (m_H_isObject e4) (cwV 1 hts (gG4 (fun _ h => List.mem_cons_of_mem _ h) tb_152 tb_153 tb_154 tb_137 tc_H_isObject) rfl rfl rfl (by decide +kernel) ⟨Nat.le_of_ble_eq_true rfl, Nat.le_of_ble_eq_true rfl⟩) (g_preVW (q0 := 33) hE hK hP hD hS hA gc_33 rfl) rfl rfl hl.1 rfl (lv_room (Nat.le_of_ble_eq_true rfl)) d_H_mayStandInBody_24 ⟨Nat.zero_le _, Nat.zero_le _⟩) hD hS hA (fun _ => cW_fst) (fun y2 _ H locs hu hP hD hS => ?_)
    subst hu
    refine lv_if_eq (tgt := 49) hx hb d_H_mayStandInBody_27 rfl (fun c5 => ?_) (fun c5 => ?_)
    · skip
      rw [if_pos c5] at hf
      refine lv_iconst (v := 0) hx hb d_H_mayStandInBody_49 (by decide) ?_
      obtain ⟨rfl, rfl⟩ := gRt_e hf
      exact g_zret hx hb hr hlocks rfl hAe hS () rfl hP d_H_mayStandInBody_50
    rw [if_neg c5] at hf
    refine lv_aload_n hx hb d_H_mayStandInBody_30 rfl (lv_at hl 0 rfl) ?_
    refine va_get (D := X) (ci := 3) (C := R_H) (T := T_H) (N := 8) hx hb hts u_0 hown hK hP 33 gc_33 rfl 1 (by decide) k_0 (fun _ h9 => h9) rfl d_H_mayStandInBody_31 ?_
    refine lv_iload_n hx hb d_H_mayStandInBody_34 rfl (lv_at hl 1 rfl) ?_
    refine lv_sipush (v := 247) hx hb d_H_mayStandInBody_35 (by decide) ?_
    obtain ⟨y6, σ7, e8, hf⟩ := gBd_e hf
    refine g_wi (va_runV ⟨hx, hb, hml, hown, hts⟩ (m_E_findAttribute e8) (cwV 2 hts (gG4 (fun _ h => List.mem_cons_of_mem _ h) tb_128 tb_49 tb_50 tb_51 tc_E_findAttribute) rfl rfl rfl (by decide +kernel) ⟨Nat.le_of_ble_eq_true rfl, Nat.le_of_ble_eq_true rfl⟩) (g_preVW (q0 := 20) hE hK hP hD hS hA gc_20 rfl) rfl rfl hl.1 rfl (lv_room (Nat.le_of_ble_eq_true rfl)) d_H_mayStandInBody_38 ⟨Nat.zero_le _, Nat.zero_le _⟩) hD hS hA (fun _ => cW_fst) (fun y6 _ H locs hu hP hD hS => ?_)
    subst hu
    refine lv_iconst (v := (-1)) hx hb d_H_mayStandInBody_41 (by decide) ?_
    refine lv_icmp_eq (tgt := 49) hx hb d_H_mayStandInBody_42 rfl (fun c9 => ?_) (fun c9 => ?_)
    · skip
      rw [if_pos c9] at hf
      refine lv_iconst (v := 0) hx hb d_H_mayStandInBody_49 (by decide) ?_
      obtain ⟨rfl, rfl⟩ := gRt_e hf
      exact g_zret hx hb hr hlocks rfl hAe hS () rfl hP d_H_mayStandInBody_50
    rw [if_neg c9] at hf
    refine lv_iconst (v := 1) hx hb d_H_mayStandInBody_45 (by decide) ?_
    refine lv_goto (tgt := 50) hx hb d_H_mayStandInBody_46 rfl ?_
    obtain ⟨rfl, rfl⟩ := gRt_e hf
    exact g_zret hx hb hr hlocks rfl hAe hS () rfl hP d_H_mayStandInBody_50
  rw [if_pos c1] at hf
  refine lv_aload_n hx hb d_H_mayStandInBody_7 rfl (lv_at hl 0 rfl) ?_
  refine lv_iload_n hx hb d_H_mayStandInBody_8 rfl (lv_at hl 1 rfl) ?_
  obtain ⟨y10, σ11, e12, hf⟩ := gBd_e hf
  refine g_wi (va_runV ⟨hx, hb, hml, hown, hts⟩ (m_H_referredBy e12) (cwV 1 hts (gG4 (fun _ h => List.mem_cons_of_mem _ h) tb_196 tb_197 tb_198 tb_137 tc_H_referredBy) rfl rfl rfl (by decide +kernel) ⟨Nat.le_of_ble_eq_true rfl, Nat.le_of_ble_eq_true rfl⟩) (g_preVW (q0 := 33) hE hK hP hD hS hA gc_33 rfl) rfl rfl hl.1 rfl (lv_room (Nat.le_of_ble_eq_true rfl)) d_H_mayStandInBody_9 ⟨Nat.zero_le _, Nat.zero_le _⟩) hD hS hA (fun _ => cW_fst) (fun y10 _ H locs hu hP hD hS => ?_)
  subst hu
  refine lv_iconst (v := (-1)) hx hb d_H_mayStandInBody_12 (by decide) ?_
  refine lv_icmp_eq (tgt := 20) hx hb d_H_mayStandInBody_13 rfl (fun c13 => ?_) (fun c13 => ?_)
  · skip
    rw [if_pos c13] at hf
    refine lv_iconst (v := 0) hx hb d_H_mayStandInBody_20 (by decide) ?_
    obtain ⟨rfl, rfl⟩ := gRt_e hf
    exact g_zret hx hb hr hlocks rfl hAe hS () rfl hP d_H_mayStandInBody_21
  rw [if_neg c13] at hf
  refine lv_iconst (v := 1) hx hb d_H_mayStandInBody_16 (by decide) ?_
  refine lv_goto (tgt := 21) hx hb d_H_mayStandInBody_17 rfl ?_
  obtain ⟨rfl, rfl⟩ := gRt_e hf
  exact g_zret hx hb hr hlocks rfl hAe hS () rfl hP d_H_mayStandInBody_21

def f_H_holdElement (σ : gS) (x1 : Int32) (x2 : Int32) (x3 : Int32) : Option (Int32 × gS) := gLd σ 21 533 x3 (fun y1 => if y1 = 14 then (some (1, σ)) else (gLd σ 21 533 x3 (fun y5 => if y5 = 9 then (gBd (f_H_numberIn σ x3) (fun y16 σ17 => gBd (f_G_setSlot σ17 x1 x2 1 y16.toInt32) (fun _ σ20 => some (1, σ20)))) else (gBd (f_H_referredBy σ x3) (fun y9 σ10 => if y9 = (-1) then (some (0, σ10)) else (gBd (f_G_setSlot σ10 x1 x2 2 y9) (fun _ σ14 => some (1, σ14))))))))
set_option maxHeartbeats 4000000 in
set_option maxRecDepth 100000 in
theorem m_H_holdElement {l : Launch} {X : va_G} {cI cC cZ : ClassId} {aK aV : Nat → Nat} {a : Nat → Nat} {σ σ' : gS} {r : Int32} {x1 : Int32} {x2 : Int32} {x3 : Int32} (hf : f_H_holdElement σ x1 x2 x3 = some (r, σ')) {sz : Nat} : Met l y_H_holdElement w_H_holdElement { frames := 4, cells := 0, slots := 0, locals := 91 } (gPc X vwCl (gT cI cC cZ) aK aV (cW cI cC cZ a σ) sz [.ref (a 33), .int x1, .int x2, .int x3]) (gQi X vwCl (cW cI cC cZ a σ) sz (fun r' (_ : Unit) => r' = r) (fun _ => cW cI cC cZ a σ')) 0 0 (va_A (cW cI cC cZ a σ) sz) := by
  refine g_met (cc := b_H_holdElement) (maxL := 5) (ret := (some .boolean)) (by decide) rfl (Nat.le_of_ble_eq_true rfl) ?_
  intro p e s m below meth c A ls hx hb hr hml hown hts hlocks hnm hsz hAe hA hP hK hD hS hl hE
  have hown : s.vm.findClass R_H = some m.cls := hown
  have u_0 : ∀ w ∈ u_ws R_H T_H 8, w ∈ w_H_holdElement := fun w h => List.mem_cons_of_mem _ (tu_H w h)
  have u_1 : ∀ w ∈ u_ws R_E T_E 14, w ∈ w_H_holdElement := fun w h => List.mem_cons_of_mem _ (tu_E w h)
  have k_0 := hts (.fieldLink R_H 32 "GraphPages$GraphReader" "elements" "LGraphPages$Elements;") (List.mem_cons_of_mem _ tb_130)
  have k_1 := hts (.fieldLink R_H 40 "GraphPages$Elements" "names" "[I") (List.mem_cons_of_mem _ tb_138)
  have k_2 := hts (.fieldLink R_H 36 "GraphPages$GraphReader" "graph" "LGraphPages$Graph;") (List.mem_cons_of_mem _ tb_186)
  unfold f_H_holdElement at hf
  refine lv_aload_n hx hb d_H_holdElement_0 rfl (lv_at hl 0 rfl) ?_
  refine va_get (D := X) (ci := 3) (C := R_H) (T := T_H) (N := 8) hx hb hts u_0 hown hK hP 33 gc_33 rfl 1 (by decide) k_0 (fun _ h9 => h9) rfl d_H_holdElement_1 ?_
  refine va_get (D := X) (ci := 0) (C := R_E) (T := T_E) (N := 14) hx hb hts u_1 hown hK hP 20 gc_20 rfl 1 (by decide) k_1 (fun _ h9 => h9) rfl d_H_holdElement_4 ?_
  refine lv_iload_n hx hb d_H_holdElement_7 rfl (lv_at hl 3 rfl) ?_
  obtain ⟨y1, h2, e3, hf⟩ := gLd_e hf
  refine va_iald hx hb hK hP 21 0 gc_21 rfl h2 d_H_holdElement_8 ?_
  rw [← e3]
  refine lv_bipush (v := 14) hx hb d_H_holdElement_9 (by decide) ?_
  refine lv_icmp_ne (tgt := 16) hx hb d_H_holdElement_11 rfl (fun c4 => ?_) (fun c4 => ?_)
  · skip
    rw [if_neg c4] at hf
    refine lv_aload_n hx hb d_H_holdElement_16 rfl (lv_at hl 0 rfl) ?_
    refine va_get (D := X) (ci := 3) (C := R_H) (T := T_H) (N := 8) hx hb hts u_0 hown hK hP 33 gc_33 rfl 1 (by decide) k_0 (fun _ h9 => h9) rfl d_H_holdElement_17 ?_
    refine va_get (D := X) (ci := 0) (C := R_E) (T := T_E) (N := 14) hx hb hts u_1 hown hK hP 20 gc_20 rfl 1 (by decide) k_1 (fun _ h9 => h9) rfl d_H_holdElement_20 ?_
    refine lv_iload_n hx hb d_H_holdElement_23 rfl (lv_at hl 3 rfl) ?_
    obtain ⟨y5, h6, e7, hf⟩ := gLd_e hf
    refine va_iald hx hb hK hP 21 0 gc_21 rfl h6 d_H_holdElement_24 ?_
    rw [← e7]
    refine lv_bipush (v := 9) hx hb d_H_holdElement_25 (by decide) ?_
    refine lv_icmp_ne (tgt := 48) hx hb d_H_holdElement_27 rfl (fun c8 => ?_) (fun c8 => ?_)
    · skip
      rw [if_neg c8] at hf
      refine lv_aload_n hx hb d_H_holdElement_48 rfl (lv_at hl 0 rfl) ?_
      refine lv_iload_n hx hb d_H_holdElement_49 rfl (lv_at hl 3 rfl) ?_
      obtain ⟨y9, σ10, e11, hf⟩ := gBd_e hf
      refine g_wi (va_runV ⟨hx, hb, hml, hown, hts⟩ (m_H_referredBy e11) (cwV 1 hts (gG4 (fun _ h => List.mem_cons_of_mem _ h) tb_196 tb_197 tb_198 tb_137 tc_H_referredBy) rfl rfl rfl (by decide +kernel) ⟨Nat.le_of_ble_eq_true rfl, Nat.le_of_ble_eq_true rfl⟩) (g_preVW (q0 := 33) hE hK hP hD hS hA gc_33 rfl) rfl rfl hl.1 rfl (lv_room (Nat.le_of_ble_eq_true rfl)) d_H_holdElement_50 ⟨Nat.zero_le _, Nat.zero_le _⟩) hD hS hA (fun _ => cW_fst) (fun y9 _ H locs hu hP hD hS => ?_)
      subst hu
      refine lv_istore hx hb d_H_holdElement_53 hl (by decide) rfl (fun ls hl => ?_)
      refine lv_iload hx hb d_H_holdElement_55 (lv_at hl 0 rfl) ?_
      refine lv_iconst (v := (-1)) hx hb d_H_holdElement_57 (by decide) ?_
      refine lv_icmp_ne (tgt := 63) hx hb d_H_holdElement_58 rfl (fun c12 => ?_) (fun c12 => ?_)
      · skip
        rw [if_neg c12] at hf
        refine lv_aload_n hx hb d_H_holdElement_63 rfl (lv_at hl 1 rfl) ?_
        refine va_get (D := X) (ci := 3) (C := R_H) (T := T_H) (N := 8) hx hb hts u_0 hown hK hP 33 gc_33 rfl 2 (by decide) k_2 (fun _ h9 => h9) rfl d_H_holdElement_64 ?_
        refine lv_iload_n hx hb d_H_holdElement_67 rfl (lv_at hl 2 rfl) ?_
        refine lv_iload_n hx hb d_H_holdElement_68 rfl (lv_at hl 3 rfl) ?_
        refine lv_iconst (v := 2) hx hb d_H_holdElement_69 (by decide) ?_
        refine lv_iload hx hb d_H_holdElement_70 (lv_at hl 0 rfl) ?_
        obtain ⟨y13, σ14, e15, hf⟩ := gBd_e hf
        refine g_wv (va_runV ⟨hx, hb, hml, hown, hts⟩ (m_G_setSlot e15) (cwV 4 hts (gG4 (fun _ h => List.mem_cons_of_mem _ h) tb_199 tb_122 tb_123 tb_116 tc_G_setSlot) rfl rfl rfl (by decide +kernel) ⟨Nat.le_of_ble_eq_true rfl, Nat.le_of_ble_eq_true rfl⟩) (g_preVW (q0 := 1) hE hK hP hD hS hA gc_1 rfl) rfl rfl hl.1 rfl (lv_room (Nat.le_of_ble_eq_true rfl)) d_H_holdElement_72 ⟨Nat.zero_le _, Nat.zero_le _⟩) hD hS hA (fun _ => cW_fst) (fun _ H locs _ hP hD hS => ?_)
        refine lv_iconst (v := 1) hx hb d_H_holdElement_75 (by decide) ?_
        obtain ⟨rfl, rfl⟩ := gRt_e hf
        exact g_zret hx hb hr hlocks rfl hAe hS () rfl hP d_H_holdElement_76
      rw [if_pos c12] at hf
      refine lv_iconst (v := 0) hx hb d_H_holdElement_61 (by decide) ?_
      obtain ⟨rfl, rfl⟩ := gRt_e hf
      exact g_zret hx hb hr hlocks rfl hAe hS () rfl hP d_H_holdElement_62
    rw [if_pos c8] at hf
    refine lv_aload_n hx hb d_H_holdElement_30 rfl (lv_at hl 0 rfl) ?_
    refine va_get (D := X) (ci := 3) (C := R_H) (T := T_H) (N := 8) hx hb hts u_0 hown hK hP 33 gc_33 rfl 2 (by decide) k_2 (fun _ h9 => h9) rfl d_H_holdElement_31 ?_
    refine lv_iload_n hx hb d_H_holdElement_34 rfl (lv_at hl 1 rfl) ?_
    refine lv_iload_n hx hb d_H_holdElement_35 rfl (lv_at hl 2 rfl) ?_
    refine lv_iconst (v := 1) hx hb d_H_holdElement_36 (by decide) ?_
    refine lv_aload_n hx hb d_H_holdElement_37 rfl (lv_at hl 0 rfl) ?_
    refine lv_iload_n hx hb d_H_holdElement_38 rfl (lv_at hl 3 rfl) ?_
    obtain ⟨y16, σ17, e18, hf⟩ := gBd_e hf
    refine g_wl (va_runV ⟨hx, hb, hml, hown, hts⟩ (m_H_numberIn e18) (cwV 1 hts (gG4 (fun _ h => List.mem_cons_of_mem _ h) tb_171 tb_172 tb_173 tb_137 tc_H_numberIn) rfl rfl rfl (by decide +kernel) ⟨Nat.le_of_ble_eq_true rfl, Nat.le_of_ble_eq_true rfl⟩) (g_preVW (q0 := 33) hE hK hP hD hS hA gc_33 rfl) rfl rfl hl.1 rfl (lv_room (Nat.le_of_ble_eq_true rfl)) d_H_holdElement_39 ⟨Nat.zero_le _, Nat.zero_le _⟩) hD hS hA (fun _ => cW_fst) (fun y16 _ H locs hu hP hD hS => ?_)
    subst hu
    refine lv_l2i hx hb d_H_holdElement_42 rfl ?_
    obtain ⟨y19, σ20, e21, hf⟩ := gBd_e hf
    refine g_wv (va_runV ⟨hx, hb, hml, hown, hts⟩ (m_G_setSlot e21) (cwV 4 hts (gG4 (fun _ h => List.mem_cons_of_mem _ h) tb_199 tb_122 tb_123 tb_116 tc_G_setSlot) rfl rfl rfl (by decide +kernel) ⟨Nat.le_of_ble_eq_true rfl, Nat.le_of_ble_eq_true rfl⟩) (g_preVW (q0 := 1) hE hK hP hD hS hA gc_1 rfl) rfl rfl hl.1 rfl (lv_room (Nat.le_of_ble_eq_true rfl)) d_H_holdElement_43 ⟨Nat.zero_le _, Nat.zero_le _⟩) hD hS hA (fun _ => cW_fst) (fun _ H locs _ hP hD hS => ?_)
    refine lv_iconst (v := 1) hx hb d_H_holdElement_46 (by decide) ?_
    obtain ⟨rfl, rfl⟩ := gRt_e hf
    exact g_zret hx hb hr hlocks rfl hAe hS () rfl hP d_H_holdElement_47
  rw [if_pos c4] at hf
  refine lv_iconst (v := 1) hx hb d_H_holdElement_14 (by decide) ?_
  obtain ⟨rfl, rfl⟩ := gRt_e hf
  exact g_zret hx hb hr hlocks rfl hAe hS () rfl hP d_H_holdElement_15

def B_H_fillSlot_0 (rec : Nat → List Int32 → gS → Option (Int32 × gS)) (x1 : Int32) (σ0 : gS) : Option (Int32 × gS) := gLd σ0 22 533 x1 (fun y1 => gLd σ0 34 533 y1 (fun y4 => if y4 = (-1) then (some (0, σ0)) else (gBd (f_E_findAttribute σ0 x1 47) (fun y8 σ9 => if y8 = (-1) then (gLd σ9 36 16 y4 (fun y15 => rec 1 [x1, y4, y15] σ9)) else (gBd (f_H_countIn σ9 x1 47) (fun y12 σ13 => rec 1 [x1, y4, y12] σ13))))))
def B_H_fillSlot_1 (rec : Nat → List Int32 → gS → Option (Int32 × gS)) (x1 : Int32) (x2 : Int32) (z0 : Int32) (σ0 : gS) : Option (Int32 × gS) := gLd σ0 3 16 x2 (fun y18 => if y18 ≤ z0 then (some (0, σ0)) else (gLd σ0 37 16 x2 (fun y22 => if ((y22 >>> (z0 &&& 31)) &&& 1) = 1 then (some (0, σ0)) else (gSt σ0 36 16 x2 (z0 + 1) (fun σ26 => gLd σ26 37 16 x2 (fun y29 => gSt σ26 37 16 x2 (y29 ||| (1 <<< (z0 &&& 31))) (fun σ32 => gBd (f_H_holdElement σ32 x2 z0 x1) (fun y35 σ36 => gNr .boolean y35 (some (y35, σ36))))))))))
def S_H_fillSlot (rec : Nat → List Int32 → gS → Option (Int32 × gS)) (k : Nat) (l : List Int32) (σ0 : gS) : Option (Int32 × gS) := match k, l with
  | 0, [x1] => B_H_fillSlot_0 rec x1 σ0
  | 1, [x1, x2, z0] => B_H_fillSlot_1 rec x1 x2 z0 σ0
  | _, _ => none
def R_H_fillSlot : Nat → Nat → List Int32 → gS → Option (Int32 × gS)
  | 0 => fun _ _ _ => none
  | t + 1 => fun k l σ0 => S_H_fillSlot (R_H_fillSlot t) k l σ0
def f_H_fillSlot (σ : gS) (x1 : Int32) : Option (Int32 × gS) := R_H_fillSlot gFuel 0 [x1] σ
set_option maxHeartbeats 4000000 in
set_option maxRecDepth 100000 in
theorem m_H_fillSlot {l : Launch} {X : va_G} {cI cC cZ : ClassId} {aK aV : Nat → Nat} {a : Nat → Nat} {σ σ' : gS} {r : Int32} {q1 : Int32} (hf : f_H_fillSlot σ q1 = some (r, σ')) {sz : Nat} : Met l y_H_fillSlot w_H_fillSlot { frames := 5, cells := 0, slots := 0, locals := 115 } (gPc X vwCl (gT cI cC cZ) aK aV (cW cI cC cZ a σ) sz [.ref (a 33), .int q1]) (gQi X vwCl (cW cI cC cZ a σ) sz (fun r' (_ : Unit) => r' = r) (fun _ => cW cI cC cZ a σ')) 0 0 (va_A (cW cI cC cZ a σ) sz) := by
  refine g_met (cc := b_H_fillSlot) (maxL := 4) (ret := (some .boolean)) (by decide) rfl (Nat.le_of_ble_eq_true rfl) ?_
  intro p e s m below meth c A ls hx hb hr hml hown hts hlocks hnm hsz hAe hA hP hK hD hS hl hE
  have hown : s.vm.findClass R_H = some m.cls := hown
  have u_0 : ∀ w ∈ u_ws R_H T_H 8, w ∈ w_H_fillSlot := fun w h => List.mem_cons_of_mem _ (tu_H w h)
  have u_1 : ∀ w ∈ u_ws R_E T_E 14, w ∈ w_H_fillSlot := fun w h => List.mem_cons_of_mem _ (tu_E w h)
  have u_2 : ∀ w ∈ u_ws R_G T_G 6, w ∈ w_H_fillSlot := fun w h => List.mem_cons_of_mem _ (tu_G w h)
  have k_0 := hts (.fieldLink R_H 15 "GraphPages$GraphReader" "objectsOfElements" "[I") (List.mem_cons_of_mem _ tb_188)
  have k_1 := hts (.fieldLink R_H 32 "GraphPages$GraphReader" "elements" "LGraphPages$Elements;") (List.mem_cons_of_mem _ tb_130)
  have k_2 := hts (.fieldLink R_H 51 "GraphPages$Elements" "parents" "[I") (List.mem_cons_of_mem _ tb_148)
  have k_3 := hts (.fieldLink R_H 22 "GraphPages$GraphReader" "nextSlots" "[I") (List.mem_cons_of_mem _ tb_181)
  have k_4 := hts (.fieldLink R_H 36 "GraphPages$GraphReader" "graph" "LGraphPages$Graph;") (List.mem_cons_of_mem _ tb_186)
  have k_5 := hts (.fieldLink R_H 165 "GraphPages$Graph" "sizes" "[I") (List.mem_cons_of_mem _ tb_203)
  have k_6 := hts (.fieldLink R_H 25 "GraphPages$GraphReader" "takenSlots" "[I") (List.mem_cons_of_mem _ tb_185)
  unfold f_H_fillSlot at hf
  have key : ∀ t : Nat, (∀ (x1 : Int32) (σ0 : gS) (H : Heap) (locs : List Loc) (ls : Array Slot), R_H_fillSlot t 0 [x1] σ0 = some (r, σ') → va_P X vwCl (cW cI cC cZ a σ0) H → va_D A (cW cI cC cZ a σ0) → va_S A s.heap H locs → lv_has ls 4 [(0, .ref (a 33)), (1, .int x1)] → W p l e (headSpec w_H_fillSlot { frames := 5, cells := 0, slots := 0, locals := 115 }).room s m [.ref (a 33), .int q1].toArray below meth c H locs 0 0 (MQ below (gQi X vwCl (cW cI cC cZ a σ) sz (fun r' (_ : Unit) => r' = r) (fun _ => cW cI cC cZ a σ')) [.ref (a 33), .int q1].toArray s 0 0 (va_A (cW cI cC cZ a σ) sz)) (F0 m 0 ls [])) ∧ (∀ (x1 : Int32) (x2 : Int32) (z0 : Int32) (σ0 : gS) (H : Heap) (locs : List Loc) (ls : Array Slot), R_H_fillSlot t 1 [x1, x2, z0] σ0 = some (r, σ') → va_P X vwCl (cW cI cC cZ a σ0) H → va_D A (cW cI cC cZ a σ0) → va_S A s.heap H locs → lv_has ls 4 [(0, .ref (a 33)), (1, .int x1), (2, .int x2)] → W p l e (headSpec w_H_fillSlot { frames := 5, cells := 0, slots := 0, locals := 115 }).room s m [.ref (a 33), .int q1].toArray below meth c H locs 0 0 (MQ below (gQi X vwCl (cW cI cC cZ a σ) sz (fun r' (_ : Unit) => r' = r) (fun _ => cW cI cC cZ a σ')) [.ref (a 33), .int q1].toArray s 0 0 (va_A (cW cI cC cZ a σ) sz)) (F0 m 52 ls [.int z0])) := by
    intro t
    induction t with
    | zero => exact ⟨fun _ _ _ _ _ hf => (by have hf : (none : Option (Int32 × gS)) = some (r, σ') := hf; cases hf), fun _ _ _ _ _ _ _ hf => (by have hf : (none : Option (Int32 × gS)) = some (r, σ') := hf; cases hf)⟩
    | succ t ih =>
      obtain ⟨ih0, ih1⟩ := ih
      refine ⟨?_, ?_⟩
      · intro x1 σ0 H locs ls hf hP hD hS hl
        have hf : B_H_fillSlot_0 (R_H_fillSlot t) x1 σ0 = some (r, σ') := hf
        unfold B_H_fillSlot_0 at hf
        refine lv_aload_n hx hb d_H_fillSlot_0 rfl (lv_at hl 0 rfl) ?_
        refine va_get (D := X) (ci := 3) (C := R_H) (T := T_H) (N := 8) hx hb hts u_0 hown hK hP 33 gc_33 rfl 3 (by decide) k_0 (fun _ h9 => h9) rfl d_H_fillSlot_1 ?_
        refine lv_aload_n hx hb d_H_fillSlot_4 rfl (lv_at hl 0 rfl) ?_
        refine va_get (D := X) (ci := 3) (C := R_H) (T := T_H) (N := 8) hx hb hts u_0 hown hK hP 33 gc_33 rfl 1 (by decide) k_1 (fun _ h9 => h9) rfl d_H_fillSlot_5 ?_
        refine va_get (D := X) (ci := 0) (C := R_E) (T := T_E) (N := 14) hx hb hts u_1 hown hK hP 20 gc_20 rfl 2 (by decide) k_2 (fun _ h9 => h9) rfl d_H_fillSlot_8 ?_
        refine lv_iload_n hx hb d_H_fillSlot_11 rfl (lv_at hl 1 rfl) ?_
        obtain ⟨y1, h2, e3, hf⟩ := gLd_e hf
        refine va_iald hx hb hK hP 22 0 gc_22 rfl h2 d_H_fillSlot_12 ?_
        rw [← e3]
        obtain ⟨y4, h5, e6, hf⟩ := gLd_e hf
        refine va_iald hx hb hK hP 34 0 gc_34 rfl h5 d_H_fillSlot_13 ?_
        rw [← e6]
        refine lv_istore_n hx hb d_H_fillSlot_14 rfl hl (by decide) rfl (fun ls hl => ?_)
        refine lv_iload_n hx hb d_H_fillSlot_15 rfl (lv_at hl 0 rfl) ?_
        refine lv_iconst (v := (-1)) hx hb d_H_fillSlot_16 (by decide) ?_
        refine lv_icmp_ne (tgt := 22) hx hb d_H_fillSlot_17 rfl (fun c7 => ?_) (fun c7 => ?_)
        · skip
          rw [if_neg c7] at hf
          refine lv_aload_n hx hb d_H_fillSlot_22 rfl (lv_at hl 1 rfl) ?_
          refine va_get (D := X) (ci := 3) (C := R_H) (T := T_H) (N := 8) hx hb hts u_0 hown hK hP 33 gc_33 rfl 1 (by decide) k_1 (fun _ h9 => h9) rfl d_H_fillSlot_23 ?_
          refine lv_iload_n hx hb d_H_fillSlot_26 rfl (lv_at hl 2 rfl) ?_
          refine lv_bipush (v := 47) hx hb d_H_fillSlot_27 (by decide) ?_
          obtain ⟨y8, σ9, e10, hf⟩ := gBd_e hf
          refine g_wi (va_runV ⟨hx, hb, hml, hown, hts⟩ (m_E_findAttribute e10) (cwV 2 hts (gG4 (fun _ h => List.mem_cons_of_mem _ h) tb_128 tb_49 tb_50 tb_51 tc_E_findAttribute) rfl rfl rfl (by decide +kernel) ⟨Nat.le_of_ble_eq_true rfl, Nat.le_of_ble_eq_true rfl⟩) (g_preVW (q0 := 20) hE hK hP hD hS hA gc_20 rfl) rfl rfl hl.1 rfl (lv_room (Nat.le_of_ble_eq_true rfl)) d_H_fillSlot_29 ⟨Nat.zero_le _, Nat.zero_le _⟩) hD hS hA (fun _ => cW_fst) (fun y8 _ H locs hu hP hD hS => ?_)
          subst hu
          refine lv_iconst (v := (-1)) hx hb d_H_fillSlot_32 (by decide) ?_
          refine lv_icmp_ne (tgt := 45) hx hb d_H_fillSlot_33 rfl (fun c11 => ?_) (fun c11 => ?_)
          · skip
            rw [if_neg c11] at hf
            refine lv_aload_n hx hb d_H_fillSlot_45 rfl (lv_at hl 1 rfl) ?_
            refine lv_iload_n hx hb d_H_fillSlot_46 rfl (lv_at hl 2 rfl) ?_
            refine lv_bipush (v := 47) hx hb d_H_fillSlot_47 (by decide) ?_
            obtain ⟨y12, σ13, e14, hf⟩ := gBd_e hf
            refine g_wi (va_runV ⟨hx, hb, hml, hown, hts⟩ (m_H_countIn e14) (cwV 2 hts (gG4 (fun _ h => List.mem_cons_of_mem _ h) tb_142 tb_143 tb_144 tb_137 tc_H_countIn) rfl rfl rfl (by decide +kernel) ⟨Nat.le_of_ble_eq_true rfl, Nat.le_of_ble_eq_true rfl⟩) (g_preVW (q0 := 33) hE hK hP hD hS hA gc_33 rfl) rfl rfl hl.1 rfl (lv_room (Nat.le_of_ble_eq_true rfl)) d_H_fillSlot_49 ⟨Nat.zero_le _, Nat.zero_le _⟩) hD hS hA (fun _ => cW_fst) (fun y12 _ H locs hu hP hD hS => ?_)
            subst hu
            exact ih1 (x1) (y4) (y12) σ13 _ _ _ hf hP hD hS (lv_sub hl [1, 2, 0] rfl)
          rw [if_pos c11] at hf
          refine lv_aload_n hx hb d_H_fillSlot_36 rfl (lv_at hl 1 rfl) ?_
          refine va_get (D := X) (ci := 3) (C := R_H) (T := T_H) (N := 8) hx hb hts u_0 hown hK hP 33 gc_33 rfl 5 (by decide) k_3 (fun _ h9 => h9) rfl d_H_fillSlot_37 ?_
          refine lv_iload_n hx hb d_H_fillSlot_40 rfl (lv_at hl 0 rfl) ?_
          obtain ⟨y15, h16, e17, hf⟩ := gLd_e hf
          refine va_iald hx hb hK hP 36 0 gc_36 rfl h16 d_H_fillSlot_41 ?_
          rw [← e17]
          refine lv_goto (tgt := 52) hx hb d_H_fillSlot_42 rfl ?_
          exact ih1 (x1) (y4) (y15) σ9 _ _ _ hf hP hD hS (lv_sub hl [1, 2, 0] rfl)
        rw [if_pos c7] at hf
        refine lv_iconst (v := 0) hx hb d_H_fillSlot_20 (by decide) ?_
        obtain ⟨rfl, rfl⟩ := gRt_e hf
        exact g_zret hx hb hr hlocks rfl hAe hS () rfl hP d_H_fillSlot_21
      · intro x1 x2 z0 σ0 H locs ls hf hP hD hS hl
        have hf : B_H_fillSlot_1 (R_H_fillSlot t) x1 x2 z0 σ0 = some (r, σ') := hf
        unfold B_H_fillSlot_1 at hf
        refine lv_istore_n hx hb d_H_fillSlot_52 rfl hl (by decide) rfl (fun ls hl => ?_)
        refine lv_iload_n hx hb d_H_fillSlot_53 rfl (lv_at hl 0 rfl) ?_
        refine lv_aload_n hx hb d_H_fillSlot_54 rfl (lv_at hl 1 rfl) ?_
        refine va_get (D := X) (ci := 3) (C := R_H) (T := T_H) (N := 8) hx hb hts u_0 hown hK hP 33 gc_33 rfl 2 (by decide) k_4 (fun _ h9 => h9) rfl d_H_fillSlot_55 ?_
        refine va_get (D := X) (ci := 2) (C := R_G) (T := T_G) (N := 6) hx hb hts u_2 hown hK hP 1 gc_1 rfl 2 (by decide) k_5 (fun _ h9 => h9) rfl d_H_fillSlot_58 ?_
        refine lv_iload_n hx hb d_H_fillSlot_61 rfl (lv_at hl 3 rfl) ?_
        obtain ⟨y18, h19, e20, hf⟩ := gLd_e hf
        refine va_iald hx hb hK hP 3 0 gc_3 rfl h19 d_H_fillSlot_62 ?_
        rw [← e20]
        refine lv_icmp_ge (tgt := 80) hx hb d_H_fillSlot_63 rfl (fun c21 => ?_) (fun c21 => ?_)
        · skip
          rw [if_pos c21] at hf
          refine lv_iconst (v := 0) hx hb d_H_fillSlot_80 (by decide) ?_
          obtain ⟨rfl, rfl⟩ := gRt_e hf
          exact g_zret hx hb hr hlocks rfl hAe hS () rfl hP d_H_fillSlot_81
        rw [if_neg c21] at hf
        refine lv_aload_n hx hb d_H_fillSlot_66 rfl (lv_at hl 1 rfl) ?_
        refine va_get (D := X) (ci := 3) (C := R_H) (T := T_H) (N := 8) hx hb hts u_0 hown hK hP 33 gc_33 rfl 6 (by decide) k_6 (fun _ h9 => h9) rfl d_H_fillSlot_67 ?_
        refine lv_iload_n hx hb d_H_fillSlot_70 rfl (lv_at hl 3 rfl) ?_
        obtain ⟨y22, h23, e24, hf⟩ := gLd_e hf
        refine va_iald hx hb hK hP 37 0 gc_37 rfl h23 d_H_fillSlot_71 ?_
        rw [← e24]
        refine lv_iload_n hx hb d_H_fillSlot_72 rfl (lv_at hl 0 rfl) ?_
        refine lv_ishr hx hb d_H_fillSlot_73 ?_
        refine lv_iconst (v := 1) hx hb d_H_fillSlot_74 (by decide) ?_
        refine lv_iand hx hb d_H_fillSlot_75 ?_
        refine lv_iconst (v := 1) hx hb d_H_fillSlot_76 (by decide) ?_
        refine lv_icmp_ne (tgt := 82) hx hb d_H_fillSlot_77 rfl (fun c25 => ?_) (fun c25 => ?_)
        · skip
          rw [if_neg c25] at hf
          refine lv_aload_n hx hb d_H_fillSlot_82 rfl (lv_at hl 1 rfl) ?_
          refine va_get (D := X) (ci := 3) (C := R_H) (T := T_H) (N := 8) hx hb hts u_0 hown hK hP 33 gc_33 rfl 5 (by decide) k_3 (fun _ h9 => h9) rfl d_H_fillSlot_83 ?_
          refine lv_iload_n hx hb d_H_fillSlot_86 rfl (lv_at hl 3 rfl) ?_
          refine lv_iload_n hx hb d_H_fillSlot_87 rfl (lv_at hl 0 rfl) ?_
          refine lv_iconst (v := 1) hx hb d_H_fillSlot_88 (by decide) ?_
          refine lv_iadd hx hb d_H_fillSlot_89 ?_
          obtain ⟨σ26, h27, e28, hf⟩ := gSt_e hf
          refine va_iast hx hb hK hP hD hS 36 0 gc_36 rfl h27 d_H_fillSlot_90 (fun H locs hP hD hS => ?_)
          rw [sc_36, ← e28] at hP hD
          refine lv_aload_n hx hb d_H_fillSlot_91 rfl (lv_at hl 1 rfl) ?_
          refine va_get (D := X) (ci := 3) (C := R_H) (T := T_H) (N := 8) hx hb hts u_0 hown hK hP 33 gc_33 rfl 6 (by decide) k_6 (fun _ h9 => h9) rfl d_H_fillSlot_92 ?_
          refine lv_iload_n hx hb d_H_fillSlot_95 rfl (lv_at hl 3 rfl) ?_
          refine lv_dup2_11 hx hb d_H_fillSlot_96 rfl rfl ?_
          obtain ⟨y29, h30, e31, hf⟩ := gLd_e hf
          refine va_iald hx hb hK hP 37 0 gc_37 rfl h30 d_H_fillSlot_97 ?_
          rw [← e31]
          refine lv_iconst (v := 1) hx hb d_H_fillSlot_98 (by decide) ?_
          refine lv_iload_n hx hb d_H_fillSlot_99 rfl (lv_at hl 0 rfl) ?_
          refine lv_ishl hx hb d_H_fillSlot_100 ?_
          refine lv_ior hx hb d_H_fillSlot_101 ?_
          obtain ⟨σ32, h33, e34, hf⟩ := gSt_e hf
          refine va_iast hx hb hK hP hD hS 37 0 gc_37 rfl h33 d_H_fillSlot_102 (fun H locs hP hD hS => ?_)
          rw [sc_37, ← e34] at hP hD
          refine lv_aload_n hx hb d_H_fillSlot_103 rfl (lv_at hl 1 rfl) ?_
          refine lv_iload_n hx hb d_H_fillSlot_104 rfl (lv_at hl 3 rfl) ?_
          refine lv_iload_n hx hb d_H_fillSlot_105 rfl (lv_at hl 0 rfl) ?_
          refine lv_iload_n hx hb d_H_fillSlot_106 rfl (lv_at hl 2 rfl) ?_
          obtain ⟨y35, σ36, e37, hf⟩ := gBd_e hf
          refine g_wi (va_runV ⟨hx, hb, hml, hown, hts⟩ (m_H_holdElement e37) (cwV 3 hts (gG4 (fun _ h => List.mem_cons_of_mem _ h) tb_200 tb_201 tb_202 tb_137 tc_H_holdElement) rfl rfl rfl (by decide +kernel) ⟨Nat.le_of_ble_eq_true rfl, Nat.le_of_ble_eq_true rfl⟩) (g_preVW (q0 := 33) hE hK hP hD hS hA gc_33 rfl) rfl rfl hl.1 rfl (lv_room (Nat.le_of_ble_eq_true rfl)) d_H_fillSlot_107 ⟨Nat.zero_le _, Nat.zero_le _⟩) hD hS hA (fun _ => cW_fst) (fun y35 _ H locs hu hP hD hS => ?_)
          subst hu
          obtain ⟨h38, hf⟩ := gNr_e hf
          obtain ⟨rfl, rfl⟩ := gRt_e hf
          exact g_zret hx hb hr hlocks h38 hAe hS () rfl hP d_H_fillSlot_110
        rw [if_pos c25] at hf
        refine lv_iconst (v := 0) hx hb d_H_fillSlot_80 (by decide) ?_
        obtain ⟨rfl, rfl⟩ := gRt_e hf
        exact g_zret hx hb hr hlocks rfl hAe hS () rfl hP d_H_fillSlot_81
  exact (key gFuel).1 q1 σ _ _ _ hf hP hD hS hl

def B_H_readGraph_0 (rec : Nat → List Int32 → gS → Option (Int32 × gS)) (σ0 : gS) : Option (Int32 × gS) := gBd (f_H_findBody σ0) (fun y1 σ2 => if y1 = (-1) then (some ((-1), σ2)) else (gBd (f_H_isSoundBody σ2 y1) (fun y5 σ6 => if y5 = 0 then (some ((-1), σ6)) else (gBd (f_J_fill_GI σ6 (-1)) (fun _ σ10 => gPut σ10 11 (σ10.1 0) (fun σ12 => rec 1 [y1, (y1 + 1)] σ12))))))
def B_H_readGraph_1 (rec : Nat → List Int32 → gS → Option (Int32 × gS)) (x1 : Int32) (x2 : Int32) (σ0 : gS) : Option (Int32 × gS) := if (σ0.1 5) ≤ x2 then (rec 2 [x1, (x1 + 1)] σ0) else (gBd (f_H_isSound σ0 x2) (fun y15 σ16 => if y15 = 0 then (some ((-1), σ16)) else (gBd (f_H_numberObject σ16 x2) (fun y19 σ20 => if y19 = 0 then (some ((-1), σ20)) else (rec 1 [x1, (x2 + 1)] σ20)))))
def B_H_readGraph_2 (rec : Nat → List Int32 → gS → Option (Int32 × gS)) (x1 : Int32) (x2 : Int32) (σ0 : gS) : Option (Int32 × gS) := if (σ0.1 5) ≤ x2 then (gPut σ0 0 (σ0.1 11) (fun σ24 => gBd (f_H_referredBy σ24 (x1 + 1)) (fun y26 σ27 => some (y26, σ27)))) else (gLd σ0 22 533 x2 (fun y29 => if y29 = x1 then (gBd (f_H_mayStandInBody σ0 x2 x1) (fun y36 σ37 => rec 3 [x1, x2, y36] σ37)) else (gBd (f_H_fillSlot σ0 x2) (fun y33 σ34 => rec 3 [x1, x2, y33] σ34))))
def B_H_readGraph_3 (rec : Nat → List Int32 → gS → Option (Int32 × gS)) (x1 : Int32) (x2 : Int32) (z0 : Int32) (σ0 : gS) : Option (Int32 × gS) := if z0 = 0 then (some ((-1), σ0)) else (rec 2 [x1, (x2 + 1)] σ0)
def S_H_readGraph (rec : Nat → List Int32 → gS → Option (Int32 × gS)) (k : Nat) (l : List Int32) (σ0 : gS) : Option (Int32 × gS) := match k, l with
  | 0, [] => B_H_readGraph_0 rec  σ0
  | 1, [x1, x2] => B_H_readGraph_1 rec x1 x2 σ0
  | 2, [x1, x2] => B_H_readGraph_2 rec x1 x2 σ0
  | 3, [x1, x2, z0] => B_H_readGraph_3 rec x1 x2 z0 σ0
  | _, _ => none
def R_H_readGraph : Nat → Nat → List Int32 → gS → Option (Int32 × gS)
  | 0 => fun _ _ _ => none
  | t + 1 => fun k l σ0 => S_H_readGraph (R_H_readGraph t) k l σ0
def f_H_readGraph (σ : gS) : Option (Int32 × gS) := R_H_readGraph gFuel 0 [] σ
set_option maxHeartbeats 4000000 in
set_option maxRecDepth 100000 in
theorem m_H_readGraph {l : Launch} {X : va_G} {cI cC cZ : ClassId} {aK aV : Nat → Nat} {a : Nat → Nat} {σ σ' : gS} {r : Int32} (hf : f_H_readGraph σ = some (r, σ')) {sz : Nat} : Met l y_H_readGraph w_H_readGraph { frames := 6, cells := 0, slots := 0, locals := 138 } (gPc X vwCl (gT cI cC cZ) aK aV (cW cI cC cZ a σ) sz [.ref (a 33)]) (gQi X vwCl (cW cI cC cZ a σ) sz (fun r' (_ : Unit) => r' = r) (fun _ => cW cI cC cZ a σ')) 0 0 (va_A (cW cI cC cZ a σ) sz) := by
  refine g_met (cc := b_H_readGraph) (maxL := 4) (ret := (some .int)) (by decide) rfl (Nat.le_of_ble_eq_true rfl) ?_
  intro p e s m below meth c A ls hx hb hr hml hown hts hlocks hnm hsz hAe hA hP hK hD hS hl hE
  have hown : s.vm.findClass R_H = some m.cls := hown
  have u_0 : ∀ w ∈ u_ws R_H T_H 8, w ∈ w_H_readGraph := fun w h => List.mem_cons_of_mem _ (tu_H w h)
  have u_1 : ∀ w ∈ u_ws R_G T_G 6, w ∈ w_H_readGraph := fun w h => List.mem_cons_of_mem _ (tu_G w h)
  have u_2 : ∀ w ∈ u_ws R_E T_E 14, w ∈ w_H_readGraph := fun w h => List.mem_cons_of_mem _ (tu_E w h)
  have k_0 := hts (.fieldLink R_H 19 "GraphPages$GraphReader" "objectsOfIds" "[I") (List.mem_cons_of_mem _ tb_187)
  have k_1 := hts (.initialized R_J) (List.mem_cons_of_mem _ tb_222)
  have k_2 := hts (.methodLink R_H 70 y_J_fill) (List.mem_cons_of_mem _ tb_223)
  have k_3 := hts (.static y_J_fill) (List.mem_cons_of_mem _ tb_224)
  have k_4 := hts (.fieldLink R_H 36 "GraphPages$GraphReader" "graph" "LGraphPages$Graph;") (List.mem_cons_of_mem _ tb_186)
  have k_5 := hts (.fieldLink R_H 76 "GraphPages$Graph" "count" "I") (List.mem_cons_of_mem _ tb_225)
  have k_6 := hts (.fieldLink R_H 79 "GraphPages$GraphReader" "count" "I") (List.mem_cons_of_mem _ tb_195)
  have k_7 := hts (.fieldLink R_H 32 "GraphPages$GraphReader" "elements" "LGraphPages$Elements;") (List.mem_cons_of_mem _ tb_130)
  have k_8 := hts (.fieldLink R_H 47 "GraphPages$Elements" "count" "I") (List.mem_cons_of_mem _ tb_147)
  have k_9 := hts (.fieldLink R_H 51 "GraphPages$Elements" "parents" "[I") (List.mem_cons_of_mem _ tb_148)
  unfold f_H_readGraph at hf
  have key : ∀ t : Nat, (∀ (σ0 : gS) (H : Heap) (locs : List Loc) (ls : Array Slot), R_H_readGraph t 0 [] σ0 = some (r, σ') → va_P X vwCl (cW cI cC cZ a σ0) H → va_D A (cW cI cC cZ a σ0) → va_S A s.heap H locs → lv_has ls 4 [(0, .ref (a 33))] → W p l e (headSpec w_H_readGraph { frames := 6, cells := 0, slots := 0, locals := 138 }).room s m [.ref (a 33)].toArray below meth c H locs 0 0 (MQ below (gQi X vwCl (cW cI cC cZ a σ) sz (fun r' (_ : Unit) => r' = r) (fun _ => cW cI cC cZ a σ')) [.ref (a 33)].toArray s 0 0 (va_A (cW cI cC cZ a σ) sz)) (F0 m 0 ls [])) ∧ (∀ (x1 : Int32) (x2 : Int32) (σ0 : gS) (H : Heap) (locs : List Loc) (ls : Array Slot), R_H_readGraph t 1 [x1, x2] σ0 = some (r, σ') → va_P X vwCl (cW cI cC cZ a σ0) H → va_D A (cW cI cC cZ a σ0) → va_S A s.heap H locs → lv_has ls 4 [(0, .ref (a 33)), (1, .int x1), (2, .int x2)] → W p l e (headSpec w_H_readGraph { frames := 6, cells := 0, slots := 0, locals := 138 }).room s m [.ref (a 33)].toArray below meth c H locs 0 0 (MQ below (gQi X vwCl (cW cI cC cZ a σ) sz (fun r' (_ : Unit) => r' = r) (fun _ => cW cI cC cZ a σ')) [.ref (a 33)].toArray s 0 0 (va_A (cW cI cC cZ a σ) sz)) (F0 m 43 ls [])) ∧ (∀ (x1 : Int32) (x2 : Int32) (σ0 : gS) (H : Heap) (locs : List Loc) (ls : Array Slot), R_H_readGraph t 2 [x1, x2] σ0 = some (r, σ') → va_P X vwCl (cW cI cC cZ a σ0) H → va_D A (cW cI cC cZ a σ0) → va_S A s.heap H locs → lv_has ls 4 [(0, .ref (a 33)), (1, .int x1), (2, .int x2)] → W p l e (headSpec w_H_readGraph { frames := 6, cells := 0, slots := 0, locals := 138 }).room s m [.ref (a 33)].toArray below meth c H locs 0 0 (MQ below (gQi X vwCl (cW cI cC cZ a σ) sz (fun r' (_ : Unit) => r' = r) (fun _ => cW cI cC cZ a σ')) [.ref (a 33)].toArray s 0 0 (va_A (cW cI cC cZ a σ) sz)) (F0 m 82 ls [])) ∧ (∀ (x1 : Int32) (x2 : Int32) (z0 : Int32) (σ0 : gS) (H : Heap) (locs : List Loc) (ls : Array Slot), R_H_readGraph t 3 [x1, x2, z0] σ0 = some (r, σ') → va_P X vwCl (cW cI cC cZ a σ0) H → va_D A (cW cI cC cZ a σ0) → va_S A s.heap H locs → lv_has ls 4 [(0, .ref (a 33)), (1, .int x1), (2, .int x2)] → W p l e (headSpec w_H_readGraph { frames := 6, cells := 0, slots := 0, locals := 138 }).room s m [.ref (a 33)].toArray below meth c H locs 0 0 (MQ below (gQi X vwCl (cW cI cC cZ a σ) sz (fun r' (_ : Unit) => r' = r) (fun _ => cW cI cC cZ a σ')) [.ref (a 33)].toArray s 0 0 (va_A (cW cI cC cZ a σ) sz)) (F0 m 120 ls [.int z0])) := by
    intro t
    induction t with
    | zero => exact ⟨fun  _ _ _ _ hf => (by have hf : (none : Option (Int32 × gS)) = some (r, σ') := hf; cases hf), fun _ _ _ _ _ _ hf => (by have hf : (none : Option (Int32 × gS)) = some (r, σ') := hf; cases hf), fun _ _ _ _ _ _ hf => (by have hf : (none : Option (Int32 × gS)) = some (r, σ') := hf; cases hf), fun _ _ _ _ _ _ _ hf => (by have hf : (none : Option (Int32 × gS)) = some (r, σ') := hf; cases hf)⟩
    | succ t ih =>
      obtain ⟨ih0, ih1, ih2, ih3⟩ := ih
      refine ⟨?_, ?_, ?_, ?_⟩
      · intro  σ0 H locs ls hf hP hD hS hl
        have hf : B_H_readGraph_0 (R_H_readGraph t)  σ0 = some (r, σ') := hf
        unfold B_H_readGraph_0 at hf
        refine lv_aload_n hx hb d_H_readGraph_0 rfl (lv_at hl 0 rfl) ?_
        obtain ⟨y1, σ2, e3, hf⟩ := gBd_e hf
        refine g_wi (va_runV ⟨hx, hb, hml, hown, hts⟩ (m_H_findBody e3) (cwV 0 hts (gG4 (fun _ h => List.mem_cons_of_mem _ h) tb_204 tb_205 tb_206 tb_137 tc_H_findBody) rfl rfl rfl (by decide +kernel) ⟨Nat.le_of_ble_eq_true rfl, Nat.le_of_ble_eq_true rfl⟩) (g_preVW (q0 := 33) hE hK hP hD hS hA gc_33 rfl) rfl rfl hl.1 rfl (lv_room (Nat.le_of_ble_eq_true rfl)) d_H_readGraph_1 ⟨Nat.zero_le _, Nat.zero_le _⟩) hD hS hA (fun _ => cW_fst) (fun y1 _ H locs hu hP hD hS => ?_)
        subst hu
        refine lv_istore_n hx hb d_H_readGraph_4 rfl hl (by decide) rfl (fun ls hl => ?_)
        refine lv_iload_n hx hb d_H_readGraph_5 rfl (lv_at hl 0 rfl) ?_
        refine lv_iconst (v := (-1)) hx hb d_H_readGraph_6 (by decide) ?_
        refine lv_icmp_eq (tgt := 18) hx hb d_H_readGraph_7 rfl (fun c4 => ?_) (fun c4 => ?_)
        · skip
          rw [if_pos c4] at hf
          refine lv_iconst (v := (-1)) hx hb d_H_readGraph_18 (by decide) ?_
          obtain ⟨rfl, rfl⟩ := gRt_e hf
          exact g_zret hx hb hr hlocks rfl hAe hS () rfl hP d_H_readGraph_19
        rw [if_neg c4] at hf
        refine lv_aload_n hx hb d_H_readGraph_10 rfl (lv_at hl 1 rfl) ?_
        refine lv_iload_n hx hb d_H_readGraph_11 rfl (lv_at hl 0 rfl) ?_
        obtain ⟨y5, σ6, e7, hf⟩ := gBd_e hf
        refine g_wi (va_runV ⟨hx, hb, hml, hown, hts⟩ (m_H_isSoundBody e7) (cwV 1 hts (gG4 (fun _ h => List.mem_cons_of_mem _ h) tb_207 tb_208 tb_209 tb_137 tc_H_isSoundBody) rfl rfl rfl (by decide +kernel) ⟨Nat.le_of_ble_eq_true rfl, Nat.le_of_ble_eq_true rfl⟩) (g_preVW (q0 := 33) hE hK hP hD hS hA gc_33 rfl) rfl rfl hl.1 rfl (lv_room (Nat.le_of_ble_eq_true rfl)) d_H_readGraph_12 ⟨Nat.zero_le _, Nat.zero_le _⟩) hD hS hA (fun _ => cW_fst) (fun y5 _ H locs hu hP hD hS => ?_)
        subst hu
        refine lv_if_ne (tgt := 20) hx hb d_H_readGraph_15 rfl (fun c8 => ?_) (fun c8 => ?_)
        · skip
          rw [if_neg c8] at hf
          refine lv_aload_n hx hb d_H_readGraph_20 rfl (lv_at hl 1 rfl) ?_
          refine va_get (D := X) (ci := 3) (C := R_H) (T := T_H) (N := 8) hx hb hts u_0 hown hK hP 33 gc_33 rfl 4 (by decide) k_0 (fun _ h9 => h9) rfl d_H_readGraph_21 ?_
          refine lv_iconst (v := (-1)) hx hb d_H_readGraph_24 (by decide) ?_
          obtain ⟨y9, σ10, e11, hf⟩ := gBd_e hf
          refine g_wv (va_runS ⟨hx, hb, hml, hown, hts⟩ (m_J_fill_GI e11) ⟨callB_of 2 hts (gG (fun _ h => List.mem_cons_of_mem _ h) tc_J_fill) rfl rfl rfl k_1 k_2 (by decide +kernel) ⟨Nat.le_of_ble_eq_true rfl, Nat.le_of_ble_eq_true rfl⟩, k_3⟩ (g_preSW hE hK hP hD hS hA) rfl rfl hl.1 rfl (lv_room (Nat.le_of_ble_eq_true rfl)) d_H_readGraph_25 ⟨Nat.zero_le _, Nat.zero_le _⟩) hD hS hA (fun _ => cW_fst) (fun _ H locs _ hP hD hS => ?_)
          refine lv_aload_n hx hb d_H_readGraph_28 rfl (lv_at hl 1 rfl) ?_
          refine lv_aload_n hx hb d_H_readGraph_29 rfl (lv_at hl 1 rfl) ?_
          refine va_get (D := X) (ci := 3) (C := R_H) (T := T_H) (N := 8) hx hb hts u_0 hown hK hP 33 gc_33 rfl 2 (by decide) k_4 (fun _ h9 => h9) rfl d_H_readGraph_30 ?_
          refine va_get (D := X) (ci := 2) (C := R_G) (T := T_G) (N := 6) hx hb hts u_1 hown hK hP 1 gc_1 rfl 0 (by decide) k_5 (fun _ h9 => h9) rfl d_H_readGraph_33 ?_
          obtain ⟨σ12, e13, hf⟩ := gPut_e hf
          refine va_put (D := X) (ci := 3) (ty := .int) (C := R_H) (T := T_H) (N := 8) hx hb hts u_0 t_H t_H_ok n_H hown hK hP hD hS 33 gc_33 rfl 7 (by decide) k_6 (fun _ h9 => h9) rfl (by decide +kernel) rfl rfl (Nat.le_of_ble_eq_true rfl) d_H_readGraph_36 (fun H locs hP hD hS => ?_)
          rw [sc_33_7, ← e13] at hP hD
          refine lv_iload_n hx hb d_H_readGraph_39 rfl (lv_at hl 0 rfl) ?_
          refine lv_iconst (v := 1) hx hb d_H_readGraph_40 (by decide) ?_
          refine lv_iadd hx hb d_H_readGraph_41 ?_
          refine lv_istore_n hx hb d_H_readGraph_42 rfl hl (by decide) rfl (fun ls hl => ?_)
          exact ih1 (y1) ((y1 + 1)) σ12 _ _ _ hf hP hD hS (lv_sub hl [2, 1, 0] rfl)
        rw [if_pos c8] at hf
        refine lv_iconst (v := (-1)) hx hb d_H_readGraph_18 (by decide) ?_
        obtain ⟨rfl, rfl⟩ := gRt_e hf
        exact g_zret hx hb hr hlocks rfl hAe hS () rfl hP d_H_readGraph_19
      · intro x1 x2 σ0 H locs ls hf hP hD hS hl
        have hf : B_H_readGraph_1 (R_H_readGraph t) x1 x2 σ0 = some (r, σ') := hf
        unfold B_H_readGraph_1 at hf
        refine lv_iload_n hx hb d_H_readGraph_43 rfl (lv_at hl 2 rfl) ?_
        refine lv_aload_n hx hb d_H_readGraph_44 rfl (lv_at hl 0 rfl) ?_
        refine va_get (D := X) (ci := 3) (C := R_H) (T := T_H) (N := 8) hx hb hts u_0 hown hK hP 33 gc_33 rfl 1 (by decide) k_7 (fun _ h9 => h9) rfl d_H_readGraph_45 ?_
        refine va_get (D := X) (ci := 0) (C := R_E) (T := T_E) (N := 14) hx hb hts u_2 hown hK hP 20 gc_20 rfl 0 (by decide) k_8 (fun _ h9 => h9) rfl d_H_readGraph_48 ?_
        refine lv_icmp_ge (tgt := 78) hx hb d_H_readGraph_51 rfl (fun c14 => ?_) (fun c14 => ?_)
        · skip
          rw [if_pos c14] at hf
          refine lv_iload_n hx hb d_H_readGraph_78 rfl (lv_at hl 1 rfl) ?_
          refine lv_iconst (v := 1) hx hb d_H_readGraph_79 (by decide) ?_
          refine lv_iadd hx hb d_H_readGraph_80 ?_
          refine lv_istore_n hx hb d_H_readGraph_81 rfl hl (by decide) rfl (fun ls hl => ?_)
          exact ih2 (x1) ((x1 + 1)) σ0 _ _ _ hf hP hD hS (lv_sub hl [1, 2, 0] rfl)
        rw [if_neg c14] at hf
        refine lv_aload_n hx hb d_H_readGraph_54 rfl (lv_at hl 0 rfl) ?_
        refine lv_iload_n hx hb d_H_readGraph_55 rfl (lv_at hl 2 rfl) ?_
        obtain ⟨y15, σ16, e17, hf⟩ := gBd_e hf
        refine g_wi (va_runV ⟨hx, hb, hml, hown, hts⟩ (m_H_isSound e17) (cwV 1 hts (gG4 (fun _ h => List.mem_cons_of_mem _ h) tb_210 tb_211 tb_212 tb_137 tc_H_isSound) rfl rfl rfl (by decide +kernel) ⟨Nat.le_of_ble_eq_true rfl, Nat.le_of_ble_eq_true rfl⟩) (g_preVW (q0 := 33) hE hK hP hD hS hA gc_33 rfl) rfl rfl hl.1 rfl (lv_room (Nat.le_of_ble_eq_true rfl)) d_H_readGraph_56 ⟨Nat.zero_le _, Nat.zero_le _⟩) hD hS hA (fun _ => cW_fst) (fun y15 _ H locs hu hP hD hS => ?_)
        subst hu
        refine lv_if_eq (tgt := 70) hx hb d_H_readGraph_59 rfl (fun c18 => ?_) (fun c18 => ?_)
        · skip
          rw [if_pos c18] at hf
          refine lv_iconst (v := (-1)) hx hb d_H_readGraph_70 (by decide) ?_
          obtain ⟨rfl, rfl⟩ := gRt_e hf
          exact g_zret hx hb hr hlocks rfl hAe hS () rfl hP d_H_readGraph_71
        rw [if_neg c18] at hf
        refine lv_aload_n hx hb d_H_readGraph_62 rfl (lv_at hl 0 rfl) ?_
        refine lv_iload_n hx hb d_H_readGraph_63 rfl (lv_at hl 2 rfl) ?_
        obtain ⟨y19, σ20, e21, hf⟩ := gBd_e hf
        refine g_wi (va_runV ⟨hx, hb, hml, hown, hts⟩ (m_H_numberObject e21) (cwV 1 hts (gG4 (fun _ h => List.mem_cons_of_mem _ h) tb_213 tb_214 tb_215 tb_137 tc_H_numberObject) rfl rfl rfl (by decide +kernel) ⟨Nat.le_of_ble_eq_true rfl, Nat.le_of_ble_eq_true rfl⟩) (g_preVW (q0 := 33) hE hK hP hD hS hA gc_33 rfl) rfl rfl hl.1 rfl (lv_room (Nat.le_of_ble_eq_true rfl)) d_H_readGraph_64 ⟨Nat.zero_le _, Nat.zero_le _⟩) hD hS hA (fun _ => cW_fst) (fun y19 _ H locs hu hP hD hS => ?_)
        subst hu
        refine lv_if_ne (tgt := 72) hx hb d_H_readGraph_67 rfl (fun c22 => ?_) (fun c22 => ?_)
        · skip
          rw [if_neg c22] at hf
          refine lv_iinc (k := 2) (v := (x2 + 1)) hx hb d_H_readGraph_72 hl rfl (by rw [show Int32.ofInt (1) = (1 : Int32) by decide]) (by decide) rfl (fun ls hl => ?_)
          refine lv_goto (tgt := 43) hx hb d_H_readGraph_75 rfl ?_
          exact ih1 (x1) ((x2 + 1)) σ20 _ _ _ hf hP hD hS (lv_sub hl [1, 2, 0] rfl)
        rw [if_pos c22] at hf
        refine lv_iconst (v := (-1)) hx hb d_H_readGraph_70 (by decide) ?_
        obtain ⟨rfl, rfl⟩ := gRt_e hf
        exact g_zret hx hb hr hlocks rfl hAe hS () rfl hP d_H_readGraph_71
      · intro x1 x2 σ0 H locs ls hf hP hD hS hl
        have hf : B_H_readGraph_2 (R_H_readGraph t) x1 x2 σ0 = some (r, σ') := hf
        unfold B_H_readGraph_2 at hf
        refine lv_iload_n hx hb d_H_readGraph_82 rfl (lv_at hl 2 rfl) ?_
        refine lv_aload_n hx hb d_H_readGraph_83 rfl (lv_at hl 0 rfl) ?_
        refine va_get (D := X) (ci := 3) (C := R_H) (T := T_H) (N := 8) hx hb hts u_0 hown hK hP 33 gc_33 rfl 1 (by decide) k_7 (fun _ h9 => h9) rfl d_H_readGraph_84 ?_
        refine va_get (D := X) (ci := 0) (C := R_E) (T := T_E) (N := 14) hx hb hts u_2 hown hK hP 20 gc_20 rfl 0 (by decide) k_8 (fun _ h9 => h9) rfl d_H_readGraph_87 ?_
        refine lv_icmp_ge (tgt := 133) hx hb d_H_readGraph_90 rfl (fun c23 => ?_) (fun c23 => ?_)
        · skip
          rw [if_pos c23] at hf
          refine lv_aload_n hx hb d_H_readGraph_133 rfl (lv_at hl 0 rfl) ?_
          refine va_get (D := X) (ci := 3) (C := R_H) (T := T_H) (N := 8) hx hb hts u_0 hown hK hP 33 gc_33 rfl 2 (by decide) k_4 (fun _ h9 => h9) rfl d_H_readGraph_134 ?_
          refine lv_aload_n hx hb d_H_readGraph_137 rfl (lv_at hl 0 rfl) ?_
          refine va_get (D := X) (ci := 3) (C := R_H) (T := T_H) (N := 8) hx hb hts u_0 hown hK hP 33 gc_33 rfl 7 (by decide) k_6 (fun _ h9 => h9) rfl d_H_readGraph_138 ?_
          obtain ⟨σ24, e25, hf⟩ := gPut_e hf
          refine va_put (D := X) (ci := 2) (ty := .int) (C := R_G) (T := T_G) (N := 6) hx hb hts u_1 t_G t_G_ok n_G hown hK hP hD hS 1 gc_1 rfl 0 (by decide) k_5 (fun _ h9 => h9) rfl (by decide +kernel) rfl rfl (Nat.le_of_ble_eq_true rfl) d_H_readGraph_141 (fun H locs hP hD hS => ?_)
          rw [sc_1_0, ← e25] at hP hD
          refine lv_aload_n hx hb d_H_readGraph_144 rfl (lv_at hl 0 rfl) ?_
          refine lv_iload_n hx hb d_H_readGraph_145 rfl (lv_at hl 1 rfl) ?_
          refine lv_iconst (v := 1) hx hb d_H_readGraph_146 (by decide) ?_
          refine lv_iadd hx hb d_H_readGraph_147 ?_
          obtain ⟨y26, σ27, e28, hf⟩ := gBd_e hf
          refine g_wi (va_runV ⟨hx, hb, hml, hown, hts⟩ (m_H_referredBy e28) (cwV 1 hts (gG4 (fun _ h => List.mem_cons_of_mem _ h) tb_196 tb_197 tb_198 tb_137 tc_H_referredBy) rfl rfl rfl (by decide +kernel) ⟨Nat.le_of_ble_eq_true rfl, Nat.le_of_ble_eq_true rfl⟩) (g_preVW (q0 := 33) hE hK hP hD hS hA gc_33 rfl) rfl rfl hl.1 rfl (lv_room (Nat.le_of_ble_eq_true rfl)) d_H_readGraph_148 ⟨Nat.zero_le _, Nat.zero_le _⟩) hD hS hA (fun _ => cW_fst) (fun y26 _ H locs hu hP hD hS => ?_)
          subst hu
          obtain ⟨rfl, rfl⟩ := gRt_e hf
          exact g_zret hx hb hr hlocks rfl hAe hS () rfl hP d_H_readGraph_151
        rw [if_neg c23] at hf
        refine lv_aload_n hx hb d_H_readGraph_93 rfl (lv_at hl 0 rfl) ?_
        refine va_get (D := X) (ci := 3) (C := R_H) (T := T_H) (N := 8) hx hb hts u_0 hown hK hP 33 gc_33 rfl 1 (by decide) k_7 (fun _ h9 => h9) rfl d_H_readGraph_94 ?_
        refine va_get (D := X) (ci := 0) (C := R_E) (T := T_E) (N := 14) hx hb hts u_2 hown hK hP 20 gc_20 rfl 2 (by decide) k_9 (fun _ h9 => h9) rfl d_H_readGraph_97 ?_
        refine lv_iload_n hx hb d_H_readGraph_100 rfl (lv_at hl 2 rfl) ?_
        obtain ⟨y29, h30, e31, hf⟩ := gLd_e hf
        refine va_iald hx hb hK hP 22 0 gc_22 rfl h30 d_H_readGraph_101 ?_
        rw [← e31]
        refine lv_iload_n hx hb d_H_readGraph_102 rfl (lv_at hl 1 rfl) ?_
        refine lv_icmp_ne (tgt := 115) hx hb d_H_readGraph_103 rfl (fun c32 => ?_) (fun c32 => ?_)
        · skip
          rw [if_neg c32] at hf
          refine lv_aload_n hx hb d_H_readGraph_115 rfl (lv_at hl 0 rfl) ?_
          refine lv_iload_n hx hb d_H_readGraph_116 rfl (lv_at hl 2 rfl) ?_
          obtain ⟨y33, σ34, e35, hf⟩ := gBd_e hf
          refine g_wi (va_runV ⟨hx, hb, hml, hown, hts⟩ (m_H_fillSlot e35) (cwV 1 hts (gG4 (fun _ h => List.mem_cons_of_mem _ h) tb_216 tb_217 tb_218 tb_137 tc_H_fillSlot) rfl rfl rfl (by decide +kernel) ⟨Nat.le_of_ble_eq_true rfl, Nat.le_of_ble_eq_true rfl⟩) (g_preVW (q0 := 33) hE hK hP hD hS hA gc_33 rfl) rfl rfl hl.1 rfl (lv_room (Nat.le_of_ble_eq_true rfl)) d_H_readGraph_117 ⟨Nat.zero_le _, Nat.zero_le _⟩) hD hS hA (fun _ => cW_fst) (fun y33 _ H locs hu hP hD hS => ?_)
          subst hu
          exact ih3 (x1) (x2) (y33) σ34 _ _ _ hf hP hD hS (lv_sub hl [0, 1, 2] rfl)
        rw [if_pos c32] at hf
        refine lv_aload_n hx hb d_H_readGraph_106 rfl (lv_at hl 0 rfl) ?_
        refine lv_iload_n hx hb d_H_readGraph_107 rfl (lv_at hl 2 rfl) ?_
        refine lv_iload_n hx hb d_H_readGraph_108 rfl (lv_at hl 1 rfl) ?_
        obtain ⟨y36, σ37, e38, hf⟩ := gBd_e hf
        refine g_wi (va_runV ⟨hx, hb, hml, hown, hts⟩ (m_H_mayStandInBody e38) (cwV 2 hts (gG4 (fun _ h => List.mem_cons_of_mem _ h) tb_219 tb_220 tb_221 tb_137 tc_H_mayStandInBody) rfl rfl rfl (by decide +kernel) ⟨Nat.le_of_ble_eq_true rfl, Nat.le_of_ble_eq_true rfl⟩) (g_preVW (q0 := 33) hE hK hP hD hS hA gc_33 rfl) rfl rfl hl.1 rfl (lv_room (Nat.le_of_ble_eq_true rfl)) d_H_readGraph_109 ⟨Nat.zero_le _, Nat.zero_le _⟩) hD hS hA (fun _ => cW_fst) (fun y36 _ H locs hu hP hD hS => ?_)
        subst hu
        refine lv_goto (tgt := 120) hx hb d_H_readGraph_112 rfl ?_
        exact ih3 (x1) (x2) (y36) σ37 _ _ _ hf hP hD hS (lv_sub hl [0, 1, 2] rfl)
      · intro x1 x2 z0 σ0 H locs ls hf hP hD hS hl
        have hf : B_H_readGraph_3 (R_H_readGraph t) x1 x2 z0 σ0 = some (r, σ') := hf
        unfold B_H_readGraph_3 at hf
        refine lv_istore_n hx hb d_H_readGraph_120 rfl hl (by decide) rfl (fun ls hl => ?_)
        refine lv_iload_n hx hb d_H_readGraph_121 rfl (lv_at hl 0 rfl) ?_
        refine lv_if_ne (tgt := 127) hx hb d_H_readGraph_122 rfl (fun c39 => ?_) (fun c39 => ?_)
        · skip
          rw [if_neg c39] at hf
          refine lv_iinc (k := 3) (v := (x2 + 1)) hx hb d_H_readGraph_127 hl rfl (by rw [show Int32.ofInt (1) = (1 : Int32) by decide]) (by decide) rfl (fun ls hl => ?_)
          refine lv_goto (tgt := 82) hx hb d_H_readGraph_130 rfl ?_
          exact ih2 (x1) ((x2 + 1)) σ0 _ _ _ hf hP hD hS (lv_sub hl [2, 3, 0] rfl)
        rw [if_pos c39] at hf
        refine lv_iconst (v := (-1)) hx hb d_H_readGraph_125 (by decide) ?_
        obtain ⟨rfl, rfl⟩ := gRt_e hf
        exact g_zret hx hb hr hlocks rfl hAe hS () rfl hP d_H_readGraph_126
  exact (key gFuel).1  σ _ _ _ hf hP hD hS hl
