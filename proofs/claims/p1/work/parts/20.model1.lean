def f_M_clear (σ : gS) : Option (Int32 × gS) := gPut σ 0 0 (fun σ1 => some (0, σ1))
set_option maxHeartbeats 4000000 in
set_option maxRecDepth 100000 in
theorem m_M_clear {l : Launch} {X : va_G} {cI cC cZ : ClassId} {b : Nat → Nat} {σ σ' : gS} {r : Int32} (hf : f_M_clear σ = some (r, σ')) {sz : Nat} : Met l y_M_clear w_M_clear { frames := 0, cells := 0, slots := 0, locals := 0 } (gPc X vwCl (gT cI cC cZ) (mW cI cC cZ b σ) sz [.ref (b 0)]) (gQv X vwCl (mW cI cC cZ b σ) sz (fun (_ : Unit) => True) (fun _ => mW cI cC cZ b σ')) 0 0 (va_A (mW cI cC cZ b σ) sz) := by
  refine g_met (cc := b_M_clear) (maxL := 1) (ret := none) (by decide) rfl (Nat.le_of_ble_eq_true rfl) ?_
  intro p e s m below meth c A ls hx hb hr hml hown hts hlocks hnm hsz hAe hA hP hK hD hS hl hN
  have hown : s.vm.findClass R_M = some m.cls := hown
  have u_0 : ∀ w ∈ u_ws R_M T_M 35, w ∈ w_M_clear := fun w h => List.mem_cons_of_mem _ (tu_M w h)
  have k_0 := hts (.fieldLink R_M 87 "GraphPagesModel" "count" "I") (List.mem_cons_of_mem _ tb_82)
  unfold f_M_clear at hf
  refine lv_aload_n hx hb d_M_clear_0 rfl (lv_at hl 0 rfl) ?_
  refine lv_iconst (v := 0) hx hb d_M_clear_1 (by decide) ?_
  obtain ⟨σ1, e2, hf⟩ := gPut_e hf
  refine va_put (D := X) (ci := 9) (ty := .int) (C := R_M) (T := T_M) (N := 35) hx hb hts u_0 t_M t_M_ok n_M hown hK hP hD hS 0 gm_0 rfl 0 (by decide) k_0 (fun _ h9 => h9) rfl (by decide +kernel) rfl rfl (Nat.le_of_ble_eq_true rfl) d_M_clear_2 (fun H locs hP hD hS => ?_)
  rw [sm_0_0, ← e2] at hP hD
  obtain ⟨-, rfl⟩ := gRt_e hf
  exact g_vret hx hb hr hlocks hAe hS () trivial hP d_M_clear_5

def f_M_understand (σ : gS) (x1 : Int32) (x2 : Int32) : Option (Int32 × gS) := if x1 < 0 then (some (0, σ)) else (if 31 < x1 then (some (0, σ)) else (gLd σ 6 32 x1 (fun y3 => if y3 = x2 then (some (0, σ)) else (gSt σ 6 32 x1 (vp_nar .boolean x2) (fun σ7 => some (1, σ7))))))
set_option maxHeartbeats 4000000 in
set_option maxRecDepth 100000 in
theorem m_M_understand {l : Launch} {X : va_G} {cI cC cZ : ClassId} {b : Nat → Nat} {σ σ' : gS} {r : Int32} {x1 : Int32} {x2 : Int32} (hf : f_M_understand σ x1 x2 = some (r, σ')) {sz : Nat} : Met l y_M_understand w_M_understand { frames := 0, cells := 0, slots := 0, locals := 0 } (gPc X vwCl (gT cI cC cZ) (mW cI cC cZ b σ) sz [.ref (b 0), .int x1, .int x2]) (gQi X vwCl (mW cI cC cZ b σ) sz (fun r' (_ : Unit) => r' = r) (fun _ => mW cI cC cZ b σ')) 0 0 (va_A (mW cI cC cZ b σ) sz) := by
  refine g_met (cc := b_M_understand) (maxL := 3) (ret := (some .boolean)) (by decide) rfl (Nat.le_of_ble_eq_true rfl) ?_
  intro p e s m below meth c A ls hx hb hr hml hown hts hlocks hnm hsz hAe hA hP hK hD hS hl hN
  have hown : s.vm.findClass R_M = some m.cls := hown
  have u_0 : ∀ w ∈ u_ws R_M T_M 35, w ∈ w_M_understand := fun w h => List.mem_cons_of_mem _ (tu_M w h)
  have k_0 := hts (.fieldLink R_M 25 "GraphPagesModel" "known" "[Z") (List.mem_cons_of_mem _ tb_122)
  unfold f_M_understand at hf
  refine lv_iload_n hx hb d_M_understand_0 rfl (lv_at hl 1 rfl) ?_
  refine lv_if_lt (tgt := 20) hx hb d_M_understand_1 rfl (fun c1 => ?_) (fun c1 => ?_)
  · skip
    rw [if_pos c1] at hf
    refine lv_iconst (v := 0) hx hb d_M_understand_20 (by decide) ?_
    obtain ⟨rfl, rfl⟩ := gRt_e hf
    exact g_zret hx hb hr hlocks rfl hAe hS () rfl hP d_M_understand_21
  rw [if_neg c1] at hf
  refine lv_iload_n hx hb d_M_understand_4 rfl (lv_at hl 1 rfl) ?_
  refine lv_bipush (v := 31) hx hb d_M_understand_5 (by decide) ?_
  refine lv_icmp_gt (tgt := 20) hx hb d_M_understand_7 rfl (fun c2 => ?_) (fun c2 => ?_)
  · skip
    rw [if_pos c2] at hf
    refine lv_iconst (v := 0) hx hb d_M_understand_20 (by decide) ?_
    obtain ⟨rfl, rfl⟩ := gRt_e hf
    exact g_zret hx hb hr hlocks rfl hAe hS () rfl hP d_M_understand_21
  rw [if_neg c2] at hf
  refine lv_aload_n hx hb d_M_understand_10 rfl (lv_at hl 0 rfl) ?_
  refine va_get (D := X) (ci := 9) (C := R_M) (T := T_M) (N := 35) hx hb hts u_0 hown hK hP 0 gm_0 rfl 6 (by decide) k_0 (fun _ h9 => h9) rfl d_M_understand_11 ?_
  refine lv_iload_n hx hb d_M_understand_14 rfl (lv_at hl 1 rfl) ?_
  obtain ⟨y3, h4, e5, hf⟩ := gLd_e hf
  refine va_zald hx hb hK hP 6 2 gm_6 rfl h4 d_M_understand_15 ?_
  rw [← e5]
  refine lv_iload_n hx hb d_M_understand_16 rfl (lv_at hl 2 rfl) ?_
  refine lv_icmp_ne (tgt := 22) hx hb d_M_understand_17 rfl (fun c6 => ?_) (fun c6 => ?_)
  · skip
    rw [if_neg c6] at hf
    refine lv_aload_n hx hb d_M_understand_22 rfl (lv_at hl 0 rfl) ?_
    refine va_get (D := X) (ci := 9) (C := R_M) (T := T_M) (N := 35) hx hb hts u_0 hown hK hP 0 gm_0 rfl 6 (by decide) k_0 (fun _ h9 => h9) rfl d_M_understand_23 ?_
    refine lv_iload_n hx hb d_M_understand_26 rfl (lv_at hl 1 rfl) ?_
    refine lv_iload_n hx hb d_M_understand_27 rfl (lv_at hl 2 rfl) ?_
    obtain ⟨σ7, h8, e9, hf⟩ := gSt_e hf
    refine va_zast hx hb hK hP hD hS 6 2 gm_6 rfl h8 d_M_understand_28 (fun H locs hP hD hS => ?_)
    rw [sm_6, ← e9] at hP hD
    refine lv_iconst (v := 1) hx hb d_M_understand_29 (by decide) ?_
    obtain ⟨rfl, rfl⟩ := gRt_e hf
    exact g_zret hx hb hr hlocks rfl hAe hS () rfl hP d_M_understand_30
  rw [if_pos c6] at hf
  refine lv_iconst (v := 0) hx hb d_M_understand_20 (by decide) ?_
  obtain ⟨rfl, rfl⟩ := gRt_e hf
  exact g_zret hx hb hr hlocks rfl hAe hS () rfl hP d_M_understand_21

def f_M_length (σ : gS) : Option (Int32 × gS) := some ((σ.1 1), σ)
set_option maxHeartbeats 4000000 in
set_option maxRecDepth 100000 in
theorem m_M_length {l : Launch} {X : va_G} {cI cC cZ : ClassId} {b : Nat → Nat} {σ σ' : gS} {r : Int32} (hf : f_M_length σ = some (r, σ')) {sz : Nat} : Met l y_M_length w_M_length { frames := 0, cells := 0, slots := 0, locals := 0 } (gPc X vwCl (gT cI cC cZ) (mW cI cC cZ b σ) sz [.ref (b 0)]) (gQi X vwCl (mW cI cC cZ b σ) sz (fun r' (_ : Unit) => r' = r) (fun _ => mW cI cC cZ b σ')) 0 0 (va_A (mW cI cC cZ b σ) sz) := by
  refine g_met (cc := b_M_length) (maxL := 1) (ret := (some .int)) (by decide) rfl (Nat.le_of_ble_eq_true rfl) ?_
  intro p e s m below meth c A ls hx hb hr hml hown hts hlocks hnm hsz hAe hA hP hK hD hS hl hN
  have hown : s.vm.findClass R_M = some m.cls := hown
  have u_0 : ∀ w ∈ u_ws R_M T_M 35, w ∈ w_M_length := fun w h => List.mem_cons_of_mem _ (tu_M w h)
  have k_0 := hts (.fieldLink R_M 110 "GraphPagesModel" "used" "I") (List.mem_cons_of_mem _ tb_105)
  unfold f_M_length at hf
  refine lv_aload_n hx hb d_M_length_0 rfl (lv_at hl 0 rfl) ?_
  refine va_get (D := X) (ci := 9) (C := R_M) (T := T_M) (N := 35) hx hb hts u_0 hown hK hP 0 gm_0 rfl 7 (by decide) k_0 (fun _ h9 => h9) rfl d_M_length_1 ?_
  obtain ⟨rfl, rfl⟩ := gRt_e hf
  exact g_zret hx hb hr hlocks rfl hAe hS () rfl hP d_M_length_4

def f_M_charAt (σ : gS) (x1 : Int32) : Option (Int32 × gS) := if x1 < 0 then (some ((-1), σ)) else (if (σ.1 1) ≤ x1 then (some ((-1), σ)) else (gLd σ 7 1600 x1 (fun y3 => some (y3, σ))))
set_option maxHeartbeats 4000000 in
set_option maxRecDepth 100000 in
theorem m_M_charAt {l : Launch} {X : va_G} {cI cC cZ : ClassId} {b : Nat → Nat} {σ σ' : gS} {r : Int32} {x1 : Int32} (hf : f_M_charAt σ x1 = some (r, σ')) {sz : Nat} : Met l y_M_charAt w_M_charAt { frames := 0, cells := 0, slots := 0, locals := 0 } (gPc X vwCl (gT cI cC cZ) (mW cI cC cZ b σ) sz [.ref (b 0), .int x1]) (gQi X vwCl (mW cI cC cZ b σ) sz (fun r' (_ : Unit) => r' = r) (fun _ => mW cI cC cZ b σ')) 0 0 (va_A (mW cI cC cZ b σ) sz) := by
  refine g_met (cc := b_M_charAt) (maxL := 2) (ret := (some .int)) (by decide) rfl (Nat.le_of_ble_eq_true rfl) ?_
  intro p e s m below meth c A ls hx hb hr hml hown hts hlocks hnm hsz hAe hA hP hK hD hS hl hN
  have hown : s.vm.findClass R_M = some m.cls := hown
  have u_0 : ∀ w ∈ u_ws R_M T_M 35, w ∈ w_M_charAt := fun w h => List.mem_cons_of_mem _ (tu_M w h)
  have k_0 := hts (.fieldLink R_M 110 "GraphPagesModel" "used" "I") (List.mem_cons_of_mem _ tb_105)
  have k_1 := hts (.fieldLink R_M 29 "GraphPagesModel" "page" "[C") (List.mem_cons_of_mem _ tb_106)
  unfold f_M_charAt at hf
  refine lv_iload_n hx hb d_M_charAt_0 rfl (lv_at hl 1 rfl) ?_
  refine lv_if_lt (tgt := 21) hx hb d_M_charAt_1 rfl (fun c1 => ?_) (fun c1 => ?_)
  · skip
    rw [if_pos c1] at hf
    refine lv_iconst (v := (-1)) hx hb d_M_charAt_21 (by decide) ?_
    obtain ⟨rfl, rfl⟩ := gRt_e hf
    exact g_zret hx hb hr hlocks rfl hAe hS () rfl hP d_M_charAt_22
  rw [if_neg c1] at hf
  refine lv_iload_n hx hb d_M_charAt_4 rfl (lv_at hl 1 rfl) ?_
  refine lv_aload_n hx hb d_M_charAt_5 rfl (lv_at hl 0 rfl) ?_
  refine va_get (D := X) (ci := 9) (C := R_M) (T := T_M) (N := 35) hx hb hts u_0 hown hK hP 0 gm_0 rfl 7 (by decide) k_0 (fun _ h9 => h9) rfl d_M_charAt_6 ?_
  refine lv_icmp_ge (tgt := 21) hx hb d_M_charAt_9 rfl (fun c2 => ?_) (fun c2 => ?_)
  · skip
    rw [if_pos c2] at hf
    refine lv_iconst (v := (-1)) hx hb d_M_charAt_21 (by decide) ?_
    obtain ⟨rfl, rfl⟩ := gRt_e hf
    exact g_zret hx hb hr hlocks rfl hAe hS () rfl hP d_M_charAt_22
  rw [if_neg c2] at hf
  refine lv_aload_n hx hb d_M_charAt_12 rfl (lv_at hl 0 rfl) ?_
  refine va_get (D := X) (ci := 9) (C := R_M) (T := T_M) (N := 35) hx hb hts u_0 hown hK hP 0 gm_0 rfl 8 (by decide) k_1 (fun _ h9 => h9) rfl d_M_charAt_13 ?_
  refine lv_iload_n hx hb d_M_charAt_16 rfl (lv_at hl 1 rfl) ?_
  obtain ⟨y3, h4, e5, hf⟩ := gLd_e hf
  refine va_cald hx hb hK hP 7 1 gm_7 rfl h4 d_M_charAt_17 ?_
  rw [← e5]
  refine lv_goto (tgt := 22) hx hb d_M_charAt_18 rfl ?_
  obtain ⟨rfl, rfl⟩ := gRt_e hf
  exact g_zret hx hb hr hlocks rfl hAe hS () rfl hP d_M_charAt_22

def f_M_feed (σ : gS) (x1 : Int32) : Option (Int32 × gS) := if x1 < 32 then (some (0, σ)) else (if 126 < x1 then (some (0, σ)) else (if (σ.1 1) = 1600 then (some (0, σ)) else (gSt σ 7 1600 (σ.1 1) (vp_nar .char x1) (fun σ4 => gPut σ4 1 ((σ4.1 1) + 1) (fun σ7 => some (1, σ7))))))
set_option maxHeartbeats 4000000 in
set_option maxRecDepth 100000 in
theorem m_M_feed {l : Launch} {X : va_G} {cI cC cZ : ClassId} {b : Nat → Nat} {σ σ' : gS} {r : Int32} {x1 : Int32} (hf : f_M_feed σ x1 = some (r, σ')) {sz : Nat} : Met l y_M_feed w_M_feed { frames := 0, cells := 0, slots := 0, locals := 0 } (gPc X vwCl (gT cI cC cZ) (mW cI cC cZ b σ) sz [.ref (b 0), .int x1]) (gQi X vwCl (mW cI cC cZ b σ) sz (fun r' (_ : Unit) => r' = r) (fun _ => mW cI cC cZ b σ')) 0 0 (va_A (mW cI cC cZ b σ) sz) := by
  refine g_met (cc := b_M_feed) (maxL := 2) (ret := (some .boolean)) (by decide) rfl (Nat.le_of_ble_eq_true rfl) ?_
  intro p e s m below meth c A ls hx hb hr hml hown hts hlocks hnm hsz hAe hA hP hK hD hS hl hN
  have hown : s.vm.findClass R_M = some m.cls := hown
  have u_0 : ∀ w ∈ u_ws R_M T_M 35, w ∈ w_M_feed := fun w h => List.mem_cons_of_mem _ (tu_M w h)
  have k_0 := hts (.fieldLink R_M 110 "GraphPagesModel" "used" "I") (List.mem_cons_of_mem _ tb_105)
  have k_1 := hts (.fieldLink R_M 29 "GraphPagesModel" "page" "[C") (List.mem_cons_of_mem _ tb_106)
  unfold f_M_feed at hf
  refine lv_iload_n hx hb d_M_feed_0 rfl (lv_at hl 1 rfl) ?_
  refine lv_bipush (v := 32) hx hb d_M_feed_1 (by decide) ?_
  refine lv_icmp_lt (tgt := 22) hx hb d_M_feed_3 rfl (fun c1 => ?_) (fun c1 => ?_)
  · skip
    rw [if_pos c1] at hf
    refine lv_iconst (v := 0) hx hb d_M_feed_22 (by decide) ?_
    obtain ⟨rfl, rfl⟩ := gRt_e hf
    exact g_zret hx hb hr hlocks rfl hAe hS () rfl hP d_M_feed_23
  rw [if_neg c1] at hf
  refine lv_iload_n hx hb d_M_feed_6 rfl (lv_at hl 1 rfl) ?_
  refine lv_bipush (v := 126) hx hb d_M_feed_7 (by decide) ?_
  refine lv_icmp_gt (tgt := 22) hx hb d_M_feed_9 rfl (fun c2 => ?_) (fun c2 => ?_)
  · skip
    rw [if_pos c2] at hf
    refine lv_iconst (v := 0) hx hb d_M_feed_22 (by decide) ?_
    obtain ⟨rfl, rfl⟩ := gRt_e hf
    exact g_zret hx hb hr hlocks rfl hAe hS () rfl hP d_M_feed_23
  rw [if_neg c2] at hf
  refine lv_aload_n hx hb d_M_feed_12 rfl (lv_at hl 0 rfl) ?_
  refine va_get (D := X) (ci := 9) (C := R_M) (T := T_M) (N := 35) hx hb hts u_0 hown hK hP 0 gm_0 rfl 7 (by decide) k_0 (fun _ h9 => h9) rfl d_M_feed_13 ?_
  refine lv_sipush (v := 1600) hx hb d_M_feed_16 (by decide) ?_
  refine lv_icmp_ne (tgt := 24) hx hb d_M_feed_19 rfl (fun c3 => ?_) (fun c3 => ?_)
  · skip
    rw [if_neg c3] at hf
    refine lv_aload_n hx hb d_M_feed_24 rfl (lv_at hl 0 rfl) ?_
    refine va_get (D := X) (ci := 9) (C := R_M) (T := T_M) (N := 35) hx hb hts u_0 hown hK hP 0 gm_0 rfl 8 (by decide) k_1 (fun _ h9 => h9) rfl d_M_feed_25 ?_
    refine lv_aload_n hx hb d_M_feed_28 rfl (lv_at hl 0 rfl) ?_
    refine va_get (D := X) (ci := 9) (C := R_M) (T := T_M) (N := 35) hx hb hts u_0 hown hK hP 0 gm_0 rfl 7 (by decide) k_0 (fun _ h9 => h9) rfl d_M_feed_29 ?_
    refine lv_iload_n hx hb d_M_feed_32 rfl (lv_at hl 1 rfl) ?_
    obtain ⟨σ4, h5, e6, hf⟩ := gSt_e hf
    refine va_cast hx hb hK hP hD hS 7 1 gm_7 rfl h5 d_M_feed_33 (fun H locs hP hD hS => ?_)
    rw [sm_7, ← e6] at hP hD
    refine lv_aload_n hx hb d_M_feed_34 rfl (lv_at hl 0 rfl) ?_
    refine lv_dup hx hb d_M_feed_35 rfl ?_
    refine va_get (D := X) (ci := 9) (C := R_M) (T := T_M) (N := 35) hx hb hts u_0 hown hK hP 0 gm_0 rfl 7 (by decide) k_0 (fun _ h9 => h9) rfl d_M_feed_36 ?_
    refine lv_iconst (v := 1) hx hb d_M_feed_39 (by decide) ?_
    refine lv_iadd hx hb d_M_feed_40 ?_
    obtain ⟨σ7, e8, hf⟩ := gPut_e hf
    refine va_put (D := X) (ci := 9) (ty := .int) (C := R_M) (T := T_M) (N := 35) hx hb hts u_0 t_M t_M_ok n_M hown hK hP hD hS 0 gm_0 rfl 7 (by decide) k_0 (fun _ h9 => h9) rfl (by decide +kernel) rfl rfl (Nat.le_of_ble_eq_true rfl) d_M_feed_41 (fun H locs hP hD hS => ?_)
    rw [sm_0_7, ← e8] at hP hD
    refine lv_iconst (v := 1) hx hb d_M_feed_44 (by decide) ?_
    obtain ⟨rfl, rfl⟩ := gRt_e hf
    exact g_zret hx hb hr hlocks rfl hAe hS () rfl hP d_M_feed_45
  rw [if_pos c3] at hf
  refine lv_iconst (v := 0) hx hb d_M_feed_22 (by decide) ?_
  obtain ⟨rfl, rfl⟩ := gRt_e hf
  exact g_zret hx hb hr hlocks rfl hAe hS () rfl hP d_M_feed_23

def f_M_alter (σ : gS) (x1 : Int32) (x2 : Int32) : Option (Int32 × gS) := if x1 < 0 then (some (0, σ)) else (if (σ.1 1) ≤ x1 then (some (0, σ)) else (if x2 < 32 then (some (0, σ)) else (if x2 ≤ 126 then (gSt σ 7 1600 x1 (vp_nar .char x2) (fun σ5 => some (1, σ5))) else (some (0, σ)))))
set_option maxHeartbeats 4000000 in
set_option maxRecDepth 100000 in
theorem m_M_alter {l : Launch} {X : va_G} {cI cC cZ : ClassId} {b : Nat → Nat} {σ σ' : gS} {r : Int32} {x1 : Int32} {x2 : Int32} (hf : f_M_alter σ x1 x2 = some (r, σ')) {sz : Nat} : Met l y_M_alter w_M_alter { frames := 0, cells := 0, slots := 0, locals := 0 } (gPc X vwCl (gT cI cC cZ) (mW cI cC cZ b σ) sz [.ref (b 0), .int x1, .int x2]) (gQi X vwCl (mW cI cC cZ b σ) sz (fun r' (_ : Unit) => r' = r) (fun _ => mW cI cC cZ b σ')) 0 0 (va_A (mW cI cC cZ b σ) sz) := by
  refine g_met (cc := b_M_alter) (maxL := 3) (ret := (some .boolean)) (by decide) rfl (Nat.le_of_ble_eq_true rfl) ?_
  intro p e s m below meth c A ls hx hb hr hml hown hts hlocks hnm hsz hAe hA hP hK hD hS hl hN
  have hown : s.vm.findClass R_M = some m.cls := hown
  have u_0 : ∀ w ∈ u_ws R_M T_M 35, w ∈ w_M_alter := fun w h => List.mem_cons_of_mem _ (tu_M w h)
  have k_0 := hts (.fieldLink R_M 110 "GraphPagesModel" "used" "I") (List.mem_cons_of_mem _ tb_105)
  have k_1 := hts (.fieldLink R_M 29 "GraphPagesModel" "page" "[C") (List.mem_cons_of_mem _ tb_106)
  unfold f_M_alter at hf
  refine lv_iload_n hx hb d_M_alter_0 rfl (lv_at hl 1 rfl) ?_
  refine lv_if_lt (tgt := 24) hx hb d_M_alter_1 rfl (fun c1 => ?_) (fun c1 => ?_)
  · skip
    rw [if_pos c1] at hf
    refine lv_iconst (v := 0) hx hb d_M_alter_24 (by decide) ?_
    obtain ⟨rfl, rfl⟩ := gRt_e hf
    exact g_zret hx hb hr hlocks rfl hAe hS () rfl hP d_M_alter_25
  rw [if_neg c1] at hf
  refine lv_iload_n hx hb d_M_alter_4 rfl (lv_at hl 1 rfl) ?_
  refine lv_aload_n hx hb d_M_alter_5 rfl (lv_at hl 0 rfl) ?_
  refine va_get (D := X) (ci := 9) (C := R_M) (T := T_M) (N := 35) hx hb hts u_0 hown hK hP 0 gm_0 rfl 7 (by decide) k_0 (fun _ h9 => h9) rfl d_M_alter_6 ?_
  refine lv_icmp_ge (tgt := 24) hx hb d_M_alter_9 rfl (fun c2 => ?_) (fun c2 => ?_)
  · skip
    rw [if_pos c2] at hf
    refine lv_iconst (v := 0) hx hb d_M_alter_24 (by decide) ?_
    obtain ⟨rfl, rfl⟩ := gRt_e hf
    exact g_zret hx hb hr hlocks rfl hAe hS () rfl hP d_M_alter_25
  rw [if_neg c2] at hf
  refine lv_iload_n hx hb d_M_alter_12 rfl (lv_at hl 2 rfl) ?_
  refine lv_bipush (v := 32) hx hb d_M_alter_13 (by decide) ?_
  refine lv_icmp_lt (tgt := 24) hx hb d_M_alter_15 rfl (fun c3 => ?_) (fun c3 => ?_)
  · skip
    rw [if_pos c3] at hf
    refine lv_iconst (v := 0) hx hb d_M_alter_24 (by decide) ?_
    obtain ⟨rfl, rfl⟩ := gRt_e hf
    exact g_zret hx hb hr hlocks rfl hAe hS () rfl hP d_M_alter_25
  rw [if_neg c3] at hf
  refine lv_iload_n hx hb d_M_alter_18 rfl (lv_at hl 2 rfl) ?_
  refine lv_bipush (v := 126) hx hb d_M_alter_19 (by decide) ?_
  refine lv_icmp_le (tgt := 26) hx hb d_M_alter_21 rfl (fun c4 => ?_) (fun c4 => ?_)
  · skip
    rw [if_pos c4] at hf
    refine lv_aload_n hx hb d_M_alter_26 rfl (lv_at hl 0 rfl) ?_
    refine va_get (D := X) (ci := 9) (C := R_M) (T := T_M) (N := 35) hx hb hts u_0 hown hK hP 0 gm_0 rfl 8 (by decide) k_1 (fun _ h9 => h9) rfl d_M_alter_27 ?_
    refine lv_iload_n hx hb d_M_alter_30 rfl (lv_at hl 1 rfl) ?_
    refine lv_iload_n hx hb d_M_alter_31 rfl (lv_at hl 2 rfl) ?_
    obtain ⟨σ5, h6, e7, hf⟩ := gSt_e hf
    refine va_cast hx hb hK hP hD hS 7 1 gm_7 rfl h6 d_M_alter_32 (fun H locs hP hD hS => ?_)
    rw [sm_7, ← e7] at hP hD
    refine lv_iconst (v := 1) hx hb d_M_alter_33 (by decide) ?_
    obtain ⟨rfl, rfl⟩ := gRt_e hf
    exact g_zret hx hb hr hlocks rfl hAe hS () rfl hP d_M_alter_34
  rw [if_neg c4] at hf
  refine lv_iconst (v := 0) hx hb d_M_alter_24 (by decide) ?_
  obtain ⟨rfl, rfl⟩ := gRt_e hf
  exact g_zret hx hb hr hlocks rfl hAe hS () rfl hP d_M_alter_25

def f_M_cut (σ : gS) (x1 : Int32) : Option (Int32 × gS) := if x1 < 0 then (some (0, σ)) else (if x1 ≤ (σ.1 1) then (gPut σ 1 x1 (fun σ3 => some (1, σ3))) else (some (0, σ)))
set_option maxHeartbeats 4000000 in
set_option maxRecDepth 100000 in
theorem m_M_cut {l : Launch} {X : va_G} {cI cC cZ : ClassId} {b : Nat → Nat} {σ σ' : gS} {r : Int32} {x1 : Int32} (hf : f_M_cut σ x1 = some (r, σ')) {sz : Nat} : Met l y_M_cut w_M_cut { frames := 0, cells := 0, slots := 0, locals := 0 } (gPc X vwCl (gT cI cC cZ) (mW cI cC cZ b σ) sz [.ref (b 0), .int x1]) (gQi X vwCl (mW cI cC cZ b σ) sz (fun r' (_ : Unit) => r' = r) (fun _ => mW cI cC cZ b σ')) 0 0 (va_A (mW cI cC cZ b σ) sz) := by
  refine g_met (cc := b_M_cut) (maxL := 2) (ret := (some .boolean)) (by decide) rfl (Nat.le_of_ble_eq_true rfl) ?_
  intro p e s m below meth c A ls hx hb hr hml hown hts hlocks hnm hsz hAe hA hP hK hD hS hl hN
  have hown : s.vm.findClass R_M = some m.cls := hown
  have u_0 : ∀ w ∈ u_ws R_M T_M 35, w ∈ w_M_cut := fun w h => List.mem_cons_of_mem _ (tu_M w h)
  have k_0 := hts (.fieldLink R_M 110 "GraphPagesModel" "used" "I") (List.mem_cons_of_mem _ tb_105)
  unfold f_M_cut at hf
  refine lv_iload_n hx hb d_M_cut_0 rfl (lv_at hl 1 rfl) ?_
  refine lv_if_lt (tgt := 12) hx hb d_M_cut_1 rfl (fun c1 => ?_) (fun c1 => ?_)
  · skip
    rw [if_pos c1] at hf
    refine lv_iconst (v := 0) hx hb d_M_cut_12 (by decide) ?_
    obtain ⟨rfl, rfl⟩ := gRt_e hf
    exact g_zret hx hb hr hlocks rfl hAe hS () rfl hP d_M_cut_13
  rw [if_neg c1] at hf
  refine lv_iload_n hx hb d_M_cut_4 rfl (lv_at hl 1 rfl) ?_
  refine lv_aload_n hx hb d_M_cut_5 rfl (lv_at hl 0 rfl) ?_
  refine va_get (D := X) (ci := 9) (C := R_M) (T := T_M) (N := 35) hx hb hts u_0 hown hK hP 0 gm_0 rfl 7 (by decide) k_0 (fun _ h9 => h9) rfl d_M_cut_6 ?_
  refine lv_icmp_le (tgt := 14) hx hb d_M_cut_9 rfl (fun c2 => ?_) (fun c2 => ?_)
  · skip
    rw [if_pos c2] at hf
    refine lv_aload_n hx hb d_M_cut_14 rfl (lv_at hl 0 rfl) ?_
    refine lv_iload_n hx hb d_M_cut_15 rfl (lv_at hl 1 rfl) ?_
    obtain ⟨σ3, e4, hf⟩ := gPut_e hf
    refine va_put (D := X) (ci := 9) (ty := .int) (C := R_M) (T := T_M) (N := 35) hx hb hts u_0 t_M t_M_ok n_M hown hK hP hD hS 0 gm_0 rfl 7 (by decide) k_0 (fun _ h9 => h9) rfl (by decide +kernel) rfl rfl (Nat.le_of_ble_eq_true rfl) d_M_cut_16 (fun H locs hP hD hS => ?_)
    rw [sm_0_7, ← e4] at hP hD
    refine lv_iconst (v := 1) hx hb d_M_cut_19 (by decide) ?_
    obtain ⟨rfl, rfl⟩ := gRt_e hf
    exact g_zret hx hb hr hlocks rfl hAe hS () rfl hP d_M_cut_20
  rw [if_neg c2] at hf
  refine lv_iconst (v := 0) hx hb d_M_cut_12 (by decide) ?_
  obtain ⟨rfl, rfl⟩ := gRt_e hf
  exact g_zret hx hb hr hlocks rfl hAe hS () rfl hP d_M_cut_13
