def f_G_has (σ : gS) (x1 : Int32) : Option (Int32 × gS) := if x1 < 0 then (some (0, σ)) else (if (σ.1 0) ≤ x1 then (some (0, σ)) else (some (1, σ)))
set_option maxHeartbeats 4000000 in
set_option maxRecDepth 100000 in
theorem m_G_has {l : Launch} {X : va_G} {cI cC cZ : ClassId} {aK aV : Nat → Nat} {a : Nat → Nat} {σ σ' : gS} {r : Int32} {x1 : Int32} (hf : f_G_has σ x1 = some (r, σ')) {sz : Nat} : Met l y_G_has w_G_has { frames := 0, cells := 0, slots := 0, locals := 0 } (gPc X vwCl (gT cI cC cZ) aK aV (cW cI cC cZ a σ) sz [.ref (a 1), .int x1]) (gQi X vwCl (cW cI cC cZ a σ) sz (fun r' (_ : Unit) => r' = r) (fun _ => cW cI cC cZ a σ')) 0 0 (va_A (cW cI cC cZ a σ) sz) := by
  refine g_met (cc := b_G_has) (maxL := 2) (ret := (some .boolean)) (by decide) rfl (Nat.le_of_ble_eq_true rfl) ?_
  intro p e s m below meth c A ls hx hb hr hml hown hts hlocks hnm hsz hAe hA hP hK hD hS hl hE
  have hown : s.vm.findClass R_G = some m.cls := hown
  have u_0 : ∀ w ∈ u_ws R_G T_G 6, w ∈ w_G_has := fun w h => List.mem_cons_of_mem _ (tu_G w h)
  have k_0 := hts (.fieldLink R_G 28 "GraphPages$Graph" "count" "I") (List.mem_cons_of_mem _ tb_112)
  unfold f_G_has at hf
  refine lv_iload_n hx hb d_G_has_0 rfl (lv_at hl 1 rfl) ?_
  refine lv_if_lt (tgt := 16) hx hb d_G_has_1 rfl (fun c1 => ?_) (fun c1 => ?_)
  · skip
    rw [if_pos c1] at hf
    refine lv_iconst (v := 0) hx hb d_G_has_16 (by decide) ?_
    obtain ⟨rfl, rfl⟩ := gRt_e hf
    exact g_zret hx hb hr hlocks rfl hAe hS () rfl hP d_G_has_17
  rw [if_neg c1] at hf
  refine lv_iload_n hx hb d_G_has_4 rfl (lv_at hl 1 rfl) ?_
  refine lv_aload_n hx hb d_G_has_5 rfl (lv_at hl 0 rfl) ?_
  refine va_get (D := X) (ci := 2) (C := R_G) (T := T_G) (N := 6) hx hb hts u_0 hown hK hP 1 gc_1 rfl 0 (by decide) k_0 (fun _ h9 => h9) rfl d_G_has_6 ?_
  refine lv_icmp_ge (tgt := 16) hx hb d_G_has_9 rfl (fun c2 => ?_) (fun c2 => ?_)
  · skip
    rw [if_pos c2] at hf
    refine lv_iconst (v := 0) hx hb d_G_has_16 (by decide) ?_
    obtain ⟨rfl, rfl⟩ := gRt_e hf
    exact g_zret hx hb hr hlocks rfl hAe hS () rfl hP d_G_has_17
  rw [if_neg c2] at hf
  refine lv_iconst (v := 1) hx hb d_G_has_12 (by decide) ?_
  refine lv_goto (tgt := 17) hx hb d_G_has_13 rfl ?_
  obtain ⟨rfl, rfl⟩ := gRt_e hf
  exact g_zret hx hb hr hlocks rfl hAe hS () rfl hP d_G_has_17

def f_G_isText (σ : gS) (x1 : Int32) : Option (Int32 × gS) := gBd (f_G_has σ x1) (fun y1 σ2 => if y1 = 0 then (some (0, σ2)) else (gLd σ2 2 16 x1 (fun y5 => if y5 = 2 then (some (1, σ2)) else (some (0, σ2)))))
set_option maxHeartbeats 4000000 in
set_option maxRecDepth 100000 in
theorem m_G_isText {l : Launch} {X : va_G} {cI cC cZ : ClassId} {aK aV : Nat → Nat} {a : Nat → Nat} {σ σ' : gS} {r : Int32} {x1 : Int32} (hf : f_G_isText σ x1 = some (r, σ')) {sz : Nat} : Met l y_G_isText w_G_isText { frames := 1, cells := 0, slots := 0, locals := 21 } (gPc X vwCl (gT cI cC cZ) aK aV (cW cI cC cZ a σ) sz [.ref (a 1), .int x1]) (gQi X vwCl (cW cI cC cZ a σ) sz (fun r' (_ : Unit) => r' = r) (fun _ => cW cI cC cZ a σ')) 0 0 (va_A (cW cI cC cZ a σ) sz) := by
  refine g_met (cc := b_G_isText) (maxL := 2) (ret := (some .boolean)) (by decide) rfl (Nat.le_of_ble_eq_true rfl) ?_
  intro p e s m below meth c A ls hx hb hr hml hown hts hlocks hnm hsz hAe hA hP hK hD hS hl hE
  have hown : s.vm.findClass R_G = some m.cls := hown
  have u_0 : ∀ w ∈ u_ws R_G T_G 6, w ∈ w_G_isText := fun w h => List.mem_cons_of_mem _ (tu_G w h)
  have k_0 := hts (.fieldLink R_G 9 "GraphPages$Graph" "kinds" "[I") (List.mem_cons_of_mem _ tb_117)
  unfold f_G_isText at hf
  refine lv_aload_n hx hb d_G_isText_0 rfl (lv_at hl 0 rfl) ?_
  refine lv_iload_n hx hb d_G_isText_1 rfl (lv_at hl 1 rfl) ?_
  obtain ⟨y1, σ2, e3, hf⟩ := gBd_e hf
  refine g_wi (va_runV ⟨hx, hb, hml, hown, hts⟩ (m_G_has e3) (cwV 1 hts (gG4 (fun _ h => List.mem_cons_of_mem _ h) tb_113 tb_114 tb_115 tb_116 tc_G_has) rfl rfl rfl (by decide +kernel) ⟨Nat.le_of_ble_eq_true rfl, Nat.le_of_ble_eq_true rfl⟩) (g_preVW (q0 := 1) hE hK hP hD hS hA gc_1 rfl) rfl rfl hl.1 rfl (lv_room (Nat.le_of_ble_eq_true rfl)) d_G_isText_2 ⟨Nat.zero_le _, Nat.zero_le _⟩) hD hS hA (fun _ => cW_fst) (fun y1 _ H locs hu hP hD hS => ?_)
  subst hu
  refine lv_if_eq (tgt := 22) hx hb d_G_isText_5 rfl (fun c4 => ?_) (fun c4 => ?_)
  · skip
    rw [if_pos c4] at hf
    refine lv_iconst (v := 0) hx hb d_G_isText_22 (by decide) ?_
    obtain ⟨rfl, rfl⟩ := gRt_e hf
    exact g_zret hx hb hr hlocks rfl hAe hS () rfl hP d_G_isText_23
  rw [if_neg c4] at hf
  refine lv_aload_n hx hb d_G_isText_8 rfl (lv_at hl 0 rfl) ?_
  refine va_get (D := X) (ci := 2) (C := R_G) (T := T_G) (N := 6) hx hb hts u_0 hown hK hP 1 gc_1 rfl 1 (by decide) k_0 (fun _ h9 => h9) rfl d_G_isText_9 ?_
  refine lv_iload_n hx hb d_G_isText_12 rfl (lv_at hl 1 rfl) ?_
  obtain ⟨y5, h6, e7, hf⟩ := gLd_e hf
  refine va_iald hx hb hK hP 2 0 gc_2 rfl h6 d_G_isText_13 ?_
  rw [← e7]
  refine lv_iconst (v := 2) hx hb d_G_isText_14 (by decide) ?_
  refine lv_icmp_ne (tgt := 22) hx hb d_G_isText_15 rfl (fun c8 => ?_) (fun c8 => ?_)
  · skip
    rw [if_neg c8] at hf
    refine lv_iconst (v := 0) hx hb d_G_isText_22 (by decide) ?_
    obtain ⟨rfl, rfl⟩ := gRt_e hf
    exact g_zret hx hb hr hlocks rfl hAe hS () rfl hP d_G_isText_23
  rw [if_pos c8] at hf
  refine lv_iconst (v := 1) hx hb d_G_isText_18 (by decide) ?_
  refine lv_goto (tgt := 23) hx hb d_G_isText_19 rfl ?_
  obtain ⟨rfl, rfl⟩ := gRt_e hf
  exact g_zret hx hb hr hlocks rfl hAe hS () rfl hP d_G_isText_23

def f_G_hasSlot (σ : gS) (x1 : Int32) (x2 : Int32) : Option (Int32 × gS) := gBd (f_G_has σ x1) (fun y1 σ2 => if y1 = 0 then (some (0, σ2)) else (gLd σ2 2 16 x1 (fun y5 => if y5 = 2 then (some (0, σ2)) else (if x2 < 0 then (some (0, σ2)) else (gLd σ2 3 16 x1 (fun y10 => if y10 ≤ x2 then (some (0, σ2)) else (some (1, σ2))))))))
set_option maxHeartbeats 4000000 in
set_option maxRecDepth 100000 in
theorem m_G_hasSlot {l : Launch} {X : va_G} {cI cC cZ : ClassId} {aK aV : Nat → Nat} {a : Nat → Nat} {σ σ' : gS} {r : Int32} {x1 : Int32} {x2 : Int32} (hf : f_G_hasSlot σ x1 x2 = some (r, σ')) {sz : Nat} : Met l y_G_hasSlot w_G_hasSlot { frames := 1, cells := 0, slots := 0, locals := 21 } (gPc X vwCl (gT cI cC cZ) aK aV (cW cI cC cZ a σ) sz [.ref (a 1), .int x1, .int x2]) (gQi X vwCl (cW cI cC cZ a σ) sz (fun r' (_ : Unit) => r' = r) (fun _ => cW cI cC cZ a σ')) 0 0 (va_A (cW cI cC cZ a σ) sz) := by
  refine g_met (cc := b_G_hasSlot) (maxL := 3) (ret := (some .boolean)) (by decide) rfl (Nat.le_of_ble_eq_true rfl) ?_
  intro p e s m below meth c A ls hx hb hr hml hown hts hlocks hnm hsz hAe hA hP hK hD hS hl hE
  have hown : s.vm.findClass R_G = some m.cls := hown
  have u_0 : ∀ w ∈ u_ws R_G T_G 6, w ∈ w_G_hasSlot := fun w h => List.mem_cons_of_mem _ (tu_G w h)
  have k_0 := hts (.fieldLink R_G 9 "GraphPages$Graph" "kinds" "[I") (List.mem_cons_of_mem _ tb_117)
  have k_1 := hts (.fieldLink R_G 15 "GraphPages$Graph" "sizes" "[I") (List.mem_cons_of_mem _ tb_118)
  unfold f_G_hasSlot at hf
  refine lv_aload_n hx hb d_G_hasSlot_0 rfl (lv_at hl 0 rfl) ?_
  refine lv_iload_n hx hb d_G_hasSlot_1 rfl (lv_at hl 1 rfl) ?_
  obtain ⟨y1, σ2, e3, hf⟩ := gBd_e hf
  refine g_wi (va_runV ⟨hx, hb, hml, hown, hts⟩ (m_G_has e3) (cwV 1 hts (gG4 (fun _ h => List.mem_cons_of_mem _ h) tb_113 tb_114 tb_115 tb_116 tc_G_has) rfl rfl rfl (by decide +kernel) ⟨Nat.le_of_ble_eq_true rfl, Nat.le_of_ble_eq_true rfl⟩) (g_preVW (q0 := 1) hE hK hP hD hS hA gc_1 rfl) rfl rfl hl.1 rfl (lv_room (Nat.le_of_ble_eq_true rfl)) d_G_hasSlot_2 ⟨Nat.zero_le _, Nat.zero_le _⟩) hD hS hA (fun _ => cW_fst) (fun y1 _ H locs hu hP hD hS => ?_)
  subst hu
  refine lv_if_eq (tgt := 36) hx hb d_G_hasSlot_5 rfl (fun c4 => ?_) (fun c4 => ?_)
  · skip
    rw [if_pos c4] at hf
    refine lv_iconst (v := 0) hx hb d_G_hasSlot_36 (by decide) ?_
    obtain ⟨rfl, rfl⟩ := gRt_e hf
    exact g_zret hx hb hr hlocks rfl hAe hS () rfl hP d_G_hasSlot_37
  rw [if_neg c4] at hf
  refine lv_aload_n hx hb d_G_hasSlot_8 rfl (lv_at hl 0 rfl) ?_
  refine va_get (D := X) (ci := 2) (C := R_G) (T := T_G) (N := 6) hx hb hts u_0 hown hK hP 1 gc_1 rfl 1 (by decide) k_0 (fun _ h9 => h9) rfl d_G_hasSlot_9 ?_
  refine lv_iload_n hx hb d_G_hasSlot_12 rfl (lv_at hl 1 rfl) ?_
  obtain ⟨y5, h6, e7, hf⟩ := gLd_e hf
  refine va_iald hx hb hK hP 2 0 gc_2 rfl h6 d_G_hasSlot_13 ?_
  rw [← e7]
  refine lv_iconst (v := 2) hx hb d_G_hasSlot_14 (by decide) ?_
  refine lv_icmp_eq (tgt := 36) hx hb d_G_hasSlot_15 rfl (fun c8 => ?_) (fun c8 => ?_)
  · skip
    rw [if_pos c8] at hf
    refine lv_iconst (v := 0) hx hb d_G_hasSlot_36 (by decide) ?_
    obtain ⟨rfl, rfl⟩ := gRt_e hf
    exact g_zret hx hb hr hlocks rfl hAe hS () rfl hP d_G_hasSlot_37
  rw [if_neg c8] at hf
  refine lv_iload_n hx hb d_G_hasSlot_18 rfl (lv_at hl 2 rfl) ?_
  refine lv_if_lt (tgt := 36) hx hb d_G_hasSlot_19 rfl (fun c9 => ?_) (fun c9 => ?_)
  · skip
    rw [if_pos c9] at hf
    refine lv_iconst (v := 0) hx hb d_G_hasSlot_36 (by decide) ?_
    obtain ⟨rfl, rfl⟩ := gRt_e hf
    exact g_zret hx hb hr hlocks rfl hAe hS () rfl hP d_G_hasSlot_37
  rw [if_neg c9] at hf
  refine lv_iload_n hx hb d_G_hasSlot_22 rfl (lv_at hl 2 rfl) ?_
  refine lv_aload_n hx hb d_G_hasSlot_23 rfl (lv_at hl 0 rfl) ?_
  refine va_get (D := X) (ci := 2) (C := R_G) (T := T_G) (N := 6) hx hb hts u_0 hown hK hP 1 gc_1 rfl 2 (by decide) k_1 (fun _ h9 => h9) rfl d_G_hasSlot_24 ?_
  refine lv_iload_n hx hb d_G_hasSlot_27 rfl (lv_at hl 1 rfl) ?_
  obtain ⟨y10, h11, e12, hf⟩ := gLd_e hf
  refine va_iald hx hb hK hP 3 0 gc_3 rfl h11 d_G_hasSlot_28 ?_
  rw [← e12]
  refine lv_icmp_ge (tgt := 36) hx hb d_G_hasSlot_29 rfl (fun c13 => ?_) (fun c13 => ?_)
  · skip
    rw [if_pos c13] at hf
    refine lv_iconst (v := 0) hx hb d_G_hasSlot_36 (by decide) ?_
    obtain ⟨rfl, rfl⟩ := gRt_e hf
    exact g_zret hx hb hr hlocks rfl hAe hS () rfl hP d_G_hasSlot_37
  rw [if_neg c13] at hf
  refine lv_iconst (v := 1) hx hb d_G_hasSlot_32 (by decide) ?_
  refine lv_goto (tgt := 37) hx hb d_G_hasSlot_33 rfl ?_
  obtain ⟨rfl, rfl⟩ := gRt_e hf
  exact g_zret hx hb hr hlocks rfl hAe hS () rfl hP d_G_hasSlot_37

def f_G_setSlot (σ : gS) (x1 : Int32) (x2 : Int32) (x3 : Int32) (x4 : Int32) : Option (Int32 × gS) := gSt σ 4 64 ((x1 * 4) + x2) x3 (fun σ1 => gSt σ1 5 64 ((x1 * 4) + x2) x4 (fun σ4 => some (0, σ4)))
set_option maxHeartbeats 4000000 in
set_option maxRecDepth 100000 in
theorem m_G_setSlot {l : Launch} {X : va_G} {cI cC cZ : ClassId} {aK aV : Nat → Nat} {a : Nat → Nat} {σ σ' : gS} {r : Int32} {x1 : Int32} {x2 : Int32} {x3 : Int32} {x4 : Int32} (hf : f_G_setSlot σ x1 x2 x3 x4 = some (r, σ')) {sz : Nat} : Met l y_G_setSlot w_G_setSlot { frames := 0, cells := 0, slots := 0, locals := 0 } (gPc X vwCl (gT cI cC cZ) aK aV (cW cI cC cZ a σ) sz [.ref (a 1), .int x1, .int x2, .int x3, .int x4]) (gQv X vwCl (cW cI cC cZ a σ) sz (fun (_ : Unit) => True) (fun _ => cW cI cC cZ a σ')) 0 0 (va_A (cW cI cC cZ a σ) sz) := by
  refine g_met (cc := b_G_setSlot) (maxL := 5) (ret := none) (by decide) rfl (Nat.le_of_ble_eq_true rfl) ?_
  intro p e s m below meth c A ls hx hb hr hml hown hts hlocks hnm hsz hAe hA hP hK hD hS hl hE
  have hown : s.vm.findClass R_G = some m.cls := hown
  have u_0 : ∀ w ∈ u_ws R_G T_G 6, w ∈ w_G_setSlot := fun w h => List.mem_cons_of_mem _ (tu_G w h)
  have k_0 := hts (.fieldLink R_G 18 "GraphPages$Graph" "contents" "[I") (List.mem_cons_of_mem _ tb_119)
  have k_1 := hts (.fieldLink R_G 21 "GraphPages$Graph" "values" "[I") (List.mem_cons_of_mem _ tb_120)
  unfold f_G_setSlot at hf
  refine lv_aload_n hx hb d_G_setSlot_0 rfl (lv_at hl 0 rfl) ?_
  refine va_get (D := X) (ci := 2) (C := R_G) (T := T_G) (N := 6) hx hb hts u_0 hown hK hP 1 gc_1 rfl 3 (by decide) k_0 (fun _ h9 => h9) rfl d_G_setSlot_1 ?_
  refine lv_iload_n hx hb d_G_setSlot_4 rfl (lv_at hl 1 rfl) ?_
  refine lv_iconst (v := 4) hx hb d_G_setSlot_5 (by decide) ?_
  refine lv_imul hx hb d_G_setSlot_6 ?_
  refine lv_iload_n hx hb d_G_setSlot_7 rfl (lv_at hl 2 rfl) ?_
  refine lv_iadd hx hb d_G_setSlot_8 ?_
  refine lv_iload_n hx hb d_G_setSlot_9 rfl (lv_at hl 3 rfl) ?_
  obtain ⟨σ1, h2, e3, hf⟩ := gSt_e hf
  refine va_iast hx hb hK hP hD hS 4 0 gc_4 rfl h2 d_G_setSlot_10 (fun H locs hP hD hS => ?_)
  rw [sc_4, ← e3] at hP hD
  refine lv_aload_n hx hb d_G_setSlot_11 rfl (lv_at hl 0 rfl) ?_
  refine va_get (D := X) (ci := 2) (C := R_G) (T := T_G) (N := 6) hx hb hts u_0 hown hK hP 1 gc_1 rfl 4 (by decide) k_1 (fun _ h9 => h9) rfl d_G_setSlot_12 ?_
  refine lv_iload_n hx hb d_G_setSlot_15 rfl (lv_at hl 1 rfl) ?_
  refine lv_iconst (v := 4) hx hb d_G_setSlot_16 (by decide) ?_
  refine lv_imul hx hb d_G_setSlot_17 ?_
  refine lv_iload_n hx hb d_G_setSlot_18 rfl (lv_at hl 2 rfl) ?_
  refine lv_iadd hx hb d_G_setSlot_19 ?_
  refine lv_iload hx hb d_G_setSlot_20 (lv_at hl 4 rfl) ?_
  obtain ⟨σ4, h5, e6, hf⟩ := gSt_e hf
  refine va_iast hx hb hK hP hD hS 5 0 gc_5 rfl h5 d_G_setSlot_22 (fun H locs hP hD hS => ?_)
  rw [sc_5, ← e6] at hP hD
  obtain ⟨-, rfl⟩ := gRt_e hf
  exact g_vret hx hb hr hlocks hAe hS () trivial hP d_G_setSlot_23

def B_G_lay_0 (rec : Nat → List Int32 → gS → Option (Int32 × gS)) (x1 : Int32) (x2 : Int32) (x3 : Int32) (σ0 : gS) : Option (Int32 × gS) := gSt σ0 2 16 x1 x2 (fun σ1 => gSt σ1 3 16 x1 x3 (fun σ4 => rec 1 [x1, 0] σ4))
def B_G_lay_1 (rec : Nat → List Int32 → gS → Option (Int32 × gS)) (x1 : Int32) (x4 : Int32) (σ0 : gS) : Option (Int32 × gS) := if 4 ≤ x4 then (some (0, σ0)) else (gBd (f_G_setSlot σ0 x1 x4 0 0) (fun _ σ9 => rec 1 [x1, (x4 + 1)] σ9))
def S_G_lay (rec : Nat → List Int32 → gS → Option (Int32 × gS)) (k : Nat) (l : List Int32) (σ0 : gS) : Option (Int32 × gS) := match k, l with
  | 0, [x1, x2, x3] => B_G_lay_0 rec x1 x2 x3 σ0
  | 1, [x1, x4] => B_G_lay_1 rec x1 x4 σ0
  | _, _ => none
def R_G_lay : Nat → Nat → List Int32 → gS → Option (Int32 × gS)
  | 0 => fun _ _ _ => none
  | t + 1 => fun k l σ0 => S_G_lay (R_G_lay t) k l σ0
def f_G_lay (σ : gS) (x1 : Int32) (x2 : Int32) (x3 : Int32) : Option (Int32 × gS) := R_G_lay gFuel 0 [x1, x2, x3] σ
set_option maxHeartbeats 4000000 in
set_option maxRecDepth 100000 in
theorem m_G_lay {l : Launch} {X : va_G} {cI cC cZ : ClassId} {aK aV : Nat → Nat} {a : Nat → Nat} {σ σ' : gS} {r : Int32} {q1 : Int32} {q2 : Int32} {q3 : Int32} (hf : f_G_lay σ q1 q2 q3 = some (r, σ')) {sz : Nat} : Met l y_G_lay w_G_lay { frames := 1, cells := 0, slots := 0, locals := 24 } (gPc X vwCl (gT cI cC cZ) aK aV (cW cI cC cZ a σ) sz [.ref (a 1), .int q1, .int q2, .int q3]) (gQv X vwCl (cW cI cC cZ a σ) sz (fun (_ : Unit) => True) (fun _ => cW cI cC cZ a σ')) 0 0 (va_A (cW cI cC cZ a σ) sz) := by
  refine g_met (cc := b_G_lay) (maxL := 5) (ret := none) (by decide) rfl (Nat.le_of_ble_eq_true rfl) ?_
  intro p e s m below meth c A ls hx hb hr hml hown hts hlocks hnm hsz hAe hA hP hK hD hS hl hE
  have hown : s.vm.findClass R_G = some m.cls := hown
  have u_0 : ∀ w ∈ u_ws R_G T_G 6, w ∈ w_G_lay := fun w h => List.mem_cons_of_mem _ (tu_G w h)
  have k_0 := hts (.fieldLink R_G 9 "GraphPages$Graph" "kinds" "[I") (List.mem_cons_of_mem _ tb_117)
  have k_1 := hts (.fieldLink R_G 15 "GraphPages$Graph" "sizes" "[I") (List.mem_cons_of_mem _ tb_118)
  unfold f_G_lay at hf
  have key : ∀ t : Nat, (∀ (x1 : Int32) (x2 : Int32) (x3 : Int32) (σ0 : gS) (H : Heap) (locs : List Loc) (ls : Array Slot), R_G_lay t 0 [x1, x2, x3] σ0 = some (r, σ') → va_P X vwCl (cW cI cC cZ a σ0) H → va_D A (cW cI cC cZ a σ0) → va_S A s.heap H locs → lv_has ls 5 [(0, .ref (a 1)), (1, .int x1), (2, .int x2), (3, .int x3)] → W p l e (headSpec w_G_lay { frames := 1, cells := 0, slots := 0, locals := 24 }).room s m [.ref (a 1), .int q1, .int q2, .int q3].toArray below meth c H locs 0 0 (MQ below (gQv X vwCl (cW cI cC cZ a σ) sz (fun (_ : Unit) => True) (fun _ => cW cI cC cZ a σ')) [.ref (a 1), .int q1, .int q2, .int q3].toArray s 0 0 (va_A (cW cI cC cZ a σ) sz)) (F0 m 0 ls [])) ∧ (∀ (x1 : Int32) (x4 : Int32) (σ0 : gS) (H : Heap) (locs : List Loc) (ls : Array Slot), R_G_lay t 1 [x1, x4] σ0 = some (r, σ') → va_P X vwCl (cW cI cC cZ a σ0) H → va_D A (cW cI cC cZ a σ0) → va_S A s.heap H locs → lv_has ls 5 [(0, .ref (a 1)), (1, .int x1), (4, .int x4)] → W p l e (headSpec w_G_lay { frames := 1, cells := 0, slots := 0, locals := 24 }).room s m [.ref (a 1), .int q1, .int q2, .int q3].toArray below meth c H locs 0 0 (MQ below (gQv X vwCl (cW cI cC cZ a σ) sz (fun (_ : Unit) => True) (fun _ => cW cI cC cZ a σ')) [.ref (a 1), .int q1, .int q2, .int q3].toArray s 0 0 (va_A (cW cI cC cZ a σ) sz)) (F0 m 17 ls [])) := by
    intro t
    induction t with
    | zero => exact ⟨fun _ _ _ _ _ _ _ hf => (by have hf : (none : Option (Int32 × gS)) = some (r, σ') := hf; cases hf), fun _ _ _ _ _ _ hf => (by have hf : (none : Option (Int32 × gS)) = some (r, σ') := hf; cases hf)⟩
    | succ t ih =>
      obtain ⟨ih0, ih1⟩ := ih
      refine ⟨?_, ?_⟩
      · intro x1 x2 x3 σ0 H locs ls hf hP hD hS hl
        have hf : B_G_lay_0 (R_G_lay t) x1 x2 x3 σ0 = some (r, σ') := hf
        unfold B_G_lay_0 at hf
        refine lv_aload_n hx hb d_G_lay_0 rfl (lv_at hl 0 rfl) ?_
        refine va_get (D := X) (ci := 2) (C := R_G) (T := T_G) (N := 6) hx hb hts u_0 hown hK hP 1 gc_1 rfl 1 (by decide) k_0 (fun _ h9 => h9) rfl d_G_lay_1 ?_
        refine lv_iload_n hx hb d_G_lay_4 rfl (lv_at hl 1 rfl) ?_
        refine lv_iload_n hx hb d_G_lay_5 rfl (lv_at hl 2 rfl) ?_
        obtain ⟨σ1, h2, e3, hf⟩ := gSt_e hf
        refine va_iast hx hb hK hP hD hS 2 0 gc_2 rfl h2 d_G_lay_6 (fun H locs hP hD hS => ?_)
        rw [sc_2, ← e3] at hP hD
        refine lv_aload_n hx hb d_G_lay_7 rfl (lv_at hl 0 rfl) ?_
        refine va_get (D := X) (ci := 2) (C := R_G) (T := T_G) (N := 6) hx hb hts u_0 hown hK hP 1 gc_1 rfl 2 (by decide) k_1 (fun _ h9 => h9) rfl d_G_lay_8 ?_
        refine lv_iload_n hx hb d_G_lay_11 rfl (lv_at hl 1 rfl) ?_
        refine lv_iload_n hx hb d_G_lay_12 rfl (lv_at hl 3 rfl) ?_
        obtain ⟨σ4, h5, e6, hf⟩ := gSt_e hf
        refine va_iast hx hb hK hP hD hS 3 0 gc_3 rfl h5 d_G_lay_13 (fun H locs hP hD hS => ?_)
        rw [sc_3, ← e6] at hP hD
        refine lv_iconst (v := 0) hx hb d_G_lay_14 (by decide) ?_
        refine lv_istore hx hb d_G_lay_15 hl (by decide) rfl (fun ls hl => ?_)
        exact ih1 (x1) (0) σ4 _ _ _ hf hP hD hS (lv_sub hl [1, 2, 0] rfl)
      · intro x1 x4 σ0 H locs ls hf hP hD hS hl
        have hf : B_G_lay_1 (R_G_lay t) x1 x4 σ0 = some (r, σ') := hf
        unfold B_G_lay_1 at hf
        refine lv_iload hx hb d_G_lay_17 (lv_at hl 2 rfl) ?_
        refine lv_iconst (v := 4) hx hb d_G_lay_19 (by decide) ?_
        refine lv_icmp_ge (tgt := 38) hx hb d_G_lay_20 rfl (fun c7 => ?_) (fun c7 => ?_)
        · skip
          rw [if_pos c7] at hf
          obtain ⟨-, rfl⟩ := gRt_e hf
          exact g_vret hx hb hr hlocks hAe hS () trivial hP d_G_lay_38
        rw [if_neg c7] at hf
        refine lv_aload_n hx hb d_G_lay_23 rfl (lv_at hl 0 rfl) ?_
        refine lv_iload_n hx hb d_G_lay_24 rfl (lv_at hl 1 rfl) ?_
        refine lv_iload hx hb d_G_lay_25 (lv_at hl 2 rfl) ?_
        refine lv_iconst (v := 0) hx hb d_G_lay_27 (by decide) ?_
        refine lv_iconst (v := 0) hx hb d_G_lay_28 (by decide) ?_
        obtain ⟨y8, σ9, e10, hf⟩ := gBd_e hf
        refine g_wv (va_runV ⟨hx, hb, hml, hown, hts⟩ (m_G_setSlot e10) (cwV 4 hts (gG4 (fun _ h => List.mem_cons_of_mem _ h) tb_121 tb_122 tb_123 tb_116 tc_G_setSlot) rfl rfl rfl (by decide +kernel) ⟨Nat.le_of_ble_eq_true rfl, Nat.le_of_ble_eq_true rfl⟩) (g_preVW (q0 := 1) hE hK hP hD hS hA gc_1 rfl) rfl rfl hl.1 rfl (lv_room (Nat.le_of_ble_eq_true rfl)) d_G_lay_29 ⟨Nat.zero_le _, Nat.zero_le _⟩) hD hS hA (fun _ => cW_fst) (fun _ H locs _ hP hD hS => ?_)
        refine lv_iinc (k := 2) (v := (x4 + 1)) hx hb d_G_lay_32 hl rfl (by rw [show Int32.ofInt (1) = (1 : Int32) by decide]) (by decide) rfl (fun ls hl => ?_)
        refine lv_goto (tgt := 17) hx hb d_G_lay_35 rfl ?_
        exact ih1 (x1) ((x4 + 1)) σ9 _ _ _ hf hP hD hS (lv_sub hl [1, 2, 0] rfl)
  exact (key gFuel).1 q1 q2 q3 σ _ _ _ hf hP hD hS hl

def f_G_add (σ : gS) (x1 : Int32) (x2 : Int32) : Option (Int32 × gS) := gBd (f_G_lay σ (σ.1 0) x1 x2) (fun _ σ2 => gPut σ2 0 ((σ2.1 0) + 1) (fun σ4 => some (((σ4.1 0) - 1), σ4)))
set_option maxHeartbeats 4000000 in
set_option maxRecDepth 100000 in
theorem m_G_add {l : Launch} {X : va_G} {cI cC cZ : ClassId} {aK aV : Nat → Nat} {a : Nat → Nat} {σ σ' : gS} {r : Int32} {x1 : Int32} {x2 : Int32} (hf : f_G_add σ x1 x2 = some (r, σ')) {sz : Nat} : Met l y_G_add w_G_add { frames := 2, cells := 0, slots := 0, locals := 48 } (gPc X vwCl (gT cI cC cZ) aK aV (cW cI cC cZ a σ) sz [.ref (a 1), .int x1, .int x2]) (gQi X vwCl (cW cI cC cZ a σ) sz (fun r' (_ : Unit) => r' = r) (fun _ => cW cI cC cZ a σ')) 0 0 (va_A (cW cI cC cZ a σ) sz) := by
  refine g_met (cc := b_G_add) (maxL := 3) (ret := (some .int)) (by decide) rfl (Nat.le_of_ble_eq_true rfl) ?_
  intro p e s m below meth c A ls hx hb hr hml hown hts hlocks hnm hsz hAe hA hP hK hD hS hl hE
  have hown : s.vm.findClass R_G = some m.cls := hown
  have u_0 : ∀ w ∈ u_ws R_G T_G 6, w ∈ w_G_add := fun w h => List.mem_cons_of_mem _ (tu_G w h)
  have k_0 := hts (.fieldLink R_G 28 "GraphPages$Graph" "count" "I") (List.mem_cons_of_mem _ tb_112)
  unfold f_G_add at hf
  refine lv_aload_n hx hb d_G_add_0 rfl (lv_at hl 0 rfl) ?_
  refine lv_aload_n hx hb d_G_add_1 rfl (lv_at hl 0 rfl) ?_
  refine va_get (D := X) (ci := 2) (C := R_G) (T := T_G) (N := 6) hx hb hts u_0 hown hK hP 1 gc_1 rfl 0 (by decide) k_0 (fun _ h9 => h9) rfl d_G_add_2 ?_
  refine lv_iload_n hx hb d_G_add_5 rfl (lv_at hl 1 rfl) ?_
  refine lv_iload_n hx hb d_G_add_6 rfl (lv_at hl 2 rfl) ?_
  obtain ⟨y1, σ2, e3, hf⟩ := gBd_e hf
  refine g_wv (va_runV ⟨hx, hb, hml, hown, hts⟩ (m_G_lay e3) (cwV 3 hts (gG4 (fun _ h => List.mem_cons_of_mem _ h) tb_124 tb_125 tb_126 tb_116 tc_G_lay) rfl rfl rfl (by decide +kernel) ⟨Nat.le_of_ble_eq_true rfl, Nat.le_of_ble_eq_true rfl⟩) (g_preVW (q0 := 1) hE hK hP hD hS hA gc_1 rfl) rfl rfl hl.1 rfl (lv_room (Nat.le_of_ble_eq_true rfl)) d_G_add_7 ⟨Nat.zero_le _, Nat.zero_le _⟩) hD hS hA (fun _ => cW_fst) (fun _ H locs _ hP hD hS => ?_)
  refine lv_aload_n hx hb d_G_add_10 rfl (lv_at hl 0 rfl) ?_
  refine lv_dup hx hb d_G_add_11 rfl ?_
  refine va_get (D := X) (ci := 2) (C := R_G) (T := T_G) (N := 6) hx hb hts u_0 hown hK hP 1 gc_1 rfl 0 (by decide) k_0 (fun _ h9 => h9) rfl d_G_add_12 ?_
  refine lv_iconst (v := 1) hx hb d_G_add_15 (by decide) ?_
  refine lv_iadd hx hb d_G_add_16 ?_
  obtain ⟨σ4, e5, hf⟩ := gPut_e hf
  refine va_put (D := X) (ci := 2) (ty := .int) (C := R_G) (T := T_G) (N := 6) hx hb hts u_0 t_G t_G_ok n_G hown hK hP hD hS 1 gc_1 rfl 0 (by decide) k_0 (fun _ h9 => h9) rfl (by decide +kernel) rfl rfl (Nat.le_of_ble_eq_true rfl) d_G_add_17 (fun H locs hP hD hS => ?_)
  rw [sc_1_0, ← e5] at hP hD
  refine lv_aload_n hx hb d_G_add_20 rfl (lv_at hl 0 rfl) ?_
  refine va_get (D := X) (ci := 2) (C := R_G) (T := T_G) (N := 6) hx hb hts u_0 hown hK hP 1 gc_1 rfl 0 (by decide) k_0 (fun _ h9 => h9) rfl d_G_add_21 ?_
  refine lv_iconst (v := 1) hx hb d_G_add_24 (by decide) ?_
  refine lv_isub hx hb d_G_add_25 ?_
  obtain ⟨rfl, rfl⟩ := gRt_e hf
  exact g_zret hx hb hr hlocks rfl hAe hS () rfl hP d_G_add_26

def f_G_contentOf (σ : gS) (x1 : Int32) (x2 : Int32) : Option (Int32 × gS) := gLd σ 4 64 ((x1 * 4) + x2) (fun y1 => some (y1, σ))
set_option maxHeartbeats 4000000 in
set_option maxRecDepth 100000 in
theorem m_G_contentOf {l : Launch} {X : va_G} {cI cC cZ : ClassId} {aK aV : Nat → Nat} {a : Nat → Nat} {σ σ' : gS} {r : Int32} {x1 : Int32} {x2 : Int32} (hf : f_G_contentOf σ x1 x2 = some (r, σ')) {sz : Nat} : Met l y_G_contentOf w_G_contentOf { frames := 0, cells := 0, slots := 0, locals := 0 } (gPc X vwCl (gT cI cC cZ) aK aV (cW cI cC cZ a σ) sz [.ref (a 1), .int x1, .int x2]) (gQi X vwCl (cW cI cC cZ a σ) sz (fun r' (_ : Unit) => r' = r) (fun _ => cW cI cC cZ a σ')) 0 0 (va_A (cW cI cC cZ a σ) sz) := by
  refine g_met (cc := b_G_contentOf) (maxL := 3) (ret := (some .int)) (by decide) rfl (Nat.le_of_ble_eq_true rfl) ?_
  intro p e s m below meth c A ls hx hb hr hml hown hts hlocks hnm hsz hAe hA hP hK hD hS hl hE
  have hown : s.vm.findClass R_G = some m.cls := hown
  have u_0 : ∀ w ∈ u_ws R_G T_G 6, w ∈ w_G_contentOf := fun w h => List.mem_cons_of_mem _ (tu_G w h)
  have k_0 := hts (.fieldLink R_G 18 "GraphPages$Graph" "contents" "[I") (List.mem_cons_of_mem _ tb_119)
  unfold f_G_contentOf at hf
  refine lv_aload_n hx hb d_G_contentOf_0 rfl (lv_at hl 0 rfl) ?_
  refine va_get (D := X) (ci := 2) (C := R_G) (T := T_G) (N := 6) hx hb hts u_0 hown hK hP 1 gc_1 rfl 3 (by decide) k_0 (fun _ h9 => h9) rfl d_G_contentOf_1 ?_
  refine lv_iload_n hx hb d_G_contentOf_4 rfl (lv_at hl 1 rfl) ?_
  refine lv_iconst (v := 4) hx hb d_G_contentOf_5 (by decide) ?_
  refine lv_imul hx hb d_G_contentOf_6 ?_
  refine lv_iload_n hx hb d_G_contentOf_7 rfl (lv_at hl 2 rfl) ?_
  refine lv_iadd hx hb d_G_contentOf_8 ?_
  obtain ⟨y1, h2, e3, hf⟩ := gLd_e hf
  refine va_iald hx hb hK hP 4 0 gc_4 rfl h2 d_G_contentOf_9 ?_
  rw [← e3]
  obtain ⟨rfl, rfl⟩ := gRt_e hf
  exact g_zret hx hb hr hlocks rfl hAe hS () rfl hP d_G_contentOf_10

def f_G_valueOf (σ : gS) (x1 : Int32) (x2 : Int32) : Option (Int32 × gS) := gLd σ 5 64 ((x1 * 4) + x2) (fun y1 => some (y1, σ))
set_option maxHeartbeats 4000000 in
set_option maxRecDepth 100000 in
theorem m_G_valueOf {l : Launch} {X : va_G} {cI cC cZ : ClassId} {aK aV : Nat → Nat} {a : Nat → Nat} {σ σ' : gS} {r : Int32} {x1 : Int32} {x2 : Int32} (hf : f_G_valueOf σ x1 x2 = some (r, σ')) {sz : Nat} : Met l y_G_valueOf w_G_valueOf { frames := 0, cells := 0, slots := 0, locals := 0 } (gPc X vwCl (gT cI cC cZ) aK aV (cW cI cC cZ a σ) sz [.ref (a 1), .int x1, .int x2]) (gQi X vwCl (cW cI cC cZ a σ) sz (fun r' (_ : Unit) => r' = r) (fun _ => cW cI cC cZ a σ')) 0 0 (va_A (cW cI cC cZ a σ) sz) := by
  refine g_met (cc := b_G_valueOf) (maxL := 3) (ret := (some .int)) (by decide) rfl (Nat.le_of_ble_eq_true rfl) ?_
  intro p e s m below meth c A ls hx hb hr hml hown hts hlocks hnm hsz hAe hA hP hK hD hS hl hE
  have hown : s.vm.findClass R_G = some m.cls := hown
  have u_0 : ∀ w ∈ u_ws R_G T_G 6, w ∈ w_G_valueOf := fun w h => List.mem_cons_of_mem _ (tu_G w h)
  have k_0 := hts (.fieldLink R_G 21 "GraphPages$Graph" "values" "[I") (List.mem_cons_of_mem _ tb_120)
  unfold f_G_valueOf at hf
  refine lv_aload_n hx hb d_G_valueOf_0 rfl (lv_at hl 0 rfl) ?_
  refine va_get (D := X) (ci := 2) (C := R_G) (T := T_G) (N := 6) hx hb hts u_0 hown hK hP 1 gc_1 rfl 4 (by decide) k_0 (fun _ h9 => h9) rfl d_G_valueOf_1 ?_
  refine lv_iload_n hx hb d_G_valueOf_4 rfl (lv_at hl 1 rfl) ?_
  refine lv_iconst (v := 4) hx hb d_G_valueOf_5 (by decide) ?_
  refine lv_imul hx hb d_G_valueOf_6 ?_
  refine lv_iload_n hx hb d_G_valueOf_7 rfl (lv_at hl 2 rfl) ?_
  refine lv_iadd hx hb d_G_valueOf_8 ?_
  obtain ⟨y1, h2, e3, hf⟩ := gLd_e hf
  refine va_iald hx hb hK hP 5 0 gc_5 rfl h2 d_G_valueOf_9 ?_
  rw [← e3]
  obtain ⟨rfl, rfl⟩ := gRt_e hf
  exact g_zret hx hb hr hlocks rfl hAe hS () rfl hP d_G_valueOf_10

def f_G_addCharacter (σ : gS) (x1 : Int32) (x2 : Int32) : Option (Int32 × gS) := gLd σ 3 16 x1 (fun y1 => if y1 < 6 then (gLd σ 3 16 x1 (fun y5 => gSt σ 6 96 ((x1 * 6) + y5) (vp_nar .char x2) (fun σ8 => gLd σ8 3 16 x1 (fun y11 => gSt σ8 3 16 x1 (y11 + 1) (fun σ14 => some (1, σ14)))))) else (some (0, σ)))
set_option maxHeartbeats 4000000 in
set_option maxRecDepth 100000 in
theorem m_G_addCharacter {l : Launch} {X : va_G} {cI cC cZ : ClassId} {aK aV : Nat → Nat} {a : Nat → Nat} {σ σ' : gS} {r : Int32} {x1 : Int32} {x2 : Int32} (hf : f_G_addCharacter σ x1 x2 = some (r, σ')) {sz : Nat} : Met l y_G_addCharacter w_G_addCharacter { frames := 0, cells := 0, slots := 0, locals := 0 } (gPc X vwCl (gT cI cC cZ) aK aV (cW cI cC cZ a σ) sz [.ref (a 1), .int x1, .int x2]) (gQi X vwCl (cW cI cC cZ a σ) sz (fun r' (_ : Unit) => r' = r) (fun _ => cW cI cC cZ a σ')) 0 0 (va_A (cW cI cC cZ a σ) sz) := by
  refine g_met (cc := b_G_addCharacter) (maxL := 3) (ret := (some .boolean)) (by decide) rfl (Nat.le_of_ble_eq_true rfl) ?_
  intro p e s m below meth c A ls hx hb hr hml hown hts hlocks hnm hsz hAe hA hP hK hD hS hl hE
  have hown : s.vm.findClass R_G = some m.cls := hown
  have u_0 : ∀ w ∈ u_ws R_G T_G 6, w ∈ w_G_addCharacter := fun w h => List.mem_cons_of_mem _ (tu_G w h)
  have k_0 := hts (.fieldLink R_G 15 "GraphPages$Graph" "sizes" "[I") (List.mem_cons_of_mem _ tb_118)
  have k_1 := hts (.fieldLink R_G 24 "GraphPages$Graph" "characters" "[C") (List.mem_cons_of_mem _ tb_127)
  unfold f_G_addCharacter at hf
  refine lv_aload_n hx hb d_G_addCharacter_0 rfl (lv_at hl 0 rfl) ?_
  refine va_get (D := X) (ci := 2) (C := R_G) (T := T_G) (N := 6) hx hb hts u_0 hown hK hP 1 gc_1 rfl 2 (by decide) k_0 (fun _ h9 => h9) rfl d_G_addCharacter_1 ?_
  refine lv_iload_n hx hb d_G_addCharacter_4 rfl (lv_at hl 1 rfl) ?_
  obtain ⟨y1, h2, e3, hf⟩ := gLd_e hf
  refine va_iald hx hb hK hP 3 0 gc_3 rfl h2 d_G_addCharacter_5 ?_
  rw [← e3]
  refine lv_bipush (v := 6) hx hb d_G_addCharacter_6 (by decide) ?_
  refine lv_icmp_lt (tgt := 13) hx hb d_G_addCharacter_8 rfl (fun c4 => ?_) (fun c4 => ?_)
  · skip
    rw [if_pos c4] at hf
    refine lv_aload_n hx hb d_G_addCharacter_13 rfl (lv_at hl 0 rfl) ?_
    refine va_get (D := X) (ci := 2) (C := R_G) (T := T_G) (N := 6) hx hb hts u_0 hown hK hP 1 gc_1 rfl 5 (by decide) k_1 (fun _ h9 => h9) rfl d_G_addCharacter_14 ?_
    refine lv_iload_n hx hb d_G_addCharacter_17 rfl (lv_at hl 1 rfl) ?_
    refine lv_bipush (v := 6) hx hb d_G_addCharacter_18 (by decide) ?_
    refine lv_imul hx hb d_G_addCharacter_20 ?_
    refine lv_aload_n hx hb d_G_addCharacter_21 rfl (lv_at hl 0 rfl) ?_
    refine va_get (D := X) (ci := 2) (C := R_G) (T := T_G) (N := 6) hx hb hts u_0 hown hK hP 1 gc_1 rfl 2 (by decide) k_0 (fun _ h9 => h9) rfl d_G_addCharacter_22 ?_
    refine lv_iload_n hx hb d_G_addCharacter_25 rfl (lv_at hl 1 rfl) ?_
    obtain ⟨y5, h6, e7, hf⟩ := gLd_e hf
    refine va_iald hx hb hK hP 3 0 gc_3 rfl h6 d_G_addCharacter_26 ?_
    rw [← e7]
    refine lv_iadd hx hb d_G_addCharacter_27 ?_
    refine lv_iload_n hx hb d_G_addCharacter_28 rfl (lv_at hl 2 rfl) ?_
    obtain ⟨σ8, h9, e10, hf⟩ := gSt_e hf
    refine va_cast hx hb hK hP hD hS 6 1 gc_6 rfl h9 d_G_addCharacter_29 (fun H locs hP hD hS => ?_)
    rw [sc_6, ← e10] at hP hD
    refine lv_aload_n hx hb d_G_addCharacter_30 rfl (lv_at hl 0 rfl) ?_
    refine va_get (D := X) (ci := 2) (C := R_G) (T := T_G) (N := 6) hx hb hts u_0 hown hK hP 1 gc_1 rfl 2 (by decide) k_0 (fun _ h9 => h9) rfl d_G_addCharacter_31 ?_
    refine lv_iload_n hx hb d_G_addCharacter_34 rfl (lv_at hl 1 rfl) ?_
    refine lv_dup2_11 hx hb d_G_addCharacter_35 rfl rfl ?_
    obtain ⟨y11, h12, e13, hf⟩ := gLd_e hf
    refine va_iald hx hb hK hP 3 0 gc_3 rfl h12 d_G_addCharacter_36 ?_
    rw [← e13]
    refine lv_iconst (v := 1) hx hb d_G_addCharacter_37 (by decide) ?_
    refine lv_iadd hx hb d_G_addCharacter_38 ?_
    obtain ⟨σ14, h15, e16, hf⟩ := gSt_e hf
    refine va_iast hx hb hK hP hD hS 3 0 gc_3 rfl h15 d_G_addCharacter_39 (fun H locs hP hD hS => ?_)
    rw [sc_3, ← e16] at hP hD
    refine lv_iconst (v := 1) hx hb d_G_addCharacter_40 (by decide) ?_
    obtain ⟨rfl, rfl⟩ := gRt_e hf
    exact g_zret hx hb hr hlocks rfl hAe hS () rfl hP d_G_addCharacter_41
  rw [if_neg c4] at hf
  refine lv_iconst (v := 0) hx hb d_G_addCharacter_11 (by decide) ?_
  obtain ⟨rfl, rfl⟩ := gRt_e hf
  exact g_zret hx hb hr hlocks rfl hAe hS () rfl hP d_G_addCharacter_12

def f_G_characterOf (σ : gS) (x1 : Int32) (x2 : Int32) : Option (Int32 × gS) := gLd σ 6 96 ((x1 * 6) + x2) (fun y1 => gNr .char y1 (some (y1, σ)))
set_option maxHeartbeats 4000000 in
set_option maxRecDepth 100000 in
theorem m_G_characterOf {l : Launch} {X : va_G} {cI cC cZ : ClassId} {aK aV : Nat → Nat} {a : Nat → Nat} {σ σ' : gS} {r : Int32} {x1 : Int32} {x2 : Int32} (hf : f_G_characterOf σ x1 x2 = some (r, σ')) {sz : Nat} : Met l y_G_characterOf w_G_characterOf { frames := 0, cells := 0, slots := 0, locals := 0 } (gPc X vwCl (gT cI cC cZ) aK aV (cW cI cC cZ a σ) sz [.ref (a 1), .int x1, .int x2]) (gQi X vwCl (cW cI cC cZ a σ) sz (fun r' (_ : Unit) => r' = r) (fun _ => cW cI cC cZ a σ')) 0 0 (va_A (cW cI cC cZ a σ) sz) := by
  refine g_met (cc := b_G_characterOf) (maxL := 3) (ret := (some .char)) (by decide) rfl (Nat.le_of_ble_eq_true rfl) ?_
  intro p e s m below meth c A ls hx hb hr hml hown hts hlocks hnm hsz hAe hA hP hK hD hS hl hE
  have hown : s.vm.findClass R_G = some m.cls := hown
  have u_0 : ∀ w ∈ u_ws R_G T_G 6, w ∈ w_G_characterOf := fun w h => List.mem_cons_of_mem _ (tu_G w h)
  have k_0 := hts (.fieldLink R_G 24 "GraphPages$Graph" "characters" "[C") (List.mem_cons_of_mem _ tb_127)
  unfold f_G_characterOf at hf
  refine lv_aload_n hx hb d_G_characterOf_0 rfl (lv_at hl 0 rfl) ?_
  refine va_get (D := X) (ci := 2) (C := R_G) (T := T_G) (N := 6) hx hb hts u_0 hown hK hP 1 gc_1 rfl 5 (by decide) k_0 (fun _ h9 => h9) rfl d_G_characterOf_1 ?_
  refine lv_iload_n hx hb d_G_characterOf_4 rfl (lv_at hl 1 rfl) ?_
  refine lv_bipush (v := 6) hx hb d_G_characterOf_5 (by decide) ?_
  refine lv_imul hx hb d_G_characterOf_7 ?_
  refine lv_iload_n hx hb d_G_characterOf_8 rfl (lv_at hl 2 rfl) ?_
  refine lv_iadd hx hb d_G_characterOf_9 ?_
  obtain ⟨y1, h2, e3, hf⟩ := gLd_e hf
  refine va_cald hx hb hK hP 6 1 gc_6 rfl h2 d_G_characterOf_10 ?_
  rw [← e3]
  obtain ⟨h4, hf⟩ := gNr_e hf
  obtain ⟨rfl, rfl⟩ := gRt_e hf
  exact g_zret hx hb hr hlocks h4 hAe hS () rfl hP d_G_characterOf_11
