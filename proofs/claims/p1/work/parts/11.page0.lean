def f_P_codeAt (σ : gS) (x1 : Int32) : Option (Int32 × gS) := if x1 < 0 then (some ((-1), σ)) else (if (σ.1 1) ≤ x1 then (some ((-1), σ)) else (gLd σ 8 1600 x1 (fun y3 => some (y3, σ))))
set_option maxHeartbeats 4000000 in
set_option maxRecDepth 100000 in
theorem m_P_codeAt {l : Launch} {X : va_G} {cI cC cZ : ClassId} {a : Nat → Nat} {σ σ' : gS} {r : Int32} {x1 : Int32} (hf : f_P_codeAt σ x1 = some (r, σ')) {sz : Nat} : Met l y_P_codeAt w_P_codeAt { frames := 0, cells := 0, slots := 0, locals := 0 } (gPc X vwCl (gT cI cC cZ) (cW cI cC cZ a σ) sz [.ref (a 7), .int x1]) (gQi X vwCl (cW cI cC cZ a σ) sz (fun r' (_ : Unit) => r' = r) (fun _ => cW cI cC cZ a σ')) 0 0 (va_A (cW cI cC cZ a σ) sz) := by
  refine g_met (cc := b_P_codeAt) (maxL := 2) (ret := (some .int)) (by decide) rfl (Nat.le_of_ble_eq_true rfl) ?_
  intro p e s m below meth c A ls hx hb hr hml hown hts hlocks hnm hsz hAe hA hP hK hD hS hl hN
  have hown : s.vm.findClass R_P = some m.cls := hown
  have u_0 : ∀ w ∈ u_ws R_P T_P 2, w ∈ w_P_codeAt := fun w h => List.mem_cons_of_mem _ (tu_P w h)
  have k_0 := hts (.fieldLink R_P 15 "GraphPages$Page" "end" "I") (List.mem_cons_of_mem _ tb_3)
  have k_1 := hts (.fieldLink R_P 9 "GraphPages$Page" "characters" "[C") (List.mem_cons_of_mem _ tb_4)
  unfold f_P_codeAt at hf
  refine lv_iload_n hx hb d_P_codeAt_0 rfl (lv_at hl 1 rfl) ?_
  refine lv_if_lt (tgt := 21) hx hb d_P_codeAt_1 rfl (fun c1 => ?_) (fun c1 => ?_)
  · skip
    rw [if_pos c1] at hf
    refine lv_iconst (v := (-1)) hx hb d_P_codeAt_21 (by decide) ?_
    obtain ⟨rfl, rfl⟩ := gRt_e hf
    exact g_zret hx hb hr hlocks rfl hAe hS () rfl hP d_P_codeAt_22
  rw [if_neg c1] at hf
  refine lv_iload_n hx hb d_P_codeAt_4 rfl (lv_at hl 1 rfl) ?_
  refine lv_aload_n hx hb d_P_codeAt_5 rfl (lv_at hl 0 rfl) ?_
  refine va_get (D := X) (ci := 5) (C := R_P) (T := T_P) (N := 2) hx hb hts u_0 hown hK hP 7 gc_7 rfl 0 (by decide) k_0 (fun _ h9 => h9) rfl d_P_codeAt_6 ?_
  refine lv_icmp_ge (tgt := 21) hx hb d_P_codeAt_9 rfl (fun c2 => ?_) (fun c2 => ?_)
  · skip
    rw [if_pos c2] at hf
    refine lv_iconst (v := (-1)) hx hb d_P_codeAt_21 (by decide) ?_
    obtain ⟨rfl, rfl⟩ := gRt_e hf
    exact g_zret hx hb hr hlocks rfl hAe hS () rfl hP d_P_codeAt_22
  rw [if_neg c2] at hf
  refine lv_aload_n hx hb d_P_codeAt_12 rfl (lv_at hl 0 rfl) ?_
  refine va_get (D := X) (ci := 5) (C := R_P) (T := T_P) (N := 2) hx hb hts u_0 hown hK hP 7 gc_7 rfl 1 (by decide) k_1 (fun _ h9 => h9) rfl d_P_codeAt_13 ?_
  refine lv_iload_n hx hb d_P_codeAt_16 rfl (lv_at hl 1 rfl) ?_
  obtain ⟨y3, h4, e5, hf⟩ := gLd_e hf
  refine va_cald hx hb hK hP 8 1 gc_8 rfl h4 d_P_codeAt_17 ?_
  rw [← e5]
  refine lv_goto (tgt := 22) hx hb d_P_codeAt_18 rfl ?_
  obtain ⟨rfl, rfl⟩ := gRt_e hf
  exact g_zret hx hb hr hlocks rfl hAe hS () rfl hP d_P_codeAt_22

def f_P_append (σ : gS) (x1 : Int32) : Option (Int32 × gS) := if (σ.1 1) < 1600 then (gSt σ 8 1600 (σ.1 1) (vp_nar .char x1) (fun σ2 => gPut σ2 1 ((σ2.1 1) + 1) (fun σ5 => some (1, σ5)))) else (some (0, σ))
set_option maxHeartbeats 4000000 in
set_option maxRecDepth 100000 in
theorem m_P_append {l : Launch} {X : va_G} {cI cC cZ : ClassId} {a : Nat → Nat} {σ σ' : gS} {r : Int32} {x1 : Int32} (hf : f_P_append σ x1 = some (r, σ')) {sz : Nat} : Met l y_P_append w_P_append { frames := 0, cells := 0, slots := 0, locals := 0 } (gPc X vwCl (gT cI cC cZ) (cW cI cC cZ a σ) sz [.ref (a 7), .int x1]) (gQi X vwCl (cW cI cC cZ a σ) sz (fun r' (_ : Unit) => r' = r) (fun _ => cW cI cC cZ a σ')) 0 0 (va_A (cW cI cC cZ a σ) sz) := by
  refine g_met (cc := b_P_append) (maxL := 2) (ret := (some .boolean)) (by decide) rfl (Nat.le_of_ble_eq_true rfl) ?_
  intro p e s m below meth c A ls hx hb hr hml hown hts hlocks hnm hsz hAe hA hP hK hD hS hl hN
  have hown : s.vm.findClass R_P = some m.cls := hown
  have u_0 : ∀ w ∈ u_ws R_P T_P 2, w ∈ w_P_append := fun w h => List.mem_cons_of_mem _ (tu_P w h)
  have k_0 := hts (.fieldLink R_P 15 "GraphPages$Page" "end" "I") (List.mem_cons_of_mem _ tb_3)
  have k_1 := hts (.fieldLink R_P 9 "GraphPages$Page" "characters" "[C") (List.mem_cons_of_mem _ tb_4)
  unfold f_P_append at hf
  refine lv_aload_n hx hb d_P_append_0 rfl (lv_at hl 0 rfl) ?_
  refine va_get (D := X) (ci := 5) (C := R_P) (T := T_P) (N := 2) hx hb hts u_0 hown hK hP 7 gc_7 rfl 0 (by decide) k_0 (fun _ h9 => h9) rfl d_P_append_1 ?_
  refine lv_sipush (v := 1600) hx hb d_P_append_4 (by decide) ?_
  refine lv_icmp_lt (tgt := 12) hx hb d_P_append_7 rfl (fun c1 => ?_) (fun c1 => ?_)
  · skip
    rw [if_pos c1] at hf
    refine lv_aload_n hx hb d_P_append_12 rfl (lv_at hl 0 rfl) ?_
    refine va_get (D := X) (ci := 5) (C := R_P) (T := T_P) (N := 2) hx hb hts u_0 hown hK hP 7 gc_7 rfl 1 (by decide) k_1 (fun _ h9 => h9) rfl d_P_append_13 ?_
    refine lv_aload_n hx hb d_P_append_16 rfl (lv_at hl 0 rfl) ?_
    refine va_get (D := X) (ci := 5) (C := R_P) (T := T_P) (N := 2) hx hb hts u_0 hown hK hP 7 gc_7 rfl 0 (by decide) k_0 (fun _ h9 => h9) rfl d_P_append_17 ?_
    refine lv_iload_n hx hb d_P_append_20 rfl (lv_at hl 1 rfl) ?_
    obtain ⟨σ2, h3, e4, hf⟩ := gSt_e hf
    refine va_cast hx hb hK hP hD hS 8 1 gc_8 rfl h3 d_P_append_21 (fun H locs hP hD hS => ?_)
    rw [sc_8, ← e4] at hP hD
    refine lv_aload_n hx hb d_P_append_22 rfl (lv_at hl 0 rfl) ?_
    refine lv_dup hx hb d_P_append_23 rfl ?_
    refine va_get (D := X) (ci := 5) (C := R_P) (T := T_P) (N := 2) hx hb hts u_0 hown hK hP 7 gc_7 rfl 0 (by decide) k_0 (fun _ h9 => h9) rfl d_P_append_24 ?_
    refine lv_iconst (v := 1) hx hb d_P_append_27 (by decide) ?_
    refine lv_iadd hx hb d_P_append_28 ?_
    obtain ⟨σ5, e6, hf⟩ := gPut_e hf
    refine va_put (D := X) (ci := 5) (ty := .int) (C := R_P) (T := T_P) (N := 2) hx hb hts u_0 t_P t_P_ok n_P hown hK hP hD hS 7 gc_7 rfl 0 (by decide) k_0 (fun _ h9 => h9) rfl (by decide +kernel) rfl rfl (Nat.le_of_ble_eq_true rfl) d_P_append_29 (fun H locs hP hD hS => ?_)
    rw [sc_7_0, ← e6] at hP hD
    refine lv_iconst (v := 1) hx hb d_P_append_32 (by decide) ?_
    obtain ⟨rfl, rfl⟩ := gRt_e hf
    exact g_zret hx hb hr hlocks rfl hAe hS () rfl hP d_P_append_33
  rw [if_neg c1] at hf
  refine lv_iconst (v := 0) hx hb d_P_append_10 (by decide) ?_
  obtain ⟨rfl, rfl⟩ := gRt_e hf
  exact g_zret hx hb hr hlocks rfl hAe hS () rfl hP d_P_append_11
