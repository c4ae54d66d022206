def f_E_removeAll (σ : gS) : Option (Int32 × gS) := gPut σ 5 0 (fun σ1 => gPut σ1 6 0 (fun σ3 => gPut σ3 7 0 (fun σ5 => some (0, σ5))))
set_option maxHeartbeats 4000000 in
set_option maxRecDepth 100000 in
theorem m_E_removeAll {l : Launch} {X : va_G} {cI cC cZ : ClassId} {a : Nat → Nat} {σ σ' : gS} {r : Int32} (hf : f_E_removeAll σ = some (r, σ')) {sz : Nat} : Met l y_E_removeAll w_E_removeAll { frames := 0, cells := 0, slots := 0, locals := 0 } (gPc X vwCl (gT cI cC cZ) (cW cI cC cZ a σ) sz [.ref (a 20)]) (gQv X vwCl (cW cI cC cZ a σ) sz (fun (_ : Unit) => True) (fun _ => cW cI cC cZ a σ')) 0 0 (va_A (cW cI cC cZ a σ) sz) := by
  refine g_met (cc := b_E_removeAll) (maxL := 1) (ret := none) (by decide) rfl (Nat.le_of_ble_eq_true rfl) ?_
  intro p e s m below meth c A ls hx hb hr hml hown hts hlocks hnm hsz hAe hA hP hK hD hS hl hN
  have hown : s.vm.findClass R_E = some m.cls := hown
  have u_0 : ∀ w ∈ u_ws R_E T_E 14, w ∈ w_E_removeAll := fun w h => List.mem_cons_of_mem _ (tu_E w h)
  have k_0 := hts (.fieldLink R_E 46 "GraphPages$Elements" "count" "I") (List.mem_cons_of_mem _ tb_0)
  have k_1 := hts (.fieldLink R_E 50 "GraphPages$Elements" "attributeCount" "I") (List.mem_cons_of_mem _ tb_1)
  have k_2 := hts (.fieldLink R_E 53 "GraphPages$Elements" "textCount" "I") (List.mem_cons_of_mem _ tb_2)
  unfold f_E_removeAll at hf
  refine lv_aload_n hx hb d_E_removeAll_0 rfl (lv_at hl 0 rfl) ?_
  refine lv_iconst (v := 0) hx hb d_E_removeAll_1 (by decide) ?_
  obtain ⟨σ1, e2, hf⟩ := gPut_e hf
  refine va_put (D := X) (ci := 0) (ty := .int) (C := R_E) (T := T_E) (N := 14) hx hb hts u_0 t_E t_E_ok n_E hown hK hP hD hS 20 gc_20 rfl 0 (by decide) k_0 (fun _ h9 => h9) rfl (by decide +kernel) rfl rfl (Nat.le_of_ble_eq_true rfl) d_E_removeAll_2 (fun H locs hP hD hS => ?_)
  rw [sc_20_0, ← e2] at hP hD
  refine lv_aload_n hx hb d_E_removeAll_5 rfl (lv_at hl 0 rfl) ?_
  refine lv_iconst (v := 0) hx hb d_E_removeAll_6 (by decide) ?_
  obtain ⟨σ3, e4, hf⟩ := gPut_e hf
  refine va_put (D := X) (ci := 0) (ty := .int) (C := R_E) (T := T_E) (N := 14) hx hb hts u_0 t_E t_E_ok n_E hown hK hP hD hS 20 gc_20 rfl 8 (by decide) k_1 (fun _ h9 => h9) rfl (by decide +kernel) rfl rfl (Nat.le_of_ble_eq_true rfl) d_E_removeAll_7 (fun H locs hP hD hS => ?_)
  rw [sc_20_8, ← e4] at hP hD
  refine lv_aload_n hx hb d_E_removeAll_10 rfl (lv_at hl 0 rfl) ?_
  refine lv_iconst (v := 0) hx hb d_E_removeAll_11 (by decide) ?_
  obtain ⟨σ5, e6, hf⟩ := gPut_e hf
  refine va_put (D := X) (ci := 0) (ty := .int) (C := R_E) (T := T_E) (N := 14) hx hb hts u_0 t_E t_E_ok n_E hown hK hP hD hS 20 gc_20 rfl 12 (by decide) k_2 (fun _ h9 => h9) rfl (by decide +kernel) rfl rfl (Nat.le_of_ble_eq_true rfl) d_E_removeAll_12 (fun H locs hP hD hS => ?_)
  rw [sc_20_12, ← e6] at hP hD
  obtain ⟨-, rfl⟩ := gRt_e hf
  exact g_vret hx hb hr hlocks hAe hS () trivial hP d_E_removeAll_15
