def f_O_isPrintable (σ : gS) (x0 : Int32) : Option (Int32 × gS) := if x0 < 32 then (some (0, σ)) else (if 126 < x0 then (some (0, σ)) else (some (1, σ)))
set_option maxHeartbeats 4000000 in
set_option maxRecDepth 100000 in
theorem m_O_isPrintable {l : Launch} {X : va_G} {cI cC cZ : ClassId} {a : Nat → Nat} {σ σ' : gS} {r : Int32} {x0 : Int32} (hf : f_O_isPrintable σ x0 = some (r, σ')) {sz : Nat} : Met l y_O_isPrintable w_O_isPrintable { frames := 0, cells := 0, slots := 0, locals := 0 } (gPc X vwCl (gT cI cC cZ) (cW cI cC cZ a σ) sz [.int x0]) (gQi X vwCl (cW cI cC cZ a σ) sz (fun r' (_ : Unit) => r' = r) (fun _ => cW cI cC cZ a σ')) 0 0 (va_A (cW cI cC cZ a σ) sz) := by
  refine g_met (cc := b_O_isPrintable) (maxL := 1) (ret := (some .boolean)) (by decide) rfl (Nat.le_of_ble_eq_true rfl) ?_
  intro p e s m below meth c A ls hx hb hr hml hown hts hlocks hnm hsz hAe hA hP hK hD hS hl hN
  have hown : s.vm.findClass R_O = some m.cls := hown
  unfold f_O_isPrintable at hf
  refine lv_iload_n hx hb d_O_isPrintable_0 rfl (lv_at hl 0 rfl) ?_
  refine lv_bipush (v := 32) hx hb d_O_isPrintable_1 (by decide) ?_
  refine lv_icmp_lt (tgt := 16) hx hb d_O_isPrintable_3 rfl (fun c1 => ?_) (fun c1 => ?_)
  · skip
    rw [if_pos c1] at hf
    refine lv_iconst (v := 0) hx hb d_O_isPrintable_16 (by decide) ?_
    obtain ⟨rfl, rfl⟩ := gRt_e hf
    exact g_zret hx hb hr hlocks rfl hAe hS () rfl hP d_O_isPrintable_17
  rw [if_neg c1] at hf
  refine lv_iload_n hx hb d_O_isPrintable_6 rfl (lv_at hl 0 rfl) ?_
  refine lv_bipush (v := 126) hx hb d_O_isPrintable_7 (by decide) ?_
  refine lv_icmp_gt (tgt := 16) hx hb d_O_isPrintable_9 rfl (fun c2 => ?_) (fun c2 => ?_)
  · skip
    rw [if_pos c2] at hf
    refine lv_iconst (v := 0) hx hb d_O_isPrintable_16 (by decide) ?_
    obtain ⟨rfl, rfl⟩ := gRt_e hf
    exact g_zret hx hb hr hlocks rfl hAe hS () rfl hP d_O_isPrintable_17
  rw [if_neg c2] at hf
  refine lv_iconst (v := 1) hx hb d_O_isPrintable_12 (by decide) ?_
  refine lv_goto (tgt := 17) hx hb d_O_isPrintable_13 rfl ?_
  obtain ⟨rfl, rfl⟩ := gRt_e hf
  exact g_zret hx hb hr hlocks rfl hAe hS () rfl hP d_O_isPrintable_17
