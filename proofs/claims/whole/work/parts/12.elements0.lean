def f_E_removeAll (σ : gS) : Option (Int32 × gS) := gPut σ 5 0 (fun σ1 => gPut σ1 6 0 (fun σ3 => gPut σ3 7 0 (fun σ5 => some (0, σ5))))
set_option maxHeartbeats 4000000 in
set_option maxRecDepth 100000 in
theorem m_E_removeAll {l : Launch} {X : va_G} {cI cC cZ : ClassId} {aK aV : Nat → Nat} {a : Nat → Nat} {σ σ' : gS} {r : Int32} (hf : f_E_removeAll σ = some (r, σ')) {sz : Nat} : Met l y_E_removeAll w_E_removeAll { frames := 0, cells := 0, slots := 0, locals := 0 } (gPc X vwCl (gT cI cC cZ) aK aV (cW cI cC cZ a σ) sz [.ref (a 20)]) (gQv X vwCl (cW cI cC cZ a σ) sz (fun (_ : Unit) => True) (fun _ => cW cI cC cZ a σ')) 0 0 (va_A (cW cI cC cZ a σ) sz) := by
  refine g_met (cc := b_E_removeAll) (maxL := 1) (ret := none) (by decide) rfl (Nat.le_of_ble_eq_true rfl) ?_
  intro p e s m below meth c A ls hx hb hr hml hown hts hlocks hnm hsz hAe hA hP hK hD hS hl hE
  have hown : s.vm.findClass R_E = some m.cls := hown
  have u_0 : ∀ w ∈ u_ws R_E T_E 14, w ∈ w_E_removeAll := fun w h => List.mem_cons_of_mem _ (tu_E w h)
  have k_0 := hts (.fieldLink R_E 46 "GraphPages$Elements" "count" "I") (List.mem_cons_of_mem _ tb_19)
  have k_1 := hts (.fieldLink R_E 50 "GraphPages$Elements" "attributeCount" "I") (List.mem_cons_of_mem _ tb_20)
  have k_2 := hts (.fieldLink R_E 53 "GraphPages$Elements" "textCount" "I") (List.mem_cons_of_mem _ tb_21)
  unfold f_E_removeAll at hf
  refine lv_aload_n hx hb d_E_removeAll_0 rfl (lv_at hl 0 rfl) ?_
  refine lv_iconst (v := 0) hx hb d_E_removeAll_1 (by decide) ?_
  obtain ⟨σ1, e2, hf⟩ := gPut_e hf
  refine va_put (D := X) (ci := 0) (ty := .int) (C := R_E) (T := T_E) (N := 14) hx hb hts u_0 t_E t_E_ok n_E hown hK hP hD hS 20 gc_20 rfl 0 (by decide) k_0 (fun _ h9 => h9) rfl (by decide +kernel) rfl rfl (Nat.le_of_ble_eq_true rfl) d_E_removeAll_2 (fun H locs hP hD hS => ?_)
  rw [sc_20_0, ← e2] at hP hD
  refine lv_aload_n hx hb d_E_removeAll_5 rfl (lv_at hl 0 rfl) ?_
  refine lv_iconst (v := 0) hx hb d_E_removeAll_6 (by decide) ?_
  obtain ⟨σ3, e4, hf⟩ := gPut_e hf
  refine va_put (D := X) (ci := 0) (ty := .int) (C := R_E) (T := T_E) (N := 14) hx hb hts u_0 t_E t_E_ok n_E hown hK hP hD hS 20 gc_20 rfl 8 (by decide) k_1 (fun _ h9 => h9) rfl (by decide +kernel) rfl rfl (Nat.le_of_ble_eq_true rfl) d_E_removeAll_7 (fun H locs hP hD hS => ?_)
  rw [sc_20_8, ← e4] at hP hD
  refine lv_aload_n hx hb d_E_removeAll_10 rfl (lv_at hl 0 rfl) ?_
  refine lv_iconst (v := 0) hx hb d_E_removeAll_11 (by decide) ?_
  obtain ⟨σ5, e6, hf⟩ := gPut_e hf
  refine va_put (D := X) (ci := 0) (ty := .int) (C := R_E) (T := T_E) (N := 14) hx hb hts u_0 t_E t_E_ok n_E hown hK hP hD hS 20 gc_20 rfl 12 (by decide) k_2 (fun _ h9 => h9) rfl (by decide +kernel) rfl rfl (Nat.le_of_ble_eq_true rfl) d_E_removeAll_12 (fun H locs hP hD hS => ?_)
  rw [sc_20_12, ← e6] at hP hD
  obtain ⟨-, rfl⟩ := gRt_e hf
  exact g_vret hx hb hr hlocks hAe hS () trivial hP d_E_removeAll_15

def B_E_addElement_0 (rec : Nat → List Int32 → gS → Option (Int32 × gS)) (x1 : Int32) (x2 : Int32) (σ0 : gS) : Option (Int32 × gS) := if (σ0.1 5) < 533 then (gSt σ0 21 533 (σ0.1 5) x1 (fun σ2 => gSt σ2 22 533 (σ2.1 5) x2 (fun σ5 => gSt σ5 23 533 (σ5.1 5) 0 (fun σ8 => gSt σ8 24 533 (σ8.1 5) (σ8.1 6) (fun σ11 => gSt σ11 25 533 (σ11.1 5) 0 (fun σ14 => gSt σ14 26 533 (σ14.1 5) (σ14.1 7) (fun σ17 => gSt σ17 27 533 (σ17.1 5) 0 (fun σ20 => if x2 = (-1) then (rec 1 [] σ20) else (gLd σ20 23 533 x2 (fun y24 => gSt σ20 23 533 x2 (y24 + 1) (fun σ27 => rec 1 [] σ27))))))))))) else (some (0, σ0))
def B_E_addElement_1 (rec : Nat → List Int32 → gS → Option (Int32 × gS)) (σ0 : gS) : Option (Int32 × gS) := gPut σ0 5 ((σ0.1 5) + 1) (fun σ30 => some (1, σ30))
def S_E_addElement (rec : Nat → List Int32 → gS → Option (Int32 × gS)) (k : Nat) (l : List Int32) (σ0 : gS) : Option (Int32 × gS) := match k, l with
  | 0, [x1, x2] => B_E_addElement_0 rec x1 x2 σ0
  | 1, [] => B_E_addElement_1 rec  σ0
  | _, _ => none
def R_E_addElement : Nat → Nat → List Int32 → gS → Option (Int32 × gS)
  | 0 => fun _ _ _ => none
  | t + 1 => fun k l σ0 => S_E_addElement (R_E_addElement t) k l σ0
def f_E_addElement (σ : gS) (x1 : Int32) (x2 : Int32) : Option (Int32 × gS) := R_E_addElement gFuel 0 [x1, x2] σ
set_option maxHeartbeats 4000000 in
set_option maxRecDepth 100000 in
theorem m_E_addElement {l : Launch} {X : va_G} {cI cC cZ : ClassId} {aK aV : Nat → Nat} {a : Nat → Nat} {σ σ' : gS} {r : Int32} {q1 : Int32} {q2 : Int32} (hf : f_E_addElement σ q1 q2 = some (r, σ')) {sz : Nat} : Met l y_E_addElement w_E_addElement { frames := 0, cells := 0, slots := 0, locals := 0 } (gPc X vwCl (gT cI cC cZ) aK aV (cW cI cC cZ a σ) sz [.ref (a 20), .int q1, .int q2]) (gQi X vwCl (cW cI cC cZ a σ) sz (fun r' (_ : Unit) => r' = r) (fun _ => cW cI cC cZ a σ')) 0 0 (va_A (cW cI cC cZ a σ) sz) := by
  refine g_met (cc := b_E_addElement) (maxL := 3) (ret := (some .boolean)) (by decide) rfl (Nat.le_of_ble_eq_true rfl) ?_
  intro p e s m below meth c A ls hx hb hr hml hown hts hlocks hnm hsz hAe hA hP hK hD hS hl hE
  have hown : s.vm.findClass R_E = some m.cls := hown
  have u_0 : ∀ w ∈ u_ws R_E T_E 14, w ∈ w_E_addElement := fun w h => List.mem_cons_of_mem _ (tu_E w h)
  have k_0 := hts (.fieldLink R_E 46 "GraphPages$Elements" "count" "I") (List.mem_cons_of_mem _ tb_19)
  have k_1 := hts (.fieldLink R_E 11 "GraphPages$Elements" "names" "[I") (List.mem_cons_of_mem _ tb_22)
  have k_2 := hts (.fieldLink R_E 15 "GraphPages$Elements" "parents" "[I") (List.mem_cons_of_mem _ tb_23)
  have k_3 := hts (.fieldLink R_E 18 "GraphPages$Elements" "children" "[I") (List.mem_cons_of_mem _ tb_24)
  have k_4 := hts (.fieldLink R_E 21 "GraphPages$Elements" "attributeStarts" "[I") (List.mem_cons_of_mem _ tb_25)
  have k_5 := hts (.fieldLink R_E 50 "GraphPages$Elements" "attributeCount" "I") (List.mem_cons_of_mem _ tb_20)
  have k_6 := hts (.fieldLink R_E 24 "GraphPages$Elements" "attributeCounts" "[I") (List.mem_cons_of_mem _ tb_26)
  have k_7 := hts (.fieldLink R_E 27 "GraphPages$Elements" "textStarts" "[I") (List.mem_cons_of_mem _ tb_27)
  have k_8 := hts (.fieldLink R_E 53 "GraphPages$Elements" "textCount" "I") (List.mem_cons_of_mem _ tb_21)
  have k_9 := hts (.fieldLink R_E 30 "GraphPages$Elements" "textCounts" "[I") (List.mem_cons_of_mem _ tb_28)
  unfold f_E_addElement at hf
  have key : ∀ t : Nat, (∀ (x1 : Int32) (x2 : Int32) (σ0 : gS) (H : Heap) (locs : List Loc) (ls : Array Slot), R_E_addElement t 0 [x1, x2] σ0 = some (r, σ') → va_P X vwCl (cW cI cC cZ a σ0) H → va_D A (cW cI cC cZ a σ0) → va_S A s.heap H locs → lv_has ls 3 [(0, .ref (a 20)), (1, .int x1), (2, .int x2)] → W p l e (headSpec w_E_addElement { frames := 0, cells := 0, slots := 0, locals := 0 }).room s m [.ref (a 20), .int q1, .int q2].toArray below meth c H locs 0 0 (MQ below (gQi X vwCl (cW cI cC cZ a σ) sz (fun r' (_ : Unit) => r' = r) (fun _ => cW cI cC cZ a σ')) [.ref (a 20), .int q1, .int q2].toArray s 0 0 (va_A (cW cI cC cZ a σ) sz)) (F0 m 0 ls [])) ∧ (∀ (σ0 : gS) (H : Heap) (locs : List Loc) (ls : Array Slot), R_E_addElement t 1 [] σ0 = some (r, σ') → va_P X vwCl (cW cI cC cZ a σ0) H → va_D A (cW cI cC cZ a σ0) → va_S A s.heap H locs → lv_has ls 3 [(0, .ref (a 20))] → W p l e (headSpec w_E_addElement { frames := 0, cells := 0, slots := 0, locals := 0 }).room s m [.ref (a 20), .int q1, .int q2].toArray below meth c H locs 0 0 (MQ below (gQi X vwCl (cW cI cC cZ a σ) sz (fun r' (_ : Unit) => r' = r) (fun _ => cW cI cC cZ a σ')) [.ref (a 20), .int q1, .int q2].toArray s 0 0 (va_A (cW cI cC cZ a σ) sz)) (F0 m 103 ls [])) := by
    intro t
    induction t with
    | zero => exact ⟨fun _ _ _ _ _ _ hf => (by have hf : (none : Option (Int32 × gS)) = some (r, σ') := hf; cases hf), fun  _ _ _ _ hf => (by have hf : (none : Option (Int32 × gS)) = some (r, σ') := hf; cases hf)⟩
    | succ t ih =>
      obtain ⟨ih0, ih1⟩ := ih
      refine ⟨?_, ?_⟩
      · intro x1 x2 σ0 H locs ls hf hP hD hS hl
        have hf : B_E_addElement_0 (R_E_addElement t) x1 x2 σ0 = some (r, σ') := hf
        unfold B_E_addElement_0 at hf
        refine lv_aload_n hx hb d_E_addElement_0 rfl (lv_at hl 0 rfl) ?_
        refine va_get (D := X) (ci := 0) (C := R_E) (T := T_E) (N := 14) hx hb hts u_0 hown hK hP 20 gc_20 rfl 0 (by decide) k_0 (fun _ h9 => h9) rfl d_E_addElement_1 ?_
        refine lv_sipush (v := 533) hx hb d_E_addElement_4 (by decide) ?_
        refine lv_icmp_lt (tgt := 12) hx hb d_E_addElement_7 rfl (fun c1 => ?_) (fun c1 => ?_)
        · skip
          rw [if_pos c1] at hf
          refine lv_aload_n hx hb d_E_addElement_12 rfl (lv_at hl 0 rfl) ?_
          refine va_get (D := X) (ci := 0) (C := R_E) (T := T_E) (N := 14) hx hb hts u_0 hown hK hP 20 gc_20 rfl 1 (by decide) k_1 (fun _ h9 => h9) rfl d_E_addElement_13 ?_
          refine lv_aload_n hx hb d_E_addElement_16 rfl (lv_at hl 0 rfl) ?_
          refine va_get (D := X) (ci := 0) (C := R_E) (T := T_E) (N := 14) hx hb hts u_0 hown hK hP 20 gc_20 rfl 0 (by decide) k_0 (fun _ h9 => h9) rfl d_E_addElement_17 ?_
          refine lv_iload_n hx hb d_E_addElement_20 rfl (lv_at hl 1 rfl) ?_
          obtain ⟨σ2, h3, e4, hf⟩ := gSt_e hf
          refine va_iast hx hb hK hP hD hS 21 0 gc_21 rfl h3 d_E_addElement_21 (fun H locs hP hD hS => ?_)
          rw [sc_21, ← e4] at hP hD
          refine lv_aload_n hx hb d_E_addElement_22 rfl (lv_at hl 0 rfl) ?_
          refine va_get (D := X) (ci := 0) (C := R_E) (T := T_E) (N := 14) hx hb hts u_0 hown hK hP 20 gc_20 rfl 2 (by decide) k_2 (fun _ h9 => h9) rfl d_E_addElement_23 ?_
          refine lv_aload_n hx hb d_E_addElement_26 rfl (lv_at hl 0 rfl) ?_
          refine va_get (D := X) (ci := 0) (C := R_E) (T := T_E) (N := 14) hx hb hts u_0 hown hK hP 20 gc_20 rfl 0 (by decide) k_0 (fun _ h9 => h9) rfl d_E_addElement_27 ?_
          refine lv_iload_n hx hb d_E_addElement_30 rfl (lv_at hl 2 rfl) ?_
          obtain ⟨σ5, h6, e7, hf⟩ := gSt_e hf
          refine va_iast hx hb hK hP hD hS 22 0 gc_22 rfl h6 d_E_addElement_31 (fun H locs hP hD hS => ?_)
          rw [sc_22, ← e7] at hP hD
          refine lv_aload_n hx hb d_E_addElement_32 rfl (lv_at hl 0 rfl) ?_
          refine va_get (D := X) (ci := 0) (C := R_E) (T := T_E) (N := 14) hx hb hts u_0 hown hK hP 20 gc_20 rfl 3 (by decide) k_3 (fun _ h9 => h9) rfl d_E_addElement_33 ?_
          refine lv_aload_n hx hb d_E_addElement_36 rfl (lv_at hl 0 rfl) ?_
          refine va_get (D := X) (ci := 0) (C := R_E) (T := T_E) (N := 14) hx hb hts u_0 hown hK hP 20 gc_20 rfl 0 (by decide) k_0 (fun _ h9 => h9) rfl d_E_addElement_37 ?_
          refine lv_iconst (v := 0) hx hb d_E_addElement_40 (by decide) ?_
          obtain ⟨σ8, h9, e10, hf⟩ := gSt_e hf
          refine va_iast hx hb hK hP hD hS 23 0 gc_23 rfl h9 d_E_addElement_41 (fun H locs hP hD hS => ?_)
          rw [sc_23, ← e10] at hP hD
          refine lv_aload_n hx hb d_E_addElement_42 rfl (lv_at hl 0 rfl) ?_
          refine va_get (D := X) (ci := 0) (C := R_E) (T := T_E) (N := 14) hx hb hts u_0 hown hK hP 20 gc_20 rfl 4 (by decide) k_4 (fun _ h9 => h9) rfl d_E_addElement_43 ?_
          refine lv_aload_n hx hb d_E_addElement_46 rfl (lv_at hl 0 rfl) ?_
          refine va_get (D := X) (ci := 0) (C := R_E) (T := T_E) (N := 14) hx hb hts u_0 hown hK hP 20 gc_20 rfl 0 (by decide) k_0 (fun _ h9 => h9) rfl d_E_addElement_47 ?_
          refine lv_aload_n hx hb d_E_addElement_50 rfl (lv_at hl 0 rfl) ?_
          refine va_get (D := X) (ci := 0) (C := R_E) (T := T_E) (N := 14) hx hb hts u_0 hown hK hP 20 gc_20 rfl 8 (by decide) k_5 (fun _ h9 => h9) rfl d_E_addElement_51 ?_
          obtain ⟨σ11, h12, e13, hf⟩ := gSt_e hf
          refine va_iast hx hb hK hP hD hS 24 0 gc_24 rfl h12 d_E_addElement_54 (fun H locs hP hD hS => ?_)
          rw [sc_24, ← e13] at hP hD
          refine lv_aload_n hx hb d_E_addElement_55 rfl (lv_at hl 0 rfl) ?_
          refine va_get (D := X) (ci := 0) (C := R_E) (T := T_E) (N := 14) hx hb hts u_0 hown hK hP 20 gc_20 rfl 5 (by decide) k_6 (fun _ h9 => h9) rfl d_E_addElement_56 ?_
          refine lv_aload_n hx hb d_E_addElement_59 rfl (lv_at hl 0 rfl) ?_
          refine va_get (D := X) (ci := 0) (C := R_E) (T := T_E) (N := 14) hx hb hts u_0 hown hK hP 20 gc_20 rfl 0 (by decide) k_0 (fun _ h9 => h9) rfl d_E_addElement_60 ?_
          refine lv_iconst (v := 0) hx hb d_E_addElement_63 (by decide) ?_
          obtain ⟨σ14, h15, e16, hf⟩ := gSt_e hf
          refine va_iast hx hb hK hP hD hS 25 0 gc_25 rfl h15 d_E_addElement_64 (fun H locs hP hD hS => ?_)
          rw [sc_25, ← e16] at hP hD
          refine lv_aload_n hx hb d_E_addElement_65 rfl (lv_at hl 0 rfl) ?_
          refine va_get (D := X) (ci := 0) (C := R_E) (T := T_E) (N := 14) hx hb hts u_0 hown hK hP 20 gc_20 rfl 6 (by decide) k_7 (fun _ h9 => h9) rfl d_E_addElement_66 ?_
          refine lv_aload_n hx hb d_E_addElement_69 rfl (lv_at hl 0 rfl) ?_
          refine va_get (D := X) (ci := 0) (C := R_E) (T := T_E) (N := 14) hx hb hts u_0 hown hK hP 20 gc_20 rfl 0 (by decide) k_0 (fun _ h9 => h9) rfl d_E_addElement_70 ?_
          refine lv_aload_n hx hb d_E_addElement_73 rfl (lv_at hl 0 rfl) ?_
          refine va_get (D := X) (ci := 0) (C := R_E) (T := T_E) (N := 14) hx hb hts u_0 hown hK hP 20 gc_20 rfl 12 (by decide) k_8 (fun _ h9 => h9) rfl d_E_addElement_74 ?_
          obtain ⟨σ17, h18, e19, hf⟩ := gSt_e hf
          refine va_iast hx hb hK hP hD hS 26 0 gc_26 rfl h18 d_E_addElement_77 (fun H locs hP hD hS => ?_)
          rw [sc_26, ← e19] at hP hD
          refine lv_aload_n hx hb d_E_addElement_78 rfl (lv_at hl 0 rfl) ?_
          refine va_get (D := X) (ci := 0) (C := R_E) (T := T_E) (N := 14) hx hb hts u_0 hown hK hP 20 gc_20 rfl 7 (by decide) k_9 (fun _ h9 => h9) rfl d_E_addElement_79 ?_
          refine lv_aload_n hx hb d_E_addElement_82 rfl (lv_at hl 0 rfl) ?_
          refine va_get (D := X) (ci := 0) (C := R_E) (T := T_E) (N := 14) hx hb hts u_0 hown hK hP 20 gc_20 rfl 0 (by decide) k_0 (fun _ h9 => h9) rfl d_E_addElement_83 ?_
          refine lv_iconst (v := 0) hx hb d_E_addElement_86 (by decide) ?_
          obtain ⟨σ20, h21, e22, hf⟩ := gSt_e hf
          refine va_iast hx hb hK hP hD hS 27 0 gc_27 rfl h21 d_E_addElement_87 (fun H locs hP hD hS => ?_)
          rw [sc_27, ← e22] at hP hD
          refine lv_iload_n hx hb d_E_addElement_88 rfl (lv_at hl 2 rfl) ?_
          refine lv_iconst (v := (-1)) hx hb d_E_addElement_89 (by decide) ?_
          refine lv_icmp_eq (tgt := 103) hx hb d_E_addElement_90 rfl (fun c23 => ?_) (fun c23 => ?_)
          · skip
            rw [if_pos c23] at hf
            exact ih1 σ20 _ _ _ hf hP hD hS (lv_sub hl [0] rfl)
          rw [if_neg c23] at hf
          refine lv_aload_n hx hb d_E_addElement_93 rfl (lv_at hl 0 rfl) ?_
          refine va_get (D := X) (ci := 0) (C := R_E) (T := T_E) (N := 14) hx hb hts u_0 hown hK hP 20 gc_20 rfl 3 (by decide) k_3 (fun _ h9 => h9) rfl d_E_addElement_94 ?_
          refine lv_iload_n hx hb d_E_addElement_97 rfl (lv_at hl 2 rfl) ?_
          refine lv_dup2_11 hx hb d_E_addElement_98 rfl rfl ?_
          obtain ⟨y24, h25, e26, hf⟩ := gLd_e hf
          refine va_iald hx hb hK hP 23 0 gc_23 rfl h25 d_E_addElement_99 ?_
          rw [← e26]
          refine lv_iconst (v := 1) hx hb d_E_addElement_100 (by decide) ?_
          refine lv_iadd hx hb d_E_addElement_101 ?_
          obtain ⟨σ27, h28, e29, hf⟩ := gSt_e hf
          refine va_iast hx hb hK hP hD hS 23 0 gc_23 rfl h28 d_E_addElement_102 (fun H locs hP hD hS => ?_)
          rw [sc_23, ← e29] at hP hD
          exact ih1 σ27 _ _ _ hf hP hD hS (lv_sub hl [0] rfl)
        rw [if_neg c1] at hf
        refine lv_iconst (v := 0) hx hb d_E_addElement_10 (by decide) ?_
        obtain ⟨rfl, rfl⟩ := gRt_e hf
        exact g_zret hx hb hr hlocks rfl hAe hS () rfl hP d_E_addElement_11
      · intro  σ0 H locs ls hf hP hD hS hl
        have hf : B_E_addElement_1 (R_E_addElement t)  σ0 = some (r, σ') := hf
        unfold B_E_addElement_1 at hf
        refine lv_aload_n hx hb d_E_addElement_103 rfl (lv_at hl 0 rfl) ?_
        refine lv_dup hx hb d_E_addElement_104 rfl ?_
        refine va_get (D := X) (ci := 0) (C := R_E) (T := T_E) (N := 14) hx hb hts u_0 hown hK hP 20 gc_20 rfl 0 (by decide) k_0 (fun _ h9 => h9) rfl d_E_addElement_105 ?_
        refine lv_iconst (v := 1) hx hb d_E_addElement_108 (by decide) ?_
        refine lv_iadd hx hb d_E_addElement_109 ?_
        obtain ⟨σ30, e31, hf⟩ := gPut_e hf
        refine va_put (D := X) (ci := 0) (ty := .int) (C := R_E) (T := T_E) (N := 14) hx hb hts u_0 t_E t_E_ok n_E hown hK hP hD hS 20 gc_20 rfl 0 (by decide) k_0 (fun _ h9 => h9) rfl (by decide +kernel) rfl rfl (Nat.le_of_ble_eq_true rfl) d_E_addElement_110 (fun H locs hP hD hS => ?_)
        rw [sc_20_0, ← e31] at hP hD
        refine lv_iconst (v := 1) hx hb d_E_addElement_113 (by decide) ?_
        obtain ⟨rfl, rfl⟩ := gRt_e hf
        exact g_zret hx hb hr hlocks rfl hAe hS () rfl hP d_E_addElement_114
  exact (key gFuel).1 q1 q2 σ _ _ _ hf hP hD hS hl

def f_E_addAttribute (σ : gS) (x1 : Int32) (x2 : Int32) (x3 : Int32) : Option (Int32 × gS) := if (σ.1 5) = 0 then (some (0, σ)) else (if (σ.1 6) < 320 then (gSt σ 28 320 (σ.1 6) x1 (fun σ3 => gSt σ3 29 320 (σ3.1 6) x2 (fun σ6 => gSt σ6 30 320 (σ6.1 6) x3 (fun σ9 => gLd σ9 25 533 ((σ9.1 5) - 1) (fun y12 => gSt σ9 25 533 ((σ9.1 5) - 1) (y12 + 1) (fun σ15 => gPut σ15 6 ((σ15.1 6) + 1) (fun σ18 => some (1, σ18)))))))) else (some (0, σ)))
set_option maxHeartbeats 4000000 in
set_option maxRecDepth 100000 in
theorem m_E_addAttribute {l : Launch} {X : va_G} {cI cC cZ : ClassId} {aK aV : Nat → Nat} {a : Nat → Nat} {σ σ' : gS} {r : Int32} {x1 : Int32} {x2 : Int32} {x3 : Int32} (hf : f_E_addAttribute σ x1 x2 x3 = some (r, σ')) {sz : Nat} : Met l y_E_addAttribute w_E_addAttribute { frames := 0, cells := 0, slots := 0, locals := 0 } (gPc X vwCl (gT cI cC cZ) aK aV (cW cI cC cZ a σ) sz [.ref (a 20), .int x1, .int x2, .int x3]) (gQi X vwCl (cW cI cC cZ a σ) sz (fun r' (_ : Unit) => r' = r) (fun _ => cW cI cC cZ a σ')) 0 0 (va_A (cW cI cC cZ a σ) sz) := by
  refine g_met (cc := b_E_addAttribute) (maxL := 4) (ret := (some .boolean)) (by decide) rfl (Nat.le_of_ble_eq_true rfl) ?_
  intro p e s m below meth c A ls hx hb hr hml hown hts hlocks hnm hsz hAe hA hP hK hD hS hl hE
  have hown : s.vm.findClass R_E = some m.cls := hown
  have u_0 : ∀ w ∈ u_ws R_E T_E 14, w ∈ w_E_addAttribute := fun w h => List.mem_cons_of_mem _ (tu_E w h)
  have k_0 := hts (.fieldLink R_E 46 "GraphPages$Elements" "count" "I") (List.mem_cons_of_mem _ tb_19)
  have k_1 := hts (.fieldLink R_E 50 "GraphPages$Elements" "attributeCount" "I") (List.mem_cons_of_mem _ tb_20)
  have k_2 := hts (.fieldLink R_E 33 "GraphPages$Elements" "attributeNames" "[I") (List.mem_cons_of_mem _ tb_29)
  have k_3 := hts (.fieldLink R_E 36 "GraphPages$Elements" "valueStarts" "[I") (List.mem_cons_of_mem _ tb_30)
  have k_4 := hts (.fieldLink R_E 39 "GraphPages$Elements" "valueCounts" "[I") (List.mem_cons_of_mem _ tb_31)
  have k_5 := hts (.fieldLink R_E 24 "GraphPages$Elements" "attributeCounts" "[I") (List.mem_cons_of_mem _ tb_26)
  unfold f_E_addAttribute at hf
  refine lv_aload_n hx hb d_E_addAttribute_0 rfl (lv_at hl 0 rfl) ?_
  refine va_get (D := X) (ci := 0) (C := R_E) (T := T_E) (N := 14) hx hb hts u_0 hown hK hP 20 gc_20 rfl 0 (by decide) k_0 (fun _ h9 => h9) rfl d_E_addAttribute_1 ?_
  refine lv_if_eq (tgt := 17) hx hb d_E_addAttribute_4 rfl (fun c1 => ?_) (fun c1 => ?_)
  · skip
    rw [if_pos c1] at hf
    refine lv_iconst (v := 0) hx hb d_E_addAttribute_17 (by decide) ?_
    obtain ⟨rfl, rfl⟩ := gRt_e hf
    exact g_zret hx hb hr hlocks rfl hAe hS () rfl hP d_E_addAttribute_18
  rw [if_neg c1] at hf
  refine lv_aload_n hx hb d_E_addAttribute_7 rfl (lv_at hl 0 rfl) ?_
  refine va_get (D := X) (ci := 0) (C := R_E) (T := T_E) (N := 14) hx hb hts u_0 hown hK hP 20 gc_20 rfl 8 (by decide) k_1 (fun _ h9 => h9) rfl d_E_addAttribute_8 ?_
  refine lv_sipush (v := 320) hx hb d_E_addAttribute_11 (by decide) ?_
  refine lv_icmp_lt (tgt := 19) hx hb d_E_addAttribute_14 rfl (fun c2 => ?_) (fun c2 => ?_)
  · skip
    rw [if_pos c2] at hf
    refine lv_aload_n hx hb d_E_addAttribute_19 rfl (lv_at hl 0 rfl) ?_
    refine va_get (D := X) (ci := 0) (C := R_E) (T := T_E) (N := 14) hx hb hts u_0 hown hK hP 20 gc_20 rfl 9 (by decide) k_2 (fun _ h9 => h9) rfl d_E_addAttribute_20 ?_
    refine lv_aload_n hx hb d_E_addAttribute_23 rfl (lv_at hl 0 rfl) ?_
    refine va_get (D := X) (ci := 0) (C := R_E) (T := T_E) (N := 14) hx hb hts u_0 hown hK hP 20 gc_20 rfl 8 (by decide) k_1 (fun _ h9 => h9) rfl d_E_addAttribute_24 ?_
    refine lv_iload_n hx hb d_E_addAttribute_27 rfl (lv_at hl 1 rfl) ?_
    obtain ⟨σ3, h4, e5, hf⟩ := gSt_e hf
    refine va_iast hx hb hK hP hD hS 28 0 gc_28 rfl h4 d_E_addAttribute_28 (fun H locs hP hD hS => ?_)
    rw [sc_28, ← e5] at hP hD
    refine lv_aload_n hx hb d_E_addAttribute_29 rfl (lv_at hl 0 rfl) ?_
    refine va_get (D := X) (ci := 0) (C := R_E) (T := T_E) (N := 14) hx hb hts u_0 hown hK hP 20 gc_20 rfl 10 (by decide) k_3 (fun _ h9 => h9) rfl d_E_addAttribute_30 ?_
    refine lv_aload_n hx hb d_E_addAttribute_33 rfl (lv_at hl 0 rfl) ?_
    refine va_get (D := X) (ci := 0) (C := R_E) (T := T_E) (N := 14) hx hb hts u_0 hown hK hP 20 gc_20 rfl 8 (by decide) k_1 (fun _ h9 => h9) rfl d_E_addAttribute_34 ?_
    refine lv_iload_n hx hb d_E_addAttribute_37 rfl (lv_at hl 2 rfl) ?_
    obtain ⟨σ6, h7, e8, hf⟩ := gSt_e hf
    refine va_iast hx hb hK hP hD hS 29 0 gc_29 rfl h7 d_E_addAttribute_38 (fun H locs hP hD hS => ?_)
    rw [sc_29, ← e8] at hP hD
    refine lv_aload_n hx hb d_E_addAttribute_39 rfl (lv_at hl 0 rfl) ?_
    refine va_get (D := X) (ci := 0) (C := R_E) (T := T_E) (N := 14) hx hb hts u_0 hown hK hP 20 gc_20 rfl 11 (by decide) k_4 (fun _ h9 => h9) rfl d_E_addAttribute_40 ?_
    refine lv_aload_n hx hb d_E_addAttribute_43 rfl (lv_at hl 0 rfl) ?_
    refine va_get (D := X) (ci := 0) (C := R_E) (T := T_E) (N := 14) hx hb hts u_0 hown hK hP 20 gc_20 rfl 8 (by decide) k_1 (fun _ h9 => h9) rfl d_E_addAttribute_44 ?_
    refine lv_iload_n hx hb d_E_addAttribute_47 rfl (lv_at hl 3 rfl) ?_
    obtain ⟨σ9, h10, e11, hf⟩ := gSt_e hf
    refine va_iast hx hb hK hP hD hS 30 0 gc_30 rfl h10 d_E_addAttribute_48 (fun H locs hP hD hS => ?_)
    rw [sc_30, ← e11] at hP hD
    refine lv_aload_n hx hb d_E_addAttribute_49 rfl (lv_at hl 0 rfl) ?_
    refine va_get (D := X) (ci := 0) (C := R_E) (T := T_E) (N := 14) hx hb hts u_0 hown hK hP 20 gc_20 rfl 5 (by decide) k_5 (fun _ h9 => h9) rfl d_E_addAttribute_50 ?_
    refine lv_aload_n hx hb d_E_addAttribute_53 rfl (lv_at hl 0 rfl) ?_
    refine va_get (D := X) (ci := 0) (C := R_E) (T := T_E) (N := 14) hx hb hts u_0 hown hK hP 20 gc_20 rfl 0 (by decide) k_0 (fun _ h9 => h9) rfl d_E_addAttribute_54 ?_
    refine lv_iconst (v := 1) hx hb d_E_addAttribute_57 (by decide) ?_
    refine lv_isub hx hb d_E_addAttribute_58 ?_
    refine lv_dup2_11 hx hb d_E_addAttribute_59 rfl rfl ?_
    obtain ⟨y12, h13, e14, hf⟩ := gLd_e hf
    refine va_iald hx hb hK hP 25 0 gc_25 rfl h13 d_E_addAttribute_60 ?_
    rw [← e14]
    refine lv_iconst (v := 1) hx hb d_E_addAttribute_61 (by decide) ?_
    refine lv_iadd hx hb d_E_addAttribute_62 ?_
    obtain ⟨σ15, h16, e17, hf⟩ := gSt_e hf
    refine va_iast hx hb hK hP hD hS 25 0 gc_25 rfl h16 d_E_addAttribute_63 (fun H locs hP hD hS => ?_)
    rw [sc_25, ← e17] at hP hD
    refine lv_aload_n hx hb d_E_addAttribute_64 rfl (lv_at hl 0 rfl) ?_
    refine lv_dup hx hb d_E_addAttribute_65 rfl ?_
    refine va_get (D := X) (ci := 0) (C := R_E) (T := T_E) (N := 14) hx hb hts u_0 hown hK hP 20 gc_20 rfl 8 (by decide) k_1 (fun _ h9 => h9) rfl d_E_addAttribute_66 ?_
    refine lv_iconst (v := 1) hx hb d_E_addAttribute_69 (by decide) ?_
    refine lv_iadd hx hb d_E_addAttribute_70 ?_
    obtain ⟨σ18, e19, hf⟩ := gPut_e hf
    refine va_put (D := X) (ci := 0) (ty := .int) (C := R_E) (T := T_E) (N := 14) hx hb hts u_0 t_E t_E_ok n_E hown hK hP hD hS 20 gc_20 rfl 8 (by decide) k_1 (fun _ h9 => h9) rfl (by decide +kernel) rfl rfl (Nat.le_of_ble_eq_true rfl) d_E_addAttribute_71 (fun H locs hP hD hS => ?_)
    rw [sc_20_8, ← e19] at hP hD
    refine lv_iconst (v := 1) hx hb d_E_addAttribute_74 (by decide) ?_
    obtain ⟨rfl, rfl⟩ := gRt_e hf
    exact g_zret hx hb hr hlocks rfl hAe hS () rfl hP d_E_addAttribute_75
  rw [if_neg c2] at hf
  refine lv_iconst (v := 0) hx hb d_E_addAttribute_17 (by decide) ?_
  obtain ⟨rfl, rfl⟩ := gRt_e hf
  exact g_zret hx hb hr hlocks rfl hAe hS () rfl hP d_E_addAttribute_18

def f_E_addText (σ : gS) (x1 : Int32) (x2 : Int32) : Option (Int32 × gS) := if x1 = (-1) then (some (0, σ)) else (if (σ.1 7) < 1600 then (gSt σ 31 1600 (σ.1 7) (vp_nar .char (x2.toUInt32 % 65536).toInt32) (fun σ3 => gLd σ3 27 533 x1 (fun y6 => gSt σ3 27 533 x1 (y6 + 1) (fun σ9 => gPut σ9 7 ((σ9.1 7) + 1) (fun σ12 => some (1, σ12)))))) else (some (0, σ)))
set_option maxHeartbeats 4000000 in
set_option maxRecDepth 100000 in
theorem m_E_addText {l : Launch} {X : va_G} {cI cC cZ : ClassId} {aK aV : Nat → Nat} {a : Nat → Nat} {σ σ' : gS} {r : Int32} {x1 : Int32} {x2 : Int32} (hf : f_E_addText σ x1 x2 = some (r, σ')) {sz : Nat} : Met l y_E_addText w_E_addText { frames := 0, cells := 0, slots := 0, locals := 0 } (gPc X vwCl (gT cI cC cZ) aK aV (cW cI cC cZ a σ) sz [.ref (a 20), .int x1, .int x2]) (gQi X vwCl (cW cI cC cZ a σ) sz (fun r' (_ : Unit) => r' = r) (fun _ => cW cI cC cZ a σ')) 0 0 (va_A (cW cI cC cZ a σ) sz) := by
  refine g_met (cc := b_E_addText) (maxL := 3) (ret := (some .boolean)) (by decide) rfl (Nat.le_of_ble_eq_true rfl) ?_
  intro p e s m below meth c A ls hx hb hr hml hown hts hlocks hnm hsz hAe hA hP hK hD hS hl hE
  have hown : s.vm.findClass R_E = some m.cls := hown
  have u_0 : ∀ w ∈ u_ws R_E T_E 14, w ∈ w_E_addText := fun w h => List.mem_cons_of_mem _ (tu_E w h)
  have k_0 := hts (.fieldLink R_E 53 "GraphPages$Elements" "textCount" "I") (List.mem_cons_of_mem _ tb_21)
  have k_1 := hts (.fieldLink R_E 42 "GraphPages$Elements" "text" "[C") (List.mem_cons_of_mem _ tb_32)
  have k_2 := hts (.fieldLink R_E 30 "GraphPages$Elements" "textCounts" "[I") (List.mem_cons_of_mem _ tb_28)
  unfold f_E_addText at hf
  refine lv_iload_n hx hb d_E_addText_0 rfl (lv_at hl 1 rfl) ?_
  refine lv_iconst (v := (-1)) hx hb d_E_addText_1 (by decide) ?_
  refine lv_icmp_eq (tgt := 15) hx hb d_E_addText_2 rfl (fun c1 => ?_) (fun c1 => ?_)
  · skip
    rw [if_pos c1] at hf
    refine lv_iconst (v := 0) hx hb d_E_addText_15 (by decide) ?_
    obtain ⟨rfl, rfl⟩ := gRt_e hf
    exact g_zret hx hb hr hlocks rfl hAe hS () rfl hP d_E_addText_16
  rw [if_neg c1] at hf
  refine lv_aload_n hx hb d_E_addText_5 rfl (lv_at hl 0 rfl) ?_
  refine va_get (D := X) (ci := 0) (C := R_E) (T := T_E) (N := 14) hx hb hts u_0 hown hK hP 20 gc_20 rfl 12 (by decide) k_0 (fun _ h9 => h9) rfl d_E_addText_6 ?_
  refine lv_sipush (v := 1600) hx hb d_E_addText_9 (by decide) ?_
  refine lv_icmp_lt (tgt := 17) hx hb d_E_addText_12 rfl (fun c2 => ?_) (fun c2 => ?_)
  · skip
    rw [if_pos c2] at hf
    refine lv_aload_n hx hb d_E_addText_17 rfl (lv_at hl 0 rfl) ?_
    refine va_get (D := X) (ci := 0) (C := R_E) (T := T_E) (N := 14) hx hb hts u_0 hown hK hP 20 gc_20 rfl 13 (by decide) k_1 (fun _ h9 => h9) rfl d_E_addText_18 ?_
    refine lv_aload_n hx hb d_E_addText_21 rfl (lv_at hl 0 rfl) ?_
    refine va_get (D := X) (ci := 0) (C := R_E) (T := T_E) (N := 14) hx hb hts u_0 hown hK hP 20 gc_20 rfl 12 (by decide) k_0 (fun _ h9 => h9) rfl d_E_addText_22 ?_
    refine lv_iload_n hx hb d_E_addText_25 rfl (lv_at hl 2 rfl) ?_
    refine lv_i2c hx hb d_E_addText_26 rfl ?_
    obtain ⟨σ3, h4, e5, hf⟩ := gSt_e hf
    refine va_cast hx hb hK hP hD hS 31 1 gc_31 rfl h4 d_E_addText_27 (fun H locs hP hD hS => ?_)
    rw [sc_31, ← e5] at hP hD
    refine lv_aload_n hx hb d_E_addText_28 rfl (lv_at hl 0 rfl) ?_
    refine va_get (D := X) (ci := 0) (C := R_E) (T := T_E) (N := 14) hx hb hts u_0 hown hK hP 20 gc_20 rfl 7 (by decide) k_2 (fun _ h9 => h9) rfl d_E_addText_29 ?_
    refine lv_iload_n hx hb d_E_addText_32 rfl (lv_at hl 1 rfl) ?_
    refine lv_dup2_11 hx hb d_E_addText_33 rfl rfl ?_
    obtain ⟨y6, h7, e8, hf⟩ := gLd_e hf
    refine va_iald hx hb hK hP 27 0 gc_27 rfl h7 d_E_addText_34 ?_
    rw [← e8]
    refine lv_iconst (v := 1) hx hb d_E_addText_35 (by decide) ?_
    refine lv_iadd hx hb d_E_addText_36 ?_
    obtain ⟨σ9, h10, e11, hf⟩ := gSt_e hf
    refine va_iast hx hb hK hP hD hS 27 0 gc_27 rfl h10 d_E_addText_37 (fun H locs hP hD hS => ?_)
    rw [sc_27, ← e11] at hP hD
    refine lv_aload_n hx hb d_E_addText_38 rfl (lv_at hl 0 rfl) ?_
    refine lv_dup hx hb d_E_addText_39 rfl ?_
    refine va_get (D := X) (ci := 0) (C := R_E) (T := T_E) (N := 14) hx hb hts u_0 hown hK hP 20 gc_20 rfl 12 (by decide) k_0 (fun _ h9 => h9) rfl d_E_addText_40 ?_
    refine lv_iconst (v := 1) hx hb d_E_addText_43 (by decide) ?_
    refine lv_iadd hx hb d_E_addText_44 ?_
    obtain ⟨σ12, e13, hf⟩ := gPut_e hf
    refine va_put (D := X) (ci := 0) (ty := .int) (C := R_E) (T := T_E) (N := 14) hx hb hts u_0 t_E t_E_ok n_E hown hK hP hD hS 20 gc_20 rfl 12 (by decide) k_0 (fun _ h9 => h9) rfl (by decide +kernel) rfl rfl (Nat.le_of_ble_eq_true rfl) d_E_addText_45 (fun H locs hP hD hS => ?_)
    rw [sc_20_12, ← e13] at hP hD
    refine lv_iconst (v := 1) hx hb d_E_addText_48 (by decide) ?_
    obtain ⟨rfl, rfl⟩ := gRt_e hf
    exact g_zret hx hb hr hlocks rfl hAe hS () rfl hP d_E_addText_49
  rw [if_neg c2] at hf
  refine lv_iconst (v := 0) hx hb d_E_addText_15 (by decide) ?_
  obtain ⟨rfl, rfl⟩ := gRt_e hf
  exact g_zret hx hb hr hlocks rfl hAe hS () rfl hP d_E_addText_16

def B_E_findAttribute_0 (rec : Nat → List Int32 → gS → Option (Int32 × gS)) (x1 : Int32) (x2 : Int32) (σ0 : gS) : Option (Int32 × gS) := gLd σ0 24 533 x1 (fun y1 => gLd σ0 25 533 x1 (fun y4 => gLd σ0 24 533 x1 (fun y7 => rec 1 [x2, (y1 + y4), y7] σ0)))
def B_E_findAttribute_1 (rec : Nat → List Int32 → gS → Option (Int32 × gS)) (x2 : Int32) (x3 : Int32) (x4 : Int32) (σ0 : gS) : Option (Int32 × gS) := if x3 ≤ x4 then (some ((-1), σ0)) else (gLd σ0 28 320 x4 (fun y11 => if y11 = x2 then (some (x4, σ0)) else (rec 1 [x2, x3, (x4 + 1)] σ0)))
def S_E_findAttribute (rec : Nat → List Int32 → gS → Option (Int32 × gS)) (k : Nat) (l : List Int32) (σ0 : gS) : Option (Int32 × gS) := match k, l with
  | 0, [x1, x2] => B_E_findAttribute_0 rec x1 x2 σ0
  | 1, [x2, x3, x4] => B_E_findAttribute_1 rec x2 x3 x4 σ0
  | _, _ => none
def R_E_findAttribute : Nat → Nat → List Int32 → gS → Option (Int32 × gS)
  | 0 => fun _ _ _ => none
  | t + 1 => fun k l σ0 => S_E_findAttribute (R_E_findAttribute t) k l σ0
def f_E_findAttribute (σ : gS) (x1 : Int32) (x2 : Int32) : Option (Int32 × gS) := R_E_findAttribute gFuel 0 [x1, x2] σ
set_option maxHeartbeats 4000000 in
set_option maxRecDepth 100000 in
theorem m_E_findAttribute {l : Launch} {X : va_G} {cI cC cZ : ClassId} {aK aV : Nat → Nat} {a : Nat → Nat} {σ σ' : gS} {r : Int32} {q1 : Int32} {q2 : Int32} (hf : f_E_findAttribute σ q1 q2 = some (r, σ')) {sz : Nat} : Met l y_E_findAttribute w_E_findAttribute { frames := 0, cells := 0, slots := 0, locals := 0 } (gPc X vwCl (gT cI cC cZ) aK aV (cW cI cC cZ a σ) sz [.ref (a 20), .int q1, .int q2]) (gQi X vwCl (cW cI cC cZ a σ) sz (fun r' (_ : Unit) => r' = r) (fun _ => cW cI cC cZ a σ')) 0 0 (va_A (cW cI cC cZ a σ) sz) := by
  refine g_met (cc := b_E_findAttribute) (maxL := 5) (ret := (some .int)) (by decide) rfl (Nat.le_of_ble_eq_true rfl) ?_
  intro p e s m below meth c A ls hx hb hr hml hown hts hlocks hnm hsz hAe hA hP hK hD hS hl hE
  have hown : s.vm.findClass R_E = some m.cls := hown
  have u_0 : ∀ w ∈ u_ws R_E T_E 14, w ∈ w_E_findAttribute := fun w h => List.mem_cons_of_mem _ (tu_E w h)
  have k_0 := hts (.fieldLink R_E 21 "GraphPages$Elements" "attributeStarts" "[I") (List.mem_cons_of_mem _ tb_25)
  have k_1 := hts (.fieldLink R_E 24 "GraphPages$Elements" "attributeCounts" "[I") (List.mem_cons_of_mem _ tb_26)
  have k_2 := hts (.fieldLink R_E 33 "GraphPages$Elements" "attributeNames" "[I") (List.mem_cons_of_mem _ tb_29)
  unfold f_E_findAttribute at hf
  have key : ∀ t : Nat, (∀ (x1 : Int32) (x2 : Int32) (σ0 : gS) (H : Heap) (locs : List Loc) (ls : Array Slot), R_E_findAttribute t 0 [x1, x2] σ0 = some (r, σ') → va_P X vwCl (cW cI cC cZ a σ0) H → va_D A (cW cI cC cZ a σ0) → va_S A s.heap H locs → lv_has ls 5 [(0, .ref (a 20)), (1, .int x1), (2, .int x2)] → W p l e (headSpec w_E_findAttribute { frames := 0, cells := 0, slots := 0, locals := 0 }).room s m [.ref (a 20), .int q1, .int q2].toArray below meth c H locs 0 0 (MQ below (gQi X vwCl (cW cI cC cZ a σ) sz (fun r' (_ : Unit) => r' = r) (fun _ => cW cI cC cZ a σ')) [.ref (a 20), .int q1, .int q2].toArray s 0 0 (va_A (cW cI cC cZ a σ) sz)) (F0 m 0 ls [])) ∧ (∀ (x2 : Int32) (x3 : Int32) (x4 : Int32) (σ0 : gS) (H : Heap) (locs : List Loc) (ls : Array Slot), R_E_findAttribute t 1 [x2, x3, x4] σ0 = some (r, σ') → va_P X vwCl (cW cI cC cZ a σ0) H → va_D A (cW cI cC cZ a σ0) → va_S A s.heap H locs → lv_has ls 5 [(0, .ref (a 20)), (2, .int x2), (3, .int x3), (4, .int x4)] → W p l e (headSpec w_E_findAttribute { frames := 0, cells := 0, slots := 0, locals := 0 }).room s m [.ref (a 20), .int q1, .int q2].toArray below meth c H locs 0 0 (MQ below (gQi X vwCl (cW cI cC cZ a σ) sz (fun r' (_ : Unit) => r' = r) (fun _ => cW cI cC cZ a σ')) [.ref (a 20), .int q1, .int q2].toArray s 0 0 (va_A (cW cI cC cZ a σ) sz)) (F0 m 22 ls [])) := by
    intro t
    induction t with
    | zero => exact ⟨fun _ _ _ _ _ _ hf => (by have hf : (none : Option (Int32 × gS)) = some (r, σ') := hf; cases hf), fun _ _ _ _ _ _ _ hf => (by have hf : (none : Option (Int32 × gS)) = some (r, σ') := hf; cases hf)⟩
    | succ t ih =>
      obtain ⟨ih0, ih1⟩ := ih
      refine ⟨?_, ?_⟩
      · intro x1 x2 σ0 H locs ls hf hP hD hS hl
        have hf : B_E_findAttribute_0 (R_E_findAttribute t) x1 x2 σ0 = some (r, σ') := hf
        unfold B_E_findAttribute_0 at hf
        refine lv_aload_n hx hb d_E_findAttribute_0 rfl (lv_at hl 0 rfl) ?_
        refine va_get (D := X) (ci := 0) (C := R_E) (T := T_E) (N := 14) hx hb hts u_0 hown hK hP 20 gc_20 rfl 4 (by decide) k_0 (fun _ h9 => h9) rfl d_E_findAttribute_1 ?_
        refine lv_iload_n hx hb d_E_findAttribute_4 rfl (lv_at hl 1 rfl) ?_
        obtain ⟨y1, h2, e3, hf⟩ := gLd_e hf
        refine va_iald hx hb hK hP 24 0 gc_24 rfl h2 d_E_findAttribute_5 ?_
        rw [← e3]
        refine lv_aload_n hx hb d_E_findAttribute_6 rfl (lv_at hl 0 rfl) ?_
        refine va_get (D := X) (ci := 0) (C := R_E) (T := T_E) (N := 14) hx hb hts u_0 hown hK hP 20 gc_20 rfl 5 (by decide) k_1 (fun _ h9 => h9) rfl d_E_findAttribute_7 ?_
        refine lv_iload_n hx hb d_E_findAttribute_10 rfl (lv_at hl 1 rfl) ?_
        obtain ⟨y4, h5, e6, hf⟩ := gLd_e hf
        refine va_iald hx hb hK hP 25 0 gc_25 rfl h5 d_E_findAttribute_11 ?_
        rw [← e6]
        refine lv_iadd hx hb d_E_findAttribute_12 ?_
        refine lv_istore_n hx hb d_E_findAttribute_13 rfl hl (by decide) rfl (fun ls hl => ?_)
        refine lv_aload_n hx hb d_E_findAttribute_14 rfl (lv_at hl 1 rfl) ?_
        refine va_get (D := X) (ci := 0) (C := R_E) (T := T_E) (N := 14) hx hb hts u_0 hown hK hP 20 gc_20 rfl 4 (by decide) k_0 (fun _ h9 => h9) rfl d_E_findAttribute_15 ?_
        refine lv_iload_n hx hb d_E_findAttribute_18 rfl (lv_at hl 2 rfl) ?_
        obtain ⟨y7, h8, e9, hf⟩ := gLd_e hf
        refine va_iald hx hb hK hP 24 0 gc_24 rfl h8 d_E_findAttribute_19 ?_
        rw [← e9]
        refine lv_istore hx hb d_E_findAttribute_20 hl (by decide) rfl (fun ls hl => ?_)
        exact ih1 (x2) ((y1 + y4)) (y7) σ0 _ _ _ hf hP hD hS (lv_sub hl [2, 4, 1, 0] rfl)
      · intro x2 x3 x4 σ0 H locs ls hf hP hD hS hl
        have hf : B_E_findAttribute_1 (R_E_findAttribute t) x2 x3 x4 σ0 = some (r, σ') := hf
        unfold B_E_findAttribute_1 at hf
        refine lv_iload hx hb d_E_findAttribute_22 (lv_at hl 3 rfl) ?_
        refine lv_iload_n hx hb d_E_findAttribute_24 rfl (lv_at hl 2 rfl) ?_
        refine lv_icmp_ge (tgt := 48) hx hb d_E_findAttribute_25 rfl (fun c10 => ?_) (fun c10 => ?_)
        · skip
          rw [if_pos c10] at hf
          refine lv_iconst (v := (-1)) hx hb d_E_findAttribute_48 (by decide) ?_
          obtain ⟨rfl, rfl⟩ := gRt_e hf
          exact g_zret hx hb hr hlocks rfl hAe hS () rfl hP d_E_findAttribute_49
        rw [if_neg c10] at hf
        refine lv_aload_n hx hb d_E_findAttribute_28 rfl (lv_at hl 0 rfl) ?_
        refine va_get (D := X) (ci := 0) (C := R_E) (T := T_E) (N := 14) hx hb hts u_0 hown hK hP 20 gc_20 rfl 9 (by decide) k_2 (fun _ h9 => h9) rfl d_E_findAttribute_29 ?_
        refine lv_iload hx hb d_E_findAttribute_32 (lv_at hl 3 rfl) ?_
        obtain ⟨y11, h12, e13, hf⟩ := gLd_e hf
        refine va_iald hx hb hK hP 28 0 gc_28 rfl h12 d_E_findAttribute_34 ?_
        rw [← e13]
        refine lv_iload_n hx hb d_E_findAttribute_35 rfl (lv_at hl 1 rfl) ?_
        refine lv_icmp_ne (tgt := 42) hx hb d_E_findAttribute_36 rfl (fun c14 => ?_) (fun c14 => ?_)
        · skip
          rw [if_neg c14] at hf
          refine lv_iinc (k := 3) (v := (x4 + 1)) hx hb d_E_findAttribute_42 hl rfl (by rw [show Int32.ofInt (1) = (1 : Int32) by decide]) (by decide) rfl (fun ls hl => ?_)
          refine lv_goto (tgt := 22) hx hb d_E_findAttribute_45 rfl ?_
          exact ih1 (x2) (x3) ((x4 + 1)) σ0 _ _ _ hf hP hD hS (lv_sub hl [1, 2, 3, 0] rfl)
        rw [if_pos c14] at hf
        refine lv_iload hx hb d_E_findAttribute_39 (lv_at hl 3 rfl) ?_
        obtain ⟨rfl, rfl⟩ := gRt_e hf
        exact g_zret hx hb hr hlocks rfl hAe hS () rfl hP d_E_findAttribute_41
  exact (key gFuel).1 q1 q2 σ _ _ _ hf hP hD hS hl

def f_E_isEmpty (σ : gS) (x1 : Int32) : Option (Int32 × gS) := gLd σ 27 533 x1 (fun y1 => if y1 = 0 then (gLd σ 23 533 x1 (fun y5 => if y5 = 0 then (some (1, σ)) else (some (0, σ)))) else (some (0, σ)))
set_option maxHeartbeats 4000000 in
set_option maxRecDepth 100000 in
theorem m_E_isEmpty {l : Launch} {X : va_G} {cI cC cZ : ClassId} {aK aV : Nat → Nat} {a : Nat → Nat} {σ σ' : gS} {r : Int32} {x1 : Int32} (hf : f_E_isEmpty σ x1 = some (r, σ')) {sz : Nat} : Met l y_E_isEmpty w_E_isEmpty { frames := 0, cells := 0, slots := 0, locals := 0 } (gPc X vwCl (gT cI cC cZ) aK aV (cW cI cC cZ a σ) sz [.ref (a 20), .int x1]) (gQi X vwCl (cW cI cC cZ a σ) sz (fun r' (_ : Unit) => r' = r) (fun _ => cW cI cC cZ a σ')) 0 0 (va_A (cW cI cC cZ a σ) sz) := by
  refine g_met (cc := b_E_isEmpty) (maxL := 2) (ret := (some .boolean)) (by decide) rfl (Nat.le_of_ble_eq_true rfl) ?_
  intro p e s m below meth c A ls hx hb hr hml hown hts hlocks hnm hsz hAe hA hP hK hD hS hl hE
  have hown : s.vm.findClass R_E = some m.cls := hown
  have u_0 : ∀ w ∈ u_ws R_E T_E 14, w ∈ w_E_isEmpty := fun w h => List.mem_cons_of_mem _ (tu_E w h)
  have k_0 := hts (.fieldLink R_E 30 "GraphPages$Elements" "textCounts" "[I") (List.mem_cons_of_mem _ tb_28)
  have k_1 := hts (.fieldLink R_E 18 "GraphPages$Elements" "children" "[I") (List.mem_cons_of_mem _ tb_24)
  unfold f_E_isEmpty at hf
  refine lv_aload_n hx hb d_E_isEmpty_0 rfl (lv_at hl 0 rfl) ?_
  refine va_get (D := X) (ci := 0) (C := R_E) (T := T_E) (N := 14) hx hb hts u_0 hown hK hP 20 gc_20 rfl 7 (by decide) k_0 (fun _ h9 => h9) rfl d_E_isEmpty_1 ?_
  refine lv_iload_n hx hb d_E_isEmpty_4 rfl (lv_at hl 1 rfl) ?_
  obtain ⟨y1, h2, e3, hf⟩ := gLd_e hf
  refine va_iald hx hb hK hP 27 0 gc_27 rfl h2 d_E_isEmpty_5 ?_
  rw [← e3]
  refine lv_if_ne (tgt := 22) hx hb d_E_isEmpty_6 rfl (fun c4 => ?_) (fun c4 => ?_)
  · skip
    rw [if_neg c4] at hf
    refine lv_iconst (v := 0) hx hb d_E_isEmpty_22 (by decide) ?_
    obtain ⟨rfl, rfl⟩ := gRt_e hf
    exact g_zret hx hb hr hlocks rfl hAe hS () rfl hP d_E_isEmpty_23
  rw [if_pos c4] at hf
  refine lv_aload_n hx hb d_E_isEmpty_9 rfl (lv_at hl 0 rfl) ?_
  refine va_get (D := X) (ci := 0) (C := R_E) (T := T_E) (N := 14) hx hb hts u_0 hown hK hP 20 gc_20 rfl 3 (by decide) k_1 (fun _ h9 => h9) rfl d_E_isEmpty_10 ?_
  refine lv_iload_n hx hb d_E_isEmpty_13 rfl (lv_at hl 1 rfl) ?_
  obtain ⟨y5, h6, e7, hf⟩ := gLd_e hf
  refine va_iald hx hb hK hP 23 0 gc_23 rfl h6 d_E_isEmpty_14 ?_
  rw [← e7]
  refine lv_if_ne (tgt := 22) hx hb d_E_isEmpty_15 rfl (fun c8 => ?_) (fun c8 => ?_)
  · skip
    rw [if_neg c8] at hf
    refine lv_iconst (v := 0) hx hb d_E_isEmpty_22 (by decide) ?_
    obtain ⟨rfl, rfl⟩ := gRt_e hf
    exact g_zret hx hb hr hlocks rfl hAe hS () rfl hP d_E_isEmpty_23
  rw [if_pos c8] at hf
  refine lv_iconst (v := 1) hx hb d_E_isEmpty_18 (by decide) ?_
  refine lv_goto (tgt := 23) hx hb d_E_isEmpty_19 rfl ?_
  obtain ⟨rfl, rfl⟩ := gRt_e hf
  exact g_zret hx hb hr hlocks rfl hAe hS () rfl hP d_E_isEmpty_23
