def B_F_isWellFormed_0 (rec : Nat → List Int32 → gS → Option (Int32 × gS)) (σ0 : gS) : Option (Int32 × gS) := gBd (f_E_removeAll σ0) (fun _ σ2 => gPut σ2 8 0 (fun σ4 => gPut σ4 9 (-1) (fun σ6 => gPut σ6 10 0 (fun σ8 => rec 1 [0] σ8))))
def B_F_isWellFormed_1 (rec : Nat → List Int32 → gS → Option (Int32 × gS)) (x1 : Int32) (σ0 : gS) : Option (Int32 × gS) := if 1600 ≤ x1 then (rec 2 [] σ0) else (if (σ0.1 1) ≤ (σ0.1 8) then (rec 2 [] σ0) else (none))
def B_F_isWellFormed_2 (rec : Nat → List Int32 → gS → Option (Int32 × gS)) (σ0 : gS) : Option (Int32 × gS) := if (σ0.1 5) ≤ 0 then (some (0, σ0)) else (if (σ0.1 9) = (-1) then (if (σ0.1 8) < (σ0.1 1) then (some (0, σ0)) else (some (1, σ0))) else (some (0, σ0)))
def S_F_isWellFormed (rec : Nat → List Int32 → gS → Option (Int32 × gS)) (k : Nat) (l : List Int32) (σ0 : gS) : Option (Int32 × gS) := match k, l with
  | 0, [] => B_F_isWellFormed_0 rec  σ0
  | 1, [x1] => B_F_isWellFormed_1 rec x1 σ0
  | 2, [] => B_F_isWellFormed_2 rec  σ0
  | _, _ => none
def R_F_isWellFormed : Nat → Nat → List Int32 → gS → Option (Int32 × gS)
  | 0 => fun _ _ _ => none
  | t + 1 => fun k l σ0 => S_F_isWellFormed (R_F_isWellFormed t) k l σ0
def f_F_isWellFormed (σ : gS) : Option (Int32 × gS) := R_F_isWellFormed gFuel 0 [] σ
set_option maxHeartbeats 4000000 in
set_option maxRecDepth 100000 in
theorem m_F_isWellFormed {l : Launch} {X : va_G} {cI cC cZ : ClassId} {a : Nat → Nat} {σ σ' : gS} {r : Int32} (hf : f_F_isWellFormed σ = some (r, σ')) {sz : Nat} : Met l y_F_isWellFormed w_F_isWellFormed { frames := 1, cells := 0, slots := 0, locals := 20 } (gPc X vwCl (gT cI cC cZ) (cW cI cC cZ a σ) sz [.ref (a 32)]) (gQi X vwCl (cW cI cC cZ a σ) sz (fun r' (_ : Unit) => r' = r) (fun _ => cW cI cC cZ a σ')) 0 0 (va_A (cW cI cC cZ a σ) sz) := by
  refine g_met (cc := b_F_isWellFormed) (maxL := 2) (ret := (some .boolean)) (by decide) rfl (Nat.le_of_ble_eq_true rfl) ?_
  intro p e s m below meth c A ls hx hb hr hml hown hts hlocks hnm hsz hAe hA hP hK hD hS hl hN
  have hown : s.vm.findClass R_F = some m.cls := hown
  have u_0 : ∀ w ∈ u_ws R_F T_F 5, w ∈ w_F_isWellFormed := fun w h => List.mem_cons_of_mem _ (tu_F w h)
  have u_1 : ∀ w ∈ u_ws R_P T_P 2, w ∈ w_F_isWellFormed := fun w h => List.mem_cons_of_mem _ (tu_P w h)
  have u_2 : ∀ w ∈ u_ws R_E T_E 14, w ∈ w_F_isWellFormed := fun w h => List.mem_cons_of_mem _ (tu_E w h)
  have k_0 := hts (.fieldLink R_F 15 "GraphPages$FormReader" "elements" "LGraphPages$Elements;") (List.mem_cons_of_mem _ tb_9)
  have k_1 := hts (.fieldLink R_F 24 "GraphPages$FormReader" "place" "I") (List.mem_cons_of_mem _ tb_10)
  have k_2 := hts (.fieldLink R_F 28 "GraphPages$FormReader" "open" "I") (List.mem_cons_of_mem _ tb_11)
  have k_3 := hts (.fieldLink R_F 31 "GraphPages$FormReader" "depth" "I") (List.mem_cons_of_mem _ tb_12)
  have k_4 := hts (.fieldLink R_F 9 "GraphPages$FormReader" "page" "LGraphPages$Page;") (List.mem_cons_of_mem _ tb_13)
  have k_5 := hts (.fieldLink R_F 34 "GraphPages$Page" "end" "I") (List.mem_cons_of_mem _ tb_14)
  have k_6 := hts (.fieldLink R_F 43 "GraphPages$Elements" "count" "I") (List.mem_cons_of_mem _ tb_15)
  unfold f_F_isWellFormed at hf
  have key : ∀ t : Nat, (∀ (σ0 : gS) (H : Heap) (locs : List Loc) (ls : Array Slot), R_F_isWellFormed t 0 [] σ0 = some (r, σ') → va_P X vwCl (cW cI cC cZ a σ0) H → va_D A (cW cI cC cZ a σ0) → va_S A s.heap H locs → lv_has ls 2 [(0, .ref (a 32))] → W p l e (headSpec w_F_isWellFormed { frames := 1, cells := 0, slots := 0, locals := 20 }).room s m [.ref (a 32)].toArray below meth c H locs 0 0 (MQ below (gQi X vwCl (cW cI cC cZ a σ) sz (fun r' (_ : Unit) => r' = r) (fun _ => cW cI cC cZ a σ')) [.ref (a 32)].toArray s 0 0 (va_A (cW cI cC cZ a σ) sz)) (F0 m 0 ls [])) ∧ (∀ (x1 : Int32) (σ0 : gS) (H : Heap) (locs : List Loc) (ls : Array Slot), R_F_isWellFormed t 1 [x1] σ0 = some (r, σ') → va_P X vwCl (cW cI cC cZ a σ0) H → va_D A (cW cI cC cZ a σ0) → va_S A s.heap H locs → lv_has ls 2 [(0, .ref (a 32)), (1, .int x1)] → W p l e (headSpec w_F_isWellFormed { frames := 1, cells := 0, slots := 0, locals := 20 }).room s m [.ref (a 32)].toArray below meth c H locs 0 0 (MQ below (gQi X vwCl (cW cI cC cZ a σ) sz (fun r' (_ : Unit) => r' = r) (fun _ => cW cI cC cZ a σ')) [.ref (a 32)].toArray s 0 0 (va_A (cW cI cC cZ a σ) sz)) (F0 m 24 ls [])) ∧ (∀ (σ0 : gS) (H : Heap) (locs : List Loc) (ls : Array Slot), R_F_isWellFormed t 2 [] σ0 = some (r, σ') → va_P X vwCl (cW cI cC cZ a σ0) H → va_D A (cW cI cC cZ a σ0) → va_S A s.heap H locs → lv_has ls 2 [(0, .ref (a 32))] → W p l e (headSpec w_F_isWellFormed { frames := 1, cells := 0, slots := 0, locals := 20 }).room s m [.ref (a 32)].toArray below meth c H locs 0 0 (MQ below (gQi X vwCl (cW cI cC cZ a σ) sz (fun r' (_ : Unit) => r' = r) (fun _ => cW cI cC cZ a σ')) [.ref (a 32)].toArray s 0 0 (va_A (cW cI cC cZ a σ) sz)) (F0 m 60 ls [])) := by
    intro t
    induction t with
    | zero => exact ⟨fun  _ _ _ _ hf => (by have hf : (none : Option (Int32 × gS)) = some (r, σ') := hf; cases hf), fun _ _ _ _ _ hf => (by have hf : (none : Option (Int32 × gS)) = some (r, σ') := hf; cases hf), fun  _ _ _ _ hf => (by have hf : (none : Option (Int32 × gS)) = some (r, σ') := hf; cases hf)⟩
    | succ t ih =>
      obtain ⟨ih0, ih1, ih2⟩ := ih
      refine ⟨?_, ?_, ?_⟩
      · intro  σ0 H locs ls hf hP hD hS hl
        have hf : B_F_isWellFormed_0 (R_F_isWellFormed t)  σ0 = some (r, σ') := hf
        unfold B_F_isWellFormed_0 at hf
        refine lv_aload_n hx hb d_F_isWellFormed_0 rfl (lv_at hl 0 rfl) ?_
        refine va_get (D := X) (ci := 1) (C := R_F) (T := T_F) (N := 5) hx hb hts u_0 hown hK hP 32 gc_32 rfl 1 (by decide) k_0 (fun _ h9 => h9) rfl d_F_isWellFormed_1 ?_
        obtain ⟨y1, σ2, e3, hf⟩ := gBd_e hf
        refine g_wv (va_runV ⟨hx, hb, hml, hown, hts⟩ (m_E_removeAll e3) (cwV 0 hts (gG4 (fun _ h => List.mem_cons_of_mem _ h) tb_5 tb_6 tb_7 tb_8 tc_E_removeAll) rfl rfl rfl (by decide +kernel) ⟨Nat.le_of_ble_eq_true rfl, Nat.le_of_ble_eq_true rfl⟩) (g_preVW (q0 := 20) hN hK hP hD gc_20 rfl) rfl rfl hl.1 rfl (lv_room (Nat.le_of_ble_eq_true rfl)) d_F_isWellFormed_4 ⟨Nat.zero_le _, Nat.zero_le _⟩) hD hS hA (fun _ => cW_fst) (fun _ H locs _ hP hD hS => ?_)
        refine lv_aload_n hx hb d_F_isWellFormed_7 rfl (lv_at hl 0 rfl) ?_
        refine lv_iconst (v := 0) hx hb d_F_isWellFormed_8 (by decide) ?_
        obtain ⟨σ4, e5, hf⟩ := gPut_e hf
        refine va_put (D := X) (ci := 1) (ty := .int) (C := R_F) (T := T_F) (N := 5) hx hb hts u_0 t_F t_F_ok n_F hown hK hP hD hS 32 gc_32 rfl 2 (by decide) k_1 (fun _ h9 => h9) rfl (by decide +kernel) rfl rfl (Nat.le_of_ble_eq_true rfl) d_F_isWellFormed_9 (fun H locs hP hD hS => ?_)
        rw [sc_32_2, ← e5] at hP hD
        refine lv_aload_n hx hb d_F_isWellFormed_12 rfl (lv_at hl 0 rfl) ?_
        refine lv_iconst (v := (-1)) hx hb d_F_isWellFormed_13 (by decide) ?_
        obtain ⟨σ6, e7, hf⟩ := gPut_e hf
        refine va_put (D := X) (ci := 1) (ty := .int) (C := R_F) (T := T_F) (N := 5) hx hb hts u_0 t_F t_F_ok n_F hown hK hP hD hS 32 gc_32 rfl 3 (by decide) k_2 (fun _ h9 => h9) rfl (by decide +kernel) rfl rfl (Nat.le_of_ble_eq_true rfl) d_F_isWellFormed_14 (fun H locs hP hD hS => ?_)
        rw [sc_32_3, ← e7] at hP hD
        refine lv_aload_n hx hb d_F_isWellFormed_17 rfl (lv_at hl 0 rfl) ?_
        refine lv_iconst (v := 0) hx hb d_F_isWellFormed_18 (by decide) ?_
        obtain ⟨σ8, e9, hf⟩ := gPut_e hf
        refine va_put (D := X) (ci := 1) (ty := .int) (C := R_F) (T := T_F) (N := 5) hx hb hts u_0 t_F t_F_ok n_F hown hK hP hD hS 32 gc_32 rfl 4 (by decide) k_3 (fun _ h9 => h9) rfl (by decide +kernel) rfl rfl (Nat.le_of_ble_eq_true rfl) d_F_isWellFormed_19 (fun H locs hP hD hS => ?_)
        rw [sc_32_4, ← e9] at hP hD
        refine lv_iconst (v := 0) hx hb d_F_isWellFormed_22 (by decide) ?_
        refine lv_istore_n hx hb d_F_isWellFormed_23 rfl hl (by decide) rfl (fun ls hl => ?_)
        exact ih1 (0) σ8 _ _ _ hf hP hD hS (lv_sub hl [1, 0] rfl)
      · intro x1 σ0 H locs ls hf hP hD hS hl
        have hf : B_F_isWellFormed_1 (R_F_isWellFormed t) x1 σ0 = some (r, σ') := hf
        unfold B_F_isWellFormed_1 at hf
        refine lv_iload_n hx hb d_F_isWellFormed_24 rfl (lv_at hl 1 rfl) ?_
        refine lv_sipush (v := 1600) hx hb d_F_isWellFormed_25 (by decide) ?_
        refine lv_icmp_ge (tgt := 60) hx hb d_F_isWellFormed_28 rfl (fun c10 => ?_) (fun c10 => ?_)
        · skip
          rw [if_pos c10] at hf
          exact ih2 σ0 _ _ _ hf hP hD hS (lv_sub hl [0] rfl)
        rw [if_neg c10] at hf
        refine lv_aload_n hx hb d_F_isWellFormed_31 rfl (lv_at hl 0 rfl) ?_
        refine va_get (D := X) (ci := 1) (C := R_F) (T := T_F) (N := 5) hx hb hts u_0 hown hK hP 32 gc_32 rfl 2 (by decide) k_1 (fun _ h9 => h9) rfl d_F_isWellFormed_32 ?_
        refine lv_aload_n hx hb d_F_isWellFormed_35 rfl (lv_at hl 0 rfl) ?_
        refine va_get (D := X) (ci := 1) (C := R_F) (T := T_F) (N := 5) hx hb hts u_0 hown hK hP 32 gc_32 rfl 0 (by decide) k_4 (fun _ h9 => h9) rfl d_F_isWellFormed_36 ?_
        refine va_get (D := X) (ci := 5) (C := R_P) (T := T_P) (N := 2) hx hb hts u_1 hown hK hP 7 gc_7 rfl 0 (by decide) k_5 (fun _ h9 => h9) rfl d_F_isWellFormed_39 ?_
        refine lv_icmp_ge (tgt := 60) hx hb d_F_isWellFormed_42 rfl (fun c11 => ?_) (fun c11 => ?_)
        · skip
          rw [if_pos c11] at hf
          exact ih2 σ0 _ _ _ hf hP hD hS (lv_sub hl [0] rfl)
        rw [if_neg c11] at hf
        refine lv_aload_n hx hb d_F_isWellFormed_45 rfl (lv_at hl 0 rfl) ?_
        cases hf
      · intro  σ0 H locs ls hf hP hD hS hl
        have hf : B_F_isWellFormed_2 (R_F_isWellFormed t)  σ0 = some (r, σ') := hf
        unfold B_F_isWellFormed_2 at hf
        refine lv_aload_n hx hb d_F_isWellFormed_60 rfl (lv_at hl 0 rfl) ?_
        refine va_get (D := X) (ci := 1) (C := R_F) (T := T_F) (N := 5) hx hb hts u_0 hown hK hP 32 gc_32 rfl 1 (by decide) k_0 (fun _ h9 => h9) rfl d_F_isWellFormed_61 ?_
        refine va_get (D := X) (ci := 0) (C := R_E) (T := T_E) (N := 14) hx hb hts u_2 hown hK hP 20 gc_20 rfl 0 (by decide) k_6 (fun _ h9 => h9) rfl d_F_isWellFormed_64 ?_
        refine lv_if_le (tgt := 96) hx hb d_F_isWellFormed_67 rfl (fun c15 => ?_) (fun c15 => ?_)
        · skip
          rw [if_pos c15] at hf
          refine lv_iconst (v := 0) hx hb d_F_isWellFormed_96 (by decide) ?_
          obtain ⟨rfl, rfl⟩ := gRt_e hf
          exact g_zret hx hb hr hlocks rfl hAe hS () rfl hP d_F_isWellFormed_97
        rw [if_neg c15] at hf
        refine lv_aload_n hx hb d_F_isWellFormed_70 rfl (lv_at hl 0 rfl) ?_
        refine va_get (D := X) (ci := 1) (C := R_F) (T := T_F) (N := 5) hx hb hts u_0 hown hK hP 32 gc_32 rfl 3 (by decide) k_2 (fun _ h9 => h9) rfl d_F_isWellFormed_71 ?_
        refine lv_iconst (v := (-1)) hx hb d_F_isWellFormed_74 (by decide) ?_
        refine lv_icmp_ne (tgt := 96) hx hb d_F_isWellFormed_75 rfl (fun c16 => ?_) (fun c16 => ?_)
        · skip
          rw [if_neg c16] at hf
          refine lv_iconst (v := 0) hx hb d_F_isWellFormed_96 (by decide) ?_
          obtain ⟨rfl, rfl⟩ := gRt_e hf
          exact g_zret hx hb hr hlocks rfl hAe hS () rfl hP d_F_isWellFormed_97
        rw [if_pos c16] at hf
        refine lv_aload_n hx hb d_F_isWellFormed_78 rfl (lv_at hl 0 rfl) ?_
        refine va_get (D := X) (ci := 1) (C := R_F) (T := T_F) (N := 5) hx hb hts u_0 hown hK hP 32 gc_32 rfl 2 (by decide) k_1 (fun _ h9 => h9) rfl d_F_isWellFormed_79 ?_
        refine lv_aload_n hx hb d_F_isWellFormed_82 rfl (lv_at hl 0 rfl) ?_
        refine va_get (D := X) (ci := 1) (C := R_F) (T := T_F) (N := 5) hx hb hts u_0 hown hK hP 32 gc_32 rfl 0 (by decide) k_4 (fun _ h9 => h9) rfl d_F_isWellFormed_83 ?_
        refine va_get (D := X) (ci := 5) (C := R_P) (T := T_P) (N := 2) hx hb hts u_1 hown hK hP 7 gc_7 rfl 0 (by decide) k_5 (fun _ h9 => h9) rfl d_F_isWellFormed_86 ?_
        refine lv_icmp_lt (tgt := 96) hx hb d_F_isWellFormed_89 rfl (fun c17 => ?_) (fun c17 => ?_)
        · skip
          rw [if_pos c17] at hf
          refine lv_iconst (v := 0) hx hb d_F_isWellFormed_96 (by decide) ?_
          obtain ⟨rfl, rfl⟩ := gRt_e hf
          exact g_zret hx hb hr hlocks rfl hAe hS () rfl hP d_F_isWellFormed_97
        rw [if_neg c17] at hf
        refine lv_iconst (v := 1) hx hb d_F_isWellFormed_92 (by decide) ?_
        refine lv_goto (tgt := 97) hx hb d_F_isWellFormed_93 rfl ?_
        obtain ⟨rfl, rfl⟩ := gRt_e hf
        exact g_zret hx hb hr hlocks rfl hAe hS () rfl hP d_F_isWellFormed_97
  exact (key gFuel).1  σ _ _ _ hf hP hD hS hl
