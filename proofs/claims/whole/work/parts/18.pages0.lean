def B_O_make_0 (rec : Nat → List Int32 → gS → Option (Int32 × gS)) (x1 : Int32) (x2 : Int32) (σ0 : gS) : Option (Int32 × gS) := if (σ0.1 0) < 16 then (if x1 = 0 then (gBd (f_G_add σ0 0 2) (fun y9 σ10 => some (y9, σ10))) else (if x1 = 1 then (if x2 < 0 then (rec 1 [x1] σ0) else (if 4 < x2 then (rec 1 [x1] σ0) else (gBd (f_G_add σ0 1 x2) (fun y6 σ7 => some (y6, σ7))))) else (rec 1 [x1] σ0))) else (some ((-1), σ0))
def B_O_make_1 (rec : Nat → List Int32 → gS → Option (Int32 × gS)) (x1 : Int32) (σ0 : gS) : Option (Int32 × gS) := if x1 = 2 then (gBd (f_G_add σ0 2 0) (fun y13 σ14 => some (y13, σ14))) else (some ((-1), σ0))
def S_O_make (rec : Nat → List Int32 → gS → Option (Int32 × gS)) (k : Nat) (l : List Int32) (σ0 : gS) : Option (Int32 × gS) := match k, l with
  | 0, [x1, x2] => B_O_make_0 rec x1 x2 σ0
  | 1, [x1] => B_O_make_1 rec x1 σ0
  | _, _ => none
def R_O_make : Nat → Nat → List Int32 → gS → Option (Int32 × gS)
  | 0 => fun _ _ _ => none
  | t + 1 => fun k l σ0 => S_O_make (R_O_make t) k l σ0
def f_O_make (σ : gS) (x1 : Int32) (x2 : Int32) : Option (Int32 × gS) := R_O_make gFuel 0 [x1, x2] σ
set_option maxHeartbeats 4000000 in
set_option maxRecDepth 100000 in
theorem m_O_make {l : Launch} {X : va_G} {cI cC cZ : ClassId} {aK aV : Nat → Nat} {a : Nat → Nat} {σ σ' : gS} {r : Int32} {q1 : Int32} {q2 : Int32} (hf : f_O_make σ q1 q2 = some (r, σ')) {sz : Nat} : Met l y_O_make w_O_make { frames := 3, cells := 0, slots := 0, locals := 70 } (gPc X vwCl (gT cI cC cZ) aK aV (cW cI cC cZ a σ) sz [.ref (a 0), .int q1, .int q2]) (gQi X vwCl (cW cI cC cZ a σ) sz (fun r' (_ : Unit) => r' = r) (fun _ => cW cI cC cZ a σ')) 0 0 (va_A (cW cI cC cZ a σ) sz) := by
  refine g_met (cc := b_O_make) (maxL := 3) (ret := (some .int)) (by decide) rfl (Nat.le_of_ble_eq_true rfl) ?_
  intro p e s m below meth c A ls hx hb hr hml hown hts hlocks hnm hsz hAe hA hP hK hD hS hl hE
  have hown : s.vm.findClass R_O = some m.cls := hown
  have u_0 : ∀ w ∈ u_ws R_O T_O 8, w ∈ w_O_make := fun w h => List.mem_cons_of_mem _ (tu_O w h)
  have u_1 : ∀ w ∈ u_ws R_G T_G 6, w ∈ w_O_make := fun w h => List.mem_cons_of_mem _ (tu_G w h)
  have k_0 := hts (.fieldLink R_O 10 "GraphPages" "graph" "LGraphPages$Graph;") (List.mem_cons_of_mem _ tb_339)
  have k_1 := hts (.fieldLink R_O 73 "GraphPages$Graph" "count" "I") (List.mem_cons_of_mem _ tb_340)
  unfold f_O_make at hf
  have key : ∀ t : Nat, (∀ (x1 : Int32) (x2 : Int32) (σ0 : gS) (H : Heap) (locs : List Loc) (ls : Array Slot), R_O_make t 0 [x1, x2] σ0 = some (r, σ') → va_P X vwCl (cW cI cC cZ a σ0) H → va_D A (cW cI cC cZ a σ0) → va_S A s.heap H locs → lv_has ls 3 [(0, .ref (a 0)), (1, .int x1), (2, .int x2)] → W p l e (headSpec w_O_make { frames := 3, cells := 0, slots := 0, locals := 70 }).room s m [.ref (a 0), .int q1, .int q2].toArray below meth c H locs 0 0 (MQ below (gQi X vwCl (cW cI cC cZ a σ) sz (fun r' (_ : Unit) => r' = r) (fun _ => cW cI cC cZ a σ')) [.ref (a 0), .int q1, .int q2].toArray s 0 0 (va_A (cW cI cC cZ a σ) sz)) (F0 m 0 ls [])) ∧ (∀ (x1 : Int32) (σ0 : gS) (H : Heap) (locs : List Loc) (ls : Array Slot), R_O_make t 1 [x1] σ0 = some (r, σ') → va_P X vwCl (cW cI cC cZ a σ0) H → va_D A (cW cI cC cZ a σ0) → va_S A s.heap H locs → lv_has ls 3 [(0, .ref (a 0)), (1, .int x1)] → W p l e (headSpec w_O_make { frames := 3, cells := 0, slots := 0, locals := 70 }).room s m [.ref (a 0), .int q1, .int q2].toArray below meth c H locs 0 0 (MQ below (gQi X vwCl (cW cI cC cZ a σ) sz (fun r' (_ : Unit) => r' = r) (fun _ => cW cI cC cZ a σ')) [.ref (a 0), .int q1, .int q2].toArray s 0 0 (va_A (cW cI cC cZ a σ) sz)) (F0 m 52 ls [])) := by
    intro t
    induction t with
    | zero => exact ⟨fun _ _ _ _ _ _ hf => (by have hf : (none : Option (Int32 × gS)) = some (r, σ') := hf; cases hf), fun _ _ _ _ _ hf => (by have hf : (none : Option (Int32 × gS)) = some (r, σ') := hf; cases hf)⟩
    | succ t ih =>
      obtain ⟨ih0, ih1⟩ := ih
      refine ⟨?_, ?_⟩
      · intro x1 x2 σ0 H locs ls hf hP hD hS hl
        have hf : B_O_make_0 (R_O_make t) x1 x2 σ0 = some (r, σ') := hf
        unfold B_O_make_0 at hf
        refine lv_aload_n hx hb d_O_make_0 rfl (lv_at hl 0 rfl) ?_
        refine va_get (D := X) (ci := 8) (C := R_O) (T := T_O) (N := 8) hx hb hts u_0 hown hK hP 0 gc_0 rfl 0 (by decide) k_0 (fun _ h9 => h9) rfl d_O_make_1 ?_
        refine va_get (D := X) (ci := 2) (C := R_G) (T := T_G) (N := 6) hx hb hts u_1 hown hK hP 1 gc_1 rfl 0 (by decide) k_1 (fun _ h9 => h9) rfl d_O_make_4 ?_
        refine lv_bipush (v := 16) hx hb d_O_make_7 (by decide) ?_
        refine lv_icmp_lt (tgt := 14) hx hb d_O_make_9 rfl (fun c1 => ?_) (fun c1 => ?_)
        · skip
          rw [if_pos c1] at hf
          refine lv_iload_n hx hb d_O_make_14 rfl (lv_at hl 1 rfl) ?_
          refine lv_if_ne (tgt := 28) hx hb d_O_make_15 rfl (fun c2 => ?_) (fun c2 => ?_)
          · skip
            rw [if_neg c2] at hf
            refine lv_iload_n hx hb d_O_make_28 rfl (lv_at hl 1 rfl) ?_
            refine lv_iconst (v := 1) hx hb d_O_make_29 (by decide) ?_
            refine lv_icmp_ne (tgt := 52) hx hb d_O_make_30 rfl (fun c3 => ?_) (fun c3 => ?_)
            · skip
              rw [if_neg c3] at hf
              exact ih1 (x1) σ0 _ _ _ hf hP hD hS (lv_sub hl [0, 1] rfl)
            rw [if_pos c3] at hf
            refine lv_iload_n hx hb d_O_make_33 rfl (lv_at hl 2 rfl) ?_
            refine lv_if_lt (tgt := 52) hx hb d_O_make_34 rfl (fun c4 => ?_) (fun c4 => ?_)
            · skip
              rw [if_pos c4] at hf
              exact ih1 (x1) σ0 _ _ _ hf hP hD hS (lv_sub hl [0, 1] rfl)
            rw [if_neg c4] at hf
            refine lv_iload_n hx hb d_O_make_37 rfl (lv_at hl 2 rfl) ?_
            refine lv_iconst (v := 4) hx hb d_O_make_38 (by decide) ?_
            refine lv_icmp_gt (tgt := 52) hx hb d_O_make_39 rfl (fun c5 => ?_) (fun c5 => ?_)
            · skip
              rw [if_pos c5] at hf
              exact ih1 (x1) σ0 _ _ _ hf hP hD hS (lv_sub hl [0, 1] rfl)
            rw [if_neg c5] at hf
            refine lv_aload_n hx hb d_O_make_42 rfl (lv_at hl 0 rfl) ?_
            refine va_get (D := X) (ci := 8) (C := R_O) (T := T_O) (N := 8) hx hb hts u_0 hown hK hP 0 gc_0 rfl 0 (by decide) k_0 (fun _ h9 => h9) rfl d_O_make_43 ?_
            refine lv_iconst (v := 1) hx hb d_O_make_46 (by decide) ?_
            refine lv_iload_n hx hb d_O_make_47 rfl (lv_at hl 2 rfl) ?_
            obtain ⟨y6, σ7, e8, hf⟩ := gBd_e hf
            refine g_wi (va_runV ⟨hx, hb, hml, hown, hts⟩ (m_G_add e8) (cwV 2 hts (gG4 (fun _ h => List.mem_cons_of_mem _ h) tb_336 tb_337 tb_338 tb_116 tc_G_add) rfl rfl rfl (by decide +kernel) ⟨Nat.le_of_ble_eq_true rfl, Nat.le_of_ble_eq_true rfl⟩) (g_preVW (q0 := 1) hE hK hP hD hS hA gc_1 rfl) rfl rfl hl.1 rfl (lv_room (Nat.le_of_ble_eq_true rfl)) d_O_make_48 ⟨Nat.zero_le _, Nat.zero_le _⟩) hD hS hA (fun _ => cW_fst) (fun y6 _ H locs hu hP hD hS => ?_)
            subst hu
            obtain ⟨rfl, rfl⟩ := gRt_e hf
            exact g_zret hx hb hr hlocks rfl hAe hS () rfl hP d_O_make_51
          rw [if_pos c2] at hf
          refine lv_aload_n hx hb d_O_make_18 rfl (lv_at hl 0 rfl) ?_
          refine va_get (D := X) (ci := 8) (C := R_O) (T := T_O) (N := 8) hx hb hts u_0 hown hK hP 0 gc_0 rfl 0 (by decide) k_0 (fun _ h9 => h9) rfl d_O_make_19 ?_
          refine lv_iconst (v := 0) hx hb d_O_make_22 (by decide) ?_
          refine lv_iconst (v := 2) hx hb d_O_make_23 (by decide) ?_
          obtain ⟨y9, σ10, e11, hf⟩ := gBd_e hf
          refine g_wi (va_runV ⟨hx, hb, hml, hown, hts⟩ (m_G_add e11) (cwV 2 hts (gG4 (fun _ h => List.mem_cons_of_mem _ h) tb_336 tb_337 tb_338 tb_116 tc_G_add) rfl rfl rfl (by decide +kernel) ⟨Nat.le_of_ble_eq_true rfl, Nat.le_of_ble_eq_true rfl⟩) (g_preVW (q0 := 1) hE hK hP hD hS hA gc_1 rfl) rfl rfl hl.1 rfl (lv_room (Nat.le_of_ble_eq_true rfl)) d_O_make_24 ⟨Nat.zero_le _, Nat.zero_le _⟩) hD hS hA (fun _ => cW_fst) (fun y9 _ H locs hu hP hD hS => ?_)
          subst hu
          obtain ⟨rfl, rfl⟩ := gRt_e hf
          exact g_zret hx hb hr hlocks rfl hAe hS () rfl hP d_O_make_27
        rw [if_neg c1] at hf
        refine lv_iconst (v := (-1)) hx hb d_O_make_12 (by decide) ?_
        obtain ⟨rfl, rfl⟩ := gRt_e hf
        exact g_zret hx hb hr hlocks rfl hAe hS () rfl hP d_O_make_13
      · intro x1 σ0 H locs ls hf hP hD hS hl
        have hf : B_O_make_1 (R_O_make t) x1 σ0 = some (r, σ') := hf
        unfold B_O_make_1 at hf
        refine lv_iload_n hx hb d_O_make_52 rfl (lv_at hl 1 rfl) ?_
        refine lv_iconst (v := 2) hx hb d_O_make_53 (by decide) ?_
        refine lv_icmp_ne (tgt := 69) hx hb d_O_make_54 rfl (fun c12 => ?_) (fun c12 => ?_)
        · skip
          rw [if_neg c12] at hf
          refine lv_iconst (v := (-1)) hx hb d_O_make_69 (by decide) ?_
          obtain ⟨rfl, rfl⟩ := gRt_e hf
          exact g_zret hx hb hr hlocks rfl hAe hS () rfl hP d_O_make_70
        rw [if_pos c12] at hf
        refine lv_aload_n hx hb d_O_make_57 rfl (lv_at hl 0 rfl) ?_
        refine va_get (D := X) (ci := 8) (C := R_O) (T := T_O) (N := 8) hx hb hts u_0 hown hK hP 0 gc_0 rfl 0 (by decide) k_0 (fun _ h9 => h9) rfl d_O_make_58 ?_
        refine lv_iconst (v := 2) hx hb d_O_make_61 (by decide) ?_
        refine lv_iconst (v := 0) hx hb d_O_make_62 (by decide) ?_
        obtain ⟨y13, σ14, e15, hf⟩ := gBd_e hf
        refine g_wi (va_runV ⟨hx, hb, hml, hown, hts⟩ (m_G_add e15) (cwV 2 hts (gG4 (fun _ h => List.mem_cons_of_mem _ h) tb_336 tb_337 tb_338 tb_116 tc_G_add) rfl rfl rfl (by decide +kernel) ⟨Nat.le_of_ble_eq_true rfl, Nat.le_of_ble_eq_true rfl⟩) (g_preVW (q0 := 1) hE hK hP hD hS hA gc_1 rfl) rfl rfl hl.1 rfl (lv_room (Nat.le_of_ble_eq_true rfl)) d_O_make_63 ⟨Nat.zero_le _, Nat.zero_le _⟩) hD hS hA (fun _ => cW_fst) (fun y13 _ H locs hu hP hD hS => ?_)
        subst hu
        refine lv_goto (tgt := 70) hx hb d_O_make_66 rfl ?_
        obtain ⟨rfl, rfl⟩ := gRt_e hf
        exact g_zret hx hb hr hlocks rfl hAe hS () rfl hP d_O_make_70
  exact (key gFuel).1 q1 q2 σ _ _ _ hf hP hD hS hl

def f_O_type (σ : gS) (x1 : Int32) (x2 : Int32) : Option (Int32 × gS) := gBd (f_G_isText σ x1) (fun y1 σ2 => if y1 = 0 then (some (0, σ2)) else (gBd (f_O_isPrintable σ2 x2) (fun y5 σ6 => if y5 = 0 then (some (0, σ6)) else (gBd (f_G_addCharacter σ6 x1 x2) (fun y9 σ10 => if y9 = 0 then (some (0, σ10)) else (some (1, σ10)))))))
set_option maxHeartbeats 4000000 in
set_option maxRecDepth 100000 in
theorem m_O_type {l : Launch} {X : va_G} {cI cC cZ : ClassId} {aK aV : Nat → Nat} {a : Nat → Nat} {σ σ' : gS} {r : Int32} {x1 : Int32} {x2 : Int32} (hf : f_O_type σ x1 x2 = some (r, σ')) {sz : Nat} : Met l y_O_type w_O_type { frames := 2, cells := 0, slots := 0, locals := 42 } (gPc X vwCl (gT cI cC cZ) aK aV (cW cI cC cZ a σ) sz [.ref (a 0), .int x1, .int x2]) (gQi X vwCl (cW cI cC cZ a σ) sz (fun r' (_ : Unit) => r' = r) (fun _ => cW cI cC cZ a σ')) 0 0 (va_A (cW cI cC cZ a σ) sz) := by
  refine g_met (cc := b_O_type) (maxL := 3) (ret := (some .boolean)) (by decide) rfl (Nat.le_of_ble_eq_true rfl) ?_
  intro p e s m below meth c A ls hx hb hr hml hown hts hlocks hnm hsz hAe hA hP hK hD hS hl hE
  have hown : s.vm.findClass R_O = some m.cls := hown
  have u_0 : ∀ w ∈ u_ws R_O T_O 8, w ∈ w_O_type := fun w h => List.mem_cons_of_mem _ (tu_O w h)
  have k_0 := hts (.fieldLink R_O 10 "GraphPages" "graph" "LGraphPages$Graph;") (List.mem_cons_of_mem _ tb_339)
  unfold f_O_type at hf
  refine lv_aload_n hx hb d_O_type_0 rfl (lv_at hl 0 rfl) ?_
  refine va_get (D := X) (ci := 8) (C := R_O) (T := T_O) (N := 8) hx hb hts u_0 hown hK hP 0 gc_0 rfl 0 (by decide) k_0 (fun _ h9 => h9) rfl d_O_type_1 ?_
  refine lv_iload_n hx hb d_O_type_4 rfl (lv_at hl 1 rfl) ?_
  obtain ⟨y1, σ2, e3, hf⟩ := gBd_e hf
  refine g_wi (va_runV ⟨hx, hb, hml, hown, hts⟩ (m_G_isText e3) (cwV 1 hts (gG4 (fun _ h => List.mem_cons_of_mem _ h) tb_341 tb_249 tb_250 tb_116 tc_G_isText) rfl rfl rfl (by decide +kernel) ⟨Nat.le_of_ble_eq_true rfl, Nat.le_of_ble_eq_true rfl⟩) (g_preVW (q0 := 1) hE hK hP hD hS hA gc_1 rfl) rfl rfl hl.1 rfl (lv_room (Nat.le_of_ble_eq_true rfl)) d_O_type_5 ⟨Nat.zero_le _, Nat.zero_le _⟩) hD hS hA (fun _ => cW_fst) (fun y1 _ H locs hu hP hD hS => ?_)
  subst hu
  refine lv_if_eq (tgt := 34) hx hb d_O_type_8 rfl (fun c4 => ?_) (fun c4 => ?_)
  · skip
    rw [if_pos c4] at hf
    refine lv_iconst (v := 0) hx hb d_O_type_34 (by decide) ?_
    obtain ⟨rfl, rfl⟩ := gRt_e hf
    exact g_zret hx hb hr hlocks rfl hAe hS () rfl hP d_O_type_35
  rw [if_neg c4] at hf
  refine lv_iload_n hx hb d_O_type_11 rfl (lv_at hl 2 rfl) ?_
  obtain ⟨y5, σ6, e7, hf⟩ := gBd_e hf
  refine g_wi (va_runS ⟨hx, hb, hml, hown, hts⟩ (m_O_isPrintable e7) (cwS 1 hts (gG3 (fun _ h => List.mem_cons_of_mem _ h) tb_342 tb_76 tb_39 tc_O_isPrintable) rfl rfl rfl (by decide +kernel) ⟨Nat.le_of_ble_eq_true rfl, Nat.le_of_ble_eq_true rfl⟩) (g_preSW hE hK hP hD hS hA) rfl rfl hl.1 rfl (lv_room (Nat.le_of_ble_eq_true rfl)) d_O_type_12 ⟨Nat.zero_le _, Nat.zero_le _⟩) hD hS hA (fun _ => cW_fst) (fun y5 _ H locs hu hP hD hS => ?_)
  subst hu
  refine lv_if_eq (tgt := 34) hx hb d_O_type_15 rfl (fun c8 => ?_) (fun c8 => ?_)
  · skip
    rw [if_pos c8] at hf
    refine lv_iconst (v := 0) hx hb d_O_type_34 (by decide) ?_
    obtain ⟨rfl, rfl⟩ := gRt_e hf
    exact g_zret hx hb hr hlocks rfl hAe hS () rfl hP d_O_type_35
  rw [if_neg c8] at hf
  refine lv_aload_n hx hb d_O_type_18 rfl (lv_at hl 0 rfl) ?_
  refine va_get (D := X) (ci := 8) (C := R_O) (T := T_O) (N := 8) hx hb hts u_0 hown hK hP 0 gc_0 rfl 0 (by decide) k_0 (fun _ h9 => h9) rfl d_O_type_19 ?_
  refine lv_iload_n hx hb d_O_type_22 rfl (lv_at hl 1 rfl) ?_
  refine lv_iload_n hx hb d_O_type_23 rfl (lv_at hl 2 rfl) ?_
  obtain ⟨y9, σ10, e11, hf⟩ := gBd_e hf
  refine g_wi (va_runV ⟨hx, hb, hml, hown, hts⟩ (m_G_addCharacter e11) (cwV 2 hts (gG4 (fun _ h => List.mem_cons_of_mem _ h) tb_343 tb_179 tb_180 tb_116 tc_G_addCharacter) rfl rfl rfl (by decide +kernel) ⟨Nat.le_of_ble_eq_true rfl, Nat.le_of_ble_eq_true rfl⟩) (g_preVW (q0 := 1) hE hK hP hD hS hA gc_1 rfl) rfl rfl hl.1 rfl (lv_room (Nat.le_of_ble_eq_true rfl)) d_O_type_24 ⟨Nat.zero_le _, Nat.zero_le _⟩) hD hS hA (fun _ => cW_fst) (fun y9 _ H locs hu hP hD hS => ?_)
  subst hu
  refine lv_if_eq (tgt := 34) hx hb d_O_type_27 rfl (fun c12 => ?_) (fun c12 => ?_)
  · skip
    rw [if_pos c12] at hf
    refine lv_iconst (v := 0) hx hb d_O_type_34 (by decide) ?_
    obtain ⟨rfl, rfl⟩ := gRt_e hf
    exact g_zret hx hb hr hlocks rfl hAe hS () rfl hP d_O_type_35
  rw [if_neg c12] at hf
  refine lv_iconst (v := 1) hx hb d_O_type_30 (by decide) ?_
  refine lv_goto (tgt := 35) hx hb d_O_type_31 rfl ?_
  obtain ⟨rfl, rfl⟩ := gRt_e hf
  exact g_zret hx hb hr hlocks rfl hAe hS () rfl hP d_O_type_35

def f_O_put (σ : gS) (x1 : Int32) (x2 : Int32) (x3 : Int32) : Option (Int32 × gS) := gBd (f_G_hasSlot σ x1 x2) (fun y1 σ2 => if y1 = 0 then (some (0, σ2)) else (gBd (f_G_setSlot σ2 x1 x2 1 x3) (fun _ σ6 => some (1, σ6))))
set_option maxHeartbeats 4000000 in
set_option maxRecDepth 100000 in
theorem m_O_put {l : Launch} {X : va_G} {cI cC cZ : ClassId} {aK aV : Nat → Nat} {a : Nat → Nat} {σ σ' : gS} {r : Int32} {x1 : Int32} {x2 : Int32} {x3 : Int32} (hf : f_O_put σ x1 x2 x3 = some (r, σ')) {sz : Nat} : Met l y_O_put w_O_put { frames := 2, cells := 0, slots := 0, locals := 43 } (gPc X vwCl (gT cI cC cZ) aK aV (cW cI cC cZ a σ) sz [.ref (a 0), .int x1, .int x2, .int x3]) (gQi X vwCl (cW cI cC cZ a σ) sz (fun r' (_ : Unit) => r' = r) (fun _ => cW cI cC cZ a σ')) 0 0 (va_A (cW cI cC cZ a σ) sz) := by
  refine g_met (cc := b_O_put) (maxL := 4) (ret := (some .boolean)) (by decide) rfl (Nat.le_of_ble_eq_true rfl) ?_
  intro p e s m below meth c A ls hx hb hr hml hown hts hlocks hnm hsz hAe hA hP hK hD hS hl hE
  have hown : s.vm.findClass R_O = some m.cls := hown
  have u_0 : ∀ w ∈ u_ws R_O T_O 8, w ∈ w_O_put := fun w h => List.mem_cons_of_mem _ (tu_O w h)
  have k_0 := hts (.fieldLink R_O 10 "GraphPages" "graph" "LGraphPages$Graph;") (List.mem_cons_of_mem _ tb_339)
  unfold f_O_put at hf
  refine lv_aload_n hx hb d_O_put_0 rfl (lv_at hl 0 rfl) ?_
  refine va_get (D := X) (ci := 8) (C := R_O) (T := T_O) (N := 8) hx hb hts u_0 hown hK hP 0 gc_0 rfl 0 (by decide) k_0 (fun _ h9 => h9) rfl d_O_put_1 ?_
  refine lv_iload_n hx hb d_O_put_4 rfl (lv_at hl 1 rfl) ?_
  refine lv_iload_n hx hb d_O_put_5 rfl (lv_at hl 2 rfl) ?_
  obtain ⟨y1, σ2, e3, hf⟩ := gBd_e hf
  refine g_wi (va_runV ⟨hx, hb, hml, hown, hts⟩ (m_G_hasSlot e3) (cwV 2 hts (gG4 (fun _ h => List.mem_cons_of_mem _ h) tb_344 tb_266 tb_267 tb_116 tc_G_hasSlot) rfl rfl rfl (by decide +kernel) ⟨Nat.le_of_ble_eq_true rfl, Nat.le_of_ble_eq_true rfl⟩) (g_preVW (q0 := 1) hE hK hP hD hS hA gc_1 rfl) rfl rfl hl.1 rfl (lv_room (Nat.le_of_ble_eq_true rfl)) d_O_put_6 ⟨Nat.zero_le _, Nat.zero_le _⟩) hD hS hA (fun _ => cW_fst) (fun y1 _ H locs hu hP hD hS => ?_)
  subst hu
  refine lv_if_ne (tgt := 14) hx hb d_O_put_9 rfl (fun c4 => ?_) (fun c4 => ?_)
  · skip
    rw [if_neg c4] at hf
    refine lv_aload_n hx hb d_O_put_14 rfl (lv_at hl 0 rfl) ?_
    refine va_get (D := X) (ci := 8) (C := R_O) (T := T_O) (N := 8) hx hb hts u_0 hown hK hP 0 gc_0 rfl 0 (by decide) k_0 (fun _ h9 => h9) rfl d_O_put_15 ?_
    refine lv_iload_n hx hb d_O_put_18 rfl (lv_at hl 1 rfl) ?_
    refine lv_iload_n hx hb d_O_put_19 rfl (lv_at hl 2 rfl) ?_
    refine lv_iconst (v := 1) hx hb d_O_put_20 (by decide) ?_
    refine lv_iload_n hx hb d_O_put_21 rfl (lv_at hl 3 rfl) ?_
    obtain ⟨y5, σ6, e7, hf⟩ := gBd_e hf
    refine g_wv (va_runV ⟨hx, hb, hml, hown, hts⟩ (m_G_setSlot e7) (cwV 4 hts (gG4 (fun _ h => List.mem_cons_of_mem _ h) tb_345 tb_122 tb_123 tb_116 tc_G_setSlot) rfl rfl rfl (by decide +kernel) ⟨Nat.le_of_ble_eq_true rfl, Nat.le_of_ble_eq_true rfl⟩) (g_preVW (q0 := 1) hE hK hP hD hS hA gc_1 rfl) rfl rfl hl.1 rfl (lv_room (Nat.le_of_ble_eq_true rfl)) d_O_put_22 ⟨Nat.zero_le _, Nat.zero_le _⟩) hD hS hA (fun _ => cW_fst) (fun _ H locs _ hP hD hS => ?_)
    refine lv_iconst (v := 1) hx hb d_O_put_25 (by decide) ?_
    obtain ⟨rfl, rfl⟩ := gRt_e hf
    exact g_zret hx hb hr hlocks rfl hAe hS () rfl hP d_O_put_26
  rw [if_pos c4] at hf
  refine lv_iconst (v := 0) hx hb d_O_put_12 (by decide) ?_
  obtain ⟨rfl, rfl⟩ := gRt_e hf
  exact g_zret hx hb hr hlocks rfl hAe hS () rfl hP d_O_put_13

def f_O_link (σ : gS) (x1 : Int32) (x2 : Int32) (x3 : Int32) : Option (Int32 × gS) := gBd (f_G_hasSlot σ x1 x2) (fun y1 σ2 => if y1 = 0 then (some (0, σ2)) else (if x3 = (-1) then (gBd (f_G_setSlot σ2 x1 x2 0 0) (fun _ σ14 => some (1, σ14))) else (gBd (f_G_has σ2 x3) (fun y6 σ7 => if y6 = 0 then (some (0, σ7)) else (gBd (f_G_setSlot σ7 x1 x2 2 x3) (fun _ σ11 => some (1, σ11)))))))
set_option maxHeartbeats 4000000 in
set_option maxRecDepth 100000 in
theorem m_O_link {l : Launch} {X : va_G} {cI cC cZ : ClassId} {aK aV : Nat → Nat} {a : Nat → Nat} {σ σ' : gS} {r : Int32} {x1 : Int32} {x2 : Int32} {x3 : Int32} (hf : f_O_link σ x1 x2 x3 = some (r, σ')) {sz : Nat} : Met l y_O_link w_O_link { frames := 2, cells := 0, slots := 0, locals := 43 } (gPc X vwCl (gT cI cC cZ) aK aV (cW cI cC cZ a σ) sz [.ref (a 0), .int x1, .int x2, .int x3]) (gQi X vwCl (cW cI cC cZ a σ) sz (fun r' (_ : Unit) => r' = r) (fun _ => cW cI cC cZ a σ')) 0 0 (va_A (cW cI cC cZ a σ) sz) := by
  refine g_met (cc := b_O_link) (maxL := 4) (ret := (some .boolean)) (by decide) rfl (Nat.le_of_ble_eq_true rfl) ?_
  intro p e s m below meth c A ls hx hb hr hml hown hts hlocks hnm hsz hAe hA hP hK hD hS hl hE
  have hown : s.vm.findClass R_O = some m.cls := hown
  have u_0 : ∀ w ∈ u_ws R_O T_O 8, w ∈ w_O_link := fun w h => List.mem_cons_of_mem _ (tu_O w h)
  have k_0 := hts (.fieldLink R_O 10 "GraphPages" "graph" "LGraphPages$Graph;") (List.mem_cons_of_mem _ tb_339)
  unfold f_O_link at hf
  refine lv_aload_n hx hb d_O_link_0 rfl (lv_at hl 0 rfl) ?_
  refine va_get (D := X) (ci := 8) (C := R_O) (T := T_O) (N := 8) hx hb hts u_0 hown hK hP 0 gc_0 rfl 0 (by decide) k_0 (fun _ h9 => h9) rfl d_O_link_1 ?_
  refine lv_iload_n hx hb d_O_link_4 rfl (lv_at hl 1 rfl) ?_
  refine lv_iload_n hx hb d_O_link_5 rfl (lv_at hl 2 rfl) ?_
  obtain ⟨y1, σ2, e3, hf⟩ := gBd_e hf
  refine g_wi (va_runV ⟨hx, hb, hml, hown, hts⟩ (m_G_hasSlot e3) (cwV 2 hts (gG4 (fun _ h => List.mem_cons_of_mem _ h) tb_344 tb_266 tb_267 tb_116 tc_G_hasSlot) rfl rfl rfl (by decide +kernel) ⟨Nat.le_of_ble_eq_true rfl, Nat.le_of_ble_eq_true rfl⟩) (g_preVW (q0 := 1) hE hK hP hD hS hA gc_1 rfl) rfl rfl hl.1 rfl (lv_room (Nat.le_of_ble_eq_true rfl)) d_O_link_6 ⟨Nat.zero_le _, Nat.zero_le _⟩) hD hS hA (fun _ => cW_fst) (fun y1 _ H locs hu hP hD hS => ?_)
  subst hu
  refine lv_if_ne (tgt := 14) hx hb d_O_link_9 rfl (fun c4 => ?_) (fun c4 => ?_)
  · skip
    rw [if_neg c4] at hf
    refine lv_iload_n hx hb d_O_link_14 rfl (lv_at hl 3 rfl) ?_
    refine lv_iconst (v := (-1)) hx hb d_O_link_15 (by decide) ?_
    refine lv_icmp_ne (tgt := 32) hx hb d_O_link_16 rfl (fun c5 => ?_) (fun c5 => ?_)
    · skip
      rw [if_neg c5] at hf
      refine lv_aload_n hx hb d_O_link_32 rfl (lv_at hl 0 rfl) ?_
      refine va_get (D := X) (ci := 8) (C := R_O) (T := T_O) (N := 8) hx hb hts u_0 hown hK hP 0 gc_0 rfl 0 (by decide) k_0 (fun _ h9 => h9) rfl d_O_link_33 ?_
      refine lv_iload_n hx hb d_O_link_36 rfl (lv_at hl 3 rfl) ?_
      obtain ⟨y6, σ7, e8, hf⟩ := gBd_e hf
      refine g_wi (va_runV ⟨hx, hb, hml, hown, hts⟩ (m_G_has e8) (cwV 1 hts (gG4 (fun _ h => List.mem_cons_of_mem _ h) tb_346 tb_114 tb_115 tb_116 tc_G_has) rfl rfl rfl (by decide +kernel) ⟨Nat.le_of_ble_eq_true rfl, Nat.le_of_ble_eq_true rfl⟩) (g_preVW (q0 := 1) hE hK hP hD hS hA gc_1 rfl) rfl rfl hl.1 rfl (lv_room (Nat.le_of_ble_eq_true rfl)) d_O_link_37 ⟨Nat.zero_le _, Nat.zero_le _⟩) hD hS hA (fun _ => cW_fst) (fun y6 _ H locs hu hP hD hS => ?_)
      subst hu
      refine lv_if_ne (tgt := 45) hx hb d_O_link_40 rfl (fun c9 => ?_) (fun c9 => ?_)
      · skip
        rw [if_neg c9] at hf
        refine lv_aload_n hx hb d_O_link_45 rfl (lv_at hl 0 rfl) ?_
        refine va_get (D := X) (ci := 8) (C := R_O) (T := T_O) (N := 8) hx hb hts u_0 hown hK hP 0 gc_0 rfl 0 (by decide) k_0 (fun _ h9 => h9) rfl d_O_link_46 ?_
        refine lv_iload_n hx hb d_O_link_49 rfl (lv_at hl 1 rfl) ?_
        refine lv_iload_n hx hb d_O_link_50 rfl (lv_at hl 2 rfl) ?_
        refine lv_iconst (v := 2) hx hb d_O_link_51 (by decide) ?_
        refine lv_iload_n hx hb d_O_link_52 rfl (lv_at hl 3 rfl) ?_
        obtain ⟨y10, σ11, e12, hf⟩ := gBd_e hf
        refine g_wv (va_runV ⟨hx, hb, hml, hown, hts⟩ (m_G_setSlot e12) (cwV 4 hts (gG4 (fun _ h => List.mem_cons_of_mem _ h) tb_345 tb_122 tb_123 tb_116 tc_G_setSlot) rfl rfl rfl (by decide +kernel) ⟨Nat.le_of_ble_eq_true rfl, Nat.le_of_ble_eq_true rfl⟩) (g_preVW (q0 := 1) hE hK hP hD hS hA gc_1 rfl) rfl rfl hl.1 rfl (lv_room (Nat.le_of_ble_eq_true rfl)) d_O_link_53 ⟨Nat.zero_le _, Nat.zero_le _⟩) hD hS hA (fun _ => cW_fst) (fun _ H locs _ hP hD hS => ?_)
        refine lv_iconst (v := 1) hx hb d_O_link_56 (by decide) ?_
        obtain ⟨rfl, rfl⟩ := gRt_e hf
        exact g_zret hx hb hr hlocks rfl hAe hS () rfl hP d_O_link_57
      rw [if_pos c9] at hf
      refine lv_iconst (v := 0) hx hb d_O_link_43 (by decide) ?_
      obtain ⟨rfl, rfl⟩ := gRt_e hf
      exact g_zret hx hb hr hlocks rfl hAe hS () rfl hP d_O_link_44
    rw [if_pos c5] at hf
    refine lv_aload_n hx hb d_O_link_19 rfl (lv_at hl 0 rfl) ?_
    refine va_get (D := X) (ci := 8) (C := R_O) (T := T_O) (N := 8) hx hb hts u_0 hown hK hP 0 gc_0 rfl 0 (by decide) k_0 (fun _ h9 => h9) rfl d_O_link_20 ?_
    refine lv_iload_n hx hb d_O_link_23 rfl (lv_at hl 1 rfl) ?_
    refine lv_iload_n hx hb d_O_link_24 rfl (lv_at hl 2 rfl) ?_
    refine lv_iconst (v := 0) hx hb d_O_link_25 (by decide) ?_
    refine lv_iconst (v := 0) hx hb d_O_link_26 (by decide) ?_
    obtain ⟨y13, σ14, e15, hf⟩ := gBd_e hf
    refine g_wv (va_runV ⟨hx, hb, hml, hown, hts⟩ (m_G_setSlot e15) (cwV 4 hts (gG4 (fun _ h => List.mem_cons_of_mem _ h) tb_345 tb_122 tb_123 tb_116 tc_G_setSlot) rfl rfl rfl (by decide +kernel) ⟨Nat.le_of_ble_eq_true rfl, Nat.le_of_ble_eq_true rfl⟩) (g_preVW (q0 := 1) hE hK hP hD hS hA gc_1 rfl) rfl rfl hl.1 rfl (lv_room (Nat.le_of_ble_eq_true rfl)) d_O_link_27 ⟨Nat.zero_le _, Nat.zero_le _⟩) hD hS hA (fun _ => cW_fst) (fun _ H locs _ hP hD hS => ?_)
    refine lv_iconst (v := 1) hx hb d_O_link_30 (by decide) ?_
    obtain ⟨rfl, rfl⟩ := gRt_e hf
    exact g_zret hx hb hr hlocks rfl hAe hS () rfl hP d_O_link_31
  rw [if_pos c4] at hf
  refine lv_iconst (v := 0) hx hb d_O_link_12 (by decide) ?_
  obtain ⟨rfl, rfl⟩ := gRt_e hf
  exact g_zret hx hb hr hlocks rfl hAe hS () rfl hP d_O_link_13

def f_O_objects (σ : gS) : Option (Int32 × gS) := some ((σ.1 0), σ)
set_option maxHeartbeats 4000000 in
set_option maxRecDepth 100000 in
theorem m_O_objects {l : Launch} {X : va_G} {cI cC cZ : ClassId} {aK aV : Nat → Nat} {a : Nat → Nat} {σ σ' : gS} {r : Int32} (hf : f_O_objects σ = some (r, σ')) {sz : Nat} : Met l y_O_objects w_O_objects { frames := 0, cells := 0, slots := 0, locals := 0 } (gPc X vwCl (gT cI cC cZ) aK aV (cW cI cC cZ a σ) sz [.ref (a 0)]) (gQi X vwCl (cW cI cC cZ a σ) sz (fun r' (_ : Unit) => r' = r) (fun _ => cW cI cC cZ a σ')) 0 0 (va_A (cW cI cC cZ a σ) sz) := by
  refine g_met (cc := b_O_objects) (maxL := 1) (ret := (some .int)) (by decide) rfl (Nat.le_of_ble_eq_true rfl) ?_
  intro p e s m below meth c A ls hx hb hr hml hown hts hlocks hnm hsz hAe hA hP hK hD hS hl hE
  have hown : s.vm.findClass R_O = some m.cls := hown
  have u_0 : ∀ w ∈ u_ws R_O T_O 8, w ∈ w_O_objects := fun w h => List.mem_cons_of_mem _ (tu_O w h)
  have u_1 : ∀ w ∈ u_ws R_G T_G 6, w ∈ w_O_objects := fun w h => List.mem_cons_of_mem _ (tu_G w h)
  have k_0 := hts (.fieldLink R_O 10 "GraphPages" "graph" "LGraphPages$Graph;") (List.mem_cons_of_mem _ tb_339)
  have k_1 := hts (.fieldLink R_O 73 "GraphPages$Graph" "count" "I") (List.mem_cons_of_mem _ tb_340)
  unfold f_O_objects at hf
  refine lv_aload_n hx hb d_O_objects_0 rfl (lv_at hl 0 rfl) ?_
  refine va_get (D := X) (ci := 8) (C := R_O) (T := T_O) (N := 8) hx hb hts u_0 hown hK hP 0 gc_0 rfl 0 (by decide) k_0 (fun _ h9 => h9) rfl d_O_objects_1 ?_
  refine va_get (D := X) (ci := 2) (C := R_G) (T := T_G) (N := 6) hx hb hts u_1 hown hK hP 1 gc_1 rfl 0 (by decide) k_1 (fun _ h9 => h9) rfl d_O_objects_4 ?_
  obtain ⟨rfl, rfl⟩ := gRt_e hf
  exact g_zret hx hb hr hlocks rfl hAe hS () rfl hP d_O_objects_7

def f_O_kind (σ : gS) (x1 : Int32) : Option (Int32 × gS) := gBd (f_G_has σ x1) (fun y1 σ2 => if y1 = 0 then (some ((-1), σ2)) else (gLd σ2 2 16 x1 (fun y5 => some (y5, σ2))))
set_option maxHeartbeats 4000000 in
set_option maxRecDepth 100000 in
theorem m_O_kind {l : Launch} {X : va_G} {cI cC cZ : ClassId} {aK aV : Nat → Nat} {a : Nat → Nat} {σ σ' : gS} {r : Int32} {x1 : Int32} (hf : f_O_kind σ x1 = some (r, σ')) {sz : Nat} : Met l y_O_kind w_O_kind { frames := 1, cells := 0, slots := 0, locals := 21 } (gPc X vwCl (gT cI cC cZ) aK aV (cW cI cC cZ a σ) sz [.ref (a 0), .int x1]) (gQi X vwCl (cW cI cC cZ a σ) sz (fun r' (_ : Unit) => r' = r) (fun _ => cW cI cC cZ a σ')) 0 0 (va_A (cW cI cC cZ a σ) sz) := by
  refine g_met (cc := b_O_kind) (maxL := 2) (ret := (some .int)) (by decide) rfl (Nat.le_of_ble_eq_true rfl) ?_
  intro p e s m below meth c A ls hx hb hr hml hown hts hlocks hnm hsz hAe hA hP hK hD hS hl hE
  have hown : s.vm.findClass R_O = some m.cls := hown
  have u_0 : ∀ w ∈ u_ws R_O T_O 8, w ∈ w_O_kind := fun w h => List.mem_cons_of_mem _ (tu_O w h)
  have u_1 : ∀ w ∈ u_ws R_G T_G 6, w ∈ w_O_kind := fun w h => List.mem_cons_of_mem _ (tu_G w h)
  have k_0 := hts (.fieldLink R_O 10 "GraphPages" "graph" "LGraphPages$Graph;") (List.mem_cons_of_mem _ tb_339)
  have k_1 := hts (.fieldLink R_O 103 "GraphPages$Graph" "kinds" "[I") (List.mem_cons_of_mem _ tb_347)
  unfold f_O_kind at hf
  refine lv_aload_n hx hb d_O_kind_0 rfl (lv_at hl 0 rfl) ?_
  refine va_get (D := X) (ci := 8) (C := R_O) (T := T_O) (N := 8) hx hb hts u_0 hown hK hP 0 gc_0 rfl 0 (by decide) k_0 (fun _ h9 => h9) rfl d_O_kind_1 ?_
  refine lv_iload_n hx hb d_O_kind_4 rfl (lv_at hl 1 rfl) ?_
  obtain ⟨y1, σ2, e3, hf⟩ := gBd_e hf
  refine g_wi (va_runV ⟨hx, hb, hml, hown, hts⟩ (m_G_has e3) (cwV 1 hts (gG4 (fun _ h => List.mem_cons_of_mem _ h) tb_346 tb_114 tb_115 tb_116 tc_G_has) rfl rfl rfl (by decide +kernel) ⟨Nat.le_of_ble_eq_true rfl, Nat.le_of_ble_eq_true rfl⟩) (g_preVW (q0 := 1) hE hK hP hD hS hA gc_1 rfl) rfl rfl hl.1 rfl (lv_room (Nat.le_of_ble_eq_true rfl)) d_O_kind_5 ⟨Nat.zero_le _, Nat.zero_le _⟩) hD hS hA (fun _ => cW_fst) (fun y1 _ H locs hu hP hD hS => ?_)
  subst hu
  refine lv_if_eq (tgt := 23) hx hb d_O_kind_8 rfl (fun c4 => ?_) (fun c4 => ?_)
  · skip
    rw [if_pos c4] at hf
    refine lv_iconst (v := (-1)) hx hb d_O_kind_23 (by decide) ?_
    obtain ⟨rfl, rfl⟩ := gRt_e hf
    exact g_zret hx hb hr hlocks rfl hAe hS () rfl hP d_O_kind_24
  rw [if_neg c4] at hf
  refine lv_aload_n hx hb d_O_kind_11 rfl (lv_at hl 0 rfl) ?_
  refine va_get (D := X) (ci := 8) (C := R_O) (T := T_O) (N := 8) hx hb hts u_0 hown hK hP 0 gc_0 rfl 0 (by decide) k_0 (fun _ h9 => h9) rfl d_O_kind_12 ?_
  refine va_get (D := X) (ci := 2) (C := R_G) (T := T_G) (N := 6) hx hb hts u_1 hown hK hP 1 gc_1 rfl 1 (by decide) k_1 (fun _ h9 => h9) rfl d_O_kind_15 ?_
  refine lv_iload_n hx hb d_O_kind_18 rfl (lv_at hl 1 rfl) ?_
  obtain ⟨y5, h6, e7, hf⟩ := gLd_e hf
  refine va_iald hx hb hK hP 2 0 gc_2 rfl h6 d_O_kind_19 ?_
  rw [← e7]
  refine lv_goto (tgt := 24) hx hb d_O_kind_20 rfl ?_
  obtain ⟨rfl, rfl⟩ := gRt_e hf
  exact g_zret hx hb hr hlocks rfl hAe hS () rfl hP d_O_kind_24

def f_O_size (σ : gS) (x1 : Int32) : Option (Int32 × gS) := gBd (f_G_has σ x1) (fun y1 σ2 => if y1 = 0 then (some ((-1), σ2)) else (gLd σ2 3 16 x1 (fun y5 => some (y5, σ2))))
set_option maxHeartbeats 4000000 in
set_option maxRecDepth 100000 in
theorem m_O_size {l : Launch} {X : va_G} {cI cC cZ : ClassId} {aK aV : Nat → Nat} {a : Nat → Nat} {σ σ' : gS} {r : Int32} {x1 : Int32} (hf : f_O_size σ x1 = some (r, σ')) {sz : Nat} : Met l y_O_size w_O_size { frames := 1, cells := 0, slots := 0, locals := 21 } (gPc X vwCl (gT cI cC cZ) aK aV (cW cI cC cZ a σ) sz [.ref (a 0), .int x1]) (gQi X vwCl (cW cI cC cZ a σ) sz (fun r' (_ : Unit) => r' = r) (fun _ => cW cI cC cZ a σ')) 0 0 (va_A (cW cI cC cZ a σ) sz) := by
  refine g_met (cc := b_O_size) (maxL := 2) (ret := (some .int)) (by decide) rfl (Nat.le_of_ble_eq_true rfl) ?_
  intro p e s m below meth c A ls hx hb hr hml hown hts hlocks hnm hsz hAe hA hP hK hD hS hl hE
  have hown : s.vm.findClass R_O = some m.cls := hown
  have u_0 : ∀ w ∈ u_ws R_O T_O 8, w ∈ w_O_size := fun w h => List.mem_cons_of_mem _ (tu_O w h)
  have u_1 : ∀ w ∈ u_ws R_G T_G 6, w ∈ w_O_size := fun w h => List.mem_cons_of_mem _ (tu_G w h)
  have k_0 := hts (.fieldLink R_O 10 "GraphPages" "graph" "LGraphPages$Graph;") (List.mem_cons_of_mem _ tb_339)
  have k_1 := hts (.fieldLink R_O 107 "GraphPages$Graph" "sizes" "[I") (List.mem_cons_of_mem _ tb_348)
  unfold f_O_size at hf
  refine lv_aload_n hx hb d_O_size_0 rfl (lv_at hl 0 rfl) ?_
  refine va_get (D := X) (ci := 8) (C := R_O) (T := T_O) (N := 8) hx hb hts u_0 hown hK hP 0 gc_0 rfl 0 (by decide) k_0 (fun _ h9 => h9) rfl d_O_size_1 ?_
  refine lv_iload_n hx hb d_O_size_4 rfl (lv_at hl 1 rfl) ?_
  obtain ⟨y1, σ2, e3, hf⟩ := gBd_e hf
  refine g_wi (va_runV ⟨hx, hb, hml, hown, hts⟩ (m_G_has e3) (cwV 1 hts (gG4 (fun _ h => List.mem_cons_of_mem _ h) tb_346 tb_114 tb_115 tb_116 tc_G_has) rfl rfl rfl (by decide +kernel) ⟨Nat.le_of_ble_eq_true rfl, Nat.le_of_ble_eq_true rfl⟩) (g_preVW (q0 := 1) hE hK hP hD hS hA gc_1 rfl) rfl rfl hl.1 rfl (lv_room (Nat.le_of_ble_eq_true rfl)) d_O_size_5 ⟨Nat.zero_le _, Nat.zero_le _⟩) hD hS hA (fun _ => cW_fst) (fun y1 _ H locs hu hP hD hS => ?_)
  subst hu
  refine lv_if_eq (tgt := 23) hx hb d_O_size_8 rfl (fun c4 => ?_) (fun c4 => ?_)
  · skip
    rw [if_pos c4] at hf
    refine lv_iconst (v := (-1)) hx hb d_O_size_23 (by decide) ?_
    obtain ⟨rfl, rfl⟩ := gRt_e hf
    exact g_zret hx hb hr hlocks rfl hAe hS () rfl hP d_O_size_24
  rw [if_neg c4] at hf
  refine lv_aload_n hx hb d_O_size_11 rfl (lv_at hl 0 rfl) ?_
  refine va_get (D := X) (ci := 8) (C := R_O) (T := T_O) (N := 8) hx hb hts u_0 hown hK hP 0 gc_0 rfl 0 (by decide) k_0 (fun _ h9 => h9) rfl d_O_size_12 ?_
  refine va_get (D := X) (ci := 2) (C := R_G) (T := T_G) (N := 6) hx hb hts u_1 hown hK hP 1 gc_1 rfl 2 (by decide) k_1 (fun _ h9 => h9) rfl d_O_size_15 ?_
  refine lv_iload_n hx hb d_O_size_18 rfl (lv_at hl 1 rfl) ?_
  obtain ⟨y5, h6, e7, hf⟩ := gLd_e hf
  refine va_iald hx hb hK hP 3 0 gc_3 rfl h6 d_O_size_19 ?_
  rw [← e7]
  refine lv_goto (tgt := 24) hx hb d_O_size_20 rfl ?_
  obtain ⟨rfl, rfl⟩ := gRt_e hf
  exact g_zret hx hb hr hlocks rfl hAe hS () rfl hP d_O_size_24

def f_O_holds (σ : gS) (x1 : Int32) (x2 : Int32) : Option (Int32 × gS) := gBd (f_G_hasSlot σ x1 x2) (fun y1 σ2 => if y1 = 0 then (some ((-1), σ2)) else (gBd (f_G_contentOf σ2 x1 x2) (fun y5 σ6 => some (y5, σ6))))
set_option maxHeartbeats 4000000 in
set_option maxRecDepth 100000 in
theorem m_O_holds {l : Launch} {X : va_G} {cI cC cZ : ClassId} {aK aV : Nat → Nat} {a : Nat → Nat} {σ σ' : gS} {r : Int32} {x1 : Int32} {x2 : Int32} (hf : f_O_holds σ x1 x2 = some (r, σ')) {sz : Nat} : Met l y_O_holds w_O_holds { frames := 2, cells := 0, slots := 0, locals := 43 } (gPc X vwCl (gT cI cC cZ) aK aV (cW cI cC cZ a σ) sz [.ref (a 0), .int x1, .int x2]) (gQi X vwCl (cW cI cC cZ a σ) sz (fun r' (_ : Unit) => r' = r) (fun _ => cW cI cC cZ a σ')) 0 0 (va_A (cW cI cC cZ a σ) sz) := by
  refine g_met (cc := b_O_holds) (maxL := 3) (ret := (some .int)) (by decide) rfl (Nat.le_of_ble_eq_true rfl) ?_
  intro p e s m below meth c A ls hx hb hr hml hown hts hlocks hnm hsz hAe hA hP hK hD hS hl hE
  have hown : s.vm.findClass R_O = some m.cls := hown
  have u_0 : ∀ w ∈ u_ws R_O T_O 8, w ∈ w_O_holds := fun w h => List.mem_cons_of_mem _ (tu_O w h)
  have k_0 := hts (.fieldLink R_O 10 "GraphPages" "graph" "LGraphPages$Graph;") (List.mem_cons_of_mem _ tb_339)
  unfold f_O_holds at hf
  refine lv_aload_n hx hb d_O_holds_0 rfl (lv_at hl 0 rfl) ?_
  refine va_get (D := X) (ci := 8) (C := R_O) (T := T_O) (N := 8) hx hb hts u_0 hown hK hP 0 gc_0 rfl 0 (by decide) k_0 (fun _ h9 => h9) rfl d_O_holds_1 ?_
  refine lv_iload_n hx hb d_O_holds_4 rfl (lv_at hl 1 rfl) ?_
  refine lv_iload_n hx hb d_O_holds_5 rfl (lv_at hl 2 rfl) ?_
  obtain ⟨y1, σ2, e3, hf⟩ := gBd_e hf
  refine g_wi (va_runV ⟨hx, hb, hml, hown, hts⟩ (m_G_hasSlot e3) (cwV 2 hts (gG4 (fun _ h => List.mem_cons_of_mem _ h) tb_344 tb_266 tb_267 tb_116 tc_G_hasSlot) rfl rfl rfl (by decide +kernel) ⟨Nat.le_of_ble_eq_true rfl, Nat.le_of_ble_eq_true rfl⟩) (g_preVW (q0 := 1) hE hK hP hD hS hA gc_1 rfl) rfl rfl hl.1 rfl (lv_room (Nat.le_of_ble_eq_true rfl)) d_O_holds_6 ⟨Nat.zero_le _, Nat.zero_le _⟩) hD hS hA (fun _ => cW_fst) (fun y1 _ H locs hu hP hD hS => ?_)
  subst hu
  refine lv_if_eq (tgt := 24) hx hb d_O_holds_9 rfl (fun c4 => ?_) (fun c4 => ?_)
  · skip
    rw [if_pos c4] at hf
    refine lv_iconst (v := (-1)) hx hb d_O_holds_24 (by decide) ?_
    obtain ⟨rfl, rfl⟩ := gRt_e hf
    exact g_zret hx hb hr hlocks rfl hAe hS () rfl hP d_O_holds_25
  rw [if_neg c4] at hf
  refine lv_aload_n hx hb d_O_holds_12 rfl (lv_at hl 0 rfl) ?_
  refine va_get (D := X) (ci := 8) (C := R_O) (T := T_O) (N := 8) hx hb hts u_0 hown hK hP 0 gc_0 rfl 0 (by decide) k_0 (fun _ h9 => h9) rfl d_O_holds_13 ?_
  refine lv_iload_n hx hb d_O_holds_16 rfl (lv_at hl 1 rfl) ?_
  refine lv_iload_n hx hb d_O_holds_17 rfl (lv_at hl 2 rfl) ?_
  obtain ⟨y5, σ6, e7, hf⟩ := gBd_e hf
  refine g_wi (va_runV ⟨hx, hb, hml, hown, hts⟩ (m_G_contentOf e7) (cwV 2 hts (gG4 (fun _ h => List.mem_cons_of_mem _ h) tb_349 tb_236 tb_237 tb_116 tc_G_contentOf) rfl rfl rfl (by decide +kernel) ⟨Nat.le_of_ble_eq_true rfl, Nat.le_of_ble_eq_true rfl⟩) (g_preVW (q0 := 1) hE hK hP hD hS hA gc_1 rfl) rfl rfl hl.1 rfl (lv_room (Nat.le_of_ble_eq_true rfl)) d_O_holds_18 ⟨Nat.zero_le _, Nat.zero_le _⟩) hD hS hA (fun _ => cW_fst) (fun y5 _ H locs hu hP hD hS => ?_)
  subst hu
  refine lv_goto (tgt := 25) hx hb d_O_holds_21 rfl ?_
  obtain ⟨rfl, rfl⟩ := gRt_e hf
  exact g_zret hx hb hr hlocks rfl hAe hS () rfl hP d_O_holds_25

def f_O_value (σ : gS) (x1 : Int32) (x2 : Int32) : Option (Int32 × gS) := gBd (f_G_hasSlot σ x1 x2) (fun y1 σ2 => if y1 = 0 then (gBd (f_G_isText σ2 x1) (fun y5 σ6 => if y5 = 0 then (some (0, σ6)) else (if x2 < 0 then (some (0, σ6)) else (gLd σ6 3 16 x1 (fun y10 => if y10 ≤ x2 then (some (0, σ6)) else (gBd (f_G_characterOf σ6 x1 x2) (fun y14 σ15 => some (y14, σ15)))))))) else (gBd (f_G_valueOf σ2 x1 x2) (fun y17 σ18 => some (y17, σ18))))
set_option maxHeartbeats 4000000 in
set_option maxRecDepth 100000 in
theorem m_O_value {l : Launch} {X : va_G} {cI cC cZ : ClassId} {aK aV : Nat → Nat} {a : Nat → Nat} {σ σ' : gS} {r : Int32} {x1 : Int32} {x2 : Int32} (hf : f_O_value σ x1 x2 = some (r, σ')) {sz : Nat} : Met l y_O_value w_O_value { frames := 2, cells := 0, slots := 0, locals := 43 } (gPc X vwCl (gT cI cC cZ) aK aV (cW cI cC cZ a σ) sz [.ref (a 0), .int x1, .int x2]) (gQi X vwCl (cW cI cC cZ a σ) sz (fun r' (_ : Unit) => r' = r) (fun _ => cW cI cC cZ a σ')) 0 0 (va_A (cW cI cC cZ a σ) sz) := by
  refine g_met (cc := b_O_value) (maxL := 3) (ret := (some .int)) (by decide) rfl (Nat.le_of_ble_eq_true rfl) ?_
  intro p e s m below meth c A ls hx hb hr hml hown hts hlocks hnm hsz hAe hA hP hK hD hS hl hE
  have hown : s.vm.findClass R_O = some m.cls := hown
  have u_0 : ∀ w ∈ u_ws R_O T_O 8, w ∈ w_O_value := fun w h => List.mem_cons_of_mem _ (tu_O w h)
  have u_1 : ∀ w ∈ u_ws R_G T_G 6, w ∈ w_O_value := fun w h => List.mem_cons_of_mem _ (tu_G w h)
  have k_0 := hts (.fieldLink R_O 10 "GraphPages" "graph" "LGraphPages$Graph;") (List.mem_cons_of_mem _ tb_339)
  have k_1 := hts (.fieldLink R_O 107 "GraphPages$Graph" "sizes" "[I") (List.mem_cons_of_mem _ tb_348)
  unfold f_O_value at hf
  refine lv_aload_n hx hb d_O_value_0 rfl (lv_at hl 0 rfl) ?_
  refine va_get (D := X) (ci := 8) (C := R_O) (T := T_O) (N := 8) hx hb hts u_0 hown hK hP 0 gc_0 rfl 0 (by decide) k_0 (fun _ h9 => h9) rfl d_O_value_1 ?_
  refine lv_iload_n hx hb d_O_value_4 rfl (lv_at hl 1 rfl) ?_
  refine lv_iload_n hx hb d_O_value_5 rfl (lv_at hl 2 rfl) ?_
  obtain ⟨y1, σ2, e3, hf⟩ := gBd_e hf
  refine g_wi (va_runV ⟨hx, hb, hml, hown, hts⟩ (m_G_hasSlot e3) (cwV 2 hts (gG4 (fun _ h => List.mem_cons_of_mem _ h) tb_344 tb_266 tb_267 tb_116 tc_G_hasSlot) rfl rfl rfl (by decide +kernel) ⟨Nat.le_of_ble_eq_true rfl, Nat.le_of_ble_eq_true rfl⟩) (g_preVW (q0 := 1) hE hK hP hD hS hA gc_1 rfl) rfl rfl hl.1 rfl (lv_room (Nat.le_of_ble_eq_true rfl)) d_O_value_6 ⟨Nat.zero_le _, Nat.zero_le _⟩) hD hS hA (fun _ => cW_fst) (fun y1 _ H locs hu hP hD hS => ?_)
  subst hu
  refine lv_if_eq (tgt := 22) hx hb d_O_value_9 rfl (fun c4 => ?_) (fun c4 => ?_)
  · skip
    rw [if_pos c4] at hf
    refine lv_aload_n hx hb d_O_value_22 rfl (lv_at hl 0 rfl) ?_
    refine va_get (D := X) (ci := 8) (C := R_O) (T := T_O) (N := 8) hx hb hts u_0 hown hK hP 0 gc_0 rfl 0 (by decide) k_0 (fun _ h9 => h9) rfl d_O_value_23 ?_
    refine lv_iload_n hx hb d_O_value_26 rfl (lv_at hl 1 rfl) ?_
    obtain ⟨y5, σ6, e7, hf⟩ := gBd_e hf
    refine g_wi (va_runV ⟨hx, hb, hml, hown, hts⟩ (m_G_isText e7) (cwV 1 hts (gG4 (fun _ h => List.mem_cons_of_mem _ h) tb_341 tb_249 tb_250 tb_116 tc_G_isText) rfl rfl rfl (by decide +kernel) ⟨Nat.le_of_ble_eq_true rfl, Nat.le_of_ble_eq_true rfl⟩) (g_preVW (q0 := 1) hE hK hP hD hS hA gc_1 rfl) rfl rfl hl.1 rfl (lv_room (Nat.le_of_ble_eq_true rfl)) d_O_value_27 ⟨Nat.zero_le _, Nat.zero_le _⟩) hD hS hA (fun _ => cW_fst) (fun y5 _ H locs hu hP hD hS => ?_)
    subst hu
    refine lv_if_eq (tgt := 60) hx hb d_O_value_30 rfl (fun c8 => ?_) (fun c8 => ?_)
    · skip
      rw [if_pos c8] at hf
      refine lv_iconst (v := 0) hx hb d_O_value_60 (by decide) ?_
      obtain ⟨rfl, rfl⟩ := gRt_e hf
      exact g_zret hx hb hr hlocks rfl hAe hS () rfl hP d_O_value_61
    rw [if_neg c8] at hf
    refine lv_iload_n hx hb d_O_value_33 rfl (lv_at hl 2 rfl) ?_
    refine lv_if_lt (tgt := 60) hx hb d_O_value_34 rfl (fun c9 => ?_) (fun c9 => ?_)
    · skip
      rw [if_pos c9] at hf
      refine lv_iconst (v := 0) hx hb d_O_value_60 (by decide) ?_
      obtain ⟨rfl, rfl⟩ := gRt_e hf
      exact g_zret hx hb hr hlocks rfl hAe hS () rfl hP d_O_value_61
    rw [if_neg c9] at hf
    refine lv_iload_n hx hb d_O_value_37 rfl (lv_at hl 2 rfl) ?_
    refine lv_aload_n hx hb d_O_value_38 rfl (lv_at hl 0 rfl) ?_
    refine va_get (D := X) (ci := 8) (C := R_O) (T := T_O) (N := 8) hx hb hts u_0 hown hK hP 0 gc_0 rfl 0 (by decide) k_0 (fun _ h9 => h9) rfl d_O_value_39 ?_
    refine va_get (D := X) (ci := 2) (C := R_G) (T := T_G) (N := 6) hx hb hts u_1 hown hK hP 1 gc_1 rfl 2 (by decide) k_1 (fun _ h9 => h9) rfl d_O_value_42 ?_
    refine lv_iload_n hx hb d_O_value_45 rfl (lv_at hl 1 rfl) ?_
    obtain ⟨y10, h11, e12, hf⟩ := gLd_e hf
    refine va_iald hx hb hK hP 3 0 gc_3 rfl h11 d_O_value_46 ?_
    rw [← e12]
    refine lv_icmp_ge (tgt := 60) hx hb d_O_value_47 rfl (fun c13 => ?_) (fun c13 => ?_)
    · skip
      rw [if_pos c13] at hf
      refine lv_iconst (v := 0) hx hb d_O_value_60 (by decide) ?_
      obtain ⟨rfl, rfl⟩ := gRt_e hf
      exact g_zret hx hb hr hlocks rfl hAe hS () rfl hP d_O_value_61
    rw [if_neg c13] at hf
    refine lv_aload_n hx hb d_O_value_50 rfl (lv_at hl 0 rfl) ?_
    refine va_get (D := X) (ci := 8) (C := R_O) (T := T_O) (N := 8) hx hb hts u_0 hown hK hP 0 gc_0 rfl 0 (by decide) k_0 (fun _ h9 => h9) rfl d_O_value_51 ?_
    refine lv_iload_n hx hb d_O_value_54 rfl (lv_at hl 1 rfl) ?_
    refine lv_iload_n hx hb d_O_value_55 rfl (lv_at hl 2 rfl) ?_
    obtain ⟨y14, σ15, e16, hf⟩ := gBd_e hf
    refine g_wi (va_runV ⟨hx, hb, hml, hown, hts⟩ (m_G_characterOf e16) (cwV 2 hts (gG4 (fun _ h => List.mem_cons_of_mem _ h) tb_350 tb_231 tb_232 tb_116 tc_G_characterOf) rfl rfl rfl (by decide +kernel) ⟨Nat.le_of_ble_eq_true rfl, Nat.le_of_ble_eq_true rfl⟩) (g_preVW (q0 := 1) hE hK hP hD hS hA gc_1 rfl) rfl rfl hl.1 rfl (lv_room (Nat.le_of_ble_eq_true rfl)) d_O_value_56 ⟨Nat.zero_le _, Nat.zero_le _⟩) hD hS hA (fun _ => cW_fst) (fun y14 _ H locs hu hP hD hS => ?_)
    subst hu
    obtain ⟨rfl, rfl⟩ := gRt_e hf
    exact g_zret hx hb hr hlocks rfl hAe hS () rfl hP d_O_value_59
  rw [if_neg c4] at hf
  refine lv_aload_n hx hb d_O_value_12 rfl (lv_at hl 0 rfl) ?_
  refine va_get (D := X) (ci := 8) (C := R_O) (T := T_O) (N := 8) hx hb hts u_0 hown hK hP 0 gc_0 rfl 0 (by decide) k_0 (fun _ h9 => h9) rfl d_O_value_13 ?_
  refine lv_iload_n hx hb d_O_value_16 rfl (lv_at hl 1 rfl) ?_
  refine lv_iload_n hx hb d_O_value_17 rfl (lv_at hl 2 rfl) ?_
  obtain ⟨y17, σ18, e19, hf⟩ := gBd_e hf
  refine g_wi (va_runV ⟨hx, hb, hml, hown, hts⟩ (m_G_valueOf e19) (cwV 2 hts (gG4 (fun _ h => List.mem_cons_of_mem _ h) tb_351 tb_239 tb_240 tb_116 tc_G_valueOf) rfl rfl rfl (by decide +kernel) ⟨Nat.le_of_ble_eq_true rfl, Nat.le_of_ble_eq_true rfl⟩) (g_preVW (q0 := 1) hE hK hP hD hS hA gc_1 rfl) rfl rfl hl.1 rfl (lv_room (Nat.le_of_ble_eq_true rfl)) d_O_value_18 ⟨Nat.zero_le _, Nat.zero_le _⟩) hD hS hA (fun _ => cW_fst) (fun y17 _ H locs hu hP hD hS => ?_)
  subst hu
  obtain ⟨rfl, rfl⟩ := gRt_e hf
  exact g_zret hx hb hr hlocks rfl hAe hS () rfl hP d_O_value_21

def f_O_alike (σ : gS) (x1 : Int32) (x2 : Int32) : Option (Int32 × gS) := gBd (f_G_has σ x1) (fun y1 σ2 => if y1 = 0 then (some (0, σ2)) else (gBd (f_G_has σ2 x2) (fun y5 σ6 => if y5 = 0 then (some (0, σ6)) else (gBd (f_A_exists σ6 x1 x2) (fun y9 σ10 => if y9 = 0 then (some (0, σ10)) else (some (1, σ10)))))))
set_option maxHeartbeats 4000000 in
set_option maxRecDepth 100000 in
theorem m_O_alike {l : Launch} {X : va_G} {cI cC cZ : ClassId} {aK aV : Nat → Nat} {a : Nat → Nat} {σ σ' : gS} {r : Int32} {x1 : Int32} {x2 : Int32} (hf : f_O_alike σ x1 x2 = some (r, σ')) {sz : Nat} : Met l y_O_alike w_O_alike { frames := 5, cells := 0, slots := 0, locals := 114 } (gPc X vwCl (gT cI cC cZ) aK aV (cW cI cC cZ a σ) sz [.ref (a 0), .int x1, .int x2]) (gQi X vwCl (cW cI cC cZ a σ) sz (fun r' (_ : Unit) => r' = r) (fun _ => cW cI cC cZ a σ')) 0 0 (va_A (cW cI cC cZ a σ) sz) := by
  refine g_met (cc := b_O_alike) (maxL := 3) (ret := (some .boolean)) (by decide) rfl (Nat.le_of_ble_eq_true rfl) ?_
  intro p e s m below meth c A ls hx hb hr hml hown hts hlocks hnm hsz hAe hA hP hK hD hS hl hE
  have hown : s.vm.findClass R_O = some m.cls := hown
  have u_0 : ∀ w ∈ u_ws R_O T_O 8, w ∈ w_O_alike := fun w h => List.mem_cons_of_mem _ (tu_O w h)
  have k_0 := hts (.fieldLink R_O 10 "GraphPages" "graph" "LGraphPages$Graph;") (List.mem_cons_of_mem _ tb_339)
  have k_1 := hts (.fieldLink R_O 39 "GraphPages" "matching" "LGraphPages$Matching;") (List.mem_cons_of_mem _ tb_355)
  unfold f_O_alike at hf
  refine lv_aload_n hx hb d_O_alike_0 rfl (lv_at hl 0 rfl) ?_
  refine va_get (D := X) (ci := 8) (C := R_O) (T := T_O) (N := 8) hx hb hts u_0 hown hK hP 0 gc_0 rfl 0 (by decide) k_0 (fun _ h9 => h9) rfl d_O_alike_1 ?_
  refine lv_iload_n hx hb d_O_alike_4 rfl (lv_at hl 1 rfl) ?_
  obtain ⟨y1, σ2, e3, hf⟩ := gBd_e hf
  refine g_wi (va_runV ⟨hx, hb, hml, hown, hts⟩ (m_G_has e3) (cwV 1 hts (gG4 (fun _ h => List.mem_cons_of_mem _ h) tb_346 tb_114 tb_115 tb_116 tc_G_has) rfl rfl rfl (by decide +kernel) ⟨Nat.le_of_ble_eq_true rfl, Nat.le_of_ble_eq_true rfl⟩) (g_preVW (q0 := 1) hE hK hP hD hS hA gc_1 rfl) rfl rfl hl.1 rfl (lv_room (Nat.le_of_ble_eq_true rfl)) d_O_alike_5 ⟨Nat.zero_le _, Nat.zero_le _⟩) hD hS hA (fun _ => cW_fst) (fun y1 _ H locs hu hP hD hS => ?_)
  subst hu
  refine lv_if_eq (tgt := 38) hx hb d_O_alike_8 rfl (fun c4 => ?_) (fun c4 => ?_)
  · skip
    rw [if_pos c4] at hf
    refine lv_iconst (v := 0) hx hb d_O_alike_38 (by decide) ?_
    obtain ⟨rfl, rfl⟩ := gRt_e hf
    exact g_zret hx hb hr hlocks rfl hAe hS () rfl hP d_O_alike_39
  rw [if_neg c4] at hf
  refine lv_aload_n hx hb d_O_alike_11 rfl (lv_at hl 0 rfl) ?_
  refine va_get (D := X) (ci := 8) (C := R_O) (T := T_O) (N := 8) hx hb hts u_0 hown hK hP 0 gc_0 rfl 0 (by decide) k_0 (fun _ h9 => h9) rfl d_O_alike_12 ?_
  refine lv_iload_n hx hb d_O_alike_15 rfl (lv_at hl 2 rfl) ?_
  obtain ⟨y5, σ6, e7, hf⟩ := gBd_e hf
  refine g_wi (va_runV ⟨hx, hb, hml, hown, hts⟩ (m_G_has e7) (cwV 1 hts (gG4 (fun _ h => List.mem_cons_of_mem _ h) tb_346 tb_114 tb_115 tb_116 tc_G_has) rfl rfl rfl (by decide +kernel) ⟨Nat.le_of_ble_eq_true rfl, Nat.le_of_ble_eq_true rfl⟩) (g_preVW (q0 := 1) hE hK hP hD hS hA gc_1 rfl) rfl rfl hl.1 rfl (lv_room (Nat.le_of_ble_eq_true rfl)) d_O_alike_16 ⟨Nat.zero_le _, Nat.zero_le _⟩) hD hS hA (fun _ => cW_fst) (fun y5 _ H locs hu hP hD hS => ?_)
  subst hu
  refine lv_if_eq (tgt := 38) hx hb d_O_alike_19 rfl (fun c8 => ?_) (fun c8 => ?_)
  · skip
    rw [if_pos c8] at hf
    refine lv_iconst (v := 0) hx hb d_O_alike_38 (by decide) ?_
    obtain ⟨rfl, rfl⟩ := gRt_e hf
    exact g_zret hx hb hr hlocks rfl hAe hS () rfl hP d_O_alike_39
  rw [if_neg c8] at hf
  refine lv_aload_n hx hb d_O_alike_22 rfl (lv_at hl 0 rfl) ?_
  refine va_get (D := X) (ci := 8) (C := R_O) (T := T_O) (N := 8) hx hb hts u_0 hown hK hP 0 gc_0 rfl 4 (by decide) k_1 (fun _ h9 => h9) rfl d_O_alike_23 ?_
  refine lv_iload_n hx hb d_O_alike_26 rfl (lv_at hl 1 rfl) ?_
  refine lv_iload_n hx hb d_O_alike_27 rfl (lv_at hl 2 rfl) ?_
  obtain ⟨y9, σ10, e11, hf⟩ := gBd_e hf
  refine g_wi (va_runV ⟨hx, hb, hml, hown, hts⟩ (m_A_exists e11) (cwV 2 hts (gG4 (fun _ h => List.mem_cons_of_mem _ h) tb_352 tb_353 tb_354 tb_244 tc_A_exists) rfl rfl rfl (by decide +kernel) ⟨Nat.le_of_ble_eq_true rfl, Nat.le_of_ble_eq_true rfl⟩) (g_preVW (q0 := 13) hE hK hP hD hS hA gc_13 rfl) rfl rfl hl.1 rfl (lv_room (Nat.le_of_ble_eq_true rfl)) d_O_alike_28 ⟨Nat.zero_le _, Nat.zero_le _⟩) hD hS hA (fun _ => cW_fst) (fun y9 _ H locs hu hP hD hS => ?_)
  subst hu
  refine lv_if_eq (tgt := 38) hx hb d_O_alike_31 rfl (fun c12 => ?_) (fun c12 => ?_)
  · skip
    rw [if_pos c12] at hf
    refine lv_iconst (v := 0) hx hb d_O_alike_38 (by decide) ?_
    obtain ⟨rfl, rfl⟩ := gRt_e hf
    exact g_zret hx hb hr hlocks rfl hAe hS () rfl hP d_O_alike_39
  rw [if_neg c12] at hf
  refine lv_iconst (v := 1) hx hb d_O_alike_34 (by decide) ?_
  refine lv_goto (tgt := 39) hx hb d_O_alike_35 rfl ?_
  obtain ⟨rfl, rfl⟩ := gRt_e hf
  exact g_zret hx hb hr hlocks rfl hAe hS () rfl hP d_O_alike_39

def f_O_shared (σ : gS) (x1 : Int32) : Option (Int32 × gS) := gBd (f_G_has σ x1) (fun y1 σ2 => if y1 = 0 then (some ((-1), σ2)) else (gBd (f_R_startFrom σ2 x1) (fun _ σ6 => gBd (f_R_countShared σ6) (fun y8 σ9 => some (y8, σ9)))))
set_option maxHeartbeats 4000000 in
set_option maxRecDepth 100000 in
theorem m_O_shared {l : Launch} {X : va_G} {cI cC cZ : ClassId} {aK aV : Nat → Nat} {a : Nat → Nat} {σ σ' : gS} {r : Int32} {x1 : Int32} (hf : f_O_shared σ x1 = some (r, σ')) {sz : Nat} : Met l y_O_shared w_O_shared { frames := 4, cells := 0, slots := 0, locals := 87 } (gPc X vwCl (gT cI cC cZ) aK aV (cW cI cC cZ a σ) sz [.ref (a 0), .int x1]) (gQi X vwCl (cW cI cC cZ a σ) sz (fun r' (_ : Unit) => r' = r) (fun _ => cW cI cC cZ a σ')) 0 0 (va_A (cW cI cC cZ a σ) sz) := by
  refine g_met (cc := b_O_shared) (maxL := 2) (ret := (some .int)) (by decide) rfl (Nat.le_of_ble_eq_true rfl) ?_
  intro p e s m below meth c A ls hx hb hr hml hown hts hlocks hnm hsz hAe hA hP hK hD hS hl hE
  have hown : s.vm.findClass R_O = some m.cls := hown
  have u_0 : ∀ w ∈ u_ws R_O T_O 8, w ∈ w_O_shared := fun w h => List.mem_cons_of_mem _ (tu_O w h)
  have k_0 := hts (.fieldLink R_O 10 "GraphPages" "graph" "LGraphPages$Graph;") (List.mem_cons_of_mem _ tb_339)
  have k_1 := hts (.fieldLink R_O 32 "GraphPages" "reach" "LGraphPages$Reach;") (List.mem_cons_of_mem _ tb_360)
  unfold f_O_shared at hf
  refine lv_aload_n hx hb d_O_shared_0 rfl (lv_at hl 0 rfl) ?_
  refine va_get (D := X) (ci := 8) (C := R_O) (T := T_O) (N := 8) hx hb hts u_0 hown hK hP 0 gc_0 rfl 0 (by decide) k_0 (fun _ h9 => h9) rfl d_O_shared_1 ?_
  refine lv_iload_n hx hb d_O_shared_4 rfl (lv_at hl 1 rfl) ?_
  obtain ⟨y1, σ2, e3, hf⟩ := gBd_e hf
  refine g_wi (va_runV ⟨hx, hb, hml, hown, hts⟩ (m_G_has e3) (cwV 1 hts (gG4 (fun _ h => List.mem_cons_of_mem _ h) tb_346 tb_114 tb_115 tb_116 tc_G_has) rfl rfl rfl (by decide +kernel) ⟨Nat.le_of_ble_eq_true rfl, Nat.le_of_ble_eq_true rfl⟩) (g_preVW (q0 := 1) hE hK hP hD hS hA gc_1 rfl) rfl rfl hl.1 rfl (lv_room (Nat.le_of_ble_eq_true rfl)) d_O_shared_5 ⟨Nat.zero_le _, Nat.zero_le _⟩) hD hS hA (fun _ => cW_fst) (fun y1 _ H locs hu hP hD hS => ?_)
  subst hu
  refine lv_if_ne (tgt := 13) hx hb d_O_shared_8 rfl (fun c4 => ?_) (fun c4 => ?_)
  · skip
    rw [if_neg c4] at hf
    refine lv_aload_n hx hb d_O_shared_13 rfl (lv_at hl 0 rfl) ?_
    refine va_get (D := X) (ci := 8) (C := R_O) (T := T_O) (N := 8) hx hb hts u_0 hown hK hP 0 gc_0 rfl 3 (by decide) k_1 (fun _ h9 => h9) rfl d_O_shared_14 ?_
    refine lv_iload_n hx hb d_O_shared_17 rfl (lv_at hl 1 rfl) ?_
    obtain ⟨y5, σ6, e7, hf⟩ := gBd_e hf
    refine g_wv (va_runV ⟨hx, hb, hml, hown, hts⟩ (m_R_startFrom e7) (cwV 1 hts (gG4 (fun _ h => List.mem_cons_of_mem _ h) tb_356 tb_332 tb_333 tb_273 tc_R_startFrom) rfl rfl rfl (by decide +kernel) ⟨Nat.le_of_ble_eq_true rfl, Nat.le_of_ble_eq_true rfl⟩) (g_preVW (q0 := 10) hE hK hP hD hS hA gc_10 rfl) rfl rfl hl.1 rfl (lv_room (Nat.le_of_ble_eq_true rfl)) d_O_shared_18 ⟨Nat.zero_le _, Nat.zero_le _⟩) hD hS hA (fun _ => cW_fst) (fun _ H locs _ hP hD hS => ?_)
    refine lv_aload_n hx hb d_O_shared_21 rfl (lv_at hl 0 rfl) ?_
    refine va_get (D := X) (ci := 8) (C := R_O) (T := T_O) (N := 8) hx hb hts u_0 hown hK hP 0 gc_0 rfl 3 (by decide) k_1 (fun _ h9 => h9) rfl d_O_shared_22 ?_
    obtain ⟨y8, σ9, e10, hf⟩ := gBd_e hf
    refine g_wi (va_runV ⟨hx, hb, hml, hown, hts⟩ (m_R_countShared e10) (cwV 0 hts (gG4 (fun _ h => List.mem_cons_of_mem _ h) tb_357 tb_358 tb_359 tb_273 tc_R_countShared) rfl rfl rfl (by decide +kernel) ⟨Nat.le_of_ble_eq_true rfl, Nat.le_of_ble_eq_true rfl⟩) (g_preVW (q0 := 10) hE hK hP hD hS hA gc_10 rfl) rfl rfl hl.1 rfl (lv_room (Nat.le_of_ble_eq_true rfl)) d_O_shared_25 ⟨Nat.zero_le _, Nat.zero_le _⟩) hD hS hA (fun _ => cW_fst) (fun y8 _ H locs hu hP hD hS => ?_)
    subst hu
    obtain ⟨rfl, rfl⟩ := gRt_e hf
    exact g_zret hx hb hr hlocks rfl hAe hS () rfl hP d_O_shared_28
  rw [if_pos c4] at hf
  refine lv_iconst (v := (-1)) hx hb d_O_shared_11 (by decide) ?_
  obtain ⟨rfl, rfl⟩ := gRt_e hf
  exact g_zret hx hb hr hlocks rfl hAe hS () rfl hP d_O_shared_12

def f_O_encode (σ : gS) (x1 : Int32) : Option (Int32 × gS) := gBd (f_G_has σ x1) (fun y1 σ2 => if y1 = 0 then (some ((-1), σ2)) else (gBd (f_W_writeFrom σ2 x1) (fun _ σ6 => some ((σ6.1 1), σ6))))
set_option maxHeartbeats 4000000 in
set_option maxRecDepth 100000 in
theorem m_O_encode {l : Launch} {X : va_G} {cI cC cZ : ClassId} {aK aV : Nat → Nat} {a : Nat → Nat} {σ σ' : gS} {r : Int32} {x1 : Int32} (hf : f_O_encode σ x1 = some (r, σ')) {sz : Nat} : Met l y_O_encode w_O_encode { frames := 319, cells := 0, slots := 0, locals := 6871 } (gPc X vwCl (gT cI cC cZ) aK aV (cW cI cC cZ a σ) sz [.ref (a 0), .int x1]) (gQi X vwCl (cW cI cC cZ a σ) sz (fun r' (_ : Unit) => r' = r) (fun _ => cW cI cC cZ a σ')) 0 0 (va_A (cW cI cC cZ a σ) sz) := by
  refine g_met (cc := b_O_encode) (maxL := 2) (ret := (some .int)) (by decide) rfl (Nat.le_of_ble_eq_true rfl) ?_
  intro p e s m below meth c A ls hx hb hr hml hown hts hlocks hnm hsz hAe hA hP hK hD hS hl hE
  have hown : s.vm.findClass R_O = some m.cls := hown
  have u_0 : ∀ w ∈ u_ws R_O T_O 8, w ∈ w_O_encode := fun w h => List.mem_cons_of_mem _ (tu_O w h)
  have u_1 : ∀ w ∈ u_ws R_P T_P 2, w ∈ w_O_encode := fun w h => List.mem_cons_of_mem _ (tu_P w h)
  have k_0 := hts (.fieldLink R_O 10 "GraphPages" "graph" "LGraphPages$Graph;") (List.mem_cons_of_mem _ tb_339)
  have k_1 := hts (.fieldLink R_O 48 "GraphPages" "writer" "LGraphPages$Writer;") (List.mem_cons_of_mem _ tb_364)
  have k_2 := hts (.fieldLink R_O 19 "GraphPages" "page" "LGraphPages$Page;") (List.mem_cons_of_mem _ tb_365)
  have k_3 := hts (.fieldLink R_O 134 "GraphPages$Page" "end" "I") (List.mem_cons_of_mem _ tb_366)
  unfold f_O_encode at hf
  refine lv_aload_n hx hb d_O_encode_0 rfl (lv_at hl 0 rfl) ?_
  refine va_get (D := X) (ci := 8) (C := R_O) (T := T_O) (N := 8) hx hb hts u_0 hown hK hP 0 gc_0 rfl 0 (by decide) k_0 (fun _ h9 => h9) rfl d_O_encode_1 ?_
  refine lv_iload_n hx hb d_O_encode_4 rfl (lv_at hl 1 rfl) ?_
  obtain ⟨y1, σ2, e3, hf⟩ := gBd_e hf
  refine g_wi (va_runV ⟨hx, hb, hml, hown, hts⟩ (m_G_has e3) (cwV 1 hts (gG4 (fun _ h => List.mem_cons_of_mem _ h) tb_346 tb_114 tb_115 tb_116 tc_G_has) rfl rfl rfl (by decide +kernel) ⟨Nat.le_of_ble_eq_true rfl, Nat.le_of_ble_eq_true rfl⟩) (g_preVW (q0 := 1) hE hK hP hD hS hA gc_1 rfl) rfl rfl hl.1 rfl (lv_room (Nat.le_of_ble_eq_true rfl)) d_O_encode_5 ⟨Nat.zero_le _, Nat.zero_le _⟩) hD hS hA (fun _ => cW_fst) (fun y1 _ H locs hu hP hD hS => ?_)
  subst hu
  refine lv_if_ne (tgt := 13) hx hb d_O_encode_8 rfl (fun c4 => ?_) (fun c4 => ?_)
  · skip
    rw [if_neg c4] at hf
    refine lv_aload_n hx hb d_O_encode_13 rfl (lv_at hl 0 rfl) ?_
    refine va_get (D := X) (ci := 8) (C := R_O) (T := T_O) (N := 8) hx hb hts u_0 hown hK hP 0 gc_0 rfl 5 (by decide) k_1 (fun _ h9 => h9) rfl d_O_encode_14 ?_
    refine lv_iload_n hx hb d_O_encode_17 rfl (lv_at hl 1 rfl) ?_
    obtain ⟨y5, σ6, e7, hf⟩ := gBd_e hf
    refine g_wv (va_runV ⟨hx, hb, hml, hown, hts⟩ (m_W_writeFrom e7) (cwV 1 hts (gG4 (fun _ h => List.mem_cons_of_mem _ h) tb_361 tb_362 tb_363 tb_295 tc_W_writeFrom) rfl rfl rfl (by decide +kernel) ⟨Nat.le_of_ble_eq_true rfl, Nat.le_of_ble_eq_true rfl⟩) (g_preVW (q0 := 17) hE hK hP hD hS hA gc_17 rfl) rfl rfl hl.1 rfl (lv_room (Nat.le_of_ble_eq_true rfl)) d_O_encode_18 ⟨Nat.zero_le _, Nat.zero_le _⟩) hD hS hA (fun _ => cW_fst) (fun _ H locs _ hP hD hS => ?_)
    refine lv_aload_n hx hb d_O_encode_21 rfl (lv_at hl 0 rfl) ?_
    refine va_get (D := X) (ci := 8) (C := R_O) (T := T_O) (N := 8) hx hb hts u_0 hown hK hP 0 gc_0 rfl 1 (by decide) k_2 (fun _ h9 => h9) rfl d_O_encode_22 ?_
    refine va_get (D := X) (ci := 5) (C := R_P) (T := T_P) (N := 2) hx hb hts u_1 hown hK hP 7 gc_7 rfl 0 (by decide) k_3 (fun _ h9 => h9) rfl d_O_encode_25 ?_
    obtain ⟨rfl, rfl⟩ := gRt_e hf
    exact g_zret hx hb hr hlocks rfl hAe hS () rfl hP d_O_encode_28
  rw [if_pos c4] at hf
  refine lv_iconst (v := (-1)) hx hb d_O_encode_11 (by decide) ?_
  obtain ⟨rfl, rfl⟩ := gRt_e hf
  exact g_zret hx hb hr hlocks rfl hAe hS () rfl hP d_O_encode_12

def f_O_decode (σ : gS) : Option (Int32 × gS) := gBd (f_F_isWellFormed σ) (fun y1 σ2 => if y1 = 0 then (some ((-1), σ2)) else (gBd (f_H_knowsVersion σ2) (fun y5 σ6 => if y5 = 0 then (some ((-2), σ6)) else (gBd (f_H_understandsHeaders σ6) (fun y9 σ10 => if y9 = 0 then (some ((-3), σ10)) else (gBd (f_H_readGraph σ10) (fun y13 σ14 => if y13 = (-1) then (some ((-4), σ14)) else (some (y13, σ14)))))))))
set_option maxHeartbeats 4000000 in
set_option maxRecDepth 100000 in
theorem m_O_decode {l : Launch} {X : va_G} {cI cC cZ : ClassId} {aK aV : Nat → Nat} {a : Nat → Nat} {σ σ' : gS} {r : Int32} (hf : f_O_decode σ = some (r, σ')) {sz : Nat} : Met l y_O_decode w_O_decode { frames := 9, cells := 0, slots := 0, locals := 192 } (gPc X vwCl (gT cI cC cZ) aK aV (cW cI cC cZ a σ) sz [.ref (a 0)]) (gQi X vwCl (cW cI cC cZ a σ) sz (fun r' (_ : Unit) => r' = r) (fun _ => cW cI cC cZ a σ')) 0 0 (va_A (cW cI cC cZ a σ) sz) := by
  refine g_met (cc := b_O_decode) (maxL := 2) (ret := (some .int)) (by decide) rfl (Nat.le_of_ble_eq_true rfl) ?_
  intro p e s m below meth c A ls hx hb hr hml hown hts hlocks hnm hsz hAe hA hP hK hD hS hl hE
  have hown : s.vm.findClass R_O = some m.cls := hown
  have u_0 : ∀ w ∈ u_ws R_O T_O 8, w ∈ w_O_decode := fun w h => List.mem_cons_of_mem _ (tu_O w h)
  have k_0 := hts (.fieldLink R_O 60 "GraphPages" "formReader" "LGraphPages$FormReader;") (List.mem_cons_of_mem _ tb_379)
  have k_1 := hts (.fieldLink R_O 69 "GraphPages" "graphReader" "LGraphPages$GraphReader;") (List.mem_cons_of_mem _ tb_380)
  have k_2 := hts (.fieldLink R_O 23 "GraphPages" "understood" "[Z") (List.mem_cons_of_mem _ tb_381)
  unfold f_O_decode at hf
  refine lv_aload_n hx hb d_O_decode_0 rfl (lv_at hl 0 rfl) ?_
  refine va_get (D := X) (ci := 8) (C := R_O) (T := T_O) (N := 8) hx hb hts u_0 hown hK hP 0 gc_0 rfl 6 (by decide) k_0 (fun _ h9 => h9) rfl d_O_decode_1 ?_
  obtain ⟨y1, σ2, e3, hf⟩ := gBd_e hf
  refine g_wi (va_runV ⟨hx, hb, hml, hown, hts⟩ (m_F_isWellFormed e3) (cwV 0 hts (gG4 (fun _ h => List.mem_cons_of_mem _ h) tb_367 tb_368 tb_369 tb_47 tc_F_isWellFormed) rfl rfl rfl (by decide +kernel) ⟨Nat.le_of_ble_eq_true rfl, Nat.le_of_ble_eq_true rfl⟩) (g_preVW (q0 := 32) hE hK hP hD hS hA gc_32 rfl) rfl rfl hl.1 rfl (lv_room (Nat.le_of_ble_eq_true rfl)) d_O_decode_4 ⟨Nat.zero_le _, Nat.zero_le _⟩) hD hS hA (fun _ => cW_fst) (fun y1 _ H locs hu hP hD hS => ?_)
  subst hu
  refine lv_if_ne (tgt := 12) hx hb d_O_decode_7 rfl (fun c4 => ?_) (fun c4 => ?_)
  · skip
    rw [if_neg c4] at hf
    refine lv_aload_n hx hb d_O_decode_12 rfl (lv_at hl 0 rfl) ?_
    refine va_get (D := X) (ci := 8) (C := R_O) (T := T_O) (N := 8) hx hb hts u_0 hown hK hP 0 gc_0 rfl 7 (by decide) k_1 (fun _ h9 => h9) rfl d_O_decode_13 ?_
    obtain ⟨y5, σ6, e7, hf⟩ := gBd_e hf
    refine g_wi (va_runV ⟨hx, hb, hml, hown, hts⟩ (m_H_knowsVersion e7) (cwV 0 hts (gG4 (fun _ h => List.mem_cons_of_mem _ h) tb_370 tb_371 tb_372 tb_137 tc_H_knowsVersion) rfl rfl rfl (by decide +kernel) ⟨Nat.le_of_ble_eq_true rfl, Nat.le_of_ble_eq_true rfl⟩) (g_preVW (q0 := 33) hE hK hP hD hS hA gc_33 rfl) rfl rfl hl.1 rfl (lv_room (Nat.le_of_ble_eq_true rfl)) d_O_decode_16 ⟨Nat.zero_le _, Nat.zero_le _⟩) hD hS hA (fun _ => cW_fst) (fun y5 _ H locs hu hP hD hS => ?_)
    subst hu
    refine lv_if_ne (tgt := 25) hx hb d_O_decode_19 rfl (fun c8 => ?_) (fun c8 => ?_)
    · skip
      rw [if_neg c8] at hf
      refine lv_aload_n hx hb d_O_decode_25 rfl (lv_at hl 0 rfl) ?_
      refine va_get (D := X) (ci := 8) (C := R_O) (T := T_O) (N := 8) hx hb hts u_0 hown hK hP 0 gc_0 rfl 7 (by decide) k_1 (fun _ h9 => h9) rfl d_O_decode_26 ?_
      refine lv_aload_n hx hb d_O_decode_29 rfl (lv_at hl 0 rfl) ?_
      refine va_get (D := X) (ci := 8) (C := R_O) (T := T_O) (N := 8) hx hb hts u_0 hown hK hP 0 gc_0 rfl 2 (by decide) k_2 (fun _ h9 => h9) rfl d_O_decode_30 ?_
      obtain ⟨y9, σ10, e11, hf⟩ := gBd_e hf
      refine g_wi (va_runV ⟨hx, hb, hml, hown, hts⟩ (m_H_understandsHeaders e11) (cwV 1 hts (gG4 (fun _ h => List.mem_cons_of_mem _ h) tb_373 tb_374 tb_375 tb_137 tc_H_understandsHeaders) rfl rfl rfl (by decide +kernel) ⟨Nat.le_of_ble_eq_true rfl, Nat.le_of_ble_eq_true rfl⟩) (g_preVW (q0 := 33) hE hK hP hD hS hA gc_33 rfl) rfl rfl hl.1 rfl (lv_room (Nat.le_of_ble_eq_true rfl)) d_O_decode_33 ⟨Nat.zero_le _, Nat.zero_le _⟩) hD hS hA (fun _ => cW_fst) (fun y9 _ H locs hu hP hD hS => ?_)
      subst hu
      refine lv_if_ne (tgt := 42) hx hb d_O_decode_36 rfl (fun c12 => ?_) (fun c12 => ?_)
      · skip
        rw [if_neg c12] at hf
        refine lv_aload_n hx hb d_O_decode_42 rfl (lv_at hl 0 rfl) ?_
        refine va_get (D := X) (ci := 8) (C := R_O) (T := T_O) (N := 8) hx hb hts u_0 hown hK hP 0 gc_0 rfl 7 (by decide) k_1 (fun _ h9 => h9) rfl d_O_decode_43 ?_
        obtain ⟨y13, σ14, e15, hf⟩ := gBd_e hf
        refine g_wi (va_runV ⟨hx, hb, hml, hown, hts⟩ (m_H_readGraph e15) (cwV 0 hts (gG4 (fun _ h => List.mem_cons_of_mem _ h) tb_376 tb_377 tb_378 tb_137 tc_H_readGraph) rfl rfl rfl (by decide +kernel) ⟨Nat.le_of_ble_eq_true rfl, Nat.le_of_ble_eq_true rfl⟩) (g_preVW (q0 := 33) hE hK hP hD hS hA gc_33 rfl) rfl rfl hl.1 rfl (lv_room (Nat.le_of_ble_eq_true rfl)) d_O_decode_46 ⟨Nat.zero_le _, Nat.zero_le _⟩) hD hS hA (fun _ => cW_fst) (fun y13 _ H locs hu hP hD hS => ?_)
        subst hu
        refine lv_istore_n hx hb d_O_decode_49 rfl hl (by decide) rfl (fun ls hl => ?_)
        refine lv_iload_n hx hb d_O_decode_50 rfl (lv_at hl 0 rfl) ?_
        refine lv_iconst (v := (-1)) hx hb d_O_decode_51 (by decide) ?_
        refine lv_icmp_ne (tgt := 60) hx hb d_O_decode_52 rfl (fun c16 => ?_) (fun c16 => ?_)
        · skip
          rw [if_neg c16] at hf
          refine lv_iload_n hx hb d_O_decode_60 rfl (lv_at hl 0 rfl) ?_
          obtain ⟨rfl, rfl⟩ := gRt_e hf
          exact g_zret hx hb hr hlocks rfl hAe hS () rfl hP d_O_decode_61
        rw [if_pos c16] at hf
        refine lv_bipush (v := (-4)) hx hb d_O_decode_55 (by decide) ?_
        refine lv_goto (tgt := 61) hx hb d_O_decode_57 rfl ?_
        obtain ⟨rfl, rfl⟩ := gRt_e hf
        exact g_zret hx hb hr hlocks rfl hAe hS () rfl hP d_O_decode_61
      rw [if_pos c12] at hf
      refine lv_bipush (v := (-3)) hx hb d_O_decode_39 (by decide) ?_
      obtain ⟨rfl, rfl⟩ := gRt_e hf
      exact g_zret hx hb hr hlocks rfl hAe hS () rfl hP d_O_decode_41
    rw [if_pos c8] at hf
    refine lv_bipush (v := (-2)) hx hb d_O_decode_22 (by decide) ?_
    obtain ⟨rfl, rfl⟩ := gRt_e hf
    exact g_zret hx hb hr hlocks rfl hAe hS () rfl hP d_O_decode_24
  rw [if_pos c4] at hf
  refine lv_iconst (v := (-1)) hx hb d_O_decode_10 (by decide) ?_
  obtain ⟨rfl, rfl⟩ := gRt_e hf
  exact g_zret hx hb hr hlocks rfl hAe hS () rfl hP d_O_decode_11

def f_O_clear (σ : gS) : Option (Int32 × gS) := gPut σ 0 0 (fun σ1 => some (0, σ1))
set_option maxHeartbeats 4000000 in
set_option maxRecDepth 100000 in
theorem m_O_clear {l : Launch} {X : va_G} {cI cC cZ : ClassId} {aK aV : Nat → Nat} {a : Nat → Nat} {σ σ' : gS} {r : Int32} (hf : f_O_clear σ = some (r, σ')) {sz : Nat} : Met l y_O_clear w_O_clear { frames := 0, cells := 0, slots := 0, locals := 0 } (gPc X vwCl (gT cI cC cZ) aK aV (cW cI cC cZ a σ) sz [.ref (a 0)]) (gQv X vwCl (cW cI cC cZ a σ) sz (fun (_ : Unit) => True) (fun _ => cW cI cC cZ a σ')) 0 0 (va_A (cW cI cC cZ a σ) sz) := by
  refine g_met (cc := b_O_clear) (maxL := 1) (ret := none) (by decide) rfl (Nat.le_of_ble_eq_true rfl) ?_
  intro p e s m below meth c A ls hx hb hr hml hown hts hlocks hnm hsz hAe hA hP hK hD hS hl hE
  have hown : s.vm.findClass R_O = some m.cls := hown
  have u_0 : ∀ w ∈ u_ws R_O T_O 8, w ∈ w_O_clear := fun w h => List.mem_cons_of_mem _ (tu_O w h)
  have u_1 : ∀ w ∈ u_ws R_G T_G 6, w ∈ w_O_clear := fun w h => List.mem_cons_of_mem _ (tu_G w h)
  have k_0 := hts (.fieldLink R_O 10 "GraphPages" "graph" "LGraphPages$Graph;") (List.mem_cons_of_mem _ tb_339)
  have k_1 := hts (.fieldLink R_O 73 "GraphPages$Graph" "count" "I") (List.mem_cons_of_mem _ tb_340)
  unfold f_O_clear at hf
  refine lv_aload_n hx hb d_O_clear_0 rfl (lv_at hl 0 rfl) ?_
  refine va_get (D := X) (ci := 8) (C := R_O) (T := T_O) (N := 8) hx hb hts u_0 hown hK hP 0 gc_0 rfl 0 (by decide) k_0 (fun _ h9 => h9) rfl d_O_clear_1 ?_
  refine lv_iconst (v := 0) hx hb d_O_clear_4 (by decide) ?_
  obtain ⟨σ1, e2, hf⟩ := gPut_e hf
  refine va_put (D := X) (ci := 2) (ty := .int) (C := R_G) (T := T_G) (N := 6) hx hb hts u_1 t_G t_G_ok n_G hown hK hP hD hS 1 gc_1 rfl 0 (by decide) k_1 (fun _ h9 => h9) rfl (by decide +kernel) rfl rfl (Nat.le_of_ble_eq_true rfl) d_O_clear_5 (fun H locs hP hD hS => ?_)
  rw [sc_1_0, ← e2] at hP hD
  obtain ⟨-, rfl⟩ := gRt_e hf
  exact g_vret hx hb hr hlocks hAe hS () trivial hP d_O_clear_8

def f_O_understand (σ : gS) (x1 : Int32) (x2 : Int32) : Option (Int32 × gS) := if x1 < 0 then (some (0, σ)) else (if 32 ≤ x1 then (some (0, σ)) else (gLd σ 9 32 x1 (fun y3 => if y3 = x2 then (some (0, σ)) else (gSt σ 9 32 x1 (vp_nar .boolean x2) (fun σ7 => some (1, σ7))))))
set_option maxHeartbeats 4000000 in
set_option maxRecDepth 100000 in
theorem m_O_understand {l : Launch} {X : va_G} {cI cC cZ : ClassId} {aK aV : Nat → Nat} {a : Nat → Nat} {σ σ' : gS} {r : Int32} {x1 : Int32} {x2 : Int32} (hf : f_O_understand σ x1 x2 = some (r, σ')) {sz : Nat} : Met l y_O_understand w_O_understand { frames := 0, cells := 0, slots := 0, locals := 0 } (gPc X vwCl (gT cI cC cZ) aK aV (cW cI cC cZ a σ) sz [.ref (a 0), .int x1, .int x2]) (gQi X vwCl (cW cI cC cZ a σ) sz (fun r' (_ : Unit) => r' = r) (fun _ => cW cI cC cZ a σ')) 0 0 (va_A (cW cI cC cZ a σ) sz) := by
  refine g_met (cc := b_O_understand) (maxL := 3) (ret := (some .boolean)) (by decide) rfl (Nat.le_of_ble_eq_true rfl) ?_
  intro p e s m below meth c A ls hx hb hr hml hown hts hlocks hnm hsz hAe hA hP hK hD hS hl hE
  have hown : s.vm.findClass R_O = some m.cls := hown
  have u_0 : ∀ w ∈ u_ws R_O T_O 8, w ∈ w_O_understand := fun w h => List.mem_cons_of_mem _ (tu_O w h)
  have k_0 := hts (.fieldLink R_O 23 "GraphPages" "understood" "[Z") (List.mem_cons_of_mem _ tb_381)
  unfold f_O_understand at hf
  refine lv_iload_n hx hb d_O_understand_0 rfl (lv_at hl 1 rfl) ?_
  refine lv_if_lt (tgt := 20) hx hb d_O_understand_1 rfl (fun c1 => ?_) (fun c1 => ?_)
  · skip
    rw [if_pos c1] at hf
    refine lv_iconst (v := 0) hx hb d_O_understand_20 (by decide) ?_
    obtain ⟨rfl, rfl⟩ := gRt_e hf
    exact g_zret hx hb hr hlocks rfl hAe hS () rfl hP d_O_understand_21
  rw [if_neg c1] at hf
  refine lv_iload_n hx hb d_O_understand_4 rfl (lv_at hl 1 rfl) ?_
  refine lv_bipush (v := 32) hx hb d_O_understand_5 (by decide) ?_
  refine lv_icmp_ge (tgt := 20) hx hb d_O_understand_7 rfl (fun c2 => ?_) (fun c2 => ?_)
  · skip
    rw [if_pos c2] at hf
    refine lv_iconst (v := 0) hx hb d_O_understand_20 (by decide) ?_
    obtain ⟨rfl, rfl⟩ := gRt_e hf
    exact g_zret hx hb hr hlocks rfl hAe hS () rfl hP d_O_understand_21
  rw [if_neg c2] at hf
  refine lv_aload_n hx hb d_O_understand_10 rfl (lv_at hl 0 rfl) ?_
  refine va_get (D := X) (ci := 8) (C := R_O) (T := T_O) (N := 8) hx hb hts u_0 hown hK hP 0 gc_0 rfl 2 (by decide) k_0 (fun _ h9 => h9) rfl d_O_understand_11 ?_
  refine lv_iload_n hx hb d_O_understand_14 rfl (lv_at hl 1 rfl) ?_
  obtain ⟨y3, h4, e5, hf⟩ := gLd_e hf
  refine va_zald hx hb hK hP 9 2 gc_9 rfl h4 d_O_understand_15 ?_
  rw [← e5]
  refine lv_iload_n hx hb d_O_understand_16 rfl (lv_at hl 2 rfl) ?_
  refine lv_icmp_ne (tgt := 22) hx hb d_O_understand_17 rfl (fun c6 => ?_) (fun c6 => ?_)
  · skip
    rw [if_neg c6] at hf
    refine lv_aload_n hx hb d_O_understand_22 rfl (lv_at hl 0 rfl) ?_
    refine va_get (D := X) (ci := 8) (C := R_O) (T := T_O) (N := 8) hx hb hts u_0 hown hK hP 0 gc_0 rfl 2 (by decide) k_0 (fun _ h9 => h9) rfl d_O_understand_23 ?_
    refine lv_iload_n hx hb d_O_understand_26 rfl (lv_at hl 1 rfl) ?_
    refine lv_iload_n hx hb d_O_understand_27 rfl (lv_at hl 2 rfl) ?_
    obtain ⟨σ7, h8, e9, hf⟩ := gSt_e hf
    refine va_zast hx hb hK hP hD hS 9 2 gc_9 rfl h8 d_O_understand_28 (fun H locs hP hD hS => ?_)
    rw [sc_9, ← e9] at hP hD
    refine lv_iconst (v := 1) hx hb d_O_understand_29 (by decide) ?_
    obtain ⟨rfl, rfl⟩ := gRt_e hf
    exact g_zret hx hb hr hlocks rfl hAe hS () rfl hP d_O_understand_30
  rw [if_pos c6] at hf
  refine lv_iconst (v := 0) hx hb d_O_understand_20 (by decide) ?_
  obtain ⟨rfl, rfl⟩ := gRt_e hf
  exact g_zret hx hb hr hlocks rfl hAe hS () rfl hP d_O_understand_21

def f_O_length (σ : gS) : Option (Int32 × gS) := some ((σ.1 1), σ)
set_option maxHeartbeats 4000000 in
set_option maxRecDepth 100000 in
theorem m_O_length {l : Launch} {X : va_G} {cI cC cZ : ClassId} {aK aV : Nat → Nat} {a : Nat → Nat} {σ σ' : gS} {r : Int32} (hf : f_O_length σ = some (r, σ')) {sz : Nat} : Met l y_O_length w_O_length { frames := 0, cells := 0, slots := 0, locals := 0 } (gPc X vwCl (gT cI cC cZ) aK aV (cW cI cC cZ a σ) sz [.ref (a 0)]) (gQi X vwCl (cW cI cC cZ a σ) sz (fun r' (_ : Unit) => r' = r) (fun _ => cW cI cC cZ a σ')) 0 0 (va_A (cW cI cC cZ a σ) sz) := by
  refine g_met (cc := b_O_length) (maxL := 1) (ret := (some .int)) (by decide) rfl (Nat.le_of_ble_eq_true rfl) ?_
  intro p e s m below meth c A ls hx hb hr hml hown hts hlocks hnm hsz hAe hA hP hK hD hS hl hE
  have hown : s.vm.findClass R_O = some m.cls := hown
  have u_0 : ∀ w ∈ u_ws R_O T_O 8, w ∈ w_O_length := fun w h => List.mem_cons_of_mem _ (tu_O w h)
  have u_1 : ∀ w ∈ u_ws R_P T_P 2, w ∈ w_O_length := fun w h => List.mem_cons_of_mem _ (tu_P w h)
  have k_0 := hts (.fieldLink R_O 19 "GraphPages" "page" "LGraphPages$Page;") (List.mem_cons_of_mem _ tb_365)
  have k_1 := hts (.fieldLink R_O 134 "GraphPages$Page" "end" "I") (List.mem_cons_of_mem _ tb_366)
  unfold f_O_length at hf
  refine lv_aload_n hx hb d_O_length_0 rfl (lv_at hl 0 rfl) ?_
  refine va_get (D := X) (ci := 8) (C := R_O) (T := T_O) (N := 8) hx hb hts u_0 hown hK hP 0 gc_0 rfl 1 (by decide) k_0 (fun _ h9 => h9) rfl d_O_length_1 ?_
  refine va_get (D := X) (ci := 5) (C := R_P) (T := T_P) (N := 2) hx hb hts u_1 hown hK hP 7 gc_7 rfl 0 (by decide) k_1 (fun _ h9 => h9) rfl d_O_length_4 ?_
  obtain ⟨rfl, rfl⟩ := gRt_e hf
  exact g_zret hx hb hr hlocks rfl hAe hS () rfl hP d_O_length_7

def f_O_charAt (σ : gS) (x1 : Int32) : Option (Int32 × gS) := gBd (f_P_codeAt σ x1) (fun y1 σ2 => some (y1, σ2))
set_option maxHeartbeats 4000000 in
set_option maxRecDepth 100000 in
theorem m_O_charAt {l : Launch} {X : va_G} {cI cC cZ : ClassId} {aK aV : Nat → Nat} {a : Nat → Nat} {σ σ' : gS} {r : Int32} {x1 : Int32} (hf : f_O_charAt σ x1 = some (r, σ')) {sz : Nat} : Met l y_O_charAt w_O_charAt { frames := 1, cells := 0, slots := 0, locals := 21 } (gPc X vwCl (gT cI cC cZ) aK aV (cW cI cC cZ a σ) sz [.ref (a 0), .int x1]) (gQi X vwCl (cW cI cC cZ a σ) sz (fun r' (_ : Unit) => r' = r) (fun _ => cW cI cC cZ a σ')) 0 0 (va_A (cW cI cC cZ a σ) sz) := by
  refine g_met (cc := b_O_charAt) (maxL := 2) (ret := (some .int)) (by decide) rfl (Nat.le_of_ble_eq_true rfl) ?_
  intro p e s m below meth c A ls hx hb hr hml hown hts hlocks hnm hsz hAe hA hP hK hD hS hl hE
  have hown : s.vm.findClass R_O = some m.cls := hown
  have u_0 : ∀ w ∈ u_ws R_O T_O 8, w ∈ w_O_charAt := fun w h => List.mem_cons_of_mem _ (tu_O w h)
  have k_0 := hts (.fieldLink R_O 19 "GraphPages" "page" "LGraphPages$Page;") (List.mem_cons_of_mem _ tb_365)
  unfold f_O_charAt at hf
  refine lv_aload_n hx hb d_O_charAt_0 rfl (lv_at hl 0 rfl) ?_
  refine va_get (D := X) (ci := 8) (C := R_O) (T := T_O) (N := 8) hx hb hts u_0 hown hK hP 0 gc_0 rfl 1 (by decide) k_0 (fun _ h9 => h9) rfl d_O_charAt_1 ?_
  refine lv_iload_n hx hb d_O_charAt_4 rfl (lv_at hl 1 rfl) ?_
  obtain ⟨y1, σ2, e3, hf⟩ := gBd_e hf
  refine g_wi (va_runV ⟨hx, hb, hml, hown, hts⟩ (m_P_codeAt e3) (cwV 1 hts (gG4 (fun _ h => List.mem_cons_of_mem _ h) tb_382 tb_36 tb_37 tb_38 tc_P_codeAt) rfl rfl rfl (by decide +kernel) ⟨Nat.le_of_ble_eq_true rfl, Nat.le_of_ble_eq_true rfl⟩) (g_preVW (q0 := 7) hE hK hP hD hS hA gc_7 rfl) rfl rfl hl.1 rfl (lv_room (Nat.le_of_ble_eq_true rfl)) d_O_charAt_5 ⟨Nat.zero_le _, Nat.zero_le _⟩) hD hS hA (fun _ => cW_fst) (fun y1 _ H locs hu hP hD hS => ?_)
  subst hu
  obtain ⟨rfl, rfl⟩ := gRt_e hf
  exact g_zret hx hb hr hlocks rfl hAe hS () rfl hP d_O_charAt_8

def f_O_feed (σ : gS) (x1 : Int32) : Option (Int32 × gS) := gBd (f_O_isPrintable σ x1) (fun y1 σ2 => if y1 = 0 then (some (0, σ2)) else (gBd (f_P_append σ2 x1) (fun y5 σ6 => if y5 = 0 then (some (0, σ6)) else (some (1, σ6)))))
set_option maxHeartbeats 4000000 in
set_option maxRecDepth 100000 in
theorem m_O_feed {l : Launch} {X : va_G} {cI cC cZ : ClassId} {aK aV : Nat → Nat} {a : Nat → Nat} {σ σ' : gS} {r : Int32} {x1 : Int32} (hf : f_O_feed σ x1 = some (r, σ')) {sz : Nat} : Met l y_O_feed w_O_feed { frames := 1, cells := 0, slots := 0, locals := 21 } (gPc X vwCl (gT cI cC cZ) aK aV (cW cI cC cZ a σ) sz [.ref (a 0), .int x1]) (gQi X vwCl (cW cI cC cZ a σ) sz (fun r' (_ : Unit) => r' = r) (fun _ => cW cI cC cZ a σ')) 0 0 (va_A (cW cI cC cZ a σ) sz) := by
  refine g_met (cc := b_O_feed) (maxL := 2) (ret := (some .boolean)) (by decide) rfl (Nat.le_of_ble_eq_true rfl) ?_
  intro p e s m below meth c A ls hx hb hr hml hown hts hlocks hnm hsz hAe hA hP hK hD hS hl hE
  have hown : s.vm.findClass R_O = some m.cls := hown
  have u_0 : ∀ w ∈ u_ws R_O T_O 8, w ∈ w_O_feed := fun w h => List.mem_cons_of_mem _ (tu_O w h)
  have k_0 := hts (.fieldLink R_O 19 "GraphPages" "page" "LGraphPages$Page;") (List.mem_cons_of_mem _ tb_365)
  unfold f_O_feed at hf
  refine lv_iload_n hx hb d_O_feed_0 rfl (lv_at hl 1 rfl) ?_
  obtain ⟨y1, σ2, e3, hf⟩ := gBd_e hf
  refine g_wi (va_runS ⟨hx, hb, hml, hown, hts⟩ (m_O_isPrintable e3) (cwS 1 hts (gG3 (fun _ h => List.mem_cons_of_mem _ h) tb_342 tb_76 tb_39 tc_O_isPrintable) rfl rfl rfl (by decide +kernel) ⟨Nat.le_of_ble_eq_true rfl, Nat.le_of_ble_eq_true rfl⟩) (g_preSW hE hK hP hD hS hA) rfl rfl hl.1 rfl (lv_room (Nat.le_of_ble_eq_true rfl)) d_O_feed_1 ⟨Nat.zero_le _, Nat.zero_le _⟩) hD hS hA (fun _ => cW_fst) (fun y1 _ H locs hu hP hD hS => ?_)
  subst hu
  refine lv_if_eq (tgt := 22) hx hb d_O_feed_4 rfl (fun c4 => ?_) (fun c4 => ?_)
  · skip
    rw [if_pos c4] at hf
    refine lv_iconst (v := 0) hx hb d_O_feed_22 (by decide) ?_
    obtain ⟨rfl, rfl⟩ := gRt_e hf
    exact g_zret hx hb hr hlocks rfl hAe hS () rfl hP d_O_feed_23
  rw [if_neg c4] at hf
  refine lv_aload_n hx hb d_O_feed_7 rfl (lv_at hl 0 rfl) ?_
  refine va_get (D := X) (ci := 8) (C := R_O) (T := T_O) (N := 8) hx hb hts u_0 hown hK hP 0 gc_0 rfl 1 (by decide) k_0 (fun _ h9 => h9) rfl d_O_feed_8 ?_
  refine lv_iload_n hx hb d_O_feed_11 rfl (lv_at hl 1 rfl) ?_
  obtain ⟨y5, σ6, e7, hf⟩ := gBd_e hf
  refine g_wi (va_runV ⟨hx, hb, hml, hown, hts⟩ (m_P_append e7) (cwV 1 hts (gG4 (fun _ h => List.mem_cons_of_mem _ h) tb_383 tb_285 tb_286 tb_38 tc_P_append) rfl rfl rfl (by decide +kernel) ⟨Nat.le_of_ble_eq_true rfl, Nat.le_of_ble_eq_true rfl⟩) (g_preVW (q0 := 7) hE hK hP hD hS hA gc_7 rfl) rfl rfl hl.1 rfl (lv_room (Nat.le_of_ble_eq_true rfl)) d_O_feed_12 ⟨Nat.zero_le _, Nat.zero_le _⟩) hD hS hA (fun _ => cW_fst) (fun y5 _ H locs hu hP hD hS => ?_)
  subst hu
  refine lv_if_eq (tgt := 22) hx hb d_O_feed_15 rfl (fun c8 => ?_) (fun c8 => ?_)
  · skip
    rw [if_pos c8] at hf
    refine lv_iconst (v := 0) hx hb d_O_feed_22 (by decide) ?_
    obtain ⟨rfl, rfl⟩ := gRt_e hf
    exact g_zret hx hb hr hlocks rfl hAe hS () rfl hP d_O_feed_23
  rw [if_neg c8] at hf
  refine lv_iconst (v := 1) hx hb d_O_feed_18 (by decide) ?_
  refine lv_goto (tgt := 23) hx hb d_O_feed_19 rfl ?_
  obtain ⟨rfl, rfl⟩ := gRt_e hf
  exact g_zret hx hb hr hlocks rfl hAe hS () rfl hP d_O_feed_23

def f_O_alter (σ : gS) (x1 : Int32) (x2 : Int32) : Option (Int32 × gS) := if x1 < 0 then (some (0, σ)) else (if (σ.1 1) ≤ x1 then (some (0, σ)) else (gBd (f_O_isPrintable σ x2) (fun y3 σ4 => if y3 = 0 then (some (0, σ4)) else (gSt σ4 8 1600 x1 (vp_nar .char x2) (fun σ7 => some (1, σ7))))))
set_option maxHeartbeats 4000000 in
set_option maxRecDepth 100000 in
theorem m_O_alter {l : Launch} {X : va_G} {cI cC cZ : ClassId} {aK aV : Nat → Nat} {a : Nat → Nat} {σ σ' : gS} {r : Int32} {x1 : Int32} {x2 : Int32} (hf : f_O_alter σ x1 x2 = some (r, σ')) {sz : Nat} : Met l y_O_alter w_O_alter { frames := 1, cells := 0, slots := 0, locals := 20 } (gPc X vwCl (gT cI cC cZ) aK aV (cW cI cC cZ a σ) sz [.ref (a 0), .int x1, .int x2]) (gQi X vwCl (cW cI cC cZ a σ) sz (fun r' (_ : Unit) => r' = r) (fun _ => cW cI cC cZ a σ')) 0 0 (va_A (cW cI cC cZ a σ) sz) := by
  refine g_met (cc := b_O_alter) (maxL := 3) (ret := (some .boolean)) (by decide) rfl (Nat.le_of_ble_eq_true rfl) ?_
  intro p e s m below meth c A ls hx hb hr hml hown hts hlocks hnm hsz hAe hA hP hK hD hS hl hE
  have hown : s.vm.findClass R_O = some m.cls := hown
  have u_0 : ∀ w ∈ u_ws R_O T_O 8, w ∈ w_O_alter := fun w h => List.mem_cons_of_mem _ (tu_O w h)
  have u_1 : ∀ w ∈ u_ws R_P T_P 2, w ∈ w_O_alter := fun w h => List.mem_cons_of_mem _ (tu_P w h)
  have k_0 := hts (.fieldLink R_O 19 "GraphPages" "page" "LGraphPages$Page;") (List.mem_cons_of_mem _ tb_365)
  have k_1 := hts (.fieldLink R_O 134 "GraphPages$Page" "end" "I") (List.mem_cons_of_mem _ tb_366)
  have k_2 := hts (.fieldLink R_O 159 "GraphPages$Page" "characters" "[C") (List.mem_cons_of_mem _ tb_384)
  unfold f_O_alter at hf
  refine lv_iload_n hx hb d_O_alter_0 rfl (lv_at hl 1 rfl) ?_
  refine lv_if_lt (tgt := 22) hx hb d_O_alter_1 rfl (fun c1 => ?_) (fun c1 => ?_)
  · skip
    rw [if_pos c1] at hf
    refine lv_iconst (v := 0) hx hb d_O_alter_22 (by decide) ?_
    obtain ⟨rfl, rfl⟩ := gRt_e hf
    exact g_zret hx hb hr hlocks rfl hAe hS () rfl hP d_O_alter_23
  rw [if_neg c1] at hf
  refine lv_iload_n hx hb d_O_alter_4 rfl (lv_at hl 1 rfl) ?_
  refine lv_aload_n hx hb d_O_alter_5 rfl (lv_at hl 0 rfl) ?_
  refine va_get (D := X) (ci := 8) (C := R_O) (T := T_O) (N := 8) hx hb hts u_0 hown hK hP 0 gc_0 rfl 1 (by decide) k_0 (fun _ h9 => h9) rfl d_O_alter_6 ?_
  refine va_get (D := X) (ci := 5) (C := R_P) (T := T_P) (N := 2) hx hb hts u_1 hown hK hP 7 gc_7 rfl 0 (by decide) k_1 (fun _ h9 => h9) rfl d_O_alter_9 ?_
  refine lv_icmp_ge (tgt := 22) hx hb d_O_alter_12 rfl (fun c2 => ?_) (fun c2 => ?_)
  · skip
    rw [if_pos c2] at hf
    refine lv_iconst (v := 0) hx hb d_O_alter_22 (by decide) ?_
    obtain ⟨rfl, rfl⟩ := gRt_e hf
    exact g_zret hx hb hr hlocks rfl hAe hS () rfl hP d_O_alter_23
  rw [if_neg c2] at hf
  refine lv_iload_n hx hb d_O_alter_15 rfl (lv_at hl 2 rfl) ?_
  obtain ⟨y3, σ4, e5, hf⟩ := gBd_e hf
  refine g_wi (va_runS ⟨hx, hb, hml, hown, hts⟩ (m_O_isPrintable e5) (cwS 1 hts (gG3 (fun _ h => List.mem_cons_of_mem _ h) tb_342 tb_76 tb_39 tc_O_isPrintable) rfl rfl rfl (by decide +kernel) ⟨Nat.le_of_ble_eq_true rfl, Nat.le_of_ble_eq_true rfl⟩) (g_preSW hE hK hP hD hS hA) rfl rfl hl.1 rfl (lv_room (Nat.le_of_ble_eq_true rfl)) d_O_alter_16 ⟨Nat.zero_le _, Nat.zero_le _⟩) hD hS hA (fun _ => cW_fst) (fun y3 _ H locs hu hP hD hS => ?_)
  subst hu
  refine lv_if_ne (tgt := 24) hx hb d_O_alter_19 rfl (fun c6 => ?_) (fun c6 => ?_)
  · skip
    rw [if_neg c6] at hf
    refine lv_aload_n hx hb d_O_alter_24 rfl (lv_at hl 0 rfl) ?_
    refine va_get (D := X) (ci := 8) (C := R_O) (T := T_O) (N := 8) hx hb hts u_0 hown hK hP 0 gc_0 rfl 1 (by decide) k_0 (fun _ h9 => h9) rfl d_O_alter_25 ?_
    refine va_get (D := X) (ci := 5) (C := R_P) (T := T_P) (N := 2) hx hb hts u_1 hown hK hP 7 gc_7 rfl 1 (by decide) k_2 (fun _ h9 => h9) rfl d_O_alter_28 ?_
    refine lv_iload_n hx hb d_O_alter_31 rfl (lv_at hl 1 rfl) ?_
    refine lv_iload_n hx hb d_O_alter_32 rfl (lv_at hl 2 rfl) ?_
    obtain ⟨σ7, h8, e9, hf⟩ := gSt_e hf
    refine va_cast hx hb hK hP hD hS 8 1 gc_8 rfl h8 d_O_alter_33 (fun H locs hP hD hS => ?_)
    rw [sc_8, ← e9] at hP hD
    refine lv_iconst (v := 1) hx hb d_O_alter_34 (by decide) ?_
    obtain ⟨rfl, rfl⟩ := gRt_e hf
    exact g_zret hx hb hr hlocks rfl hAe hS () rfl hP d_O_alter_35
  rw [if_pos c6] at hf
  refine lv_iconst (v := 0) hx hb d_O_alter_22 (by decide) ?_
  obtain ⟨rfl, rfl⟩ := gRt_e hf
  exact g_zret hx hb hr hlocks rfl hAe hS () rfl hP d_O_alter_23

def f_O_cut (σ : gS) (x1 : Int32) : Option (Int32 × gS) := if x1 < 0 then (some (0, σ)) else (if x1 ≤ (σ.1 1) then (gPut σ 1 x1 (fun σ3 => some (1, σ3))) else (some (0, σ)))
set_option maxHeartbeats 4000000 in
set_option maxRecDepth 100000 in
theorem m_O_cut {l : Launch} {X : va_G} {cI cC cZ : ClassId} {aK aV : Nat → Nat} {a : Nat → Nat} {σ σ' : gS} {r : Int32} {x1 : Int32} (hf : f_O_cut σ x1 = some (r, σ')) {sz : Nat} : Met l y_O_cut w_O_cut { frames := 0, cells := 0, slots := 0, locals := 0 } (gPc X vwCl (gT cI cC cZ) aK aV (cW cI cC cZ a σ) sz [.ref (a 0), .int x1]) (gQi X vwCl (cW cI cC cZ a σ) sz (fun r' (_ : Unit) => r' = r) (fun _ => cW cI cC cZ a σ')) 0 0 (va_A (cW cI cC cZ a σ) sz) := by
  refine g_met (cc := b_O_cut) (maxL := 2) (ret := (some .boolean)) (by decide) rfl (Nat.le_of_ble_eq_true rfl) ?_
  intro p e s m below meth c A ls hx hb hr hml hown hts hlocks hnm hsz hAe hA hP hK hD hS hl hE
  have hown : s.vm.findClass R_O = some m.cls := hown
  have u_0 : ∀ w ∈ u_ws R_O T_O 8, w ∈ w_O_cut := fun w h => List.mem_cons_of_mem _ (tu_O w h)
  have u_1 : ∀ w ∈ u_ws R_P T_P 2, w ∈ w_O_cut := fun w h => List.mem_cons_of_mem _ (tu_P w h)
  have k_0 := hts (.fieldLink R_O 19 "GraphPages" "page" "LGraphPages$Page;") (List.mem_cons_of_mem _ tb_365)
  have k_1 := hts (.fieldLink R_O 134 "GraphPages$Page" "end" "I") (List.mem_cons_of_mem _ tb_366)
  unfold f_O_cut at hf
  refine lv_iload_n hx hb d_O_cut_0 rfl (lv_at hl 1 rfl) ?_
  refine lv_if_lt (tgt := 15) hx hb d_O_cut_1 rfl (fun c1 => ?_) (fun c1 => ?_)
  · skip
    rw [if_pos c1] at hf
    refine lv_iconst (v := 0) hx hb d_O_cut_15 (by decide) ?_
    obtain ⟨rfl, rfl⟩ := gRt_e hf
    exact g_zret hx hb hr hlocks rfl hAe hS () rfl hP d_O_cut_16
  rw [if_neg c1] at hf
  refine lv_iload_n hx hb d_O_cut_4 rfl (lv_at hl 1 rfl) ?_
  refine lv_aload_n hx hb d_O_cut_5 rfl (lv_at hl 0 rfl) ?_
  refine va_get (D := X) (ci := 8) (C := R_O) (T := T_O) (N := 8) hx hb hts u_0 hown hK hP 0 gc_0 rfl 1 (by decide) k_0 (fun _ h9 => h9) rfl d_O_cut_6 ?_
  refine va_get (D := X) (ci := 5) (C := R_P) (T := T_P) (N := 2) hx hb hts u_1 hown hK hP 7 gc_7 rfl 0 (by decide) k_1 (fun _ h9 => h9) rfl d_O_cut_9 ?_
  refine lv_icmp_le (tgt := 17) hx hb d_O_cut_12 rfl (fun c2 => ?_) (fun c2 => ?_)
  · skip
    rw [if_pos c2] at hf
    refine lv_aload_n hx hb d_O_cut_17 rfl (lv_at hl 0 rfl) ?_
    refine va_get (D := X) (ci := 8) (C := R_O) (T := T_O) (N := 8) hx hb hts u_0 hown hK hP 0 gc_0 rfl 1 (by decide) k_0 (fun _ h9 => h9) rfl d_O_cut_18 ?_
    refine lv_iload_n hx hb d_O_cut_21 rfl (lv_at hl 1 rfl) ?_
    obtain ⟨σ3, e4, hf⟩ := gPut_e hf
    refine va_put (D := X) (ci := 5) (ty := .int) (C := R_P) (T := T_P) (N := 2) hx hb hts u_1 t_P t_P_ok n_P hown hK hP hD hS 7 gc_7 rfl 0 (by decide) k_1 (fun _ h9 => h9) rfl (by decide +kernel) rfl rfl (Nat.le_of_ble_eq_true rfl) d_O_cut_22 (fun H locs hP hD hS => ?_)
    rw [sc_7_0, ← e4] at hP hD
    refine lv_iconst (v := 1) hx hb d_O_cut_25 (by decide) ?_
    obtain ⟨rfl, rfl⟩ := gRt_e hf
    exact g_zret hx hb hr hlocks rfl hAe hS () rfl hP d_O_cut_26
  rw [if_neg c2] at hf
  refine lv_iconst (v := 0) hx hb d_O_cut_15 (by decide) ?_
  obtain ⟨rfl, rfl⟩ := gRt_e hf
  exact g_zret hx hb hr hlocks rfl hAe hS () rfl hP d_O_cut_16
