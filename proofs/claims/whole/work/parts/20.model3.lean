def B_M_must_0 (rec : Nat → List Int32 → gS → Option (Int32 × gS)) (σ0 : gS) : Option (Int32 × gS) := rec 1 [1] σ0
def B_M_must_1 (rec : Nat → List Int32 → gS → Option (Int32 × gS)) (x1 : Int32) (σ0 : gS) : Option (Int32 × gS) := if (σ0.1 2) ≤ x1 then (some (0, σ0)) else (gLd σ0 9 420 x1 (fun y2 => if y2 = 0 then (gLd σ0 8 420 x1 (fun y6 => if y6 = 8 then (gBd (f_M_isOne σ0 x1 13) (fun y10 σ11 => if y10 = 0 then (rec 2 [x1] σ11) else (gBd (f_M_countIn σ11 x1 11) (fun y14 σ15 => if y14 < 0 then (some (1, σ15)) else (if 31 < y14 then (some (1, σ15)) else (gLd σ15 6 32 y14 (fun y19 => if y19 = 0 then (some (1, σ15)) else (rec 2 [x1] σ15)))))))) else (rec 2 [x1] σ0))) else (rec 2 [x1] σ0)))
def B_M_must_2 (rec : Nat → List Int32 → gS → Option (Int32 × gS)) (x1 : Int32) (σ0 : gS) : Option (Int32 × gS) := rec 1 [(x1 + 1)] σ0
def S_M_must (rec : Nat → List Int32 → gS → Option (Int32 × gS)) (k : Nat) (l : List Int32) (σ0 : gS) : Option (Int32 × gS) := match k, l with
  | 0, [] => B_M_must_0 rec  σ0
  | 1, [x1] => B_M_must_1 rec x1 σ0
  | 2, [x1] => B_M_must_2 rec x1 σ0
  | _, _ => none
def R_M_must : Nat → Nat → List Int32 → gS → Option (Int32 × gS)
  | 0 => fun _ _ _ => none
  | t + 1 => fun k l σ0 => S_M_must (R_M_must t) k l σ0
def f_M_must (σ : gS) : Option (Int32 × gS) := R_M_must gFuel 0 [] σ
set_option maxHeartbeats 4000000 in
set_option maxRecDepth 100000 in
theorem m_M_must {l : Launch} {X : va_G} {cI cC cZ : ClassId} {aK aV : Nat → Nat} {b : Nat → Nat} {σ σ' : gS} {r : Int32} (hf : f_M_must σ = some (r, σ')) {sz : Nat} : Met l y_M_must w_M_must { frames := 2, cells := 0, slots := 0, locals := 47 } (gPc X vwCl (gT cI cC cZ) aK aV (mW cI cC cZ b σ) sz [.ref (b 0)]) (gQi X vwCl (mW cI cC cZ b σ) sz (fun r' (_ : Unit) => r' = r) (fun _ => mW cI cC cZ b σ')) 0 0 (va_A (mW cI cC cZ b σ) sz) := by
  refine g_met (cc := b_M_must) (maxL := 3) (ret := (some .boolean)) (by decide) rfl (Nat.le_of_ble_eq_true rfl) ?_
  intro p e s m below meth c A ls hx hb hr hml hown hts hlocks hnm hsz hAe hA hP hK hD hS hl hE
  have hown : s.vm.findClass R_M = some m.cls := hown
  have u_0 : ∀ w ∈ u_ws R_M T_M 35, w ∈ w_M_must := fun w h => List.mem_cons_of_mem _ (tu_M w h)
  have k_0 := hts (.fieldLink R_M 163 "GraphPagesModel" "elements" "I") (List.mem_cons_of_mem _ tb_465)
  have k_1 := hts (.fieldLink R_M 36 "GraphPagesModel" "parent" "[I") (List.mem_cons_of_mem _ tb_451)
  have k_2 := hts (.fieldLink R_M 33 "GraphPagesModel" "name" "[I") (List.mem_cons_of_mem _ tb_450)
  have k_3 := hts (.fieldLink R_M 25 "GraphPagesModel" "known" "[Z") (List.mem_cons_of_mem _ tb_486)
  unfold f_M_must at hf
  have key : ∀ t : Nat, (∀ (σ0 : gS) (H : Heap) (locs : List Loc) (ls : Array Slot), R_M_must t 0 [] σ0 = some (r, σ') → va_P X vwCl (mW cI cC cZ b σ0) H → va_D A (mW cI cC cZ b σ0) → va_S A s.heap H locs → lv_has ls 3 [(0, .ref (b 0))] → W p l e (headSpec w_M_must { frames := 2, cells := 0, slots := 0, locals := 47 }).room s m [.ref (b 0)].toArray below meth c H locs 0 0 (MQ below (gQi X vwCl (mW cI cC cZ b σ) sz (fun r' (_ : Unit) => r' = r) (fun _ => mW cI cC cZ b σ')) [.ref (b 0)].toArray s 0 0 (va_A (mW cI cC cZ b σ) sz)) (F0 m 0 ls [])) ∧ (∀ (x1 : Int32) (σ0 : gS) (H : Heap) (locs : List Loc) (ls : Array Slot), R_M_must t 1 [x1] σ0 = some (r, σ') → va_P X vwCl (mW cI cC cZ b σ0) H → va_D A (mW cI cC cZ b σ0) → va_S A s.heap H locs → lv_has ls 3 [(0, .ref (b 0)), (1, .int x1)] → W p l e (headSpec w_M_must { frames := 2, cells := 0, slots := 0, locals := 47 }).room s m [.ref (b 0)].toArray below meth c H locs 0 0 (MQ below (gQi X vwCl (mW cI cC cZ b σ) sz (fun r' (_ : Unit) => r' = r) (fun _ => mW cI cC cZ b σ')) [.ref (b 0)].toArray s 0 0 (va_A (mW cI cC cZ b σ) sz)) (F0 m 2 ls [])) ∧ (∀ (x1 : Int32) (σ0 : gS) (H : Heap) (locs : List Loc) (ls : Array Slot), R_M_must t 2 [x1] σ0 = some (r, σ') → va_P X vwCl (mW cI cC cZ b σ0) H → va_D A (mW cI cC cZ b σ0) → va_S A s.heap H locs → lv_has ls 3 [(0, .ref (b 0)), (1, .int x1)] → W p l e (headSpec w_M_must { frames := 2, cells := 0, slots := 0, locals := 47 }).room s m [.ref (b 0)].toArray below meth c H locs 0 0 (MQ below (gQi X vwCl (mW cI cC cZ b σ) sz (fun r' (_ : Unit) => r' = r) (fun _ => mW cI cC cZ b σ')) [.ref (b 0)].toArray s 0 0 (va_A (mW cI cC cZ b σ) sz)) (F0 m 72 ls [])) := by
    intro t
    induction t with
    | zero => exact ⟨fun  _ _ _ _ hf => (by have hf : (none : Option (Int32 × gS)) = some (r, σ') := hf; cases hf), fun _ _ _ _ _ hf => (by have hf : (none : Option (Int32 × gS)) = some (r, σ') := hf; cases hf), fun _ _ _ _ _ hf => (by have hf : (none : Option (Int32 × gS)) = some (r, σ') := hf; cases hf)⟩
    | succ t ih =>
      obtain ⟨ih0, ih1, ih2⟩ := ih
      refine ⟨?_, ?_, ?_⟩
      · intro  σ0 H locs ls hf hP hD hS hl
        have hf : B_M_must_0 (R_M_must t)  σ0 = some (r, σ') := hf
        unfold B_M_must_0 at hf
        refine lv_iconst (v := 1) hx hb d_M_must_0 (by decide) ?_
        refine lv_istore_n hx hb d_M_must_1 rfl hl (by decide) rfl (fun ls hl => ?_)
        exact ih1 (1) σ0 _ _ _ hf hP hD hS (lv_sub hl [1, 0] rfl)
      · intro x1 σ0 H locs ls hf hP hD hS hl
        have hf : B_M_must_1 (R_M_must t) x1 σ0 = some (r, σ') := hf
        unfold B_M_must_1 at hf
        refine lv_iload_n hx hb d_M_must_2 rfl (lv_at hl 1 rfl) ?_
        refine lv_aload_n hx hb d_M_must_3 rfl (lv_at hl 0 rfl) ?_
        refine va_get (D := X) (ci := 9) (C := R_M) (T := T_M) (N := 35) hx hb hts u_0 hown hK hP 0 gm_0 rfl 9 (by decide) k_0 (fun _ h9 => h9) rfl d_M_must_4 ?_
        refine lv_icmp_ge (tgt := 78) hx hb d_M_must_7 rfl (fun c1 => ?_) (fun c1 => ?_)
        · skip
          rw [if_pos c1] at hf
          refine lv_iconst (v := 0) hx hb d_M_must_78 (by decide) ?_
          obtain ⟨rfl, rfl⟩ := gRt_e hf
          exact g_zret hx hb hr hlocks rfl hAe hS () rfl hP d_M_must_79
        rw [if_neg c1] at hf
        refine lv_aload_n hx hb d_M_must_10 rfl (lv_at hl 0 rfl) ?_
        refine va_get (D := X) (ci := 9) (C := R_M) (T := T_M) (N := 35) hx hb hts u_0 hown hK hP 0 gm_0 rfl 11 (by decide) k_1 (fun _ h9 => h9) rfl d_M_must_11 ?_
        refine lv_iload_n hx hb d_M_must_14 rfl (lv_at hl 1 rfl) ?_
        obtain ⟨y2, h3, e4, hf⟩ := gLd_e hf
        refine va_iald hx hb hK hP 9 0 gm_9 rfl h3 d_M_must_15 ?_
        rw [← e4]
        refine lv_if_ne (tgt := 72) hx hb d_M_must_16 rfl (fun c5 => ?_) (fun c5 => ?_)
        · skip
          rw [if_neg c5] at hf
          exact ih2 (x1) σ0 _ _ _ hf hP hD hS (lv_sub hl [0, 1] rfl)
        rw [if_pos c5] at hf
        refine lv_aload_n hx hb d_M_must_19 rfl (lv_at hl 0 rfl) ?_
        refine va_get (D := X) (ci := 9) (C := R_M) (T := T_M) (N := 35) hx hb hts u_0 hown hK hP 0 gm_0 rfl 10 (by decide) k_2 (fun _ h9 => h9) rfl d_M_must_20 ?_
        refine lv_iload_n hx hb d_M_must_23 rfl (lv_at hl 1 rfl) ?_
        obtain ⟨y6, h7, e8, hf⟩ := gLd_e hf
        refine va_iald hx hb hK hP 8 0 gm_8 rfl h7 d_M_must_24 ?_
        rw [← e8]
        refine lv_bipush (v := 8) hx hb d_M_must_25 (by decide) ?_
        refine lv_icmp_ne (tgt := 72) hx hb d_M_must_27 rfl (fun c9 => ?_) (fun c9 => ?_)
        · skip
          rw [if_neg c9] at hf
          exact ih2 (x1) σ0 _ _ _ hf hP hD hS (lv_sub hl [0, 1] rfl)
        rw [if_pos c9] at hf
        refine lv_aload_n hx hb d_M_must_30 rfl (lv_at hl 0 rfl) ?_
        refine lv_iload_n hx hb d_M_must_31 rfl (lv_at hl 1 rfl) ?_
        refine lv_bipush (v := 13) hx hb d_M_must_32 (by decide) ?_
        obtain ⟨y10, σ11, e12, hf⟩ := gBd_e hf
        refine g_wi (va_runV ⟨hx, hb, hml, hown, hts⟩ (m_M_isOne e12) (cwV 2 hts (gG4 (fun _ h => List.mem_cons_of_mem _ h) tb_480 tb_481 tb_482 tb_392 tc_M_isOne) rfl rfl rfl (by decide +kernel) ⟨Nat.le_of_ble_eq_true rfl, Nat.le_of_ble_eq_true rfl⟩) (g_preVW (q0 := 0) hE hK hP hD hS hA gm_0 rfl) rfl rfl hl.1 rfl (lv_room (Nat.le_of_ble_eq_true rfl)) d_M_must_34 ⟨Nat.zero_le _, Nat.zero_le _⟩) hD hS hA (fun _ => mW_fst) (fun y10 _ H locs hu hP hD hS => ?_)
        subst hu
        refine lv_if_ne (tgt := 43) hx hb d_M_must_37 rfl (fun c13 => ?_) (fun c13 => ?_)
        · skip
          rw [if_neg c13] at hf
          refine lv_aload_n hx hb d_M_must_43 rfl (lv_at hl 0 rfl) ?_
          refine lv_iload_n hx hb d_M_must_44 rfl (lv_at hl 1 rfl) ?_
          refine lv_bipush (v := 11) hx hb d_M_must_45 (by decide) ?_
          obtain ⟨y14, σ15, e16, hf⟩ := gBd_e hf
          refine g_wi (va_runV ⟨hx, hb, hml, hown, hts⟩ (m_M_countIn e16) (cwV 2 hts (gG4 (fun _ h => List.mem_cons_of_mem _ h) tb_483 tb_484 tb_485 tb_392 tc_M_countIn) rfl rfl rfl (by decide +kernel) ⟨Nat.le_of_ble_eq_true rfl, Nat.le_of_ble_eq_true rfl⟩) (g_preVW (q0 := 0) hE hK hP hD hS hA gm_0 rfl) rfl rfl hl.1 rfl (lv_room (Nat.le_of_ble_eq_true rfl)) d_M_must_47 ⟨Nat.zero_le _, Nat.zero_le _⟩) hD hS hA (fun _ => mW_fst) (fun y14 _ H locs hu hP hD hS => ?_)
          subst hu
          refine lv_istore_n hx hb d_M_must_50 rfl hl (by decide) rfl (fun ls hl => ?_)
          refine lv_iload_n hx hb d_M_must_51 rfl (lv_at hl 0 rfl) ?_
          refine lv_if_lt (tgt := 70) hx hb d_M_must_52 rfl (fun c17 => ?_) (fun c17 => ?_)
          · skip
            rw [if_pos c17] at hf
            refine lv_iconst (v := 1) hx hb d_M_must_70 (by decide) ?_
            obtain ⟨rfl, rfl⟩ := gRt_e hf
            exact g_zret hx hb hr hlocks rfl hAe hS () rfl hP d_M_must_71
          rw [if_neg c17] at hf
          refine lv_iload_n hx hb d_M_must_55 rfl (lv_at hl 0 rfl) ?_
          refine lv_bipush (v := 31) hx hb d_M_must_56 (by decide) ?_
          refine lv_icmp_gt (tgt := 70) hx hb d_M_must_58 rfl (fun c18 => ?_) (fun c18 => ?_)
          · skip
            rw [if_pos c18] at hf
            refine lv_iconst (v := 1) hx hb d_M_must_70 (by decide) ?_
            obtain ⟨rfl, rfl⟩ := gRt_e hf
            exact g_zret hx hb hr hlocks rfl hAe hS () rfl hP d_M_must_71
          rw [if_neg c18] at hf
          refine lv_aload_n hx hb d_M_must_61 rfl (lv_at hl 1 rfl) ?_
          refine va_get (D := X) (ci := 9) (C := R_M) (T := T_M) (N := 35) hx hb hts u_0 hown hK hP 0 gm_0 rfl 6 (by decide) k_3 (fun _ h9 => h9) rfl d_M_must_62 ?_
          refine lv_iload_n hx hb d_M_must_65 rfl (lv_at hl 0 rfl) ?_
          obtain ⟨y19, h20, e21, hf⟩ := gLd_e hf
          refine va_zald hx hb hK hP 6 2 gm_6 rfl h20 d_M_must_66 ?_
          rw [← e21]
          refine lv_if_ne (tgt := 72) hx hb d_M_must_67 rfl (fun c22 => ?_) (fun c22 => ?_)
          · skip
            rw [if_neg c22] at hf
            exact ih2 (x1) σ15 _ _ _ hf hP hD hS (lv_sub hl [1, 2] rfl)
          rw [if_pos c22] at hf
          refine lv_iconst (v := 1) hx hb d_M_must_70 (by decide) ?_
          obtain ⟨rfl, rfl⟩ := gRt_e hf
          exact g_zret hx hb hr hlocks rfl hAe hS () rfl hP d_M_must_71
        rw [if_pos c13] at hf
        refine lv_goto (tgt := 72) hx hb d_M_must_40 rfl ?_
        exact ih2 (x1) σ11 _ _ _ hf hP hD hS (lv_sub hl [0, 1] rfl)
      · intro x1 σ0 H locs ls hf hP hD hS hl
        have hf : B_M_must_2 (R_M_must t) x1 σ0 = some (r, σ') := hf
        unfold B_M_must_2 at hf
        refine lv_iinc (k := 1) (v := (x1 + 1)) hx hb d_M_must_72 hl rfl (by rw [show Int32.ofInt (1) = (1 : Int32) by decide]) (by decide) rfl (fun ls hl => ?_)
        refine lv_goto (tgt := 2) hx hb d_M_must_75 rfl ?_
        exact ih1 ((x1 + 1)) σ0 _ _ _ hf hP hD hS (lv_sub hl [1, 0] rfl)
  exact (key gFuel).1  σ _ _ _ hf hP hD hS hl

def f_M_isObject (σ : gS) (x1 : Int32) : Option (Int32 × gS) := gLd σ 8 420 x1 (fun y1 => if y1 = 16 then (some (1, σ)) else (gLd σ 8 420 x1 (fun y5 => if y5 = 1 then (some (1, σ)) else (gLd σ 8 420 x1 (fun y9 => if y9 = 20 then (some (1, σ)) else (some (0, σ)))))))
set_option maxHeartbeats 4000000 in
set_option maxRecDepth 100000 in
theorem m_M_isObject {l : Launch} {X : va_G} {cI cC cZ : ClassId} {aK aV : Nat → Nat} {b : Nat → Nat} {σ σ' : gS} {r : Int32} {x1 : Int32} (hf : f_M_isObject σ x1 = some (r, σ')) {sz : Nat} : Met l y_M_isObject w_M_isObject { frames := 0, cells := 0, slots := 0, locals := 0 } (gPc X vwCl (gT cI cC cZ) aK aV (mW cI cC cZ b σ) sz [.ref (b 0), .int x1]) (gQi X vwCl (mW cI cC cZ b σ) sz (fun r' (_ : Unit) => r' = r) (fun _ => mW cI cC cZ b σ')) 0 0 (va_A (mW cI cC cZ b σ) sz) := by
  refine g_met (cc := b_M_isObject) (maxL := 2) (ret := (some .boolean)) (by decide) rfl (Nat.le_of_ble_eq_true rfl) ?_
  intro p e s m below meth c A ls hx hb hr hml hown hts hlocks hnm hsz hAe hA hP hK hD hS hl hE
  have hown : s.vm.findClass R_M = some m.cls := hown
  have u_0 : ∀ w ∈ u_ws R_M T_M 35, w ∈ w_M_isObject := fun w h => List.mem_cons_of_mem _ (tu_M w h)
  have k_0 := hts (.fieldLink R_M 33 "GraphPagesModel" "name" "[I") (List.mem_cons_of_mem _ tb_450)
  unfold f_M_isObject at hf
  refine lv_aload_n hx hb d_M_isObject_0 rfl (lv_at hl 0 rfl) ?_
  refine va_get (D := X) (ci := 9) (C := R_M) (T := T_M) (N := 35) hx hb hts u_0 hown hK hP 0 gm_0 rfl 10 (by decide) k_0 (fun _ h9 => h9) rfl d_M_isObject_1 ?_
  refine lv_iload_n hx hb d_M_isObject_4 rfl (lv_at hl 1 rfl) ?_
  obtain ⟨y1, h2, e3, hf⟩ := gLd_e hf
  refine va_iald hx hb hK hP 8 0 gm_8 rfl h2 d_M_isObject_5 ?_
  rw [← e3]
  refine lv_bipush (v := 16) hx hb d_M_isObject_6 (by decide) ?_
  refine lv_icmp_eq (tgt := 32) hx hb d_M_isObject_8 rfl (fun c4 => ?_) (fun c4 => ?_)
  · skip
    rw [if_pos c4] at hf
    refine lv_iconst (v := 1) hx hb d_M_isObject_32 (by decide) ?_
    refine lv_goto (tgt := 37) hx hb d_M_isObject_33 rfl ?_
    obtain ⟨rfl, rfl⟩ := gRt_e hf
    exact g_zret hx hb hr hlocks rfl hAe hS () rfl hP d_M_isObject_37
  rw [if_neg c4] at hf
  refine lv_aload_n hx hb d_M_isObject_11 rfl (lv_at hl 0 rfl) ?_
  refine va_get (D := X) (ci := 9) (C := R_M) (T := T_M) (N := 35) hx hb hts u_0 hown hK hP 0 gm_0 rfl 10 (by decide) k_0 (fun _ h9 => h9) rfl d_M_isObject_12 ?_
  refine lv_iload_n hx hb d_M_isObject_15 rfl (lv_at hl 1 rfl) ?_
  obtain ⟨y5, h6, e7, hf⟩ := gLd_e hf
  refine va_iald hx hb hK hP 8 0 gm_8 rfl h6 d_M_isObject_16 ?_
  rw [← e7]
  refine lv_iconst (v := 1) hx hb d_M_isObject_17 (by decide) ?_
  refine lv_icmp_eq (tgt := 32) hx hb d_M_isObject_18 rfl (fun c8 => ?_) (fun c8 => ?_)
  · skip
    rw [if_pos c8] at hf
    refine lv_iconst (v := 1) hx hb d_M_isObject_32 (by decide) ?_
    refine lv_goto (tgt := 37) hx hb d_M_isObject_33 rfl ?_
    obtain ⟨rfl, rfl⟩ := gRt_e hf
    exact g_zret hx hb hr hlocks rfl hAe hS () rfl hP d_M_isObject_37
  rw [if_neg c8] at hf
  refine lv_aload_n hx hb d_M_isObject_21 rfl (lv_at hl 0 rfl) ?_
  refine va_get (D := X) (ci := 9) (C := R_M) (T := T_M) (N := 35) hx hb hts u_0 hown hK hP 0 gm_0 rfl 10 (by decide) k_0 (fun _ h9 => h9) rfl d_M_isObject_22 ?_
  refine lv_iload_n hx hb d_M_isObject_25 rfl (lv_at hl 1 rfl) ?_
  obtain ⟨y9, h10, e11, hf⟩ := gLd_e hf
  refine va_iald hx hb hK hP 8 0 gm_8 rfl h10 d_M_isObject_26 ?_
  rw [← e11]
  refine lv_bipush (v := 20) hx hb d_M_isObject_27 (by decide) ?_
  refine lv_icmp_ne (tgt := 36) hx hb d_M_isObject_29 rfl (fun c12 => ?_) (fun c12 => ?_)
  · skip
    rw [if_neg c12] at hf
    refine lv_iconst (v := 0) hx hb d_M_isObject_36 (by decide) ?_
    obtain ⟨rfl, rfl⟩ := gRt_e hf
    exact g_zret hx hb hr hlocks rfl hAe hS () rfl hP d_M_isObject_37
  rw [if_pos c12] at hf
  refine lv_iconst (v := 1) hx hb d_M_isObject_32 (by decide) ?_
  refine lv_goto (tgt := 37) hx hb d_M_isObject_33 rfl ?_
  obtain ⟨rfl, rfl⟩ := gRt_e hf
  exact g_zret hx hb hr hlocks rfl hAe hS () rfl hP d_M_isObject_37

def B_M_body_0 (rec : Nat → List Int32 → gS → Option (Int32 × gS)) (σ0 : gS) : Option (Int32 × gS) := gLd σ0 11 420 0 (fun y1 => if y1 = 1 then (gLd σ0 12 420 0 (fun y5 => if y5 = 0 then (rec 1 [(-1), 1] σ0) else (some ((-1), σ0)))) else (some ((-1), σ0)))
def B_M_body_1 (rec : Nat → List Int32 → gS → Option (Int32 × gS)) (x1 : Int32) (x2 : Int32) (σ0 : gS) : Option (Int32 × gS) := if (σ0.1 2) ≤ x2 then (if x1 < 0 then (some ((-1), σ0)) else (gLd σ0 11 420 x1 (fun y11 => if y11 = 0 then (gLd σ0 12 420 x1 (fun y15 => if y15 = 0 then (if (x1 + 1) = (σ0.1 2) then (some ((-1), σ0)) else (rec 5 [x1, (x1 + 1)] σ0)) else (some ((-1), σ0)))) else (some ((-1), σ0))))) else (gLd σ0 9 420 x2 (fun y20 => if y20 = 0 then (if 0 ≤ x1 then (some ((-1), σ0)) else (gLd σ0 8 420 x2 (fun y25 => if y25 = 8 then (rec 2 [x2] σ0) else (gLd σ0 8 420 x2 (fun y29 => if y29 = 2 then (rec 2 [x2] σ0) else (some ((-1), σ0))))))) else (rec 4 [x1, x2] σ0)))
def B_M_body_2 (rec : Nat → List Int32 → gS → Option (Int32 × gS)) (x2 : Int32) (σ0 : gS) : Option (Int32 × gS) := gLd σ0 8 420 x2 (fun y33 => if y33 = 2 then (rec 3 [x2, x2] σ0) else (rec 3 [x2, (-1)] σ0))
def B_M_body_3 (rec : Nat → List Int32 → gS → Option (Int32 × gS)) (x2 : Int32) (z0 : Int32) (σ0 : gS) : Option (Int32 × gS) := rec 4 [z0, x2] σ0
def B_M_body_4 (rec : Nat → List Int32 → gS → Option (Int32 × gS)) (x1 : Int32) (x2 : Int32) (σ0 : gS) : Option (Int32 × gS) := rec 1 [x1, (x2 + 1)] σ0
def B_M_body_5 (rec : Nat → List Int32 → gS → Option (Int32 × gS)) (x1 : Int32) (x2 : Int32) (σ0 : gS) : Option (Int32 × gS) := if (σ0.1 2) ≤ x2 then (some (x1, σ0)) else (gLd σ0 9 420 x2 (fun y38 => if y38 = x1 then (gBd (f_M_isObject σ0 x2) (fun y42 σ43 => if y42 = 0 then (rec 6 [x1, x2] σ43) else (if x2 = (x1 + 1) then (rec 7 [x1, x2] σ43) else (gBd (f_M_attr σ43 x2 247) (fun y47 σ48 => if 0 ≤ y47 then (rec 7 [x1, x2] σ48) else (rec 6 [x1, x2] σ48)))))) else (rec 10 [x1, x2] σ0)))
def B_M_body_6 (rec : Nat → List Int32 → gS → Option (Int32 × gS)) (x1 : Int32) (x2 : Int32) (σ0 : gS) : Option (Int32 × gS) := if x2 = (x1 + 1) then (gLd σ0 8 420 x2 (fun y52 => if y52 = 18 then (rec 7 [x1, x2] σ0) else (rec 8 [x1, x2] σ0))) else (rec 8 [x1, x2] σ0)
def B_M_body_7 (rec : Nat → List Int32 → gS → Option (Int32 × gS)) (x1 : Int32) (x2 : Int32) (σ0 : gS) : Option (Int32 × gS) := rec 9 [x1, x2, 1] σ0
def B_M_body_8 (rec : Nat → List Int32 → gS → Option (Int32 × gS)) (x1 : Int32) (x2 : Int32) (σ0 : gS) : Option (Int32 × gS) := rec 9 [x1, x2, 0] σ0
def B_M_body_9 (rec : Nat → List Int32 → gS → Option (Int32 × gS)) (x1 : Int32) (x2 : Int32) (z0 : Int32) (σ0 : gS) : Option (Int32 × gS) := if z0 = 0 then (some ((-1), σ0)) else (rec 10 [x1, x2] σ0)
def B_M_body_10 (rec : Nat → List Int32 → gS → Option (Int32 × gS)) (x1 : Int32) (x2 : Int32) (σ0 : gS) : Option (Int32 × gS) := rec 5 [x1, (x2 + 1)] σ0
def S_M_body (rec : Nat → List Int32 → gS → Option (Int32 × gS)) (k : Nat) (l : List Int32) (σ0 : gS) : Option (Int32 × gS) := match k, l with
  | 0, [] => B_M_body_0 rec  σ0
  | 1, [x1, x2] => B_M_body_1 rec x1 x2 σ0
  | 2, [x2] => B_M_body_2 rec x2 σ0
  | 3, [x2, z0] => B_M_body_3 rec x2 z0 σ0
  | 4, [x1, x2] => B_M_body_4 rec x1 x2 σ0
  | 5, [x1, x2] => B_M_body_5 rec x1 x2 σ0
  | 6, [x1, x2] => B_M_body_6 rec x1 x2 σ0
  | 7, [x1, x2] => B_M_body_7 rec x1 x2 σ0
  | 8, [x1, x2] => B_M_body_8 rec x1 x2 σ0
  | 9, [x1, x2, z0] => B_M_body_9 rec x1 x2 z0 σ0
  | 10, [x1, x2] => B_M_body_10 rec x1 x2 σ0
  | _, _ => none
def R_M_body : Nat → Nat → List Int32 → gS → Option (Int32 × gS)
  | 0 => fun _ _ _ => none
  | t + 1 => fun k l σ0 => S_M_body (R_M_body t) k l σ0
def f_M_body (σ : gS) : Option (Int32 × gS) := R_M_body gFuel 0 [] σ
set_option maxHeartbeats 4000000 in
set_option maxRecDepth 100000 in
theorem m_M_body {l : Launch} {X : va_G} {cI cC cZ : ClassId} {aK aV : Nat → Nat} {b : Nat → Nat} {σ σ' : gS} {r : Int32} (hf : f_M_body σ = some (r, σ')) {sz : Nat} : Met l y_M_body w_M_body { frames := 1, cells := 0, slots := 0, locals := 23 } (gPc X vwCl (gT cI cC cZ) aK aV (mW cI cC cZ b σ) sz [.ref (b 0)]) (gQi X vwCl (mW cI cC cZ b σ) sz (fun r' (_ : Unit) => r' = r) (fun _ => mW cI cC cZ b σ')) 0 0 (va_A (mW cI cC cZ b σ) sz) := by
  refine g_met (cc := b_M_body) (maxL := 4) (ret := (some .int)) (by decide) rfl (Nat.le_of_ble_eq_true rfl) ?_
  intro p e s m below meth c A ls hx hb hr hml hown hts hlocks hnm hsz hAe hA hP hK hD hS hl hE
  have hown : s.vm.findClass R_M = some m.cls := hown
  have u_0 : ∀ w ∈ u_ws R_M T_M 35, w ∈ w_M_body := fun w h => List.mem_cons_of_mem _ (tu_M w h)
  have k_0 := hts (.fieldLink R_M 42 "GraphPagesModel" "attrCount" "[I") (List.mem_cons_of_mem _ tb_453)
  have k_1 := hts (.fieldLink R_M 45 "GraphPagesModel" "textLength" "[I") (List.mem_cons_of_mem _ tb_466)
  have k_2 := hts (.fieldLink R_M 163 "GraphPagesModel" "elements" "I") (List.mem_cons_of_mem _ tb_465)
  have k_3 := hts (.fieldLink R_M 36 "GraphPagesModel" "parent" "[I") (List.mem_cons_of_mem _ tb_451)
  have k_4 := hts (.fieldLink R_M 33 "GraphPagesModel" "name" "[I") (List.mem_cons_of_mem _ tb_450)
  unfold f_M_body at hf
  have key : ∀ t : Nat, (∀ (σ0 : gS) (H : Heap) (locs : List Loc) (ls : Array Slot), R_M_body t 0 [] σ0 = some (r, σ') → va_P X vwCl (mW cI cC cZ b σ0) H → va_D A (mW cI cC cZ b σ0) → va_S A s.heap H locs → lv_has ls 4 [(0, .ref (b 0))] → W p l e (headSpec w_M_body { frames := 1, cells := 0, slots := 0, locals := 23 }).room s m [.ref (b 0)].toArray below meth c H locs 0 0 (MQ below (gQi X vwCl (mW cI cC cZ b σ) sz (fun r' (_ : Unit) => r' = r) (fun _ => mW cI cC cZ b σ')) [.ref (b 0)].toArray s 0 0 (va_A (mW cI cC cZ b σ) sz)) (F0 m 0 ls [])) ∧ (∀ (x1 : Int32) (x2 : Int32) (σ0 : gS) (H : Heap) (locs : List Loc) (ls : Array Slot), R_M_body t 1 [x1, x2] σ0 = some (r, σ') → va_P X vwCl (mW cI cC cZ b σ0) H → va_D A (mW cI cC cZ b σ0) → va_S A s.heap H locs → lv_has ls 4 [(0, .ref (b 0)), (1, .int x1), (2, .int x2)] → W p l e (headSpec w_M_body { frames := 1, cells := 0, slots := 0, locals := 23 }).room s m [.ref (b 0)].toArray below meth c H locs 0 0 (MQ below (gQi X vwCl (mW cI cC cZ b σ) sz (fun r' (_ : Unit) => r' = r) (fun _ => mW cI cC cZ b σ')) [.ref (b 0)].toArray s 0 0 (va_A (mW cI cC cZ b σ) sz)) (F0 m 25 ls [])) ∧ (∀ (x2 : Int32) (σ0 : gS) (H : Heap) (locs : List Loc) (ls : Array Slot), R_M_body t 2 [x2] σ0 = some (r, σ') → va_P X vwCl (mW cI cC cZ b σ0) H → va_D A (mW cI cC cZ b σ0) → va_S A s.heap H locs → lv_has ls 4 [(0, .ref (b 0)), (2, .int x2)] → W p l e (headSpec w_M_body { frames := 1, cells := 0, slots := 0, locals := 23 }).room s m [.ref (b 0)].toArray below meth c H locs 0 0 (MQ below (gQi X vwCl (mW cI cC cZ b σ) sz (fun r' (_ : Unit) => r' = r) (fun _ => mW cI cC cZ b σ')) [.ref (b 0)].toArray s 0 0 (va_A (mW cI cC cZ b σ) sz)) (F0 m 72 ls [])) ∧ (∀ (x2 : Int32) (z0 : Int32) (σ0 : gS) (H : Heap) (locs : List Loc) (ls : Array Slot), R_M_body t 3 [x2, z0] σ0 = some (r, σ') → va_P X vwCl (mW cI cC cZ b σ0) H → va_D A (mW cI cC cZ b σ0) → va_S A s.heap H locs → lv_has ls 4 [(0, .ref (b 0)), (2, .int x2)] → W p l e (headSpec w_M_body { frames := 1, cells := 0, slots := 0, locals := 23 }).room s m [.ref (b 0)].toArray below meth c H locs 0 0 (MQ below (gQi X vwCl (mW cI cC cZ b σ) sz (fun r' (_ : Unit) => r' = r) (fun _ => mW cI cC cZ b σ')) [.ref (b 0)].toArray s 0 0 (va_A (mW cI cC cZ b σ) sz)) (F0 m 87 ls [.int z0])) ∧ (∀ (x1 : Int32) (x2 : Int32) (σ0 : gS) (H : Heap) (locs : List Loc) (ls : Array Slot), R_M_body t 4 [x1, x2] σ0 = some (r, σ') → va_P X vwCl (mW cI cC cZ b σ0) H → va_D A (mW cI cC cZ b σ0) → va_S A s.heap H locs → lv_has ls 4 [(0, .ref (b 0)), (1, .int x1), (2, .int x2)] → W p l e (headSpec w_M_body { frames := 1, cells := 0, slots := 0, locals := 23 }).room s m [.ref (b 0)].toArray below meth c H locs 0 0 (MQ below (gQi X vwCl (mW cI cC cZ b σ) sz (fun r' (_ : Unit) => r' = r) (fun _ => mW cI cC cZ b σ')) [.ref (b 0)].toArray s 0 0 (va_A (mW cI cC cZ b σ) sz)) (F0 m 88 ls [])) ∧ (∀ (x1 : Int32) (x2 : Int32) (σ0 : gS) (H : Heap) (locs : List Loc) (ls : Array Slot), R_M_body t 5 [x1, x2] σ0 = some (r, σ') → va_P X vwCl (mW cI cC cZ b σ0) H → va_D A (mW cI cC cZ b σ0) → va_S A s.heap H locs → lv_has ls 4 [(0, .ref (b 0)), (1, .int x1), (2, .int x2)] → W p l e (headSpec w_M_body { frames := 1, cells := 0, slots := 0, locals := 23 }).room s m [.ref (b 0)].toArray below meth c H locs 0 0 (MQ below (gQi X vwCl (mW cI cC cZ b σ) sz (fun r' (_ : Unit) => r' = r) (fun _ => mW cI cC cZ b σ')) [.ref (b 0)].toArray s 0 0 (va_A (mW cI cC cZ b σ) sz)) (F0 m 132 ls [])) ∧ (∀ (x1 : Int32) (x2 : Int32) (σ0 : gS) (H : Heap) (locs : List Loc) (ls : Array Slot), R_M_body t 6 [x1, x2] σ0 = some (r, σ') → va_P X vwCl (mW cI cC cZ b σ0) H → va_D A (mW cI cC cZ b σ0) → va_S A s.heap H locs → lv_has ls 4 [(0, .ref (b 0)), (1, .int x1), (2, .int x2)] → W p l e (headSpec w_M_body { frames := 1, cells := 0, slots := 0, locals := 23 }).room s m [.ref (b 0)].toArray below meth c H locs 0 0 (MQ below (gQi X vwCl (mW cI cC cZ b σ) sz (fun r' (_ : Unit) => r' = r) (fun _ => mW cI cC cZ b σ')) [.ref (b 0)].toArray s 0 0 (va_A (mW cI cC cZ b σ) sz)) (F0 m 179 ls [])) ∧ (∀ (x1 : Int32) (x2 : Int32) (σ0 : gS) (H : Heap) (locs : List Loc) (ls : Array Slot), R_M_body t 7 [x1, x2] σ0 = some (r, σ') → va_P X vwCl (mW cI cC cZ b σ0) H → va_D A (mW cI cC cZ b σ0) → va_S A s.heap H locs → lv_has ls 4 [(0, .ref (b 0)), (1, .int x1), (2, .int x2)] → W p l e (headSpec w_M_body { frames := 1, cells := 0, slots := 0, locals := 23 }).room s m [.ref (b 0)].toArray below meth c H locs 0 0 (MQ below (gQi X vwCl (mW cI cC cZ b σ) sz (fun r' (_ : Unit) => r' = r) (fun _ => mW cI cC cZ b σ')) [.ref (b 0)].toArray s 0 0 (va_A (mW cI cC cZ b σ) sz)) (F0 m 197 ls [])) ∧ (∀ (x1 : Int32) (x2 : Int32) (σ0 : gS) (H : Heap) (locs : List Loc) (ls : Array Slot), R_M_body t 8 [x1, x2] σ0 = some (r, σ') → va_P X vwCl (mW cI cC cZ b σ0) H → va_D A (mW cI cC cZ b σ0) → va_S A s.heap H locs → lv_has ls 4 [(0, .ref (b 0)), (1, .int x1), (2, .int x2)] → W p l e (headSpec w_M_body { frames := 1, cells := 0, slots := 0, locals := 23 }).room s m [.ref (b 0)].toArray below meth c H locs 0 0 (MQ below (gQi X vwCl (mW cI cC cZ b σ) sz (fun r' (_ : Unit) => r' = r) (fun _ => mW cI cC cZ b σ')) [.ref (b 0)].toArray s 0 0 (va_A (mW cI cC cZ b σ) sz)) (F0 m 201 ls [])) ∧ (∀ (x1 : Int32) (x2 : Int32) (z0 : Int32) (σ0 : gS) (H : Heap) (locs : List Loc) (ls : Array Slot), R_M_body t 9 [x1, x2, z0] σ0 = some (r, σ') → va_P X vwCl (mW cI cC cZ b σ0) H → va_D A (mW cI cC cZ b σ0) → va_S A s.heap H locs → lv_has ls 4 [(0, .ref (b 0)), (1, .int x1), (2, .int x2)] → W p l e (headSpec w_M_body { frames := 1, cells := 0, slots := 0, locals := 23 }).room s m [.ref (b 0)].toArray below meth c H locs 0 0 (MQ below (gQi X vwCl (mW cI cC cZ b σ) sz (fun r' (_ : Unit) => r' = r) (fun _ => mW cI cC cZ b σ')) [.ref (b 0)].toArray s 0 0 (va_A (mW cI cC cZ b σ) sz)) (F0 m 202 ls [.int z0])) ∧ (∀ (x1 : Int32) (x2 : Int32) (σ0 : gS) (H : Heap) (locs : List Loc) (ls : Array Slot), R_M_body t 10 [x1, x2] σ0 = some (r, σ') → va_P X vwCl (mW cI cC cZ b σ0) H → va_D A (mW cI cC cZ b σ0) → va_S A s.heap H locs → lv_has ls 4 [(0, .ref (b 0)), (1, .int x1), (2, .int x2)] → W p l e (headSpec w_M_body { frames := 1, cells := 0, slots := 0, locals := 23 }).room s m [.ref (b 0)].toArray below meth c H locs 0 0 (MQ below (gQi X vwCl (mW cI cC cZ b σ) sz (fun r' (_ : Unit) => r' = r) (fun _ => mW cI cC cZ b σ')) [.ref (b 0)].toArray s 0 0 (va_A (mW cI cC cZ b σ) sz)) (F0 m 209 ls [])) := by
    intro t
    induction t with
    | zero => exact ⟨fun  _ _ _ _ hf => (by have hf : (none : Option (Int32 × gS)) = some (r, σ') := hf; cases hf), fun _ _ _ _ _ _ hf => (by have hf : (none : Option (Int32 × gS)) = some (r, σ') := hf; cases hf), fun _ _ _ _ _ hf => (by have hf : (none : Option (Int32 × gS)) = some (r, σ') := hf; cases hf), fun _ _ _ _ _ _ hf => (by have hf : (none : Option (Int32 × gS)) = some (r, σ') := hf; cases hf), fun _ _ _ _ _ _ hf => (by have hf : (none : Option (Int32 × gS)) = some (r, σ') := hf; cases hf), fun _ _ _ _ _ _ hf => (by have hf : (none : Option (Int32 × gS)) = some (r, σ') := hf; cases hf), fun _ _ _ _ _ _ hf => (by have hf : (none : Option (Int32 × gS)) = some (r, σ') := hf; cases hf), fun _ _ _ _ _ _ hf => (by have hf : (none : Option (Int32 × gS)) = some (r, σ') := hf; cases hf), fun _ _ _ _ _ _ hf => (by have hf : (none : Option (Int32 × gS)) = some (r, σ') := hf; cases hf), fun _ _ _ _ _ _ _ hf => (by have hf : (none : Option (Int32 × gS)) = some (r, σ') := hf; cases hf), fun _ _ _ _ _ _ hf => (by have hf : (none : Option (Int32 × gS)) = some (r, σ') := hf; cases hf)⟩
    | succ t ih =>
      obtain ⟨ih0, ih1, ih2, ih3, ih4, ih5, ih6, ih7, ih8, ih9, ih10⟩ := ih
      refine ⟨?_, ?_, ?_, ?_, ?_, ?_, ?_, ?_, ?_, ?_, ?_⟩
      · intro  σ0 H locs ls hf hP hD hS hl
        have hf : B_M_body_0 (R_M_body t)  σ0 = some (r, σ') := hf
        unfold B_M_body_0 at hf
        refine lv_aload_n hx hb d_M_body_0 rfl (lv_at hl 0 rfl) ?_
        refine va_get (D := X) (ci := 9) (C := R_M) (T := T_M) (N := 35) hx hb hts u_0 hown hK hP 0 gm_0 rfl 13 (by decide) k_0 (fun _ h9 => h9) rfl d_M_body_1 ?_
        refine lv_iconst (v := 0) hx hb d_M_body_4 (by decide) ?_
        obtain ⟨y1, h2, e3, hf⟩ := gLd_e hf
        refine va_iald hx hb hK hP 11 0 gm_11 rfl h2 d_M_body_5 ?_
        rw [← e3]
        refine lv_iconst (v := 1) hx hb d_M_body_6 (by decide) ?_
        refine lv_icmp_ne (tgt := 19) hx hb d_M_body_7 rfl (fun c4 => ?_) (fun c4 => ?_)
        · skip
          rw [if_neg c4] at hf
          refine lv_iconst (v := (-1)) hx hb d_M_body_19 (by decide) ?_
          obtain ⟨rfl, rfl⟩ := gRt_e hf
          exact g_zret hx hb hr hlocks rfl hAe hS () rfl hP d_M_body_20
        rw [if_pos c4] at hf
        refine lv_aload_n hx hb d_M_body_10 rfl (lv_at hl 0 rfl) ?_
        refine va_get (D := X) (ci := 9) (C := R_M) (T := T_M) (N := 35) hx hb hts u_0 hown hK hP 0 gm_0 rfl 14 (by decide) k_1 (fun _ h9 => h9) rfl d_M_body_11 ?_
        refine lv_iconst (v := 0) hx hb d_M_body_14 (by decide) ?_
        obtain ⟨y5, h6, e7, hf⟩ := gLd_e hf
        refine va_iald hx hb hK hP 12 0 gm_12 rfl h6 d_M_body_15 ?_
        rw [← e7]
        refine lv_if_eq (tgt := 21) hx hb d_M_body_16 rfl (fun c8 => ?_) (fun c8 => ?_)
        · skip
          rw [if_pos c8] at hf
          refine lv_iconst (v := (-1)) hx hb d_M_body_21 (by decide) ?_
          refine lv_istore_n hx hb d_M_body_22 rfl hl (by decide) rfl (fun ls hl => ?_)
          refine lv_iconst (v := 1) hx hb d_M_body_23 (by decide) ?_
          refine lv_istore_n hx hb d_M_body_24 rfl hl (by decide) rfl (fun ls hl => ?_)
          exact ih1 ((-1)) (1) σ0 _ _ _ hf hP hD hS (lv_sub hl [2, 1, 0] rfl)
        rw [if_neg c8] at hf
        refine lv_iconst (v := (-1)) hx hb d_M_body_19 (by decide) ?_
        obtain ⟨rfl, rfl⟩ := gRt_e hf
        exact g_zret hx hb hr hlocks rfl hAe hS () rfl hP d_M_body_20
      · intro x1 x2 σ0 H locs ls hf hP hD hS hl
        have hf : B_M_body_1 (R_M_body t) x1 x2 σ0 = some (r, σ') := hf
        unfold B_M_body_1 at hf
        refine lv_iload_n hx hb d_M_body_25 rfl (lv_at hl 2 rfl) ?_
        refine lv_aload_n hx hb d_M_body_26 rfl (lv_at hl 0 rfl) ?_
        refine va_get (D := X) (ci := 9) (C := R_M) (T := T_M) (N := 35) hx hb hts u_0 hown hK hP 0 gm_0 rfl 9 (by decide) k_2 (fun _ h9 => h9) rfl d_M_body_27 ?_
        refine lv_icmp_ge (tgt := 94) hx hb d_M_body_30 rfl (fun c9 => ?_) (fun c9 => ?_)
        · skip
          rw [if_pos c9] at hf
          refine lv_iload_n hx hb d_M_body_94 rfl (lv_at hl 1 rfl) ?_
          refine lv_if_lt (tgt := 126) hx hb d_M_body_95 rfl (fun c10 => ?_) (fun c10 => ?_)
          · skip
            rw [if_pos c10] at hf
            refine lv_iconst (v := (-1)) hx hb d_M_body_126 (by decide) ?_
            obtain ⟨rfl, rfl⟩ := gRt_e hf
            exact g_zret hx hb hr hlocks rfl hAe hS () rfl hP d_M_body_127
          rw [if_neg c10] at hf
          refine lv_aload_n hx hb d_M_body_98 rfl (lv_at hl 0 rfl) ?_
          refine va_get (D := X) (ci := 9) (C := R_M) (T := T_M) (N := 35) hx hb hts u_0 hown hK hP 0 gm_0 rfl 13 (by decide) k_0 (fun _ h9 => h9) rfl d_M_body_99 ?_
          refine lv_iload_n hx hb d_M_body_102 rfl (lv_at hl 1 rfl) ?_
          obtain ⟨y11, h12, e13, hf⟩ := gLd_e hf
          refine va_iald hx hb hK hP 11 0 gm_11 rfl h12 d_M_body_103 ?_
          rw [← e13]
          refine lv_if_ne (tgt := 126) hx hb d_M_body_104 rfl (fun c14 => ?_) (fun c14 => ?_)
          · skip
            rw [if_neg c14] at hf
            refine lv_iconst (v := (-1)) hx hb d_M_body_126 (by decide) ?_
            obtain ⟨rfl, rfl⟩ := gRt_e hf
            exact g_zret hx hb hr hlocks rfl hAe hS () rfl hP d_M_body_127
          rw [if_pos c14] at hf
          refine lv_aload_n hx hb d_M_body_107 rfl (lv_at hl 0 rfl) ?_
          refine va_get (D := X) (ci := 9) (C := R_M) (T := T_M) (N := 35) hx hb hts u_0 hown hK hP 0 gm_0 rfl 14 (by decide) k_1 (fun _ h9 => h9) rfl d_M_body_108 ?_
          refine lv_iload_n hx hb d_M_body_111 rfl (lv_at hl 1 rfl) ?_
          obtain ⟨y15, h16, e17, hf⟩ := gLd_e hf
          refine va_iald hx hb hK hP 12 0 gm_12 rfl h16 d_M_body_112 ?_
          rw [← e17]
          refine lv_if_ne (tgt := 126) hx hb d_M_body_113 rfl (fun c18 => ?_) (fun c18 => ?_)
          · skip
            rw [if_neg c18] at hf
            refine lv_iconst (v := (-1)) hx hb d_M_body_126 (by decide) ?_
            obtain ⟨rfl, rfl⟩ := gRt_e hf
            exact g_zret hx hb hr hlocks rfl hAe hS () rfl hP d_M_body_127
          rw [if_pos c18] at hf
          refine lv_iload_n hx hb d_M_body_116 rfl (lv_at hl 1 rfl) ?_
          refine lv_iconst (v := 1) hx hb d_M_body_117 (by decide) ?_
          refine lv_iadd hx hb d_M_body_118 ?_
          refine lv_aload_n hx hb d_M_body_119 rfl (lv_at hl 0 rfl) ?_
          refine va_get (D := X) (ci := 9) (C := R_M) (T := T_M) (N := 35) hx hb hts u_0 hown hK hP 0 gm_0 rfl 9 (by decide) k_2 (fun _ h9 => h9) rfl d_M_body_120 ?_
          refine lv_icmp_ne (tgt := 128) hx hb d_M_body_123 rfl (fun c19 => ?_) (fun c19 => ?_)
          · skip
            rw [if_neg c19] at hf
            refine lv_iload_n hx hb d_M_body_128 rfl (lv_at hl 1 rfl) ?_
            refine lv_iconst (v := 1) hx hb d_M_body_129 (by decide) ?_
            refine lv_iadd hx hb d_M_body_130 ?_
            refine lv_istore_n hx hb d_M_body_131 rfl hl (by decide) rfl (fun ls hl => ?_)
            exact ih5 (x1) ((x1 + 1)) σ0 _ _ _ hf hP hD hS (lv_sub hl [1, 2, 0] rfl)
          rw [if_pos c19] at hf
          refine lv_iconst (v := (-1)) hx hb d_M_body_126 (by decide) ?_
          obtain ⟨rfl, rfl⟩ := gRt_e hf
          exact g_zret hx hb hr hlocks rfl hAe hS () rfl hP d_M_body_127
        rw [if_neg c9] at hf
        refine lv_aload_n hx hb d_M_body_33 rfl (lv_at hl 0 rfl) ?_
        refine va_get (D := X) (ci := 9) (C := R_M) (T := T_M) (N := 35) hx hb hts u_0 hown hK hP 0 gm_0 rfl 11 (by decide) k_3 (fun _ h9 => h9) rfl d_M_body_34 ?_
        refine lv_iload_n hx hb d_M_body_37 rfl (lv_at hl 2 rfl) ?_
        obtain ⟨y20, h21, e22, hf⟩ := gLd_e hf
        refine va_iald hx hb hK hP 9 0 gm_9 rfl h21 d_M_body_38 ?_
        rw [← e22]
        refine lv_if_eq (tgt := 45) hx hb d_M_body_39 rfl (fun c23 => ?_) (fun c23 => ?_)
        · skip
          rw [if_pos c23] at hf
          refine lv_iload_n hx hb d_M_body_45 rfl (lv_at hl 1 rfl) ?_
          refine lv_if_ge (tgt := 70) hx hb d_M_body_46 rfl (fun c24 => ?_) (fun c24 => ?_)
          · skip
            rw [if_pos c24] at hf
            refine lv_iconst (v := (-1)) hx hb d_M_body_70 (by decide) ?_
            obtain ⟨rfl, rfl⟩ := gRt_e hf
            exact g_zret hx hb hr hlocks rfl hAe hS () rfl hP d_M_body_71
          rw [if_neg c24] at hf
          refine lv_aload_n hx hb d_M_body_49 rfl (lv_at hl 0 rfl) ?_
          refine va_get (D := X) (ci := 9) (C := R_M) (T := T_M) (N := 35) hx hb hts u_0 hown hK hP 0 gm_0 rfl 10 (by decide) k_4 (fun _ h9 => h9) rfl d_M_body_50 ?_
          refine lv_iload_n hx hb d_M_body_53 rfl (lv_at hl 2 rfl) ?_
          obtain ⟨y25, h26, e27, hf⟩ := gLd_e hf
          refine va_iald hx hb hK hP 8 0 gm_8 rfl h26 d_M_body_54 ?_
          rw [← e27]
          refine lv_bipush (v := 8) hx hb d_M_body_55 (by decide) ?_
          refine lv_icmp_eq (tgt := 72) hx hb d_M_body_57 rfl (fun c28 => ?_) (fun c28 => ?_)
          · skip
            rw [if_pos c28] at hf
            exact ih2 (x2) σ0 _ _ _ hf hP hD hS (lv_sub hl [0, 2] rfl)
          rw [if_neg c28] at hf
          refine lv_aload_n hx hb d_M_body_60 rfl (lv_at hl 0 rfl) ?_
          refine va_get (D := X) (ci := 9) (C := R_M) (T := T_M) (N := 35) hx hb hts u_0 hown hK hP 0 gm_0 rfl 10 (by decide) k_4 (fun _ h9 => h9) rfl d_M_body_61 ?_
          refine lv_iload_n hx hb d_M_body_64 rfl (lv_at hl 2 rfl) ?_
          obtain ⟨y29, h30, e31, hf⟩ := gLd_e hf
          refine va_iald hx hb hK hP 8 0 gm_8 rfl h30 d_M_body_65 ?_
          rw [← e31]
          refine lv_iconst (v := 2) hx hb d_M_body_66 (by decide) ?_
          refine lv_icmp_eq (tgt := 72) hx hb d_M_body_67 rfl (fun c32 => ?_) (fun c32 => ?_)
          · skip
            rw [if_pos c32] at hf
            exact ih2 (x2) σ0 _ _ _ hf hP hD hS (lv_sub hl [0, 2] rfl)
          rw [if_neg c32] at hf
          refine lv_iconst (v := (-1)) hx hb d_M_body_70 (by decide) ?_
          obtain ⟨rfl, rfl⟩ := gRt_e hf
          exact g_zret hx hb hr hlocks rfl hAe hS () rfl hP d_M_body_71
        rw [if_neg c23] at hf
        refine lv_goto (tgt := 88) hx hb d_M_body_42 rfl ?_
        exact ih4 (x1) (x2) σ0 _ _ _ hf hP hD hS (lv_sub hl [0, 1, 2] rfl)
      · intro x2 σ0 H locs ls hf hP hD hS hl
        have hf : B_M_body_2 (R_M_body t) x2 σ0 = some (r, σ') := hf
        unfold B_M_body_2 at hf
        refine lv_aload_n hx hb d_M_body_72 rfl (lv_at hl 0 rfl) ?_
        refine va_get (D := X) (ci := 9) (C := R_M) (T := T_M) (N := 35) hx hb hts u_0 hown hK hP 0 gm_0 rfl 10 (by decide) k_4 (fun _ h9 => h9) rfl d_M_body_73 ?_
        refine lv_iload_n hx hb d_M_body_76 rfl (lv_at hl 1 rfl) ?_
        obtain ⟨y33, h34, e35, hf⟩ := gLd_e hf
        refine va_iald hx hb hK hP 8 0 gm_8 rfl h34 d_M_body_77 ?_
        rw [← e35]
        refine lv_iconst (v := 2) hx hb d_M_body_78 (by decide) ?_
        refine lv_icmp_ne (tgt := 86) hx hb d_M_body_79 rfl (fun c36 => ?_) (fun c36 => ?_)
        · skip
          rw [if_neg c36] at hf
          refine lv_iconst (v := (-1)) hx hb d_M_body_86 (by decide) ?_
          exact ih3 (x2) ((-1)) σ0 _ _ _ hf hP hD hS (lv_sub hl [0, 1] rfl)
        rw [if_pos c36] at hf
        refine lv_iload_n hx hb d_M_body_82 rfl (lv_at hl 1 rfl) ?_
        refine lv_goto (tgt := 87) hx hb d_M_body_83 rfl ?_
        exact ih3 (x2) (x2) σ0 _ _ _ hf hP hD hS (lv_sub hl [0, 1] rfl)
      · intro x2 z0 σ0 H locs ls hf hP hD hS hl
        have hf : B_M_body_3 (R_M_body t) x2 z0 σ0 = some (r, σ') := hf
        unfold B_M_body_3 at hf
        refine lv_istore_n hx hb d_M_body_87 rfl hl (by decide) rfl (fun ls hl => ?_)
        exact ih4 (z0) (x2) σ0 _ _ _ hf hP hD hS (lv_sub hl [1, 0, 2] rfl)
      · intro x1 x2 σ0 H locs ls hf hP hD hS hl
        have hf : B_M_body_4 (R_M_body t) x1 x2 σ0 = some (r, σ') := hf
        unfold B_M_body_4 at hf
        refine lv_iinc (k := 2) (v := (x2 + 1)) hx hb d_M_body_88 hl rfl (by rw [show Int32.ofInt (1) = (1 : Int32) by decide]) (by decide) rfl (fun ls hl => ?_)
        refine lv_goto (tgt := 25) hx hb d_M_body_91 rfl ?_
        exact ih1 (x1) ((x2 + 1)) σ0 _ _ _ hf hP hD hS (lv_sub hl [1, 2, 0] rfl)
      · intro x1 x2 σ0 H locs ls hf hP hD hS hl
        have hf : B_M_body_5 (R_M_body t) x1 x2 σ0 = some (r, σ') := hf
        unfold B_M_body_5 at hf
        refine lv_iload_n hx hb d_M_body_132 rfl (lv_at hl 2 rfl) ?_
        refine lv_aload_n hx hb d_M_body_133 rfl (lv_at hl 0 rfl) ?_
        refine va_get (D := X) (ci := 9) (C := R_M) (T := T_M) (N := 35) hx hb hts u_0 hown hK hP 0 gm_0 rfl 9 (by decide) k_2 (fun _ h9 => h9) rfl d_M_body_134 ?_
        refine lv_icmp_ge (tgt := 215) hx hb d_M_body_137 rfl (fun c37 => ?_) (fun c37 => ?_)
        · skip
          rw [if_pos c37] at hf
          refine lv_iload_n hx hb d_M_body_215 rfl (lv_at hl 1 rfl) ?_
          obtain ⟨rfl, rfl⟩ := gRt_e hf
          exact g_zret hx hb hr hlocks rfl hAe hS () rfl hP d_M_body_216
        rw [if_neg c37] at hf
        refine lv_aload_n hx hb d_M_body_140 rfl (lv_at hl 0 rfl) ?_
        refine va_get (D := X) (ci := 9) (C := R_M) (T := T_M) (N := 35) hx hb hts u_0 hown hK hP 0 gm_0 rfl 11 (by decide) k_3 (fun _ h9 => h9) rfl d_M_body_141 ?_
        refine lv_iload_n hx hb d_M_body_144 rfl (lv_at hl 2 rfl) ?_
        obtain ⟨y38, h39, e40, hf⟩ := gLd_e hf
        refine va_iald hx hb hK hP 9 0 gm_9 rfl h39 d_M_body_145 ?_
        rw [← e40]
        refine lv_iload_n hx hb d_M_body_146 rfl (lv_at hl 1 rfl) ?_
        refine lv_icmp_eq (tgt := 153) hx hb d_M_body_147 rfl (fun c41 => ?_) (fun c41 => ?_)
        · skip
          rw [if_pos c41] at hf
          refine lv_aload_n hx hb d_M_body_153 rfl (lv_at hl 0 rfl) ?_
          refine lv_iload_n hx hb d_M_body_154 rfl (lv_at hl 2 rfl) ?_
          obtain ⟨y42, σ43, e44, hf⟩ := gBd_e hf
          refine g_wi (va_runV ⟨hx, hb, hml, hown, hts⟩ (m_M_isObject e44) (cwV 1 hts (gG4 (fun _ h => List.mem_cons_of_mem _ h) tb_487 tb_488 tb_489 tb_392 tc_M_isObject) rfl rfl rfl (by decide +kernel) ⟨Nat.le_of_ble_eq_true rfl, Nat.le_of_ble_eq_true rfl⟩) (g_preVW (q0 := 0) hE hK hP hD hS hA gm_0 rfl) rfl rfl hl.1 rfl (lv_room (Nat.le_of_ble_eq_true rfl)) d_M_body_155 ⟨Nat.zero_le _, Nat.zero_le _⟩) hD hS hA (fun _ => mW_fst) (fun y42 _ H locs hu hP hD hS => ?_)
          subst hu
          refine lv_if_eq (tgt := 179) hx hb d_M_body_158 rfl (fun c45 => ?_) (fun c45 => ?_)
          · skip
            rw [if_pos c45] at hf
            exact ih6 (x1) (x2) σ43 _ _ _ hf hP hD hS (lv_sub hl [0, 1, 2] rfl)
          rw [if_neg c45] at hf
          refine lv_iload_n hx hb d_M_body_161 rfl (lv_at hl 2 rfl) ?_
          refine lv_iload_n hx hb d_M_body_162 rfl (lv_at hl 1 rfl) ?_
          refine lv_iconst (v := 1) hx hb d_M_body_163 (by decide) ?_
          refine lv_iadd hx hb d_M_body_164 ?_
          refine lv_icmp_eq (tgt := 197) hx hb d_M_body_165 rfl (fun c46 => ?_) (fun c46 => ?_)
          · skip
            rw [if_pos c46] at hf
            exact ih7 (x1) (x2) σ43 _ _ _ hf hP hD hS (lv_sub hl [0, 1, 2] rfl)
          rw [if_neg c46] at hf
          refine lv_aload_n hx hb d_M_body_168 rfl (lv_at hl 0 rfl) ?_
          refine lv_iload_n hx hb d_M_body_169 rfl (lv_at hl 2 rfl) ?_
          refine lv_sipush (v := 247) hx hb d_M_body_170 (by decide) ?_
          obtain ⟨y47, σ48, e49, hf⟩ := gBd_e hf
          refine g_wi (va_runV ⟨hx, hb, hml, hown, hts⟩ (m_M_attr e49) (cwV 2 hts (gG4 (fun _ h => List.mem_cons_of_mem _ h) tb_456 tb_457 tb_458 tb_392 tc_M_attr) rfl rfl rfl (by decide +kernel) ⟨Nat.le_of_ble_eq_true rfl, Nat.le_of_ble_eq_true rfl⟩) (g_preVW (q0 := 0) hE hK hP hD hS hA gm_0 rfl) rfl rfl hl.1 rfl (lv_room (Nat.le_of_ble_eq_true rfl)) d_M_body_173 ⟨Nat.zero_le _, Nat.zero_le _⟩) hD hS hA (fun _ => mW_fst) (fun y47 _ H locs hu hP hD hS => ?_)
          subst hu
          refine lv_if_ge (tgt := 197) hx hb d_M_body_176 rfl (fun c50 => ?_) (fun c50 => ?_)
          · skip
            rw [if_pos c50] at hf
            exact ih7 (x1) (x2) σ48 _ _ _ hf hP hD hS (lv_sub hl [0, 1, 2] rfl)
          rw [if_neg c50] at hf
          exact ih6 (x1) (x2) σ48 _ _ _ hf hP hD hS (lv_sub hl [0, 1, 2] rfl)
        rw [if_neg c41] at hf
        refine lv_goto (tgt := 209) hx hb d_M_body_150 rfl ?_
        exact ih10 (x1) (x2) σ0 _ _ _ hf hP hD hS (lv_sub hl [0, 1, 2] rfl)
      · intro x1 x2 σ0 H locs ls hf hP hD hS hl
        have hf : B_M_body_6 (R_M_body t) x1 x2 σ0 = some (r, σ') := hf
        unfold B_M_body_6 at hf
        refine lv_iload_n hx hb d_M_body_179 rfl (lv_at hl 2 rfl) ?_
        refine lv_iload_n hx hb d_M_body_180 rfl (lv_at hl 1 rfl) ?_
        refine lv_iconst (v := 1) hx hb d_M_body_181 (by decide) ?_
        refine lv_iadd hx hb d_M_body_182 ?_
        refine lv_icmp_ne (tgt := 201) hx hb d_M_body_183 rfl (fun c51 => ?_) (fun c51 => ?_)
        · skip
          rw [if_neg c51] at hf
          exact ih8 (x1) (x2) σ0 _ _ _ hf hP hD hS (lv_sub hl [0, 1, 2] rfl)
        rw [if_pos c51] at hf
        refine lv_aload_n hx hb d_M_body_186 rfl (lv_at hl 0 rfl) ?_
        refine va_get (D := X) (ci := 9) (C := R_M) (T := T_M) (N := 35) hx hb hts u_0 hown hK hP 0 gm_0 rfl 10 (by decide) k_4 (fun _ h9 => h9) rfl d_M_body_187 ?_
        refine lv_iload_n hx hb d_M_body_190 rfl (lv_at hl 2 rfl) ?_
        obtain ⟨y52, h53, e54, hf⟩ := gLd_e hf
        refine va_iald hx hb hK hP 8 0 gm_8 rfl h53 d_M_body_191 ?_
        rw [← e54]
        refine lv_bipush (v := 18) hx hb d_M_body_192 (by decide) ?_
        refine lv_icmp_ne (tgt := 201) hx hb d_M_body_194 rfl (fun c55 => ?_) (fun c55 => ?_)
        · skip
          rw [if_neg c55] at hf
          exact ih8 (x1) (x2) σ0 _ _ _ hf hP hD hS (lv_sub hl [0, 1, 2] rfl)
        rw [if_pos c55] at hf
        exact ih7 (x1) (x2) σ0 _ _ _ hf hP hD hS (lv_sub hl [0, 1, 2] rfl)
      · intro x1 x2 σ0 H locs ls hf hP hD hS hl
        have hf : B_M_body_7 (R_M_body t) x1 x2 σ0 = some (r, σ') := hf
        unfold B_M_body_7 at hf
        refine lv_iconst (v := 1) hx hb d_M_body_197 (by decide) ?_
        refine lv_goto (tgt := 202) hx hb d_M_body_198 rfl ?_
        exact ih9 (x1) (x2) (1) σ0 _ _ _ hf hP hD hS (lv_sub hl [0, 1, 2] rfl)
      · intro x1 x2 σ0 H locs ls hf hP hD hS hl
        have hf : B_M_body_8 (R_M_body t) x1 x2 σ0 = some (r, σ') := hf
        unfold B_M_body_8 at hf
        refine lv_iconst (v := 0) hx hb d_M_body_201 (by decide) ?_
        exact ih9 (x1) (x2) (0) σ0 _ _ _ hf hP hD hS (lv_sub hl [0, 1, 2] rfl)
      · intro x1 x2 z0 σ0 H locs ls hf hP hD hS hl
        have hf : B_M_body_9 (R_M_body t) x1 x2 z0 σ0 = some (r, σ') := hf
        unfold B_M_body_9 at hf
        refine lv_istore_n hx hb d_M_body_202 rfl hl (by decide) rfl (fun ls hl => ?_)
        refine lv_iload_n hx hb d_M_body_203 rfl (lv_at hl 0 rfl) ?_
        refine lv_if_ne (tgt := 209) hx hb d_M_body_204 rfl (fun c56 => ?_) (fun c56 => ?_)
        · skip
          rw [if_neg c56] at hf
          exact ih10 (x1) (x2) σ0 _ _ _ hf hP hD hS (lv_sub hl [1, 2, 3] rfl)
        rw [if_pos c56] at hf
        refine lv_iconst (v := (-1)) hx hb d_M_body_207 (by decide) ?_
        obtain ⟨rfl, rfl⟩ := gRt_e hf
        exact g_zret hx hb hr hlocks rfl hAe hS () rfl hP d_M_body_208
      · intro x1 x2 σ0 H locs ls hf hP hD hS hl
        have hf : B_M_body_10 (R_M_body t) x1 x2 σ0 = some (r, σ') := hf
        unfold B_M_body_10 at hf
        refine lv_iinc (k := 2) (v := (x2 + 1)) hx hb d_M_body_209 hl rfl (by rw [show Int32.ofInt (1) = (1 : Int32) by decide]) (by decide) rfl (fun ls hl => ?_)
        refine lv_goto (tgt := 132) hx hb d_M_body_212 rfl ?_
        exact ih5 (x1) ((x2 + 1)) σ0 _ _ _ hf hP hD hS (lv_sub hl [1, 2, 0] rfl)
  exact (key gFuel).1  σ _ _ _ hf hP hD hS hl

def B_M_mayStand_0 (rec : Nat → List Int32 → gS → Option (Int32 × gS)) (x1 : Int32) (x2 : Int32) (σ0 : gS) : Option (Int32 × gS) := if x2 = 47 then (gLd σ0 9 420 x1 (fun y2 => gLd σ0 8 420 y2 (fun y5 => if y5 = 1 then (some (1, σ0)) else (rec 1 [x1, x2] σ0)))) else (rec 1 [x1, x2] σ0)
def B_M_mayStand_1 (rec : Nat → List Int32 → gS → Option (Int32 × gS)) (x1 : Int32) (x2 : Int32) (σ0 : gS) : Option (Int32 × gS) := if x2 = 247 then (gBd (f_M_isObject σ0 x1) (fun y10 σ11 => if y10 = 0 then (rec 2 [x1, x2] σ11) else (some (1, σ11)))) else (rec 2 [x1, x2] σ0)
def B_M_mayStand_2 (rec : Nat → List Int32 → gS → Option (Int32 × gS)) (x1 : Int32) (x2 : Int32) (σ0 : gS) : Option (Int32 × gS) := if x2 = 8 then (gLd σ0 8 420 x1 (fun y15 => if y15 = 18 then (some (1, σ0)) else (rec 3 [x1, x2] σ0))) else (rec 3 [x1, x2] σ0)
def B_M_mayStand_3 (rec : Nat → List Int32 → gS → Option (Int32 × gS)) (x1 : Int32) (x2 : Int32) (σ0 : gS) : Option (Int32 × gS) := if x2 = 14 then (rec 4 [x1] σ0) else (if x2 = 15 then (rec 4 [x1] σ0) else (some (0, σ0)))
def B_M_mayStand_4 (rec : Nat → List Int32 → gS → Option (Int32 × gS)) (x1 : Int32) (σ0 : gS) : Option (Int32 × gS) := gLd σ0 8 420 x1 (fun y21 => if y21 = 1 then (some (1, σ0)) else (some (0, σ0)))
def S_M_mayStand (rec : Nat → List Int32 → gS → Option (Int32 × gS)) (k : Nat) (l : List Int32) (σ0 : gS) : Option (Int32 × gS) := match k, l with
  | 0, [x1, x2] => B_M_mayStand_0 rec x1 x2 σ0
  | 1, [x1, x2] => B_M_mayStand_1 rec x1 x2 σ0
  | 2, [x1, x2] => B_M_mayStand_2 rec x1 x2 σ0
  | 3, [x1, x2] => B_M_mayStand_3 rec x1 x2 σ0
  | 4, [x1] => B_M_mayStand_4 rec x1 σ0
  | _, _ => none
def R_M_mayStand : Nat → Nat → List Int32 → gS → Option (Int32 × gS)
  | 0 => fun _ _ _ => none
  | t + 1 => fun k l σ0 => S_M_mayStand (R_M_mayStand t) k l σ0
def f_M_mayStand (σ : gS) (x1 : Int32) (x2 : Int32) : Option (Int32 × gS) := R_M_mayStand gFuel 0 [x1, x2] σ
set_option maxHeartbeats 4000000 in
set_option maxRecDepth 100000 in
theorem m_M_mayStand {l : Launch} {X : va_G} {cI cC cZ : ClassId} {aK aV : Nat → Nat} {b : Nat → Nat} {σ σ' : gS} {r : Int32} {q1 : Int32} {q2 : Int32} (hf : f_M_mayStand σ q1 q2 = some (r, σ')) {sz : Nat} : Met l y_M_mayStand w_M_mayStand { frames := 1, cells := 0, slots := 0, locals := 21 } (gPc X vwCl (gT cI cC cZ) aK aV (mW cI cC cZ b σ) sz [.ref (b 0), .int q1, .int q2]) (gQi X vwCl (mW cI cC cZ b σ) sz (fun r' (_ : Unit) => r' = r) (fun _ => mW cI cC cZ b σ')) 0 0 (va_A (mW cI cC cZ b σ) sz) := by
  refine g_met (cc := b_M_mayStand) (maxL := 3) (ret := (some .boolean)) (by decide) rfl (Nat.le_of_ble_eq_true rfl) ?_
  intro p e s m below meth c A ls hx hb hr hml hown hts hlocks hnm hsz hAe hA hP hK hD hS hl hE
  have hown : s.vm.findClass R_M = some m.cls := hown
  have u_0 : ∀ w ∈ u_ws R_M T_M 35, w ∈ w_M_mayStand := fun w h => List.mem_cons_of_mem _ (tu_M w h)
  have k_0 := hts (.fieldLink R_M 33 "GraphPagesModel" "name" "[I") (List.mem_cons_of_mem _ tb_450)
  have k_1 := hts (.fieldLink R_M 36 "GraphPagesModel" "parent" "[I") (List.mem_cons_of_mem _ tb_451)
  unfold f_M_mayStand at hf
  have key : ∀ t : Nat, (∀ (x1 : Int32) (x2 : Int32) (σ0 : gS) (H : Heap) (locs : List Loc) (ls : Array Slot), R_M_mayStand t 0 [x1, x2] σ0 = some (r, σ') → va_P X vwCl (mW cI cC cZ b σ0) H → va_D A (mW cI cC cZ b σ0) → va_S A s.heap H locs → lv_has ls 3 [(0, .ref (b 0)), (1, .int x1), (2, .int x2)] → W p l e (headSpec w_M_mayStand { frames := 1, cells := 0, slots := 0, locals := 21 }).room s m [.ref (b 0), .int q1, .int q2].toArray below meth c H locs 0 0 (MQ below (gQi X vwCl (mW cI cC cZ b σ) sz (fun r' (_ : Unit) => r' = r) (fun _ => mW cI cC cZ b σ')) [.ref (b 0), .int q1, .int q2].toArray s 0 0 (va_A (mW cI cC cZ b σ) sz)) (F0 m 0 ls [])) ∧ (∀ (x1 : Int32) (x2 : Int32) (σ0 : gS) (H : Heap) (locs : List Loc) (ls : Array Slot), R_M_mayStand t 1 [x1, x2] σ0 = some (r, σ') → va_P X vwCl (mW cI cC cZ b σ0) H → va_D A (mW cI cC cZ b σ0) → va_S A s.heap H locs → lv_has ls 3 [(0, .ref (b 0)), (1, .int x1), (2, .int x2)] → W p l e (headSpec w_M_mayStand { frames := 1, cells := 0, slots := 0, locals := 21 }).room s m [.ref (b 0), .int q1, .int q2].toArray below meth c H locs 0 0 (MQ below (gQi X vwCl (mW cI cC cZ b σ) sz (fun r' (_ : Unit) => r' = r) (fun _ => mW cI cC cZ b σ')) [.ref (b 0), .int q1, .int q2].toArray s 0 0 (va_A (mW cI cC cZ b σ) sz)) (F0 m 21 ls [])) ∧ (∀ (x1 : Int32) (x2 : Int32) (σ0 : gS) (H : Heap) (locs : List Loc) (ls : Array Slot), R_M_mayStand t 2 [x1, x2] σ0 = some (r, σ') → va_P X vwCl (mW cI cC cZ b σ0) H → va_D A (mW cI cC cZ b σ0) → va_S A s.heap H locs → lv_has ls 3 [(0, .ref (b 0)), (1, .int x1), (2, .int x2)] → W p l e (headSpec w_M_mayStand { frames := 1, cells := 0, slots := 0, locals := 21 }).room s m [.ref (b 0), .int q1, .int q2].toArray below meth c H locs 0 0 (MQ below (gQi X vwCl (mW cI cC cZ b σ) sz (fun r' (_ : Unit) => r' = r) (fun _ => mW cI cC cZ b σ')) [.ref (b 0), .int q1, .int q2].toArray s 0 0 (va_A (mW cI cC cZ b σ) sz)) (F0 m 36 ls [])) ∧ (∀ (x1 : Int32) (x2 : Int32) (σ0 : gS) (H : Heap) (locs : List Loc) (ls : Array Slot), R_M_mayStand t 3 [x1, x2] σ0 = some (r, σ') → va_P X vwCl (mW cI cC cZ b σ0) H → va_D A (mW cI cC cZ b σ0) → va_S A s.heap H locs → lv_has ls 3 [(0, .ref (b 0)), (1, .int x1), (2, .int x2)] → W p l e (headSpec w_M_mayStand { frames := 1, cells := 0, slots := 0, locals := 21 }).room s m [.ref (b 0), .int q1, .int q2].toArray below meth c H locs 0 0 (MQ below (gQi X vwCl (mW cI cC cZ b σ) sz (fun r' (_ : Unit) => r' = r) (fun _ => mW cI cC cZ b σ')) [.ref (b 0), .int q1, .int q2].toArray s 0 0 (va_A (mW cI cC cZ b σ) sz)) (F0 m 53 ls [])) ∧ (∀ (x1 : Int32) (σ0 : gS) (H : Heap) (locs : List Loc) (ls : Array Slot), R_M_mayStand t 4 [x1] σ0 = some (r, σ') → va_P X vwCl (mW cI cC cZ b σ0) H → va_D A (mW cI cC cZ b σ0) → va_S A s.heap H locs → lv_has ls 3 [(0, .ref (b 0)), (1, .int x1)] → W p l e (headSpec w_M_mayStand { frames := 1, cells := 0, slots := 0, locals := 21 }).room s m [.ref (b 0), .int q1, .int q2].toArray below meth c H locs 0 0 (MQ below (gQi X vwCl (mW cI cC cZ b σ) sz (fun r' (_ : Unit) => r' = r) (fun _ => mW cI cC cZ b σ')) [.ref (b 0), .int q1, .int q2].toArray s 0 0 (va_A (mW cI cC cZ b σ) sz)) (F0 m 65 ls [])) := by
    intro t
    induction t with
    | zero => exact ⟨fun _ _ _ _ _ _ hf => (by have hf : (none : Option (Int32 × gS)) = some (r, σ') := hf; cases hf), fun _ _ _ _ _ _ hf => (by have hf : (none : Option (Int32 × gS)) = some (r, σ') := hf; cases hf), fun _ _ _ _ _ _ hf => (by have hf : (none : Option (Int32 × gS)) = some (r, σ') := hf; cases hf), fun _ _ _ _ _ _ hf => (by have hf : (none : Option (Int32 × gS)) = some (r, σ') := hf; cases hf), fun _ _ _ _ _ hf => (by have hf : (none : Option (Int32 × gS)) = some (r, σ') := hf; cases hf)⟩
    | succ t ih =>
      obtain ⟨ih0, ih1, ih2, ih3, ih4⟩ := ih
      refine ⟨?_, ?_, ?_, ?_, ?_⟩
      · intro x1 x2 σ0 H locs ls hf hP hD hS hl
        have hf : B_M_mayStand_0 (R_M_mayStand t) x1 x2 σ0 = some (r, σ') := hf
        unfold B_M_mayStand_0 at hf
        refine lv_iload_n hx hb d_M_mayStand_0 rfl (lv_at hl 2 rfl) ?_
        refine lv_bipush (v := 47) hx hb d_M_mayStand_1 (by decide) ?_
        refine lv_icmp_ne (tgt := 21) hx hb d_M_mayStand_3 rfl (fun c1 => ?_) (fun c1 => ?_)
        · skip
          rw [if_neg c1] at hf
          exact ih1 (x1) (x2) σ0 _ _ _ hf hP hD hS (lv_sub hl [0, 1, 2] rfl)
        rw [if_pos c1] at hf
        refine lv_aload_n hx hb d_M_mayStand_6 rfl (lv_at hl 0 rfl) ?_
        refine va_get (D := X) (ci := 9) (C := R_M) (T := T_M) (N := 35) hx hb hts u_0 hown hK hP 0 gm_0 rfl 10 (by decide) k_0 (fun _ h9 => h9) rfl d_M_mayStand_7 ?_
        refine lv_aload_n hx hb d_M_mayStand_10 rfl (lv_at hl 0 rfl) ?_
        refine va_get (D := X) (ci := 9) (C := R_M) (T := T_M) (N := 35) hx hb hts u_0 hown hK hP 0 gm_0 rfl 11 (by decide) k_1 (fun _ h9 => h9) rfl d_M_mayStand_11 ?_
        refine lv_iload_n hx hb d_M_mayStand_14 rfl (lv_at hl 1 rfl) ?_
        obtain ⟨y2, h3, e4, hf⟩ := gLd_e hf
        refine va_iald hx hb hK hP 9 0 gm_9 rfl h3 d_M_mayStand_15 ?_
        rw [← e4]
        obtain ⟨y5, h6, e7, hf⟩ := gLd_e hf
        refine va_iald hx hb hK hP 8 0 gm_8 rfl h6 d_M_mayStand_16 ?_
        rw [← e7]
        refine lv_iconst (v := 1) hx hb d_M_mayStand_17 (by decide) ?_
        refine lv_icmp_eq (tgt := 75) hx hb d_M_mayStand_18 rfl (fun c8 => ?_) (fun c8 => ?_)
        · skip
          rw [if_pos c8] at hf
          refine lv_iconst (v := 1) hx hb d_M_mayStand_75 (by decide) ?_
          refine lv_goto (tgt := 80) hx hb d_M_mayStand_76 rfl ?_
          obtain ⟨rfl, rfl⟩ := gRt_e hf
          exact g_zret hx hb hr hlocks rfl hAe hS () rfl hP d_M_mayStand_80
        rw [if_neg c8] at hf
        exact ih1 (x1) (x2) σ0 _ _ _ hf hP hD hS (lv_sub hl [0, 1, 2] rfl)
      · intro x1 x2 σ0 H locs ls hf hP hD hS hl
        have hf : B_M_mayStand_1 (R_M_mayStand t) x1 x2 σ0 = some (r, σ') := hf
        unfold B_M_mayStand_1 at hf
        refine lv_iload_n hx hb d_M_mayStand_21 rfl (lv_at hl 2 rfl) ?_
        refine lv_sipush (v := 247) hx hb d_M_mayStand_22 (by decide) ?_
        refine lv_icmp_ne (tgt := 36) hx hb d_M_mayStand_25 rfl (fun c9 => ?_) (fun c9 => ?_)
        · skip
          rw [if_neg c9] at hf
          exact ih2 (x1) (x2) σ0 _ _ _ hf hP hD hS (lv_sub hl [0, 1, 2] rfl)
        rw [if_pos c9] at hf
        refine lv_aload_n hx hb d_M_mayStand_28 rfl (lv_at hl 0 rfl) ?_
        refine lv_iload_n hx hb d_M_mayStand_29 rfl (lv_at hl 1 rfl) ?_
        obtain ⟨y10, σ11, e12, hf⟩ := gBd_e hf
        refine g_wi (va_runV ⟨hx, hb, hml, hown, hts⟩ (m_M_isObject e12) (cwV 1 hts (gG4 (fun _ h => List.mem_cons_of_mem _ h) tb_487 tb_488 tb_489 tb_392 tc_M_isObject) rfl rfl rfl (by decide +kernel) ⟨Nat.le_of_ble_eq_true rfl, Nat.le_of_ble_eq_true rfl⟩) (g_preVW (q0 := 0) hE hK hP hD hS hA gm_0 rfl) rfl rfl hl.1 rfl (lv_room (Nat.le_of_ble_eq_true rfl)) d_M_mayStand_30 ⟨Nat.zero_le _, Nat.zero_le _⟩) hD hS hA (fun _ => mW_fst) (fun y10 _ H locs hu hP hD hS => ?_)
        subst hu
        refine lv_if_ne (tgt := 75) hx hb d_M_mayStand_33 rfl (fun c13 => ?_) (fun c13 => ?_)
        · skip
          rw [if_neg c13] at hf
          refine lv_iconst (v := 1) hx hb d_M_mayStand_75 (by decide) ?_
          refine lv_goto (tgt := 80) hx hb d_M_mayStand_76 rfl ?_
          obtain ⟨rfl, rfl⟩ := gRt_e hf
          exact g_zret hx hb hr hlocks rfl hAe hS () rfl hP d_M_mayStand_80
        rw [if_pos c13] at hf
        exact ih2 (x1) (x2) σ11 _ _ _ hf hP hD hS (lv_sub hl [0, 1, 2] rfl)
      · intro x1 x2 σ0 H locs ls hf hP hD hS hl
        have hf : B_M_mayStand_2 (R_M_mayStand t) x1 x2 σ0 = some (r, σ') := hf
        unfold B_M_mayStand_2 at hf
        refine lv_iload_n hx hb d_M_mayStand_36 rfl (lv_at hl 2 rfl) ?_
        refine lv_bipush (v := 8) hx hb d_M_mayStand_37 (by decide) ?_
        refine lv_icmp_ne (tgt := 53) hx hb d_M_mayStand_39 rfl (fun c14 => ?_) (fun c14 => ?_)
        · skip
          rw [if_neg c14] at hf
          exact ih3 (x1) (x2) σ0 _ _ _ hf hP hD hS (lv_sub hl [0, 1, 2] rfl)
        rw [if_pos c14] at hf
        refine lv_aload_n hx hb d_M_mayStand_42 rfl (lv_at hl 0 rfl) ?_
        refine va_get (D := X) (ci := 9) (C := R_M) (T := T_M) (N := 35) hx hb hts u_0 hown hK hP 0 gm_0 rfl 10 (by decide) k_0 (fun _ h9 => h9) rfl d_M_mayStand_43 ?_
        refine lv_iload_n hx hb d_M_mayStand_46 rfl (lv_at hl 1 rfl) ?_
        obtain ⟨y15, h16, e17, hf⟩ := gLd_e hf
        refine va_iald hx hb hK hP 8 0 gm_8 rfl h16 d_M_mayStand_47 ?_
        rw [← e17]
        refine lv_bipush (v := 18) hx hb d_M_mayStand_48 (by decide) ?_
        refine lv_icmp_eq (tgt := 75) hx hb d_M_mayStand_50 rfl (fun c18 => ?_) (fun c18 => ?_)
        · skip
          rw [if_pos c18] at hf
          refine lv_iconst (v := 1) hx hb d_M_mayStand_75 (by decide) ?_
          refine lv_goto (tgt := 80) hx hb d_M_mayStand_76 rfl ?_
          obtain ⟨rfl, rfl⟩ := gRt_e hf
          exact g_zret hx hb hr hlocks rfl hAe hS () rfl hP d_M_mayStand_80
        rw [if_neg c18] at hf
        exact ih3 (x1) (x2) σ0 _ _ _ hf hP hD hS (lv_sub hl [0, 1, 2] rfl)
      · intro x1 x2 σ0 H locs ls hf hP hD hS hl
        have hf : B_M_mayStand_3 (R_M_mayStand t) x1 x2 σ0 = some (r, σ') := hf
        unfold B_M_mayStand_3 at hf
        refine lv_iload_n hx hb d_M_mayStand_53 rfl (lv_at hl 2 rfl) ?_
        refine lv_bipush (v := 14) hx hb d_M_mayStand_54 (by decide) ?_
        refine lv_icmp_eq (tgt := 65) hx hb d_M_mayStand_56 rfl (fun c19 => ?_) (fun c19 => ?_)
        · skip
          rw [if_pos c19] at hf
          exact ih4 (x1) σ0 _ _ _ hf hP hD hS (lv_sub hl [0, 1] rfl)
        rw [if_neg c19] at hf
        refine lv_iload_n hx hb d_M_mayStand_59 rfl (lv_at hl 2 rfl) ?_
        refine lv_bipush (v := 15) hx hb d_M_mayStand_60 (by decide) ?_
        refine lv_icmp_ne (tgt := 79) hx hb d_M_mayStand_62 rfl (fun c20 => ?_) (fun c20 => ?_)
        · skip
          rw [if_neg c20] at hf
          refine lv_iconst (v := 0) hx hb d_M_mayStand_79 (by decide) ?_
          obtain ⟨rfl, rfl⟩ := gRt_e hf
          exact g_zret hx hb hr hlocks rfl hAe hS () rfl hP d_M_mayStand_80
        rw [if_pos c20] at hf
        exact ih4 (x1) σ0 _ _ _ hf hP hD hS (lv_sub hl [0, 1] rfl)
      · intro x1 σ0 H locs ls hf hP hD hS hl
        have hf : B_M_mayStand_4 (R_M_mayStand t) x1 σ0 = some (r, σ') := hf
        unfold B_M_mayStand_4 at hf
        refine lv_aload_n hx hb d_M_mayStand_65 rfl (lv_at hl 0 rfl) ?_
        refine va_get (D := X) (ci := 9) (C := R_M) (T := T_M) (N := 35) hx hb hts u_0 hown hK hP 0 gm_0 rfl 10 (by decide) k_0 (fun _ h9 => h9) rfl d_M_mayStand_66 ?_
        refine lv_iload_n hx hb d_M_mayStand_69 rfl (lv_at hl 1 rfl) ?_
        obtain ⟨y21, h22, e23, hf⟩ := gLd_e hf
        refine va_iald hx hb hK hP 8 0 gm_8 rfl h22 d_M_mayStand_70 ?_
        rw [← e23]
        refine lv_iconst (v := 1) hx hb d_M_mayStand_71 (by decide) ?_
        refine lv_icmp_ne (tgt := 79) hx hb d_M_mayStand_72 rfl (fun c24 => ?_) (fun c24 => ?_)
        · skip
          rw [if_neg c24] at hf
          refine lv_iconst (v := 0) hx hb d_M_mayStand_79 (by decide) ?_
          obtain ⟨rfl, rfl⟩ := gRt_e hf
          exact g_zret hx hb hr hlocks rfl hAe hS () rfl hP d_M_mayStand_80
        rw [if_pos c24] at hf
        refine lv_iconst (v := 1) hx hb d_M_mayStand_75 (by decide) ?_
        refine lv_goto (tgt := 80) hx hb d_M_mayStand_76 rfl ?_
        obtain ⟨rfl, rfl⟩ := gRt_e hf
        exact g_zret hx hb hr hlocks rfl hAe hS () rfl hP d_M_mayStand_80
  exact (key gFuel).1 q1 q2 σ _ _ _ hf hP hD hS hl

def B_M_numberOf_0 (rec : Nat → List Int32 → List Int64 → gS → Option (Int64 × gS)) (x1 : Int32) (σ0 : gS) : Option (Int64 × gS) := gLd σ0 12 420 x1 (fun y1 => if y1 ≤ 0 then (rec 1 [x1, y1] [] σ0) else (gLd σ0 13 5040 (12 * x1) (fun y5 => if y5 = 45 then (rec 2 [x1, y1, 1] [] σ0) else (rec 1 [x1, y1] [] σ0))))
def B_M_numberOf_1 (rec : Nat → List Int32 → List Int64 → gS → Option (Int64 × gS)) (x1 : Int32) (x2 : Int32) (σ0 : gS) : Option (Int64 × gS) := rec 2 [x1, x2, 0] [] σ0
def B_M_numberOf_2 (rec : Nat → List Int32 → List Int64 → gS → Option (Int64 × gS)) (x1 : Int32) (x2 : Int32) (z0 : Int32) (σ0 : gS) : Option (Int64 × gS) := if z0 = 0 then (rec 3 [x1, x2, z0, 0] [] σ0) else (rec 3 [x1, x2, z0, 1] [] σ0)
def B_M_numberOf_3 (rec : Nat → List Int32 → List Int64 → gS → Option (Int64 × gS)) (x1 : Int32) (x2 : Int32) (x3 : Int32) (z0 : Int32) (σ0 : gS) : Option (Int64 × gS) := if x2 = z0 then (some (1099511627776, σ0)) else (if (x2 - z0) ≤ 10 then (rec 4 [x1, x2, x3, z0] [0] σ0) else (some (1099511627776, σ0)))
def B_M_numberOf_4 (rec : Nat → List Int32 → List Int64 → gS → Option (Int64 × gS)) (x1 : Int32) (x2 : Int32) (x3 : Int32) (x4 : Int32) (x5 : Int64) (σ0 : gS) : Option (Int64 × gS) := if x2 ≤ x4 then (if x3 = 0 then (rec 5 [] [x5] σ0) else (rec 5 [] [(-x5)] σ0)) else (gLd σ0 13 5040 ((12 * x1) + x4) (fun y14 => if y14 < 48 then (some (1099511627776, σ0)) else (if y14 ≤ 57 then (rec 4 [x1, x2, x3, (x4 + 1)] [(((10 * x5) + y14.toInt64) - 48)] σ0) else (some (1099511627776, σ0)))))
def B_M_numberOf_5 (rec : Nat → List Int32 → List Int64 → gS → Option (Int64 × gS)) (z0 : Int64) (σ0 : gS) : Option (Int64 × gS) := if (lg_cmp z0 (-2147483648)) < 0 then (some (1099511627776, σ0)) else (if (lg_cmp z0 2147483647) ≤ 0 then (some (z0, σ0)) else (some (1099511627776, σ0)))
def S_M_numberOf (rec : Nat → List Int32 → List Int64 → gS → Option (Int64 × gS)) (k : Nat) (l : List Int32) (w : List Int64) (σ0 : gS) : Option (Int64 × gS) := match k, l, w with
  | 0, [x1], [] => B_M_numberOf_0 rec x1 σ0
  | 1, [x1, x2], [] => B_M_numberOf_1 rec x1 x2 σ0
  | 2, [x1, x2, z0], [] => B_M_numberOf_2 rec x1 x2 z0 σ0
  | 3, [x1, x2, x3, z0], [] => B_M_numberOf_3 rec x1 x2 x3 z0 σ0
  | 4, [x1, x2, x3, x4], [x5] => B_M_numberOf_4 rec x1 x2 x3 x4 x5 σ0
  | 5, [], [z0] => B_M_numberOf_5 rec z0 σ0
  | _, _, _ => none
def R_M_numberOf : Nat → Nat → List Int32 → List Int64 → gS → Option (Int64 × gS)
  | 0 => fun _ _ _ _ => none
  | t + 1 => fun k l w σ0 => S_M_numberOf (R_M_numberOf t) k l w σ0
def f_M_numberOf (σ : gS) (x1 : Int32) : Option (Int64 × gS) := R_M_numberOf gFuel 0 [x1] [] σ
set_option maxHeartbeats 4000000 in
set_option maxRecDepth 100000 in
theorem m_M_numberOf {l : Launch} {X : va_G} {cI cC cZ : ClassId} {aK aV : Nat → Nat} {b : Nat → Nat} {σ σ' : gS} {r : Int64} {q1 : Int32} (hf : f_M_numberOf σ q1 = some (r, σ')) {sz : Nat} : Met l y_M_numberOf w_M_numberOf { frames := 0, cells := 0, slots := 0, locals := 0 } (gPc X vwCl (gT cI cC cZ) aK aV (mW cI cC cZ b σ) sz [.ref (b 0), .int q1]) (gQl X vwCl (mW cI cC cZ b σ) sz (fun r' (_ : Unit) => r' = r) (fun _ => mW cI cC cZ b σ')) 0 0 (va_A (mW cI cC cZ b σ) sz) := by
  refine g_met (cc := b_M_numberOf) (maxL := 8) (ret := (some .long)) (by decide) rfl (Nat.le_of_ble_eq_true rfl) ?_
  intro p e s m below meth c A ls hx hb hr hml hown hts hlocks hnm hsz hAe hA hP hK hD hS hl hE
  have hown : s.vm.findClass R_M = some m.cls := hown
  have u_0 : ∀ w ∈ u_ws R_M T_M 35, w ∈ w_M_numberOf := fun w h => List.mem_cons_of_mem _ (tu_M w h)
  have k_0 := hts (.fieldLink R_M 45 "GraphPagesModel" "textLength" "[I") (List.mem_cons_of_mem _ tb_466)
  have k_1 := hts (.fieldLink R_M 48 "GraphPagesModel" "text" "[C") (List.mem_cons_of_mem _ tb_467)
  have k_2 := hts (.constantLong R_M 191 1099511627776) (List.mem_cons_of_mem _ tb_490)
  have k_3 := hts (.constantLong R_M 117 10) (List.mem_cons_of_mem _ tb_417)
  have k_4 := hts (.constantLong R_M 119 48) (List.mem_cons_of_mem _ tb_418)
  have k_5 := hts (.constantLong R_M 193 (-2147483648)) (List.mem_cons_of_mem _ tb_491)
  have k_6 := hts (.constantLong R_M 195 2147483647) (List.mem_cons_of_mem _ tb_492)
  unfold f_M_numberOf at hf
  have key : ∀ t : Nat, (∀ (x1 : Int32) (σ0 : gS) (H : Heap) (locs : List Loc) (ls : Array Slot), R_M_numberOf t 0 [x1] [] σ0 = some (r, σ') → va_P X vwCl (mW cI cC cZ b σ0) H → va_D A (mW cI cC cZ b σ0) → va_S A s.heap H locs → lv_has ls 8 [(0, .ref (b 0)), (1, .int x1)] → W p l e (headSpec w_M_numberOf { frames := 0, cells := 0, slots := 0, locals := 0 }).room s m [.ref (b 0), .int q1].toArray below meth c H locs 0 0 (MQ below (gQl X vwCl (mW cI cC cZ b σ) sz (fun r' (_ : Unit) => r' = r) (fun _ => mW cI cC cZ b σ')) [.ref (b 0), .int q1].toArray s 0 0 (va_A (mW cI cC cZ b σ) sz)) (F0 m 0 ls [])) ∧ (∀ (x1 : Int32) (x2 : Int32) (σ0 : gS) (H : Heap) (locs : List Loc) (ls : Array Slot), R_M_numberOf t 1 [x1, x2] [] σ0 = some (r, σ') → va_P X vwCl (mW cI cC cZ b σ0) H → va_D A (mW cI cC cZ b σ0) → va_S A s.heap H locs → lv_has ls 8 [(0, .ref (b 0)), (1, .int x1), (2, .int x2)] → W p l e (headSpec w_M_numberOf { frames := 0, cells := 0, slots := 0, locals := 0 }).room s m [.ref (b 0), .int q1].toArray below meth c H locs 0 0 (MQ below (gQl X vwCl (mW cI cC cZ b σ) sz (fun r' (_ : Unit) => r' = r) (fun _ => mW cI cC cZ b σ')) [.ref (b 0), .int q1].toArray s 0 0 (va_A (mW cI cC cZ b σ) sz)) (F0 m 29 ls [])) ∧ (∀ (x1 : Int32) (x2 : Int32) (z0 : Int32) (σ0 : gS) (H : Heap) (locs : List Loc) (ls : Array Slot), R_M_numberOf t 2 [x1, x2, z0] [] σ0 = some (r, σ') → va_P X vwCl (mW cI cC cZ b σ0) H → va_D A (mW cI cC cZ b σ0) → va_S A s.heap H locs → lv_has ls 8 [(0, .ref (b 0)), (1, .int x1), (2, .int x2)] → W p l e (headSpec w_M_numberOf { frames := 0, cells := 0, slots := 0, locals := 0 }).room s m [.ref (b 0), .int q1].toArray below meth c H locs 0 0 (MQ below (gQl X vwCl (mW cI cC cZ b σ) sz (fun r' (_ : Unit) => r' = r) (fun _ => mW cI cC cZ b σ')) [.ref (b 0), .int q1].toArray s 0 0 (va_A (mW cI cC cZ b σ) sz)) (F0 m 30 ls [.int z0])) ∧ (∀ (x1 : Int32) (x2 : Int32) (x3 : Int32) (z0 : Int32) (σ0 : gS) (H : Heap) (locs : List Loc) (ls : Array Slot), R_M_numberOf t 3 [x1, x2, x3, z0] [] σ0 = some (r, σ') → va_P X vwCl (mW cI cC cZ b σ0) H → va_D A (mW cI cC cZ b σ0) → va_S A s.heap H locs → lv_has ls 8 [(0, .ref (b 0)), (1, .int x1), (2, .int x2), (3, .int x3)] → W p l e (headSpec w_M_numberOf { frames := 0, cells := 0, slots := 0, locals := 0 }).room s m [.ref (b 0), .int q1].toArray below meth c H locs 0 0 (MQ below (gQl X vwCl (mW cI cC cZ b σ) sz (fun r' (_ : Unit) => r' = r) (fun _ => mW cI cC cZ b σ')) [.ref (b 0), .int q1].toArray s 0 0 (va_A (mW cI cC cZ b σ) sz)) (F0 m 40 ls [.int z0])) ∧ (∀ (x1 : Int32) (x2 : Int32) (x3 : Int32) (x4 : Int32) (x5 : Int64) (σ0 : gS) (H : Heap) (locs : List Loc) (ls : Array Slot), R_M_numberOf t 4 [x1, x2, x3, x4] [x5] σ0 = some (r, σ') → va_P X vwCl (mW cI cC cZ b σ0) H → va_D A (mW cI cC cZ b σ0) → va_S A s.heap H locs → lv_has ls 8 [(0, .ref (b 0)), (1, .int x1), (2, .int x2), (3, .int x3), (4, .int x4), (5, .long x5)] → W p l e (headSpec w_M_numberOf { frames := 0, cells := 0, slots := 0, locals := 0 }).room s m [.ref (b 0), .int q1].toArray below meth c H locs 0 0 (MQ below (gQl X vwCl (mW cI cC cZ b σ) sz (fun r' (_ : Unit) => r' = r) (fun _ => mW cI cC cZ b σ')) [.ref (b 0), .int q1].toArray s 0 0 (va_A (mW cI cC cZ b σ) sz)) (F0 m 64 ls [])) ∧ (∀ (z0 : Int64) (σ0 : gS) (H : Heap) (locs : List Loc) (ls : Array Slot), R_M_numberOf t 5 [] [z0] σ0 = some (r, σ') → va_P X vwCl (mW cI cC cZ b σ0) H → va_D A (mW cI cC cZ b σ0) → va_S A s.heap H locs → lv_has ls 8 [] → W p l e (headSpec w_M_numberOf { frames := 0, cells := 0, slots := 0, locals := 0 }).room s m [.ref (b 0), .int q1].toArray below meth c H locs 0 0 (MQ below (gQl X vwCl (mW cI cC cZ b σ) sz (fun r' (_ : Unit) => r' = r) (fun _ => mW cI cC cZ b σ')) [.ref (b 0), .int q1].toArray s 0 0 (va_A (mW cI cC cZ b σ) sz)) (F0 m 136 ls [.long z0])) := by
    intro t
    induction t with
    | zero => exact ⟨fun _ _ _ _ _ hf => (by have hf : (none : Option (Int64 × gS)) = some (r, σ') := hf; cases hf), fun _ _ _ _ _ _ hf => (by have hf : (none : Option (Int64 × gS)) = some (r, σ') := hf; cases hf), fun _ _ _ _ _ _ _ hf => (by have hf : (none : Option (Int64 × gS)) = some (r, σ') := hf; cases hf), fun _ _ _ _ _ _ _ _ hf => (by have hf : (none : Option (Int64 × gS)) = some (r, σ') := hf; cases hf), fun _ _ _ _ _ _ _ _ _ hf => (by have hf : (none : Option (Int64 × gS)) = some (r, σ') := hf; cases hf), fun _ _ _ _ _ hf => (by have hf : (none : Option (Int64 × gS)) = some (r, σ') := hf; cases hf)⟩
    | succ t ih =>
      obtain ⟨ih0, ih1, ih2, ih3, ih4, ih5⟩ := ih
      refine ⟨?_, ?_, ?_, ?_, ?_, ?_⟩
      · intro x1 σ0 H locs ls hf hP hD hS hl
        have hf : B_M_numberOf_0 (R_M_numberOf t) x1 σ0 = some (r, σ') := hf
        unfold B_M_numberOf_0 at hf
        refine lv_aload_n hx hb d_M_numberOf_0 rfl (lv_at hl 0 rfl) ?_
        refine va_get (D := X) (ci := 9) (C := R_M) (T := T_M) (N := 35) hx hb hts u_0 hown hK hP 0 gm_0 rfl 14 (by decide) k_0 (fun _ h9 => h9) rfl d_M_numberOf_1 ?_
        refine lv_iload_n hx hb d_M_numberOf_4 rfl (lv_at hl 1 rfl) ?_
        obtain ⟨y1, h2, e3, hf⟩ := gLd_e hf
        refine va_iald hx hb hK hP 12 0 gm_12 rfl h2 d_M_numberOf_5 ?_
        rw [← e3]
        refine lv_istore_n hx hb d_M_numberOf_6 rfl hl (by decide) rfl (fun ls hl => ?_)
        refine lv_iload_n hx hb d_M_numberOf_7 rfl (lv_at hl 0 rfl) ?_
        refine lv_if_le (tgt := 29) hx hb d_M_numberOf_8 rfl (fun c4 => ?_) (fun c4 => ?_)
        · skip
          rw [if_pos c4] at hf
          exact ih1 (x1) (y1) σ0 _ _ _ hf hP hD hS (lv_sub hl [1, 2, 0] rfl)
        rw [if_neg c4] at hf
        refine lv_aload_n hx hb d_M_numberOf_11 rfl (lv_at hl 1 rfl) ?_
        refine va_get (D := X) (ci := 9) (C := R_M) (T := T_M) (N := 35) hx hb hts u_0 hown hK hP 0 gm_0 rfl 15 (by decide) k_1 (fun _ h9 => h9) rfl d_M_numberOf_12 ?_
        refine lv_bipush (v := 12) hx hb d_M_numberOf_15 (by decide) ?_
        refine lv_iload_n hx hb d_M_numberOf_17 rfl (lv_at hl 2 rfl) ?_
        refine lv_imul hx hb d_M_numberOf_18 ?_
        obtain ⟨y5, h6, e7, hf⟩ := gLd_e hf
        refine va_cald hx hb hK hP 13 1 gm_13 rfl h6 d_M_numberOf_19 ?_
        rw [← e7]
        refine lv_bipush (v := 45) hx hb d_M_numberOf_20 (by decide) ?_
        refine lv_icmp_ne (tgt := 29) hx hb d_M_numberOf_22 rfl (fun c8 => ?_) (fun c8 => ?_)
        · skip
          rw [if_neg c8] at hf
          exact ih1 (x1) (y1) σ0 _ _ _ hf hP hD hS (lv_sub hl [1, 2, 0] rfl)
        rw [if_pos c8] at hf
        refine lv_iconst (v := 1) hx hb d_M_numberOf_25 (by decide) ?_
        refine lv_goto (tgt := 30) hx hb d_M_numberOf_26 rfl ?_
        exact ih2 (x1) (y1) (1) σ0 _ _ _ hf hP hD hS (lv_sub hl [1, 2, 0] rfl)
      · intro x1 x2 σ0 H locs ls hf hP hD hS hl
        have hf : B_M_numberOf_1 (R_M_numberOf t) x1 x2 σ0 = some (r, σ') := hf
        unfold B_M_numberOf_1 at hf
        refine lv_iconst (v := 0) hx hb d_M_numberOf_29 (by decide) ?_
        exact ih2 (x1) (x2) (0) σ0 _ _ _ hf hP hD hS (lv_sub hl [0, 1, 2] rfl)
      · intro x1 x2 z0 σ0 H locs ls hf hP hD hS hl
        have hf : B_M_numberOf_2 (R_M_numberOf t) x1 x2 z0 σ0 = some (r, σ') := hf
        unfold B_M_numberOf_2 at hf
        refine lv_istore_n hx hb d_M_numberOf_30 rfl hl (by decide) rfl (fun ls hl => ?_)
        refine lv_iload_n hx hb d_M_numberOf_31 rfl (lv_at hl 0 rfl) ?_
        refine lv_if_eq (tgt := 39) hx hb d_M_numberOf_32 rfl (fun c9 => ?_) (fun c9 => ?_)
        · skip
          rw [if_pos c9] at hf
          refine lv_iconst (v := 0) hx hb d_M_numberOf_39 (by decide) ?_
          exact ih3 (x1) (x2) (z0) (0) σ0 _ _ _ hf hP hD hS (lv_sub hl [1, 2, 3, 0] rfl)
        rw [if_neg c9] at hf
        refine lv_iconst (v := 1) hx hb d_M_numberOf_35 (by decide) ?_
        refine lv_goto (tgt := 40) hx hb d_M_numberOf_36 rfl ?_
        exact ih3 (x1) (x2) (z0) (1) σ0 _ _ _ hf hP hD hS (lv_sub hl [1, 2, 3, 0] rfl)
      · intro x1 x2 x3 z0 σ0 H locs ls hf hP hD hS hl
        have hf : B_M_numberOf_3 (R_M_numberOf t) x1 x2 x3 z0 σ0 = some (r, σ') := hf
        unfold B_M_numberOf_3 at hf
        refine lv_istore hx hb d_M_numberOf_40 hl (by decide) rfl (fun ls hl => ?_)
        refine lv_iload_n hx hb d_M_numberOf_42 rfl (lv_at hl 3 rfl) ?_
        refine lv_iload hx hb d_M_numberOf_43 (lv_at hl 0 rfl) ?_
        refine lv_icmp_eq (tgt := 57) hx hb d_M_numberOf_45 rfl (fun c10 => ?_) (fun c10 => ?_)
        · skip
          rw [if_pos c10] at hf
          refine lv_ldc2 (v := 1099511627776) hx hb hown k_2 d_M_numberOf_57 ?_
          obtain ⟨rfl, rfl⟩ := gRt_e hf
          exact g_lret hx hb hr hlocks hAe hS () rfl hP d_M_numberOf_60
        rw [if_neg c10] at hf
        refine lv_iload_n hx hb d_M_numberOf_48 rfl (lv_at hl 3 rfl) ?_
        refine lv_iload hx hb d_M_numberOf_49 (lv_at hl 0 rfl) ?_
        refine lv_isub hx hb d_M_numberOf_51 ?_
        refine lv_bipush (v := 10) hx hb d_M_numberOf_52 (by decide) ?_
        refine lv_icmp_le (tgt := 61) hx hb d_M_numberOf_54 rfl (fun c11 => ?_) (fun c11 => ?_)
        · skip
          rw [if_pos c11] at hf
          refine lv_lconst (v := 0) hx hb d_M_numberOf_61 (by decide) ?_
          refine lv_lstore hx hb d_M_numberOf_62 hl (by decide) rfl (fun ls hl => ?_)
          exact ih4 (x1) (x2) (x3) (z0) (0) σ0 _ _ _ hf hP hD hS (lv_sub hl [2, 3, 4, 5, 1, 0] rfl)
        rw [if_neg c11] at hf
        refine lv_ldc2 (v := 1099511627776) hx hb hown k_2 d_M_numberOf_57 ?_
        obtain ⟨rfl, rfl⟩ := gRt_e hf
        exact g_lret hx hb hr hlocks hAe hS () rfl hP d_M_numberOf_60
      · intro x1 x2 x3 x4 x5 σ0 H locs ls hf hP hD hS hl
        have hf : B_M_numberOf_4 (R_M_numberOf t) x1 x2 x3 x4 x5 σ0 = some (r, σ') := hf
        unfold B_M_numberOf_4 at hf
        refine lv_iload hx hb d_M_numberOf_64 (lv_at hl 4 rfl) ?_
        refine lv_iload_n hx hb d_M_numberOf_66 rfl (lv_at hl 2 rfl) ?_
        refine lv_icmp_ge (tgt := 124) hx hb d_M_numberOf_67 rfl (fun c12 => ?_) (fun c12 => ?_)
        · skip
          rw [if_pos c12] at hf
          refine lv_iload_n hx hb d_M_numberOf_124 rfl (lv_at hl 3 rfl) ?_
          refine lv_if_eq (tgt := 134) hx hb d_M_numberOf_125 rfl (fun c13 => ?_) (fun c13 => ?_)
          · skip
            rw [if_pos c13] at hf
            refine lv_lload hx hb d_M_numberOf_134 (lv_at hl 5 rfl) ?_
            exact ih5 (x5) σ0 _ _ _ hf hP hD hS (lv_sub hl [] rfl)
          rw [if_neg c13] at hf
          refine lv_lload hx hb d_M_numberOf_128 (lv_at hl 5 rfl) ?_
          refine lv_lneg hx hb d_M_numberOf_130 ?_
          refine lv_goto (tgt := 136) hx hb d_M_numberOf_131 rfl ?_
          exact ih5 ((-x5)) σ0 _ _ _ hf hP hD hS (lv_sub hl [] rfl)
        rw [if_neg c12] at hf
        refine lv_aload_n hx hb d_M_numberOf_70 rfl (lv_at hl 0 rfl) ?_
        refine va_get (D := X) (ci := 9) (C := R_M) (T := T_M) (N := 35) hx hb hts u_0 hown hK hP 0 gm_0 rfl 15 (by decide) k_1 (fun _ h9 => h9) rfl d_M_numberOf_71 ?_
        refine lv_bipush (v := 12) hx hb d_M_numberOf_74 (by decide) ?_
        refine lv_iload_n hx hb d_M_numberOf_76 rfl (lv_at hl 1 rfl) ?_
        refine lv_imul hx hb d_M_numberOf_77 ?_
        refine lv_iload hx hb d_M_numberOf_78 (lv_at hl 4 rfl) ?_
        refine lv_iadd hx hb d_M_numberOf_80 ?_
        obtain ⟨y14, h15, e16, hf⟩ := gLd_e hf
        refine va_cald hx hb hK hP 13 1 gm_13 rfl h15 d_M_numberOf_81 ?_
        rw [← e16]
        refine lv_istore hx hb d_M_numberOf_82 hl (by decide) rfl (fun ls hl => ?_)
        refine lv_iload hx hb d_M_numberOf_84 (lv_at hl 0 rfl) ?_
        refine lv_bipush (v := 48) hx hb d_M_numberOf_86 (by decide) ?_
        refine lv_icmp_lt (tgt := 98) hx hb d_M_numberOf_88 rfl (fun c17 => ?_) (fun c17 => ?_)
        · skip
          rw [if_pos c17] at hf
          refine lv_ldc2 (v := 1099511627776) hx hb hown k_2 d_M_numberOf_98 ?_
          obtain ⟨rfl, rfl⟩ := gRt_e hf
          exact g_lret hx hb hr hlocks hAe hS () rfl hP d_M_numberOf_101
        rw [if_neg c17] at hf
        refine lv_iload hx hb d_M_numberOf_91 (lv_at hl 0 rfl) ?_
        refine lv_bipush (v := 57) hx hb d_M_numberOf_93 (by decide) ?_
        refine lv_icmp_le (tgt := 102) hx hb d_M_numberOf_95 rfl (fun c18 => ?_) (fun c18 => ?_)
        · skip
          rw [if_pos c18] at hf
          refine lv_ldc2 (v := 10) hx hb hown k_3 d_M_numberOf_102 ?_
          refine lv_lload hx hb d_M_numberOf_105 (lv_at hl 6 rfl) ?_
          refine lv_lmul hx hb d_M_numberOf_107 ?_
          refine lv_iload hx hb d_M_numberOf_108 (lv_at hl 0 rfl) ?_
          refine lv_i2l hx hb d_M_numberOf_110 rfl ?_
          refine lv_ladd hx hb d_M_numberOf_111 ?_
          refine lv_ldc2 (v := 48) hx hb hown k_4 d_M_numberOf_112 ?_
          refine lv_lsub hx hb d_M_numberOf_115 ?_
          refine lv_lstore hx hb d_M_numberOf_116 hl (by decide) rfl (fun ls hl => ?_)
          refine lv_iinc (k := 6) (v := (x4 + 1)) hx hb d_M_numberOf_118 hl rfl (by rw [show Int32.ofInt (1) = (1 : Int32) by decide]) (by decide) rfl (fun ls hl => ?_)
          refine lv_goto (tgt := 64) hx hb d_M_numberOf_121 rfl ?_
          exact ih4 (x1) (x2) (x3) ((x4 + 1)) ((((10 * x5) + y14.toInt64) - 48)) σ0 _ _ _ hf hP hD hS (lv_sub hl [3, 4, 5, 6, 0, 1] rfl)
        rw [if_neg c18] at hf
        refine lv_ldc2 (v := 1099511627776) hx hb hown k_2 d_M_numberOf_98 ?_
        obtain ⟨rfl, rfl⟩ := gRt_e hf
        exact g_lret hx hb hr hlocks hAe hS () rfl hP d_M_numberOf_101
      · intro z0 σ0 H locs ls hf hP hD hS hl
        have hf : B_M_numberOf_5 (R_M_numberOf t) z0 σ0 = some (r, σ') := hf
        unfold B_M_numberOf_5 at hf
        refine lv_lstore hx hb d_M_numberOf_136 hl (by decide) rfl (fun ls hl => ?_)
        refine lv_lload hx hb d_M_numberOf_138 (lv_at hl 0 rfl) ?_
        refine lv_ldc2 (v := (-2147483648)) hx hb hown k_5 d_M_numberOf_140 ?_
        refine W.lcmp hx hb d_M_numberOf_143 ?_
        refine lv_if_lt (tgt := 156) hx hb d_M_numberOf_144 rfl (fun c19 => ?_) (fun c19 => ?_)
        · skip
          rw [if_pos c19] at hf
          refine lv_ldc2 (v := 1099511627776) hx hb hown k_2 d_M_numberOf_156 ?_
          refine lv_goto (tgt := 164) hx hb d_M_numberOf_159 rfl ?_
          obtain ⟨rfl, rfl⟩ := gRt_e hf
          exact g_lret hx hb hr hlocks hAe hS () rfl hP d_M_numberOf_164
        rw [if_neg c19] at hf
        refine lv_lload hx hb d_M_numberOf_147 (lv_at hl 0 rfl) ?_
        refine lv_ldc2 (v := 2147483647) hx hb hown k_6 d_M_numberOf_149 ?_
        refine W.lcmp hx hb d_M_numberOf_152 ?_
        refine lv_if_le (tgt := 162) hx hb d_M_numberOf_153 rfl (fun c20 => ?_) (fun c20 => ?_)
        · skip
          rw [if_pos c20] at hf
          refine lv_lload hx hb d_M_numberOf_162 (lv_at hl 0 rfl) ?_
          obtain ⟨rfl, rfl⟩ := gRt_e hf
          exact g_lret hx hb hr hlocks hAe hS () rfl hP d_M_numberOf_164
        rw [if_neg c20] at hf
        refine lv_ldc2 (v := 1099511627776) hx hb hown k_2 d_M_numberOf_156 ?_
        refine lv_goto (tgt := 164) hx hb d_M_numberOf_159 rfl ?_
        obtain ⟨rfl, rfl⟩ := gRt_e hf
        exact g_lret hx hb hr hlocks hAe hS () rfl hP d_M_numberOf_164
  exact (key gFuel).1 q1 σ _ _ _ hf hP hD hS hl

def B_M_fits_0 (rec : Nat → List Int32 → gS → Option (Int32 × gS)) (x1 : Int32) (x2 : Int32) (σ0 : gS) : Option (Int32 × gS) := gLd σ0 9 420 x1 (fun y1 => gLd σ0 8 420 y1 (fun y4 => gLd σ0 9 420 x1 (fun y7 => if y7 = x2 then (rec 1 [x1] σ0) else (if y4 = 16 then (rec 1 [x1] σ0) else (if y4 = 1 then (rec 1 [x1] σ0) else (some (0, σ0)))))))
def B_M_fits_1 (rec : Nat → List Int32 → gS → Option (Int32 × gS)) (x1 : Int32) (σ0 : gS) : Option (Int32 × gS) := gBd (f_M_isObject σ0 x1) (fun y13 σ14 => if y13 = 0 then (gLd σ14 8 420 x1 (fun y17 => if y17 = 14 then (rec 2 [x1] σ14) else (gLd σ14 8 420 x1 (fun y21 => if y21 = 9 then (rec 2 [x1] σ14) else (gLd σ14 8 420 x1 (fun y25 => if y25 = 18 then (rec 2 [x1] σ14) else (some (0, σ14)))))))) else (rec 2 [x1] σ14))
def B_M_fits_2 (rec : Nat → List Int32 → gS → Option (Int32 × gS)) (x1 : Int32) (σ0 : gS) : Option (Int32 × gS) := rec 3 [x1, 0] σ0
def B_M_fits_3 (rec : Nat → List Int32 → gS → Option (Int32 × gS)) (x1 : Int32) (x4 : Int32) (σ0 : gS) : Option (Int32 × gS) := gLd σ0 11 420 x1 (fun y29 => if y29 ≤ x4 then (gLd σ0 8 420 x1 (fun y33 => if y33 = 18 then (gBd (f_M_attr σ0 x1 8) (fun y37 σ38 => if 0 ≤ y37 then (rec 4 [x1] σ38) else (some (0, σ38)))) else (rec 4 [x1] σ0))) else (gLd σ0 10 420 x1 (fun y41 => gLd σ0 16 320 (y41 + x4) (fun y44 => gBd (f_M_mayStand σ0 x1 y44) (fun y47 σ48 => if y47 = 0 then (some (0, σ48)) else (gBd (f_M_countOf σ48 (y41 + x4)) (fun y51 σ52 => if 0 ≤ y51 then (rec 3 [x1, (x4 + 1)] σ52) else (some (0, σ52)))))))))
def B_M_fits_4 (rec : Nat → List Int32 → gS → Option (Int32 × gS)) (x1 : Int32) (σ0 : gS) : Option (Int32 × gS) := gLd σ0 8 420 x1 (fun y55 => if y55 = 9 then (gBd (f_M_numberOf σ0 x1) (fun y66 σ67 => if (lg_cmp y66 1099511627776) = 0 then (some (0, σ67)) else (some (1, σ67)))) else (gLd σ0 12 420 x1 (fun y59 => gLd σ0 8 420 x1 (fun y62 => if y62 = 20 then (rec 5 [y59, 6] σ0) else (rec 5 [y59, 0] σ0)))))
def B_M_fits_5 (rec : Nat → List Int32 → gS → Option (Int32 × gS)) (z0 : Int32) (z1 : Int32) (σ0 : gS) : Option (Int32 × gS) := if z1 < z0 then (some (0, σ0)) else (some (1, σ0))
def S_M_fits (rec : Nat → List Int32 → gS → Option (Int32 × gS)) (k : Nat) (l : List Int32) (σ0 : gS) : Option (Int32 × gS) := match k, l with
  | 0, [x1, x2] => B_M_fits_0 rec x1 x2 σ0
  | 1, [x1] => B_M_fits_1 rec x1 σ0
  | 2, [x1] => B_M_fits_2 rec x1 σ0
  | 3, [x1, x4] => B_M_fits_3 rec x1 x4 σ0
  | 4, [x1] => B_M_fits_4 rec x1 σ0
  | 5, [z0, z1] => B_M_fits_5 rec z0 z1 σ0
  | _, _ => none
def R_M_fits : Nat → Nat → List Int32 → gS → Option (Int32 × gS)
  | 0 => fun _ _ _ => none
  | t + 1 => fun k l σ0 => S_M_fits (R_M_fits t) k l σ0
def f_M_fits (σ : gS) (x1 : Int32) (x2 : Int32) : Option (Int32 × gS) := R_M_fits gFuel 0 [x1, x2] σ
set_option maxHeartbeats 4000000 in
set_option maxRecDepth 100000 in
theorem m_M_fits {l : Launch} {X : va_G} {cI cC cZ : ClassId} {aK aV : Nat → Nat} {b : Nat → Nat} {σ σ' : gS} {r : Int32} {q1 : Int32} {q2 : Int32} (hf : f_M_fits σ q1 q2 = some (r, σ')) {sz : Nat} : Met l y_M_fits w_M_fits { frames := 2, cells := 0, slots := 0, locals := 43 } (gPc X vwCl (gT cI cC cZ) aK aV (mW cI cC cZ b σ) sz [.ref (b 0), .int q1, .int q2]) (gQi X vwCl (mW cI cC cZ b σ) sz (fun r' (_ : Unit) => r' = r) (fun _ => mW cI cC cZ b σ')) 0 0 (va_A (mW cI cC cZ b σ) sz) := by
  refine g_met (cc := b_M_fits) (maxL := 6) (ret := (some .boolean)) (by decide) rfl (Nat.le_of_ble_eq_true rfl) ?_
  intro p e s m below meth c A ls hx hb hr hml hown hts hlocks hnm hsz hAe hA hP hK hD hS hl hE
  have hown : s.vm.findClass R_M = some m.cls := hown
  have u_0 : ∀ w ∈ u_ws R_M T_M 35, w ∈ w_M_fits := fun w h => List.mem_cons_of_mem _ (tu_M w h)
  have k_0 := hts (.fieldLink R_M 33 "GraphPagesModel" "name" "[I") (List.mem_cons_of_mem _ tb_450)
  have k_1 := hts (.fieldLink R_M 36 "GraphPagesModel" "parent" "[I") (List.mem_cons_of_mem _ tb_451)
  have k_2 := hts (.fieldLink R_M 42 "GraphPagesModel" "attrCount" "[I") (List.mem_cons_of_mem _ tb_453)
  have k_3 := hts (.fieldLink R_M 39 "GraphPagesModel" "firstAttr" "[I") (List.mem_cons_of_mem _ tb_455)
  have k_4 := hts (.fieldLink R_M 57 "GraphPagesModel" "attrName" "[I") (List.mem_cons_of_mem _ tb_454)
  have k_5 := hts (.fieldLink R_M 45 "GraphPagesModel" "textLength" "[I") (List.mem_cons_of_mem _ tb_466)
  have k_6 := hts (.constantLong R_M 191 1099511627776) (List.mem_cons_of_mem _ tb_490)
  unfold f_M_fits at hf
  have key : ∀ t : Nat, (∀ (x1 : Int32) (x2 : Int32) (σ0 : gS) (H : Heap) (locs : List Loc) (ls : Array Slot), R_M_fits t 0 [x1, x2] σ0 = some (r, σ') → va_P X vwCl (mW cI cC cZ b σ0) H → va_D A (mW cI cC cZ b σ0) → va_S A s.heap H locs → lv_has ls 6 [(0, .ref (b 0)), (1, .int x1), (2, .int x2)] → W p l e (headSpec w_M_fits { frames := 2, cells := 0, slots := 0, locals := 43 }).room s m [.ref (b 0), .int q1, .int q2].toArray below meth c H locs 0 0 (MQ below (gQi X vwCl (mW cI cC cZ b σ) sz (fun r' (_ : Unit) => r' = r) (fun _ => mW cI cC cZ b σ')) [.ref (b 0), .int q1, .int q2].toArray s 0 0 (va_A (mW cI cC cZ b σ) sz)) (F0 m 0 ls [])) ∧ (∀ (x1 : Int32) (σ0 : gS) (H : Heap) (locs : List Loc) (ls : Array Slot), R_M_fits t 1 [x1] σ0 = some (r, σ') → va_P X vwCl (mW cI cC cZ b σ0) H → va_D A (mW cI cC cZ b σ0) → va_S A s.heap H locs → lv_has ls 6 [(0, .ref (b 0)), (1, .int x1)] → W p l e (headSpec w_M_fits { frames := 2, cells := 0, slots := 0, locals := 43 }).room s m [.ref (b 0), .int q1, .int q2].toArray below meth c H locs 0 0 (MQ below (gQi X vwCl (mW cI cC cZ b σ) sz (fun r' (_ : Unit) => r' = r) (fun _ => mW cI cC cZ b σ')) [.ref (b 0), .int q1, .int q2].toArray s 0 0 (va_A (mW cI cC cZ b σ) sz)) (F0 m 35 ls [])) ∧ (∀ (x1 : Int32) (σ0 : gS) (H : Heap) (locs : List Loc) (ls : Array Slot), R_M_fits t 2 [x1] σ0 = some (r, σ') → va_P X vwCl (mW cI cC cZ b σ0) H → va_D A (mW cI cC cZ b σ0) → va_S A s.heap H locs → lv_has ls 6 [(0, .ref (b 0)), (1, .int x1)] → W p l e (headSpec w_M_fits { frames := 2, cells := 0, slots := 0, locals := 43 }).room s m [.ref (b 0), .int q1, .int q2].toArray below meth c H locs 0 0 (MQ below (gQi X vwCl (mW cI cC cZ b σ) sz (fun r' (_ : Unit) => r' = r) (fun _ => mW cI cC cZ b σ')) [.ref (b 0), .int q1, .int q2].toArray s 0 0 (va_A (mW cI cC cZ b σ) sz)) (F0 m 78 ls [])) ∧ (∀ (x1 : Int32) (x4 : Int32) (σ0 : gS) (H : Heap) (locs : List Loc) (ls : Array Slot), R_M_fits t 3 [x1, x4] σ0 = some (r, σ') → va_P X vwCl (mW cI cC cZ b σ0) H → va_D A (mW cI cC cZ b σ0) → va_S A s.heap H locs → lv_has ls 6 [(0, .ref (b 0)), (1, .int x1), (4, .int x4)] → W p l e (headSpec w_M_fits { frames := 2, cells := 0, slots := 0, locals := 43 }).room s m [.ref (b 0), .int q1, .int q2].toArray below meth c H locs 0 0 (MQ below (gQi X vwCl (mW cI cC cZ b σ) sz (fun r' (_ : Unit) => r' = r) (fun _ => mW cI cC cZ b σ')) [.ref (b 0), .int q1, .int q2].toArray s 0 0 (va_A (mW cI cC cZ b σ) sz)) (F0 m 81 ls [])) ∧ (∀ (x1 : Int32) (σ0 : gS) (H : Heap) (locs : List Loc) (ls : Array Slot), R_M_fits t 4 [x1] σ0 = some (r, σ') → va_P X vwCl (mW cI cC cZ b σ0) H → va_D A (mW cI cC cZ b σ0) → va_S A s.heap H locs → lv_has ls 6 [(0, .ref (b 0)), (1, .int x1)] → W p l e (headSpec w_M_fits { frames := 2, cells := 0, slots := 0, locals := 43 }).room s m [.ref (b 0), .int q1, .int q2].toArray below meth c H locs 0 0 (MQ below (gQi X vwCl (mW cI cC cZ b σ) sz (fun r' (_ : Unit) => r' = r) (fun _ => mW cI cC cZ b σ')) [.ref (b 0), .int q1, .int q2].toArray s 0 0 (va_A (mW cI cC cZ b σ) sz)) (F0 m 158 ls [])) ∧ (∀ (z0 : Int32) (z1 : Int32) (σ0 : gS) (H : Heap) (locs : List Loc) (ls : Array Slot), R_M_fits t 5 [z0, z1] σ0 = some (r, σ') → va_P X vwCl (mW cI cC cZ b σ0) H → va_D A (mW cI cC cZ b σ0) → va_S A s.heap H locs → lv_has ls 6 [] → W p l e (headSpec w_M_fits { frames := 2, cells := 0, slots := 0, locals := 43 }).room s m [.ref (b 0), .int q1, .int q2].toArray below meth c H locs 0 0 (MQ below (gQi X vwCl (mW cI cC cZ b σ) sz (fun r' (_ : Unit) => r' = r) (fun _ => mW cI cC cZ b σ')) [.ref (b 0), .int q1, .int q2].toArray s 0 0 (va_A (mW cI cC cZ b σ) sz)) (F0 m 210 ls [.int z1, .int z0])) := by
    intro t
    induction t with
    | zero => exact ⟨fun _ _ _ _ _ _ hf => (by have hf : (none : Option (Int32 × gS)) = some (r, σ') := hf; cases hf), fun _ _ _ _ _ hf => (by have hf : (none : Option (Int32 × gS)) = some (r, σ') := hf; cases hf), fun _ _ _ _ _ hf => (by have hf : (none : Option (Int32 × gS)) = some (r, σ') := hf; cases hf), fun _ _ _ _ _ _ hf => (by have hf : (none : Option (Int32 × gS)) = some (r, σ') := hf; cases hf), fun _ _ _ _ _ hf => (by have hf : (none : Option (Int32 × gS)) = some (r, σ') := hf; cases hf), fun _ _ _ _ _ _ hf => (by have hf : (none : Option (Int32 × gS)) = some (r, σ') := hf; cases hf)⟩
    | succ t ih =>
      obtain ⟨ih0, ih1, ih2, ih3, ih4, ih5⟩ := ih
      refine ⟨?_, ?_, ?_, ?_, ?_, ?_⟩
      · intro x1 x2 σ0 H locs ls hf hP hD hS hl
        have hf : B_M_fits_0 (R_M_fits t) x1 x2 σ0 = some (r, σ') := hf
        unfold B_M_fits_0 at hf
        refine lv_aload_n hx hb d_M_fits_0 rfl (lv_at hl 0 rfl) ?_
        refine va_get (D := X) (ci := 9) (C := R_M) (T := T_M) (N := 35) hx hb hts u_0 hown hK hP 0 gm_0 rfl 10 (by decide) k_0 (fun _ h9 => h9) rfl d_M_fits_1 ?_
        refine lv_aload_n hx hb d_M_fits_4 rfl (lv_at hl 0 rfl) ?_
        refine va_get (D := X) (ci := 9) (C := R_M) (T := T_M) (N := 35) hx hb hts u_0 hown hK hP 0 gm_0 rfl 11 (by decide) k_1 (fun _ h9 => h9) rfl d_M_fits_5 ?_
        refine lv_iload_n hx hb d_M_fits_8 rfl (lv_at hl 1 rfl) ?_
        obtain ⟨y1, h2, e3, hf⟩ := gLd_e hf
        refine va_iald hx hb hK hP 9 0 gm_9 rfl h2 d_M_fits_9 ?_
        rw [← e3]
        obtain ⟨y4, h5, e6, hf⟩ := gLd_e hf
        refine va_iald hx hb hK hP 8 0 gm_8 rfl h5 d_M_fits_10 ?_
        rw [← e6]
        refine lv_istore_n hx hb d_M_fits_11 rfl hl (by decide) rfl (fun ls hl => ?_)
        refine lv_aload_n hx hb d_M_fits_12 rfl (lv_at hl 1 rfl) ?_
        refine va_get (D := X) (ci := 9) (C := R_M) (T := T_M) (N := 35) hx hb hts u_0 hown hK hP 0 gm_0 rfl 11 (by decide) k_1 (fun _ h9 => h9) rfl d_M_fits_13 ?_
        refine lv_iload_n hx hb d_M_fits_16 rfl (lv_at hl 2 rfl) ?_
        obtain ⟨y7, h8, e9, hf⟩ := gLd_e hf
        refine va_iald hx hb hK hP 9 0 gm_9 rfl h8 d_M_fits_17 ?_
        rw [← e9]
        refine lv_iload_n hx hb d_M_fits_18 rfl (lv_at hl 3 rfl) ?_
        refine lv_icmp_eq (tgt := 35) hx hb d_M_fits_19 rfl (fun c10 => ?_) (fun c10 => ?_)
        · skip
          rw [if_pos c10] at hf
          exact ih1 (x1) σ0 _ _ _ hf hP hD hS (lv_sub hl [1, 2] rfl)
        rw [if_neg c10] at hf
        refine lv_iload_n hx hb d_M_fits_22 rfl (lv_at hl 0 rfl) ?_
        refine lv_bipush (v := 16) hx hb d_M_fits_23 (by decide) ?_
        refine lv_icmp_eq (tgt := 35) hx hb d_M_fits_25 rfl (fun c11 => ?_) (fun c11 => ?_)
        · skip
          rw [if_pos c11] at hf
          exact ih1 (x1) σ0 _ _ _ hf hP hD hS (lv_sub hl [1, 2] rfl)
        rw [if_neg c11] at hf
        refine lv_iload_n hx hb d_M_fits_28 rfl (lv_at hl 0 rfl) ?_
        refine lv_iconst (v := 1) hx hb d_M_fits_29 (by decide) ?_
        refine lv_icmp_eq (tgt := 35) hx hb d_M_fits_30 rfl (fun c12 => ?_) (fun c12 => ?_)
        · skip
          rw [if_pos c12] at hf
          exact ih1 (x1) σ0 _ _ _ hf hP hD hS (lv_sub hl [1, 2] rfl)
        rw [if_neg c12] at hf
        refine lv_iconst (v := 0) hx hb d_M_fits_33 (by decide) ?_
        obtain ⟨rfl, rfl⟩ := gRt_e hf
        exact g_zret hx hb hr hlocks rfl hAe hS () rfl hP d_M_fits_34
      · intro x1 σ0 H locs ls hf hP hD hS hl
        have hf : B_M_fits_1 (R_M_fits t) x1 σ0 = some (r, σ') := hf
        unfold B_M_fits_1 at hf
        refine lv_aload_n hx hb d_M_fits_35 rfl (lv_at hl 0 rfl) ?_
        refine lv_iload_n hx hb d_M_fits_36 rfl (lv_at hl 1 rfl) ?_
        obtain ⟨y13, σ14, e15, hf⟩ := gBd_e hf
        refine g_wi (va_runV ⟨hx, hb, hml, hown, hts⟩ (m_M_isObject e15) (cwV 1 hts (gG4 (fun _ h => List.mem_cons_of_mem _ h) tb_487 tb_488 tb_489 tb_392 tc_M_isObject) rfl rfl rfl (by decide +kernel) ⟨Nat.le_of_ble_eq_true rfl, Nat.le_of_ble_eq_true rfl⟩) (g_preVW (q0 := 0) hE hK hP hD hS hA gm_0 rfl) rfl rfl hl.1 rfl (lv_room (Nat.le_of_ble_eq_true rfl)) d_M_fits_37 ⟨Nat.zero_le _, Nat.zero_le _⟩) hD hS hA (fun _ => mW_fst) (fun y13 _ H locs hu hP hD hS => ?_)
        subst hu
        refine lv_if_ne (tgt := 78) hx hb d_M_fits_40 rfl (fun c16 => ?_) (fun c16 => ?_)
        · skip
          rw [if_neg c16] at hf
          exact ih2 (x1) σ14 _ _ _ hf hP hD hS (lv_sub hl [0, 1] rfl)
        rw [if_pos c16] at hf
        refine lv_aload_n hx hb d_M_fits_43 rfl (lv_at hl 0 rfl) ?_
        refine va_get (D := X) (ci := 9) (C := R_M) (T := T_M) (N := 35) hx hb hts u_0 hown hK hP 0 gm_0 rfl 10 (by decide) k_0 (fun _ h9 => h9) rfl d_M_fits_44 ?_
        refine lv_iload_n hx hb d_M_fits_47 rfl (lv_at hl 1 rfl) ?_
        obtain ⟨y17, h18, e19, hf⟩ := gLd_e hf
        refine va_iald hx hb hK hP 8 0 gm_8 rfl h18 d_M_fits_48 ?_
        rw [← e19]
        refine lv_bipush (v := 14) hx hb d_M_fits_49 (by decide) ?_
        refine lv_icmp_eq (tgt := 78) hx hb d_M_fits_51 rfl (fun c20 => ?_) (fun c20 => ?_)
        · skip
          rw [if_pos c20] at hf
          exact ih2 (x1) σ14 _ _ _ hf hP hD hS (lv_sub hl [0, 1] rfl)
        rw [if_neg c20] at hf
        refine lv_aload_n hx hb d_M_fits_54 rfl (lv_at hl 0 rfl) ?_
        refine va_get (D := X) (ci := 9) (C := R_M) (T := T_M) (N := 35) hx hb hts u_0 hown hK hP 0 gm_0 rfl 10 (by decide) k_0 (fun _ h9 => h9) rfl d_M_fits_55 ?_
        refine lv_iload_n hx hb d_M_fits_58 rfl (lv_at hl 1 rfl) ?_
        obtain ⟨y21, h22, e23, hf⟩ := gLd_e hf
        refine va_iald hx hb hK hP 8 0 gm_8 rfl h22 d_M_fits_59 ?_
        rw [← e23]
        refine lv_bipush (v := 9) hx hb d_M_fits_60 (by decide) ?_
        refine lv_icmp_eq (tgt := 78) hx hb d_M_fits_62 rfl (fun c24 => ?_) (fun c24 => ?_)
        · skip
          rw [if_pos c24] at hf
          exact ih2 (x1) σ14 _ _ _ hf hP hD hS (lv_sub hl [0, 1] rfl)
        rw [if_neg c24] at hf
        refine lv_aload_n hx hb d_M_fits_65 rfl (lv_at hl 0 rfl) ?_
        refine va_get (D := X) (ci := 9) (C := R_M) (T := T_M) (N := 35) hx hb hts u_0 hown hK hP 0 gm_0 rfl 10 (by decide) k_0 (fun _ h9 => h9) rfl d_M_fits_66 ?_
        refine lv_iload_n hx hb d_M_fits_69 rfl (lv_at hl 1 rfl) ?_
        obtain ⟨y25, h26, e27, hf⟩ := gLd_e hf
        refine va_iald hx hb hK hP 8 0 gm_8 rfl h26 d_M_fits_70 ?_
        rw [← e27]
        refine lv_bipush (v := 18) hx hb d_M_fits_71 (by decide) ?_
        refine lv_icmp_eq (tgt := 78) hx hb d_M_fits_73 rfl (fun c28 => ?_) (fun c28 => ?_)
        · skip
          rw [if_pos c28] at hf
          exact ih2 (x1) σ14 _ _ _ hf hP hD hS (lv_sub hl [0, 1] rfl)
        rw [if_neg c28] at hf
        refine lv_iconst (v := 0) hx hb d_M_fits_76 (by decide) ?_
        obtain ⟨rfl, rfl⟩ := gRt_e hf
        exact g_zret hx hb hr hlocks rfl hAe hS () rfl hP d_M_fits_77
      · intro x1 σ0 H locs ls hf hP hD hS hl
        have hf : B_M_fits_2 (R_M_fits t) x1 σ0 = some (r, σ') := hf
        unfold B_M_fits_2 at hf
        refine lv_iconst (v := 0) hx hb d_M_fits_78 (by decide) ?_
        refine lv_istore hx hb d_M_fits_79 hl (by decide) rfl (fun ls hl => ?_)
        exact ih3 (x1) (0) σ0 _ _ _ hf hP hD hS (lv_sub hl [1, 2, 0] rfl)
      · intro x1 x4 σ0 H locs ls hf hP hD hS hl
        have hf : B_M_fits_3 (R_M_fits t) x1 x4 σ0 = some (r, σ') := hf
        unfold B_M_fits_3 at hf
        refine lv_iload hx hb d_M_fits_81 (lv_at hl 2 rfl) ?_
        refine lv_aload_n hx hb d_M_fits_83 rfl (lv_at hl 0 rfl) ?_
        refine va_get (D := X) (ci := 9) (C := R_M) (T := T_M) (N := 35) hx hb hts u_0 hown hK hP 0 gm_0 rfl 13 (by decide) k_2 (fun _ h9 => h9) rfl d_M_fits_84 ?_
        refine lv_iload_n hx hb d_M_fits_87 rfl (lv_at hl 1 rfl) ?_
        obtain ⟨y29, h30, e31, hf⟩ := gLd_e hf
        refine va_iald hx hb hK hP 11 0 gm_11 rfl h30 d_M_fits_88 ?_
        rw [← e31]
        refine lv_icmp_ge (tgt := 135) hx hb d_M_fits_89 rfl (fun c32 => ?_) (fun c32 => ?_)
        · skip
          rw [if_pos c32] at hf
          refine lv_aload_n hx hb d_M_fits_135 rfl (lv_at hl 0 rfl) ?_
          refine va_get (D := X) (ci := 9) (C := R_M) (T := T_M) (N := 35) hx hb hts u_0 hown hK hP 0 gm_0 rfl 10 (by decide) k_0 (fun _ h9 => h9) rfl d_M_fits_136 ?_
          refine lv_iload_n hx hb d_M_fits_139 rfl (lv_at hl 1 rfl) ?_
          obtain ⟨y33, h34, e35, hf⟩ := gLd_e hf
          refine va_iald hx hb hK hP 8 0 gm_8 rfl h34 d_M_fits_140 ?_
          rw [← e35]
          refine lv_bipush (v := 18) hx hb d_M_fits_141 (by decide) ?_
          refine lv_icmp_ne (tgt := 158) hx hb d_M_fits_143 rfl (fun c36 => ?_) (fun c36 => ?_)
          · skip
            rw [if_neg c36] at hf
            exact ih4 (x1) σ0 _ _ _ hf hP hD hS (lv_sub hl [0, 1] rfl)
          rw [if_pos c36] at hf
          refine lv_aload_n hx hb d_M_fits_146 rfl (lv_at hl 0 rfl) ?_
          refine lv_iload_n hx hb d_M_fits_147 rfl (lv_at hl 1 rfl) ?_
          refine lv_bipush (v := 8) hx hb d_M_fits_148 (by decide) ?_
          obtain ⟨y37, σ38, e39, hf⟩ := gBd_e hf
          refine g_wi (va_runV ⟨hx, hb, hml, hown, hts⟩ (m_M_attr e39) (cwV 2 hts (gG4 (fun _ h => List.mem_cons_of_mem _ h) tb_456 tb_457 tb_458 tb_392 tc_M_attr) rfl rfl rfl (by decide +kernel) ⟨Nat.le_of_ble_eq_true rfl, Nat.le_of_ble_eq_true rfl⟩) (g_preVW (q0 := 0) hE hK hP hD hS hA gm_0 rfl) rfl rfl hl.1 rfl (lv_room (Nat.le_of_ble_eq_true rfl)) d_M_fits_150 ⟨Nat.zero_le _, Nat.zero_le _⟩) hD hS hA (fun _ => mW_fst) (fun y37 _ H locs hu hP hD hS => ?_)
          subst hu
          refine lv_if_ge (tgt := 158) hx hb d_M_fits_153 rfl (fun c40 => ?_) (fun c40 => ?_)
          · skip
            rw [if_pos c40] at hf
            exact ih4 (x1) σ38 _ _ _ hf hP hD hS (lv_sub hl [0, 1] rfl)
          rw [if_neg c40] at hf
          refine lv_iconst (v := 0) hx hb d_M_fits_156 (by decide) ?_
          obtain ⟨rfl, rfl⟩ := gRt_e hf
          exact g_zret hx hb hr hlocks rfl hAe hS () rfl hP d_M_fits_157
        rw [if_neg c32] at hf
        refine lv_aload_n hx hb d_M_fits_92 rfl (lv_at hl 0 rfl) ?_
        refine va_get (D := X) (ci := 9) (C := R_M) (T := T_M) (N := 35) hx hb hts u_0 hown hK hP 0 gm_0 rfl 12 (by decide) k_3 (fun _ h9 => h9) rfl d_M_fits_93 ?_
        refine lv_iload_n hx hb d_M_fits_96 rfl (lv_at hl 1 rfl) ?_
        obtain ⟨y41, h42, e43, hf⟩ := gLd_e hf
        refine va_iald hx hb hK hP 10 0 gm_10 rfl h42 d_M_fits_97 ?_
        rw [← e43]
        refine lv_iload hx hb d_M_fits_98 (lv_at hl 2 rfl) ?_
        refine lv_iadd hx hb d_M_fits_100 ?_
        refine lv_istore hx hb d_M_fits_101 hl (by decide) rfl (fun ls hl => ?_)
        refine lv_aload_n hx hb d_M_fits_103 rfl (lv_at hl 1 rfl) ?_
        refine lv_iload_n hx hb d_M_fits_104 rfl (lv_at hl 2 rfl) ?_
        refine lv_aload_n hx hb d_M_fits_105 rfl (lv_at hl 1 rfl) ?_
        refine va_get (D := X) (ci := 9) (C := R_M) (T := T_M) (N := 35) hx hb hts u_0 hown hK hP 0 gm_0 rfl 19 (by decide) k_4 (fun _ h9 => h9) rfl d_M_fits_106 ?_
        refine lv_iload hx hb d_M_fits_109 (lv_at hl 0 rfl) ?_
        obtain ⟨y44, h45, e46, hf⟩ := gLd_e hf
        refine va_iald hx hb hK hP 16 0 gm_16 rfl h45 d_M_fits_111 ?_
        rw [← e46]
        obtain ⟨y47, σ48, e49, hf⟩ := gBd_e hf
        refine g_wi (va_runV ⟨hx, hb, hml, hown, hts⟩ (m_M_mayStand e49) (cwV 2 hts (gG4 (fun _ h => List.mem_cons_of_mem _ h) tb_493 tb_494 tb_495 tb_392 tc_M_mayStand) rfl rfl rfl (by decide +kernel) ⟨Nat.le_of_ble_eq_true rfl, Nat.le_of_ble_eq_true rfl⟩) (g_preVW (q0 := 0) hE hK hP hD hS hA gm_0 rfl) rfl rfl hl.1 rfl (lv_room (Nat.le_of_ble_eq_true rfl)) d_M_fits_112 ⟨Nat.zero_le _, Nat.zero_le _⟩) hD hS hA (fun _ => mW_fst) (fun y47 _ H locs hu hP hD hS => ?_)
        subst hu
        refine lv_if_eq (tgt := 127) hx hb d_M_fits_115 rfl (fun c50 => ?_) (fun c50 => ?_)
        · skip
          rw [if_pos c50] at hf
          refine lv_iconst (v := 0) hx hb d_M_fits_127 (by decide) ?_
          obtain ⟨rfl, rfl⟩ := gRt_e hf
          exact g_zret hx hb hr hlocks rfl hAe hS () rfl hP d_M_fits_128
        rw [if_neg c50] at hf
        refine lv_aload_n hx hb d_M_fits_118 rfl (lv_at hl 1 rfl) ?_
        refine lv_iload hx hb d_M_fits_119 (lv_at hl 0 rfl) ?_
        obtain ⟨y51, σ52, e53, hf⟩ := gBd_e hf
        refine g_wi (va_runV ⟨hx, hb, hml, hown, hts⟩ (m_M_countOf e53) (cwV 1 hts (gG4 (fun _ h => List.mem_cons_of_mem _ h) tb_477 tb_478 tb_479 tb_392 tc_M_countOf) rfl rfl rfl (by decide +kernel) ⟨Nat.le_of_ble_eq_true rfl, Nat.le_of_ble_eq_true rfl⟩) (g_preVW (q0 := 0) hE hK hP hD hS hA gm_0 rfl) rfl rfl hl.1 rfl (lv_room (Nat.le_of_ble_eq_true rfl)) d_M_fits_121 ⟨Nat.zero_le _, Nat.zero_le _⟩) hD hS hA (fun _ => mW_fst) (fun y51 _ H locs hu hP hD hS => ?_)
        subst hu
        refine lv_if_ge (tgt := 129) hx hb d_M_fits_124 rfl (fun c54 => ?_) (fun c54 => ?_)
        · skip
          rw [if_pos c54] at hf
          refine lv_iinc (k := 3) (v := (x4 + 1)) hx hb d_M_fits_129 hl rfl (by rw [show Int32.ofInt (1) = (1 : Int32) by decide]) (by decide) rfl (fun ls hl => ?_)
          refine lv_goto (tgt := 81) hx hb d_M_fits_132 rfl ?_
          exact ih3 (x1) ((x4 + 1)) σ52 _ _ _ hf hP hD hS (lv_sub hl [2, 3, 0] rfl)
        rw [if_neg c54] at hf
        refine lv_iconst (v := 0) hx hb d_M_fits_127 (by decide) ?_
        obtain ⟨rfl, rfl⟩ := gRt_e hf
        exact g_zret hx hb hr hlocks rfl hAe hS () rfl hP d_M_fits_128
      · intro x1 σ0 H locs ls hf hP hD hS hl
        have hf : B_M_fits_4 (R_M_fits t) x1 σ0 = some (r, σ') := hf
        unfold B_M_fits_4 at hf
        refine lv_aload_n hx hb d_M_fits_158 rfl (lv_at hl 0 rfl) ?_
        refine va_get (D := X) (ci := 9) (C := R_M) (T := T_M) (N := 35) hx hb hts u_0 hown hK hP 0 gm_0 rfl 10 (by decide) k_0 (fun _ h9 => h9) rfl d_M_fits_159 ?_
        refine lv_iload_n hx hb d_M_fits_162 rfl (lv_at hl 1 rfl) ?_
        obtain ⟨y55, h56, e57, hf⟩ := gLd_e hf
        refine va_iald hx hb hK hP 8 0 gm_8 rfl h56 d_M_fits_163 ?_
        rw [← e57]
        refine lv_bipush (v := 9) hx hb d_M_fits_164 (by decide) ?_
        refine lv_icmp_ne (tgt := 187) hx hb d_M_fits_166 rfl (fun c58 => ?_) (fun c58 => ?_)
        · skip
          rw [if_neg c58] at hf
          refine lv_aload_n hx hb d_M_fits_187 rfl (lv_at hl 0 rfl) ?_
          refine va_get (D := X) (ci := 9) (C := R_M) (T := T_M) (N := 35) hx hb hts u_0 hown hK hP 0 gm_0 rfl 14 (by decide) k_5 (fun _ h9 => h9) rfl d_M_fits_188 ?_
          refine lv_iload_n hx hb d_M_fits_191 rfl (lv_at hl 1 rfl) ?_
          obtain ⟨y59, h60, e61, hf⟩ := gLd_e hf
          refine va_iald hx hb hK hP 12 0 gm_12 rfl h60 d_M_fits_192 ?_
          rw [← e61]
          refine lv_aload_n hx hb d_M_fits_193 rfl (lv_at hl 0 rfl) ?_
          refine va_get (D := X) (ci := 9) (C := R_M) (T := T_M) (N := 35) hx hb hts u_0 hown hK hP 0 gm_0 rfl 10 (by decide) k_0 (fun _ h9 => h9) rfl d_M_fits_194 ?_
          refine lv_iload_n hx hb d_M_fits_197 rfl (lv_at hl 1 rfl) ?_
          obtain ⟨y62, h63, e64, hf⟩ := gLd_e hf
          refine va_iald hx hb hK hP 8 0 gm_8 rfl h63 d_M_fits_198 ?_
          rw [← e64]
          refine lv_bipush (v := 20) hx hb d_M_fits_199 (by decide) ?_
          refine lv_icmp_ne (tgt := 209) hx hb d_M_fits_201 rfl (fun c65 => ?_) (fun c65 => ?_)
          · skip
            rw [if_neg c65] at hf
            refine lv_iconst (v := 0) hx hb d_M_fits_209 (by decide) ?_
            exact ih5 (y59) (0) σ0 _ _ _ hf hP hD hS (lv_sub hl [] rfl)
          rw [if_pos c65] at hf
          refine lv_bipush (v := 6) hx hb d_M_fits_204 (by decide) ?_
          refine lv_goto (tgt := 210) hx hb d_M_fits_206 rfl ?_
          exact ih5 (y59) (6) σ0 _ _ _ hf hP hD hS (lv_sub hl [] rfl)
        rw [if_pos c58] at hf
        refine lv_aload_n hx hb d_M_fits_169 rfl (lv_at hl 0 rfl) ?_
        refine lv_iload_n hx hb d_M_fits_170 rfl (lv_at hl 1 rfl) ?_
        obtain ⟨y66, σ67, e68, hf⟩ := gBd_e hf
        refine g_wl (va_runV ⟨hx, hb, hml, hown, hts⟩ (m_M_numberOf e68) (cwV 1 hts (gG4 (fun _ h => List.mem_cons_of_mem _ h) tb_496 tb_497 tb_498 tb_392 tc_M_numberOf) rfl rfl rfl (by decide +kernel) ⟨Nat.le_of_ble_eq_true rfl, Nat.le_of_ble_eq_true rfl⟩) (g_preVW (q0 := 0) hE hK hP hD hS hA gm_0 rfl) rfl rfl hl.1 rfl (lv_room (Nat.le_of_ble_eq_true rfl)) d_M_fits_171 ⟨Nat.zero_le _, Nat.zero_le _⟩) hD hS hA (fun _ => mW_fst) (fun y66 _ H locs hu hP hD hS => ?_)
        subst hu
        refine lv_ldc2 (v := 1099511627776) hx hb hown k_6 d_M_fits_174 ?_
        refine W.lcmp hx hb d_M_fits_177 ?_
        refine lv_if_eq (tgt := 185) hx hb d_M_fits_178 rfl (fun c69 => ?_) (fun c69 => ?_)
        · skip
          rw [if_pos c69] at hf
          refine lv_iconst (v := 0) hx hb d_M_fits_185 (by decide) ?_
          obtain ⟨rfl, rfl⟩ := gRt_e hf
          exact g_zret hx hb hr hlocks rfl hAe hS () rfl hP d_M_fits_186
        rw [if_neg c69] at hf
        refine lv_iconst (v := 1) hx hb d_M_fits_181 (by decide) ?_
        refine lv_goto (tgt := 186) hx hb d_M_fits_182 rfl ?_
        obtain ⟨rfl, rfl⟩ := gRt_e hf
        exact g_zret hx hb hr hlocks rfl hAe hS () rfl hP d_M_fits_186
      · intro z0 z1 σ0 H locs ls hf hP hD hS hl
        have hf : B_M_fits_5 (R_M_fits t) z0 z1 σ0 = some (r, σ') := hf
        unfold B_M_fits_5 at hf
        refine lv_icmp_gt (tgt := 217) hx hb d_M_fits_210 rfl (fun c70 => ?_) (fun c70 => ?_)
        · skip
          rw [if_pos c70] at hf
          refine lv_iconst (v := 0) hx hb d_M_fits_217 (by decide) ?_
          obtain ⟨rfl, rfl⟩ := gRt_e hf
          exact g_zret hx hb hr hlocks rfl hAe hS () rfl hP d_M_fits_218
        rw [if_neg c70] at hf
        refine lv_iconst (v := 1) hx hb d_M_fits_213 (by decide) ?_
        refine lv_goto (tgt := 218) hx hb d_M_fits_214 rfl ?_
        obtain ⟨rfl, rfl⟩ := gRt_e hf
        exact g_zret hx hb hr hlocks rfl hAe hS () rfl hP d_M_fits_218
  exact (key gFuel).1 q1 q2 σ _ _ _ hf hP hD hS hl

def B_M_slots_0 (rec : Nat → List Int32 → gS → Option (Int32 × gS)) (x1 : Int32) (σ0 : gS) : Option (Int32 × gS) := gLd σ0 8 420 x1 (fun y1 => if y1 = 16 then (rec 1 [x1, 2] σ0) else (gBd (f_M_countIn σ0 x1 14) (fun y5 σ6 => rec 1 [x1, y5] σ6)))
def B_M_slots_1 (rec : Nat → List Int32 → gS → Option (Int32 × gS)) (x1 : Int32) (z0 : Int32) (σ0 : gS) : Option (Int32 × gS) := gLd σ0 8 420 x1 (fun y8 => if y8 = 16 then (rec 2 [x1, z0, 0] σ0) else (gBd (f_M_countIn σ0 x1 15) (fun y12 σ13 => rec 2 [x1, z0, y12] σ13)))
def B_M_slots_2 (rec : Nat → List Int32 → gS → Option (Int32 × gS)) (x1 : Int32) (x2 : Int32) (z0 : Int32) (σ0 : gS) : Option (Int32 × gS) := if x2 < 0 then (some (0, σ0)) else (if 4 < x2 then (some (0, σ0)) else (if z0 ≤ x2 then (if 0 ≤ z0 then (rec 3 [x1, x2, z0] σ0) else (rec 3 [x1, x2, 0] σ0)) else (some (0, σ0))))
def B_M_slots_3 (rec : Nat → List Int32 → gS → Option (Int32 × gS)) (x1 : Int32) (x2 : Int32) (z0 : Int32) (σ0 : gS) : Option (Int32 × gS) := rec 4 [x1, x2, z0, 0, (x1 + 1)] σ0
def B_M_slots_4 (rec : Nat → List Int32 → gS → Option (Int32 × gS)) (x1 : Int32) (x2 : Int32) (x3 : Int32) (x4 : Int32) (x5 : Int32) (σ0 : gS) : Option (Int32 × gS) := if (σ0.1 2) ≤ x5 then (gLd σ0 8 420 x1 (fun y20 => if y20 = 1 then (some (1, σ0)) else (if x4 = 3 then (some (1, σ0)) else (some (0, σ0))))) else (gLd σ0 9 420 x5 (fun y25 => if y25 = x1 then (gBd (f_M_countIn σ0 x5 47) (fun y29 σ30 => if 0 ≤ y29 then (rec 5 [x1, x2, x4, x5, y29] σ30) else (rec 5 [x1, x2, x4, x5, x3] σ30))) else (rec 6 [x1, x2, x3, x4, x5] σ0)))
def B_M_slots_5 (rec : Nat → List Int32 → gS → Option (Int32 × gS)) (x1 : Int32) (x2 : Int32) (x4 : Int32) (x5 : Int32) (z0 : Int32) (σ0 : gS) : Option (Int32 × gS) := if x2 ≤ z0 then (some (0, σ0)) else (if ((x4 >>> (z0 &&& 31)) &&& 1) = 0 then (gSt σ0 14 420 x5 z0 (fun σ35 => rec 6 [x1, x2, (z0 + 1), (x4 ||| (1 <<< (z0 &&& 31))), x5] σ35)) else (some (0, σ0)))
def B_M_slots_6 (rec : Nat → List Int32 → gS → Option (Int32 × gS)) (x1 : Int32) (x2 : Int32) (x3 : Int32) (x4 : Int32) (x5 : Int32) (σ0 : gS) : Option (Int32 × gS) := rec 4 [x1, x2, x3, x4, (x5 + 1)] σ0
def S_M_slots (rec : Nat → List Int32 → gS → Option (Int32 × gS)) (k : Nat) (l : List Int32) (σ0 : gS) : Option (Int32 × gS) := match k, l with
  | 0, [x1] => B_M_slots_0 rec x1 σ0
  | 1, [x1, z0] => B_M_slots_1 rec x1 z0 σ0
  | 2, [x1, x2, z0] => B_M_slots_2 rec x1 x2 z0 σ0
  | 3, [x1, x2, z0] => B_M_slots_3 rec x1 x2 z0 σ0
  | 4, [x1, x2, x3, x4, x5] => B_M_slots_4 rec x1 x2 x3 x4 x5 σ0
  | 5, [x1, x2, x4, x5, z0] => B_M_slots_5 rec x1 x2 x4 x5 z0 σ0
  | 6, [x1, x2, x3, x4, x5] => B_M_slots_6 rec x1 x2 x3 x4 x5 σ0
  | _, _ => none
def R_M_slots : Nat → Nat → List Int32 → gS → Option (Int32 × gS)
  | 0 => fun _ _ _ => none
  | t + 1 => fun k l σ0 => S_M_slots (R_M_slots t) k l σ0
def f_M_slots (σ : gS) (x1 : Int32) : Option (Int32 × gS) := R_M_slots gFuel 0 [x1] σ
set_option maxHeartbeats 4000000 in
set_option maxRecDepth 100000 in
theorem m_M_slots {l : Launch} {X : va_G} {cI cC cZ : ClassId} {aK aV : Nat → Nat} {b : Nat → Nat} {σ σ' : gS} {r : Int32} {q1 : Int32} (hf : f_M_slots σ q1 = some (r, σ')) {sz : Nat} : Met l y_M_slots w_M_slots { frames := 2, cells := 0, slots := 0, locals := 47 } (gPc X vwCl (gT cI cC cZ) aK aV (mW cI cC cZ b σ) sz [.ref (b 0), .int q1]) (gQi X vwCl (mW cI cC cZ b σ) sz (fun r' (_ : Unit) => r' = r) (fun _ => mW cI cC cZ b σ')) 0 0 (va_A (mW cI cC cZ b σ) sz) := by
  refine g_met (cc := b_M_slots) (maxL := 7) (ret := (some .boolean)) (by decide) rfl (Nat.le_of_ble_eq_true rfl) ?_
  intro p e s m below meth c A ls hx hb hr hml hown hts hlocks hnm hsz hAe hA hP hK hD hS hl hE
  have hown : s.vm.findClass R_M = some m.cls := hown
  have u_0 : ∀ w ∈ u_ws R_M T_M 35, w ∈ w_M_slots := fun w h => List.mem_cons_of_mem _ (tu_M w h)
  have k_0 := hts (.fieldLink R_M 33 "GraphPagesModel" "name" "[I") (List.mem_cons_of_mem _ tb_450)
  have k_1 := hts (.fieldLink R_M 163 "GraphPagesModel" "elements" "I") (List.mem_cons_of_mem _ tb_465)
  have k_2 := hts (.fieldLink R_M 36 "GraphPagesModel" "parent" "[I") (List.mem_cons_of_mem _ tb_451)
  have k_3 := hts (.fieldLink R_M 51 "GraphPagesModel" "slot" "[I") (List.mem_cons_of_mem _ tb_499)
  unfold f_M_slots at hf
  have key : ∀ t : Nat, (∀ (x1 : Int32) (σ0 : gS) (H : Heap) (locs : List Loc) (ls : Array Slot), R_M_slots t 0 [x1] σ0 = some (r, σ') → va_P X vwCl (mW cI cC cZ b σ0) H → va_D A (mW cI cC cZ b σ0) → va_S A s.heap H locs → lv_has ls 7 [(0, .ref (b 0)), (1, .int x1)] → W p l e (headSpec w_M_slots { frames := 2, cells := 0, slots := 0, locals := 47 }).room s m [.ref (b 0), .int q1].toArray below meth c H locs 0 0 (MQ below (gQi X vwCl (mW cI cC cZ b σ) sz (fun r' (_ : Unit) => r' = r) (fun _ => mW cI cC cZ b σ')) [.ref (b 0), .int q1].toArray s 0 0 (va_A (mW cI cC cZ b σ) sz)) (F0 m 0 ls [])) ∧ (∀ (x1 : Int32) (z0 : Int32) (σ0 : gS) (H : Heap) (locs : List Loc) (ls : Array Slot), R_M_slots t 1 [x1, z0] σ0 = some (r, σ') → va_P X vwCl (mW cI cC cZ b σ0) H → va_D A (mW cI cC cZ b σ0) → va_S A s.heap H locs → lv_has ls 7 [(0, .ref (b 0)), (1, .int x1)] → W p l e (headSpec w_M_slots { frames := 2, cells := 0, slots := 0, locals := 47 }).room s m [.ref (b 0), .int q1].toArray below meth c H locs 0 0 (MQ below (gQi X vwCl (mW cI cC cZ b σ) sz (fun r' (_ : Unit) => r' = r) (fun _ => mW cI cC cZ b σ')) [.ref (b 0), .int q1].toArray s 0 0 (va_A (mW cI cC cZ b σ) sz)) (F0 m 22 ls [.int z0])) ∧ (∀ (x1 : Int32) (x2 : Int32) (z0 : Int32) (σ0 : gS) (H : Heap) (locs : List Loc) (ls : Array Slot), R_M_slots t 2 [x1, x2, z0] σ0 = some (r, σ') → va_P X vwCl (mW cI cC cZ b σ0) H → va_D A (mW cI cC cZ b σ0) → va_S A s.heap H locs → lv_has ls 7 [(0, .ref (b 0)), (1, .int x1), (2, .int x2)] → W p l e (headSpec w_M_slots { frames := 2, cells := 0, slots := 0, locals := 47 }).room s m [.ref (b 0), .int q1].toArray below meth c H locs 0 0 (MQ below (gQi X vwCl (mW cI cC cZ b σ) sz (fun r' (_ : Unit) => r' = r) (fun _ => mW cI cC cZ b σ')) [.ref (b 0), .int q1].toArray s 0 0 (va_A (mW cI cC cZ b σ) sz)) (F0 m 45 ls [.int z0])) ∧ (∀ (x1 : Int32) (x2 : Int32) (z0 : Int32) (σ0 : gS) (H : Heap) (locs : List Loc) (ls : Array Slot), R_M_slots t 3 [x1, x2, z0] σ0 = some (r, σ') → va_P X vwCl (mW cI cC cZ b σ0) H → va_D A (mW cI cC cZ b σ0) → va_S A s.heap H locs → lv_has ls 7 [(0, .ref (b 0)), (1, .int x1), (2, .int x2)] → W p l e (headSpec w_M_slots { frames := 2, cells := 0, slots := 0, locals := 47 }).room s m [.ref (b 0), .int q1].toArray below meth c H locs 0 0 (MQ below (gQi X vwCl (mW cI cC cZ b σ) sz (fun r' (_ : Unit) => r' = r) (fun _ => mW cI cC cZ b σ')) [.ref (b 0), .int q1].toArray s 0 0 (va_A (mW cI cC cZ b σ) sz)) (F0 m 71 ls [.int z0])) ∧ (∀ (x1 : Int32) (x2 : Int32) (x3 : Int32) (x4 : Int32) (x5 : Int32) (σ0 : gS) (H : Heap) (locs : List Loc) (ls : Array Slot), R_M_slots t 4 [x1, x2, x3, x4, x5] σ0 = some (r, σ') → va_P X vwCl (mW cI cC cZ b σ0) H → va_D A (mW cI cC cZ b σ0) → va_S A s.heap H locs → lv_has ls 7 [(0, .ref (b 0)), (1, .int x1), (2, .int x2), (3, .int x3), (4, .int x4), (5, .int x5)] → W p l e (headSpec w_M_slots { frames := 2, cells := 0, slots := 0, locals := 47 }).room s m [.ref (b 0), .int q1].toArray below meth c H locs 0 0 (MQ below (gQi X vwCl (mW cI cC cZ b σ) sz (fun r' (_ : Unit) => r' = r) (fun _ => mW cI cC cZ b σ')) [.ref (b 0), .int q1].toArray s 0 0 (va_A (mW cI cC cZ b σ) sz)) (F0 m 80 ls [])) ∧ (∀ (x1 : Int32) (x2 : Int32) (x4 : Int32) (x5 : Int32) (z0 : Int32) (σ0 : gS) (H : Heap) (locs : List Loc) (ls : Array Slot), R_M_slots t 5 [x1, x2, x4, x5, z0] σ0 = some (r, σ') → va_P X vwCl (mW cI cC cZ b σ0) H → va_D A (mW cI cC cZ b σ0) → va_S A s.heap H locs → lv_has ls 7 [(0, .ref (b 0)), (1, .int x1), (2, .int x2), (4, .int x4), (5, .int x5)] → W p l e (headSpec w_M_slots { frames := 2, cells := 0, slots := 0, locals := 47 }).room s m [.ref (b 0), .int q1].toArray below meth c H locs 0 0 (MQ below (gQi X vwCl (mW cI cC cZ b σ) sz (fun r' (_ : Unit) => r' = r) (fun _ => mW cI cC cZ b σ')) [.ref (b 0), .int q1].toArray s 0 0 (va_A (mW cI cC cZ b σ) sz)) (F0 m 124 ls [.int z0])) ∧ (∀ (x1 : Int32) (x2 : Int32) (x3 : Int32) (x4 : Int32) (x5 : Int32) (σ0 : gS) (H : Heap) (locs : List Loc) (ls : Array Slot), R_M_slots t 6 [x1, x2, x3, x4, x5] σ0 = some (r, σ') → va_P X vwCl (mW cI cC cZ b σ0) H → va_D A (mW cI cC cZ b σ0) → va_S A s.heap H locs → lv_has ls 7 [(0, .ref (b 0)), (1, .int x1), (2, .int x2), (3, .int x3), (4, .int x4), (5, .int x5)] → W p l e (headSpec w_M_slots { frames := 2, cells := 0, slots := 0, locals := 47 }).room s m [.ref (b 0), .int q1].toArray below meth c H locs 0 0 (MQ below (gQi X vwCl (mW cI cC cZ b σ) sz (fun r' (_ : Unit) => r' = r) (fun _ => mW cI cC cZ b σ')) [.ref (b 0), .int q1].toArray s 0 0 (va_A (mW cI cC cZ b σ) sz)) (F0 m 167 ls [])) := by
    intro t
    induction t with
    | zero => exact ⟨fun _ _ _ _ _ hf => (by have hf : (none : Option (Int32 × gS)) = some (r, σ') := hf; cases hf), fun _ _ _ _ _ _ hf => (by have hf : (none : Option (Int32 × gS)) = some (r, σ') := hf; cases hf), fun _ _ _ _ _ _ _ hf => (by have hf : (none : Option (Int32 × gS)) = some (r, σ') := hf; cases hf), fun _ _ _ _ _ _ _ hf => (by have hf : (none : Option (Int32 × gS)) = some (r, σ') := hf; cases hf), fun _ _ _ _ _ _ _ _ _ hf => (by have hf : (none : Option (Int32 × gS)) = some (r, σ') := hf; cases hf), fun _ _ _ _ _ _ _ _ _ hf => (by have hf : (none : Option (Int32 × gS)) = some (r, σ') := hf; cases hf), fun _ _ _ _ _ _ _ _ _ hf => (by have hf : (none : Option (Int32 × gS)) = some (r, σ') := hf; cases hf)⟩
    | succ t ih =>
      obtain ⟨ih0, ih1, ih2, ih3, ih4, ih5, ih6⟩ := ih
      refine ⟨?_, ?_, ?_, ?_, ?_, ?_, ?_⟩
      · intro x1 σ0 H locs ls hf hP hD hS hl
        have hf : B_M_slots_0 (R_M_slots t) x1 σ0 = some (r, σ') := hf
        unfold B_M_slots_0 at hf
        refine lv_aload_n hx hb d_M_slots_0 rfl (lv_at hl 0 rfl) ?_
        refine va_get (D := X) (ci := 9) (C := R_M) (T := T_M) (N := 35) hx hb hts u_0 hown hK hP 0 gm_0 rfl 10 (by decide) k_0 (fun _ h9 => h9) rfl d_M_slots_1 ?_
        refine lv_iload_n hx hb d_M_slots_4 rfl (lv_at hl 1 rfl) ?_
        obtain ⟨y1, h2, e3, hf⟩ := gLd_e hf
        refine va_iald hx hb hK hP 8 0 gm_8 rfl h2 d_M_slots_5 ?_
        rw [← e3]
        refine lv_bipush (v := 16) hx hb d_M_slots_6 (by decide) ?_
        refine lv_icmp_ne (tgt := 15) hx hb d_M_slots_8 rfl (fun c4 => ?_) (fun c4 => ?_)
        · skip
          rw [if_neg c4] at hf
          refine lv_aload_n hx hb d_M_slots_15 rfl (lv_at hl 0 rfl) ?_
          refine lv_iload_n hx hb d_M_slots_16 rfl (lv_at hl 1 rfl) ?_
          refine lv_bipush (v := 14) hx hb d_M_slots_17 (by decide) ?_
          obtain ⟨y5, σ6, e7, hf⟩ := gBd_e hf
          refine g_wi (va_runV ⟨hx, hb, hml, hown, hts⟩ (m_M_countIn e7) (cwV 2 hts (gG4 (fun _ h => List.mem_cons_of_mem _ h) tb_483 tb_484 tb_485 tb_392 tc_M_countIn) rfl rfl rfl (by decide +kernel) ⟨Nat.le_of_ble_eq_true rfl, Nat.le_of_ble_eq_true rfl⟩) (g_preVW (q0 := 0) hE hK hP hD hS hA gm_0 rfl) rfl rfl hl.1 rfl (lv_room (Nat.le_of_ble_eq_true rfl)) d_M_slots_19 ⟨Nat.zero_le _, Nat.zero_le _⟩) hD hS hA (fun _ => mW_fst) (fun y5 _ H locs hu hP hD hS => ?_)
          subst hu
          exact ih1 (x1) (y5) σ6 _ _ _ hf hP hD hS (lv_sub hl [0, 1] rfl)
        rw [if_pos c4] at hf
        refine lv_iconst (v := 2) hx hb d_M_slots_11 (by decide) ?_
        refine lv_goto (tgt := 22) hx hb d_M_slots_12 rfl ?_
        exact ih1 (x1) (2) σ0 _ _ _ hf hP hD hS (lv_sub hl [0, 1] rfl)
      · intro x1 z0 σ0 H locs ls hf hP hD hS hl
        have hf : B_M_slots_1 (R_M_slots t) x1 z0 σ0 = some (r, σ') := hf
        unfold B_M_slots_1 at hf
        refine lv_istore_n hx hb d_M_slots_22 rfl hl (by decide) rfl (fun ls hl => ?_)
        refine lv_aload_n hx hb d_M_slots_23 rfl (lv_at hl 1 rfl) ?_
        refine va_get (D := X) (ci := 9) (C := R_M) (T := T_M) (N := 35) hx hb hts u_0 hown hK hP 0 gm_0 rfl 10 (by decide) k_0 (fun _ h9 => h9) rfl d_M_slots_24 ?_
        refine lv_iload_n hx hb d_M_slots_27 rfl (lv_at hl 2 rfl) ?_
        obtain ⟨y8, h9, e10, hf⟩ := gLd_e hf
        refine va_iald hx hb hK hP 8 0 gm_8 rfl h9 d_M_slots_28 ?_
        rw [← e10]
        refine lv_bipush (v := 16) hx hb d_M_slots_29 (by decide) ?_
        refine lv_icmp_ne (tgt := 38) hx hb d_M_slots_31 rfl (fun c11 => ?_) (fun c11 => ?_)
        · skip
          rw [if_neg c11] at hf
          refine lv_aload_n hx hb d_M_slots_38 rfl (lv_at hl 1 rfl) ?_
          refine lv_iload_n hx hb d_M_slots_39 rfl (lv_at hl 2 rfl) ?_
          refine lv_bipush (v := 15) hx hb d_M_slots_40 (by decide) ?_
          obtain ⟨y12, σ13, e14, hf⟩ := gBd_e hf
          refine g_wi (va_runV ⟨hx, hb, hml, hown, hts⟩ (m_M_countIn e14) (cwV 2 hts (gG4 (fun _ h => List.mem_cons_of_mem _ h) tb_483 tb_484 tb_485 tb_392 tc_M_countIn) rfl rfl rfl (by decide +kernel) ⟨Nat.le_of_ble_eq_true rfl, Nat.le_of_ble_eq_true rfl⟩) (g_preVW (q0 := 0) hE hK hP hD hS hA gm_0 rfl) rfl rfl hl.1 rfl (lv_room (Nat.le_of_ble_eq_true rfl)) d_M_slots_42 ⟨Nat.zero_le _, Nat.zero_le _⟩) hD hS hA (fun _ => mW_fst) (fun y12 _ H locs hu hP hD hS => ?_)
          subst hu
          exact ih2 (x1) (z0) (y12) σ13 _ _ _ hf hP hD hS (lv_sub hl [1, 2, 0] rfl)
        rw [if_pos c11] at hf
        refine lv_iconst (v := 0) hx hb d_M_slots_34 (by decide) ?_
        refine lv_goto (tgt := 45) hx hb d_M_slots_35 rfl ?_
        exact ih2 (x1) (z0) (0) σ0 _ _ _ hf hP hD hS (lv_sub hl [1, 2, 0] rfl)
      · intro x1 x2 z0 σ0 H locs ls hf hP hD hS hl
        have hf : B_M_slots_2 (R_M_slots t) x1 x2 z0 σ0 = some (r, σ') := hf
        unfold B_M_slots_2 at hf
        refine lv_istore_n hx hb d_M_slots_45 rfl hl (by decide) rfl (fun ls hl => ?_)
        refine lv_iload_n hx hb d_M_slots_46 rfl (lv_at hl 3 rfl) ?_
        refine lv_if_lt (tgt := 60) hx hb d_M_slots_47 rfl (fun c15 => ?_) (fun c15 => ?_)
        · skip
          rw [if_pos c15] at hf
          refine lv_iconst (v := 0) hx hb d_M_slots_60 (by decide) ?_
          obtain ⟨rfl, rfl⟩ := gRt_e hf
          exact g_zret hx hb hr hlocks rfl hAe hS () rfl hP d_M_slots_61
        rw [if_neg c15] at hf
        refine lv_iload_n hx hb d_M_slots_50 rfl (lv_at hl 3 rfl) ?_
        refine lv_iconst (v := 4) hx hb d_M_slots_51 (by decide) ?_
        refine lv_icmp_gt (tgt := 60) hx hb d_M_slots_52 rfl (fun c16 => ?_) (fun c16 => ?_)
        · skip
          rw [if_pos c16] at hf
          refine lv_iconst (v := 0) hx hb d_M_slots_60 (by decide) ?_
          obtain ⟨rfl, rfl⟩ := gRt_e hf
          exact g_zret hx hb hr hlocks rfl hAe hS () rfl hP d_M_slots_61
        rw [if_neg c16] at hf
        refine lv_iload_n hx hb d_M_slots_55 rfl (lv_at hl 0 rfl) ?_
        refine lv_iload_n hx hb d_M_slots_56 rfl (lv_at hl 3 rfl) ?_
        refine lv_icmp_le (tgt := 62) hx hb d_M_slots_57 rfl (fun c17 => ?_) (fun c17 => ?_)
        · skip
          rw [if_pos c17] at hf
          refine lv_iload_n hx hb d_M_slots_62 rfl (lv_at hl 0 rfl) ?_
          refine lv_if_ge (tgt := 70) hx hb d_M_slots_63 rfl (fun c18 => ?_) (fun c18 => ?_)
          · skip
            rw [if_pos c18] at hf
            refine lv_iload_n hx hb d_M_slots_70 rfl (lv_at hl 0 rfl) ?_
            exact ih3 (x1) (x2) (z0) σ0 _ _ _ hf hP hD hS (lv_sub hl [1, 2, 3] rfl)
          rw [if_neg c18] at hf
          refine lv_iconst (v := 0) hx hb d_M_slots_66 (by decide) ?_
          refine lv_goto (tgt := 71) hx hb d_M_slots_67 rfl ?_
          exact ih3 (x1) (x2) (0) σ0 _ _ _ hf hP hD hS (lv_sub hl [1, 2, 3] rfl)
        rw [if_neg c17] at hf
        refine lv_iconst (v := 0) hx hb d_M_slots_60 (by decide) ?_
        obtain ⟨rfl, rfl⟩ := gRt_e hf
        exact g_zret hx hb hr hlocks rfl hAe hS () rfl hP d_M_slots_61
      · intro x1 x2 z0 σ0 H locs ls hf hP hD hS hl
        have hf : B_M_slots_3 (R_M_slots t) x1 x2 z0 σ0 = some (r, σ') := hf
        unfold B_M_slots_3 at hf
        refine lv_istore_n hx hb d_M_slots_71 rfl hl (by decide) rfl (fun ls hl => ?_)
        refine lv_iconst (v := 0) hx hb d_M_slots_72 (by decide) ?_
        refine lv_istore hx hb d_M_slots_73 hl (by decide) rfl (fun ls hl => ?_)
        refine lv_iload_n hx hb d_M_slots_75 rfl (lv_at hl 3 rfl) ?_
        refine lv_iconst (v := 1) hx hb d_M_slots_76 (by decide) ?_
        refine lv_iadd hx hb d_M_slots_77 ?_
        refine lv_istore hx hb d_M_slots_78 hl (by decide) rfl (fun ls hl => ?_)
        exact ih4 (x1) (x2) (z0) (0) ((x1 + 1)) σ0 _ _ _ hf hP hD hS (lv_sub hl [3, 4, 5, 2, 1, 0] rfl)
      · intro x1 x2 x3 x4 x5 σ0 H locs ls hf hP hD hS hl
        have hf : B_M_slots_4 (R_M_slots t) x1 x2 x3 x4 x5 σ0 = some (r, σ') := hf
        unfold B_M_slots_4 at hf
        refine lv_iload hx hb d_M_slots_80 (lv_at hl 5 rfl) ?_
        refine lv_aload_n hx hb d_M_slots_82 rfl (lv_at hl 0 rfl) ?_
        refine va_get (D := X) (ci := 9) (C := R_M) (T := T_M) (N := 35) hx hb hts u_0 hown hK hP 0 gm_0 rfl 9 (by decide) k_1 (fun _ h9 => h9) rfl d_M_slots_83 ?_
        refine lv_icmp_ge (tgt := 173) hx hb d_M_slots_86 rfl (fun c19 => ?_) (fun c19 => ?_)
        · skip
          rw [if_pos c19] at hf
          refine lv_aload_n hx hb d_M_slots_173 rfl (lv_at hl 0 rfl) ?_
          refine va_get (D := X) (ci := 9) (C := R_M) (T := T_M) (N := 35) hx hb hts u_0 hown hK hP 0 gm_0 rfl 10 (by decide) k_0 (fun _ h9 => h9) rfl d_M_slots_174 ?_
          refine lv_iload_n hx hb d_M_slots_177 rfl (lv_at hl 1 rfl) ?_
          obtain ⟨y20, h21, e22, hf⟩ := gLd_e hf
          refine va_iald hx hb hK hP 8 0 gm_8 rfl h21 d_M_slots_178 ?_
          rw [← e22]
          refine lv_iconst (v := 1) hx hb d_M_slots_179 (by decide) ?_
          refine lv_icmp_eq (tgt := 189) hx hb d_M_slots_180 rfl (fun c23 => ?_) (fun c23 => ?_)
          · skip
            rw [if_pos c23] at hf
            refine lv_iconst (v := 1) hx hb d_M_slots_189 (by decide) ?_
            refine lv_goto (tgt := 194) hx hb d_M_slots_190 rfl ?_
            obtain ⟨rfl, rfl⟩ := gRt_e hf
            exact g_zret hx hb hr hlocks rfl hAe hS () rfl hP d_M_slots_194
          rw [if_neg c23] at hf
          refine lv_iload hx hb d_M_slots_183 (lv_at hl 4 rfl) ?_
          refine lv_iconst (v := 3) hx hb d_M_slots_185 (by decide) ?_
          refine lv_icmp_ne (tgt := 193) hx hb d_M_slots_186 rfl (fun c24 => ?_) (fun c24 => ?_)
          · skip
            rw [if_neg c24] at hf
            refine lv_iconst (v := 0) hx hb d_M_slots_193 (by decide) ?_
            obtain ⟨rfl, rfl⟩ := gRt_e hf
            exact g_zret hx hb hr hlocks rfl hAe hS () rfl hP d_M_slots_194
          rw [if_pos c24] at hf
          refine lv_iconst (v := 1) hx hb d_M_slots_189 (by decide) ?_
          refine lv_goto (tgt := 194) hx hb d_M_slots_190 rfl ?_
          obtain ⟨rfl, rfl⟩ := gRt_e hf
          exact g_zret hx hb hr hlocks rfl hAe hS () rfl hP d_M_slots_194
        rw [if_neg c19] at hf
        refine lv_aload_n hx hb d_M_slots_89 rfl (lv_at hl 0 rfl) ?_
        refine va_get (D := X) (ci := 9) (C := R_M) (T := T_M) (N := 35) hx hb hts u_0 hown hK hP 0 gm_0 rfl 11 (by decide) k_2 (fun _ h9 => h9) rfl d_M_slots_90 ?_
        refine lv_iload hx hb d_M_slots_93 (lv_at hl 5 rfl) ?_
        obtain ⟨y25, h26, e27, hf⟩ := gLd_e hf
        refine va_iald hx hb hK hP 9 0 gm_9 rfl h26 d_M_slots_95 ?_
        rw [← e27]
        refine lv_iload_n hx hb d_M_slots_96 rfl (lv_at hl 1 rfl) ?_
        refine lv_icmp_eq (tgt := 103) hx hb d_M_slots_97 rfl (fun c28 => ?_) (fun c28 => ?_)
        · skip
          rw [if_pos c28] at hf
          refine lv_aload_n hx hb d_M_slots_103 rfl (lv_at hl 0 rfl) ?_
          refine lv_iload hx hb d_M_slots_104 (lv_at hl 5 rfl) ?_
          refine lv_bipush (v := 47) hx hb d_M_slots_106 (by decide) ?_
          obtain ⟨y29, σ30, e31, hf⟩ := gBd_e hf
          refine g_wi (va_runV ⟨hx, hb, hml, hown, hts⟩ (m_M_countIn e31) (cwV 2 hts (gG4 (fun _ h => List.mem_cons_of_mem _ h) tb_483 tb_484 tb_485 tb_392 tc_M_countIn) rfl rfl rfl (by decide +kernel) ⟨Nat.le_of_ble_eq_true rfl, Nat.le_of_ble_eq_true rfl⟩) (g_preVW (q0 := 0) hE hK hP hD hS hA gm_0 rfl) rfl rfl hl.1 rfl (lv_room (Nat.le_of_ble_eq_true rfl)) d_M_slots_108 ⟨Nat.zero_le _, Nat.zero_le _⟩) hD hS hA (fun _ => mW_fst) (fun y29 _ H locs hu hP hD hS => ?_)
          subst hu
          refine lv_istore hx hb d_M_slots_111 hl (by decide) rfl (fun ls hl => ?_)
          refine lv_iload hx hb d_M_slots_113 (lv_at hl 0 rfl) ?_
          refine lv_if_ge (tgt := 122) hx hb d_M_slots_115 rfl (fun c32 => ?_) (fun c32 => ?_)
          · skip
            rw [if_pos c32] at hf
            refine lv_iload hx hb d_M_slots_122 (lv_at hl 0 rfl) ?_
            exact ih5 (x1) (x2) (x4) (x5) (y29) σ30 _ _ _ hf hP hD hS (lv_sub hl [1, 2, 3, 5, 6] rfl)
          rw [if_neg c32] at hf
          refine lv_iload_n hx hb d_M_slots_118 rfl (lv_at hl 4 rfl) ?_
          refine lv_goto (tgt := 124) hx hb d_M_slots_119 rfl ?_
          exact ih5 (x1) (x2) (x4) (x5) (x3) σ30 _ _ _ hf hP hD hS (lv_sub hl [1, 2, 3, 5, 6] rfl)
        rw [if_neg c28] at hf
        refine lv_goto (tgt := 167) hx hb d_M_slots_100 rfl ?_
        exact ih6 (x1) (x2) (x3) (x4) (x5) σ0 _ _ _ hf hP hD hS (lv_sub hl [0, 1, 2, 3, 4, 5] rfl)
      · intro x1 x2 x4 x5 z0 σ0 H locs ls hf hP hD hS hl
        have hf : B_M_slots_5 (R_M_slots t) x1 x2 x4 x5 z0 σ0 = some (r, σ') := hf
        unfold B_M_slots_5 at hf
        refine lv_istore hx hb d_M_slots_124 hl (by decide) rfl (fun ls hl => ?_)
        refine lv_iload hx hb d_M_slots_126 (lv_at hl 0 rfl) ?_
        refine lv_iload_n hx hb d_M_slots_128 rfl (lv_at hl 3 rfl) ?_
        refine lv_icmp_ge (tgt := 142) hx hb d_M_slots_129 rfl (fun c33 => ?_) (fun c33 => ?_)
        · skip
          rw [if_pos c33] at hf
          refine lv_iconst (v := 0) hx hb d_M_slots_142 (by decide) ?_
          obtain ⟨rfl, rfl⟩ := gRt_e hf
          exact g_zret hx hb hr hlocks rfl hAe hS () rfl hP d_M_slots_143
        rw [if_neg c33] at hf
        refine lv_iload hx hb d_M_slots_132 (lv_at hl 4 rfl) ?_
        refine lv_iload hx hb d_M_slots_134 (lv_at hl 0 rfl) ?_
        refine lv_ishr hx hb d_M_slots_136 ?_
        refine lv_iconst (v := 1) hx hb d_M_slots_137 (by decide) ?_
        refine lv_iand hx hb d_M_slots_138 ?_
        refine lv_if_eq (tgt := 144) hx hb d_M_slots_139 rfl (fun c34 => ?_) (fun c34 => ?_)
        · skip
          rw [if_pos c34] at hf
          refine lv_iload hx hb d_M_slots_144 (lv_at hl 4 rfl) ?_
          refine lv_iconst (v := 1) hx hb d_M_slots_146 (by decide) ?_
          refine lv_iload hx hb d_M_slots_147 (lv_at hl 0 rfl) ?_
          refine lv_ishl hx hb d_M_slots_149 ?_
          refine lv_ior hx hb d_M_slots_150 ?_
          refine lv_istore hx hb d_M_slots_151 hl (by decide) rfl (fun ls hl => ?_)
          refine lv_aload_n hx hb d_M_slots_153 rfl (lv_at hl 2 rfl) ?_
          refine va_get (D := X) (ci := 9) (C := R_M) (T := T_M) (N := 35) hx hb hts u_0 hown hK hP 0 gm_0 rfl 16 (by decide) k_3 (fun _ h9 => h9) rfl d_M_slots_154 ?_
          refine lv_iload hx hb d_M_slots_157 (lv_at hl 5 rfl) ?_
          refine lv_iload hx hb d_M_slots_159 (lv_at hl 1 rfl) ?_
          obtain ⟨σ35, h36, e37, hf⟩ := gSt_e hf
          refine va_iast hx hb hK hP hD hS 14 0 gm_14 rfl h36 d_M_slots_161 (fun H locs hP hD hS => ?_)
          rw [sm_14, ← e37] at hP hD
          refine lv_iload hx hb d_M_slots_162 (lv_at hl 1 rfl) ?_
          refine lv_iconst (v := 1) hx hb d_M_slots_164 (by decide) ?_
          refine lv_iadd hx hb d_M_slots_165 ?_
          refine lv_istore_n hx hb d_M_slots_166 rfl hl (by decide) rfl (fun ls hl => ?_)
          exact ih6 (x1) (x2) ((z0 + 1)) ((x4 ||| (1 <<< (z0 &&& 31)))) (x5) σ35 _ _ _ hf hP hD hS (lv_sub hl [3, 4, 5, 0, 1, 6] rfl)
        rw [if_neg c34] at hf
        refine lv_iconst (v := 0) hx hb d_M_slots_142 (by decide) ?_
        obtain ⟨rfl, rfl⟩ := gRt_e hf
        exact g_zret hx hb hr hlocks rfl hAe hS () rfl hP d_M_slots_143
      · intro x1 x2 x3 x4 x5 σ0 H locs ls hf hP hD hS hl
        have hf : B_M_slots_6 (R_M_slots t) x1 x2 x3 x4 x5 σ0 = some (r, σ') := hf
        unfold B_M_slots_6 at hf
        refine lv_iinc (k := 5) (v := (x5 + 1)) hx hb d_M_slots_167 hl rfl (by rw [show Int32.ofInt (1) = (1 : Int32) by decide]) (by decide) rfl (fun ls hl => ?_)
        refine lv_goto (tgt := 80) hx hb d_M_slots_170 rfl ?_
        exact ih4 (x1) (x2) (x3) (x4) ((x5 + 1)) σ0 _ _ _ hf hP hD hS (lv_sub hl [1, 2, 3, 4, 5, 0] rfl)
  exact (key gFuel).1 q1 σ _ _ _ hf hP hD hS hl

def B_M_withId_0 (rec : Nat → List Int32 → gS → Option (Int32 × gS)) (x1 : Int32) (x2 : Int32) (x3 : Int32) (σ0 : gS) : Option (Int32 × gS) := rec 1 [x2, x3, (x1 + 1)] σ0
def B_M_withId_1 (rec : Nat → List Int32 → gS → Option (Int32 × gS)) (x2 : Int32) (x3 : Int32) (x4 : Int32) (σ0 : gS) : Option (Int32 × gS) := if (σ0.1 2) ≤ x4 then (some ((-1), σ0)) else (if x4 = x3 then (rec 2 [x2, x3, x4] σ0) else (gBd (f_M_isObject σ0 x4) (fun y3 σ4 => if y3 = 0 then (rec 2 [x2, x3, x4] σ4) else (gBd (f_M_countIn σ4 x4 247) (fun y7 σ8 => if y7 = x2 then (some (x4, σ8)) else (rec 2 [x2, x3, x4] σ8))))))
def B_M_withId_2 (rec : Nat → List Int32 → gS → Option (Int32 × gS)) (x2 : Int32) (x3 : Int32) (x4 : Int32) (σ0 : gS) : Option (Int32 × gS) := rec 1 [x2, x3, (x4 + 1)] σ0
def S_M_withId (rec : Nat → List Int32 → gS → Option (Int32 × gS)) (k : Nat) (l : List Int32) (σ0 : gS) : Option (Int32 × gS) := match k, l with
  | 0, [x1, x2, x3] => B_M_withId_0 rec x1 x2 x3 σ0
  | 1, [x2, x3, x4] => B_M_withId_1 rec x2 x3 x4 σ0
  | 2, [x2, x3, x4] => B_M_withId_2 rec x2 x3 x4 σ0
  | _, _ => none
def R_M_withId : Nat → Nat → List Int32 → gS → Option (Int32 × gS)
  | 0 => fun _ _ _ => none
  | t + 1 => fun k l σ0 => S_M_withId (R_M_withId t) k l σ0
def f_M_withId (σ : gS) (x1 : Int32) (x2 : Int32) (x3 : Int32) : Option (Int32 × gS) := R_M_withId gFuel 0 [x1, x2, x3] σ
set_option maxHeartbeats 4000000 in
set_option maxRecDepth 100000 in
theorem m_M_withId {l : Launch} {X : va_G} {cI cC cZ : ClassId} {aK aV : Nat → Nat} {b : Nat → Nat} {σ σ' : gS} {r : Int32} {q1 : Int32} {q2 : Int32} {q3 : Int32} (hf : f_M_withId σ q1 q2 q3 = some (r, σ')) {sz : Nat} : Met l y_M_withId w_M_withId { frames := 2, cells := 0, slots := 0, locals := 47 } (gPc X vwCl (gT cI cC cZ) aK aV (mW cI cC cZ b σ) sz [.ref (b 0), .int q1, .int q2, .int q3]) (gQi X vwCl (mW cI cC cZ b σ) sz (fun r' (_ : Unit) => r' = r) (fun _ => mW cI cC cZ b σ')) 0 0 (va_A (mW cI cC cZ b σ) sz) := by
  refine g_met (cc := b_M_withId) (maxL := 5) (ret := (some .int)) (by decide) rfl (Nat.le_of_ble_eq_true rfl) ?_
  intro p e s m below meth c A ls hx hb hr hml hown hts hlocks hnm hsz hAe hA hP hK hD hS hl hE
  have hown : s.vm.findClass R_M = some m.cls := hown
  have u_0 : ∀ w ∈ u_ws R_M T_M 35, w ∈ w_M_withId := fun w h => List.mem_cons_of_mem _ (tu_M w h)
  have k_0 := hts (.fieldLink R_M 163 "GraphPagesModel" "elements" "I") (List.mem_cons_of_mem _ tb_465)
  unfold f_M_withId at hf
  have key : ∀ t : Nat, (∀ (x1 : Int32) (x2 : Int32) (x3 : Int32) (σ0 : gS) (H : Heap) (locs : List Loc) (ls : Array Slot), R_M_withId t 0 [x1, x2, x3] σ0 = some (r, σ') → va_P X vwCl (mW cI cC cZ b σ0) H → va_D A (mW cI cC cZ b σ0) → va_S A s.heap H locs → lv_has ls 5 [(0, .ref (b 0)), (1, .int x1), (2, .int x2), (3, .int x3)] → W p l e (headSpec w_M_withId { frames := 2, cells := 0, slots := 0, locals := 47 }).room s m [.ref (b 0), .int q1, .int q2, .int q3].toArray below meth c H locs 0 0 (MQ below (gQi X vwCl (mW cI cC cZ b σ) sz (fun r' (_ : Unit) => r' = r) (fun _ => mW cI cC cZ b σ')) [.ref (b 0), .int q1, .int q2, .int q3].toArray s 0 0 (va_A (mW cI cC cZ b σ) sz)) (F0 m 0 ls [])) ∧ (∀ (x2 : Int32) (x3 : Int32) (x4 : Int32) (σ0 : gS) (H : Heap) (locs : List Loc) (ls : Array Slot), R_M_withId t 1 [x2, x3, x4] σ0 = some (r, σ') → va_P X vwCl (mW cI cC cZ b σ0) H → va_D A (mW cI cC cZ b σ0) → va_S A s.heap H locs → lv_has ls 5 [(0, .ref (b 0)), (2, .int x2), (3, .int x3), (4, .int x4)] → W p l e (headSpec w_M_withId { frames := 2, cells := 0, slots := 0, locals := 47 }).room s m [.ref (b 0), .int q1, .int q2, .int q3].toArray below meth c H locs 0 0 (MQ below (gQi X vwCl (mW cI cC cZ b σ) sz (fun r' (_ : Unit) => r' = r) (fun _ => mW cI cC cZ b σ')) [.ref (b 0), .int q1, .int q2, .int q3].toArray s 0 0 (va_A (mW cI cC cZ b σ) sz)) (F0 m 5 ls [])) ∧ (∀ (x2 : Int32) (x3 : Int32) (x4 : Int32) (σ0 : gS) (H : Heap) (locs : List Loc) (ls : Array Slot), R_M_withId t 2 [x2, x3, x4] σ0 = some (r, σ') → va_P X vwCl (mW cI cC cZ b σ0) H → va_D A (mW cI cC cZ b σ0) → va_S A s.heap H locs → lv_has ls 5 [(0, .ref (b 0)), (2, .int x2), (3, .int x3), (4, .int x4)] → W p l e (headSpec w_M_withId { frames := 2, cells := 0, slots := 0, locals := 47 }).room s m [.ref (b 0), .int q1, .int q2, .int q3].toArray below meth c H locs 0 0 (MQ below (gQi X vwCl (mW cI cC cZ b σ) sz (fun r' (_ : Unit) => r' = r) (fun _ => mW cI cC cZ b σ')) [.ref (b 0), .int q1, .int q2, .int q3].toArray s 0 0 (va_A (mW cI cC cZ b σ) sz)) (F0 m 45 ls [])) := by
    intro t
    induction t with
    | zero => exact ⟨fun _ _ _ _ _ _ _ hf => (by have hf : (none : Option (Int32 × gS)) = some (r, σ') := hf; cases hf), fun _ _ _ _ _ _ _ hf => (by have hf : (none : Option (Int32 × gS)) = some (r, σ') := hf; cases hf), fun _ _ _ _ _ _ _ hf => (by have hf : (none : Option (Int32 × gS)) = some (r, σ') := hf; cases hf)⟩
    | succ t ih =>
      obtain ⟨ih0, ih1, ih2⟩ := ih
      refine ⟨?_, ?_, ?_⟩
      · intro x1 x2 x3 σ0 H locs ls hf hP hD hS hl
        have hf : B_M_withId_0 (R_M_withId t) x1 x2 x3 σ0 = some (r, σ') := hf
        unfold B_M_withId_0 at hf
        refine lv_iload_n hx hb d_M_withId_0 rfl (lv_at hl 1 rfl) ?_
        refine lv_iconst (v := 1) hx hb d_M_withId_1 (by decide) ?_
        refine lv_iadd hx hb d_M_withId_2 ?_
        refine lv_istore hx hb d_M_withId_3 hl (by decide) rfl (fun ls hl => ?_)
        exact ih1 (x2) (x3) ((x1 + 1)) σ0 _ _ _ hf hP hD hS (lv_sub hl [1, 3, 4, 0] rfl)
      · intro x2 x3 x4 σ0 H locs ls hf hP hD hS hl
        have hf : B_M_withId_1 (R_M_withId t) x2 x3 x4 σ0 = some (r, σ') := hf
        unfold B_M_withId_1 at hf
        refine lv_iload hx hb d_M_withId_5 (lv_at hl 3 rfl) ?_
        refine lv_aload_n hx hb d_M_withId_7 rfl (lv_at hl 0 rfl) ?_
        refine va_get (D := X) (ci := 9) (C := R_M) (T := T_M) (N := 35) hx hb hts u_0 hown hK hP 0 gm_0 rfl 9 (by decide) k_0 (fun _ h9 => h9) rfl d_M_withId_8 ?_
        refine lv_icmp_ge (tgt := 51) hx hb d_M_withId_11 rfl (fun c1 => ?_) (fun c1 => ?_)
        · skip
          rw [if_pos c1] at hf
          refine lv_iconst (v := (-1)) hx hb d_M_withId_51 (by decide) ?_
          obtain ⟨rfl, rfl⟩ := gRt_e hf
          exact g_zret hx hb hr hlocks rfl hAe hS () rfl hP d_M_withId_52
        rw [if_neg c1] at hf
        refine lv_iload hx hb d_M_withId_14 (lv_at hl 3 rfl) ?_
        refine lv_iload_n hx hb d_M_withId_16 rfl (lv_at hl 2 rfl) ?_
        refine lv_icmp_eq (tgt := 45) hx hb d_M_withId_17 rfl (fun c2 => ?_) (fun c2 => ?_)
        · skip
          rw [if_pos c2] at hf
          exact ih2 (x2) (x3) (x4) σ0 _ _ _ hf hP hD hS (lv_sub hl [0, 1, 2, 3] rfl)
        rw [if_neg c2] at hf
        refine lv_aload_n hx hb d_M_withId_20 rfl (lv_at hl 0 rfl) ?_
        refine lv_iload hx hb d_M_withId_21 (lv_at hl 3 rfl) ?_
        obtain ⟨y3, σ4, e5, hf⟩ := gBd_e hf
        refine g_wi (va_runV ⟨hx, hb, hml, hown, hts⟩ (m_M_isObject e5) (cwV 1 hts (gG4 (fun _ h => List.mem_cons_of_mem _ h) tb_487 tb_488 tb_489 tb_392 tc_M_isObject) rfl rfl rfl (by decide +kernel) ⟨Nat.le_of_ble_eq_true rfl, Nat.le_of_ble_eq_true rfl⟩) (g_preVW (q0 := 0) hE hK hP hD hS hA gm_0 rfl) rfl rfl hl.1 rfl (lv_room (Nat.le_of_ble_eq_true rfl)) d_M_withId_23 ⟨Nat.zero_le _, Nat.zero_le _⟩) hD hS hA (fun _ => mW_fst) (fun y3 _ H locs hu hP hD hS => ?_)
        subst hu
        refine lv_if_eq (tgt := 45) hx hb d_M_withId_26 rfl (fun c6 => ?_) (fun c6 => ?_)
        · skip
          rw [if_pos c6] at hf
          exact ih2 (x2) (x3) (x4) σ4 _ _ _ hf hP hD hS (lv_sub hl [0, 1, 2, 3] rfl)
        rw [if_neg c6] at hf
        refine lv_aload_n hx hb d_M_withId_29 rfl (lv_at hl 0 rfl) ?_
        refine lv_iload hx hb d_M_withId_30 (lv_at hl 3 rfl) ?_
        refine lv_sipush (v := 247) hx hb d_M_withId_32 (by decide) ?_
        obtain ⟨y7, σ8, e9, hf⟩ := gBd_e hf
        refine g_wi (va_runV ⟨hx, hb, hml, hown, hts⟩ (m_M_countIn e9) (cwV 2 hts (gG4 (fun _ h => List.mem_cons_of_mem _ h) tb_483 tb_484 tb_485 tb_392 tc_M_countIn) rfl rfl rfl (by decide +kernel) ⟨Nat.le_of_ble_eq_true rfl, Nat.le_of_ble_eq_true rfl⟩) (g_preVW (q0 := 0) hE hK hP hD hS hA gm_0 rfl) rfl rfl hl.1 rfl (lv_room (Nat.le_of_ble_eq_true rfl)) d_M_withId_35 ⟨Nat.zero_le _, Nat.zero_le _⟩) hD hS hA (fun _ => mW_fst) (fun y7 _ H locs hu hP hD hS => ?_)
        subst hu
        refine lv_iload_n hx hb d_M_withId_38 rfl (lv_at hl 1 rfl) ?_
        refine lv_icmp_ne (tgt := 45) hx hb d_M_withId_39 rfl (fun c10 => ?_) (fun c10 => ?_)
        · skip
          rw [if_neg c10] at hf
          exact ih2 (x2) (x3) (x4) σ8 _ _ _ hf hP hD hS (lv_sub hl [0, 1, 2, 3] rfl)
        rw [if_pos c10] at hf
        refine lv_iload hx hb d_M_withId_42 (lv_at hl 3 rfl) ?_
        obtain ⟨rfl, rfl⟩ := gRt_e hf
        exact g_zret hx hb hr hlocks rfl hAe hS () rfl hP d_M_withId_44
      · intro x2 x3 x4 σ0 H locs ls hf hP hD hS hl
        have hf : B_M_withId_2 (R_M_withId t) x2 x3 x4 σ0 = some (r, σ') := hf
        unfold B_M_withId_2 at hf
        refine lv_iinc (k := 3) (v := (x4 + 1)) hx hb d_M_withId_45 hl rfl (by rw [show Int32.ofInt (1) = (1 : Int32) by decide]) (by decide) rfl (fun ls hl => ?_)
        refine lv_goto (tgt := 5) hx hb d_M_withId_48 rfl ?_
        exact ih1 (x2) (x3) ((x4 + 1)) σ0 _ _ _ hf hP hD hS (lv_sub hl [1, 2, 3, 0] rfl)
  exact (key gFuel).1 q1 q2 q3 σ _ _ _ hf hP hD hS hl

def B_M_lawful_0 (rec : Nat → List Int32 → gS → Option (Int32 × gS)) (x1 : Int32) (σ0 : gS) : Option (Int32 × gS) := rec 1 [x1, (σ0.1 0), (x1 + 1)] σ0
def B_M_lawful_1 (rec : Nat → List Int32 → gS → Option (Int32 × gS)) (x1 : Int32) (x2 : Int32) (x3 : Int32) (σ0 : gS) : Option (Int32 × gS) := if (σ0.1 2) ≤ x3 then (if 16 < x2 then (some (0, σ0)) else (some (1, σ0))) else (gBd (f_M_fits σ0 x3 x1) (fun y3 σ4 => if y3 = 0 then (some (0, σ4)) else (gLd σ4 8 420 x3 (fun y7 => if y7 = 16 then (rec 2 [x1, x2, x3] σ4) else (gLd σ4 8 420 x3 (fun y11 => if y11 = 1 then (rec 2 [x1, x2, x3] σ4) else (rec 3 [x1, x2, x3] σ4)))))))
def B_M_lawful_2 (rec : Nat → List Int32 → gS → Option (Int32 × gS)) (x1 : Int32) (x2 : Int32) (x3 : Int32) (σ0 : gS) : Option (Int32 × gS) := gBd (f_M_slots σ0 x3) (fun y15 σ16 => if y15 = 0 then (some (0, σ16)) else (rec 3 [x1, x2, x3] σ16))
def B_M_lawful_3 (rec : Nat → List Int32 → gS → Option (Int32 × gS)) (x1 : Int32) (x2 : Int32) (x3 : Int32) (σ0 : gS) : Option (Int32 × gS) := gBd (f_M_isObject σ0 x3) (fun y19 σ20 => if y19 = 0 then (rec 4 [x1, x3, x2] σ20) else (rec 4 [x1, x3, (x2 + 1)] σ20))
def B_M_lawful_4 (rec : Nat → List Int32 → gS → Option (Int32 × gS)) (x1 : Int32) (x3 : Int32) (z0 : Int32) (σ0 : gS) : Option (Int32 × gS) := gBd (f_M_isObject σ0 x3) (fun y23 σ24 => if y23 = 0 then (rec 5 [x1, z0, x3, (-1)] σ24) else (gBd (f_M_countIn σ24 x3 247) (fun y27 σ28 => rec 5 [x1, z0, x3, y27] σ28)))
def B_M_lawful_5 (rec : Nat → List Int32 → gS → Option (Int32 × gS)) (x1 : Int32) (x2 : Int32) (x3 : Int32) (z0 : Int32) (σ0 : gS) : Option (Int32 × gS) := if z0 < 0 then (rec 6 [x1, x2, x3] σ0) else (gBd (f_M_withId σ0 x1 z0 x3) (fun y31 σ32 => if y31 < 0 then (rec 6 [x1, x2, x3] σ32) else (some (0, σ32))))
def B_M_lawful_6 (rec : Nat → List Int32 → gS → Option (Int32 × gS)) (x1 : Int32) (x2 : Int32) (x3 : Int32) (σ0 : gS) : Option (Int32 × gS) := gLd σ0 8 420 x3 (fun y35 => if y35 = 18 then (gBd (f_M_countIn σ0 x3 8) (fun y39 σ40 => gBd (f_M_withId σ40 x1 y39 (-1)) (fun y42 σ43 => if 0 ≤ y42 then (rec 7 [x1, x2, x3] σ43) else (some (0, σ43))))) else (rec 7 [x1, x2, x3] σ0))
def B_M_lawful_7 (rec : Nat → List Int32 → gS → Option (Int32 × gS)) (x1 : Int32) (x2 : Int32) (x3 : Int32) (σ0 : gS) : Option (Int32 × gS) := rec 1 [x1, x2, (x3 + 1)] σ0
def S_M_lawful (rec : Nat → List Int32 → gS → Option (Int32 × gS)) (k : Nat) (l : List Int32) (σ0 : gS) : Option (Int32 × gS) := match k, l with
  | 0, [x1] => B_M_lawful_0 rec x1 σ0
  | 1, [x1, x2, x3] => B_M_lawful_1 rec x1 x2 x3 σ0
  | 2, [x1, x2, x3] => B_M_lawful_2 rec x1 x2 x3 σ0
  | 3, [x1, x2, x3] => B_M_lawful_3 rec x1 x2 x3 σ0
  | 4, [x1, x3, z0] => B_M_lawful_4 rec x1 x3 z0 σ0
  | 5, [x1, x2, x3, z0] => B_M_lawful_5 rec x1 x2 x3 z0 σ0
  | 6, [x1, x2, x3] => B_M_lawful_6 rec x1 x2 x3 σ0
  | 7, [x1, x2, x3] => B_M_lawful_7 rec x1 x2 x3 σ0
  | _, _ => none
def R_M_lawful : Nat → Nat → List Int32 → gS → Option (Int32 × gS)
  | 0 => fun _ _ _ => none
  | t + 1 => fun k l σ0 => S_M_lawful (R_M_lawful t) k l σ0
def f_M_lawful (σ : gS) (x1 : Int32) : Option (Int32 × gS) := R_M_lawful gFuel 0 [x1] σ
set_option maxHeartbeats 4000000 in
set_option maxRecDepth 100000 in
theorem m_M_lawful {l : Launch} {X : va_G} {cI cC cZ : ClassId} {aK aV : Nat → Nat} {b : Nat → Nat} {σ σ' : gS} {r : Int32} {q1 : Int32} (hf : f_M_lawful σ q1 = some (r, σ')) {sz : Nat} : Met l y_M_lawful w_M_lawful { frames := 3, cells := 0, slots := 0, locals := 73 } (gPc X vwCl (gT cI cC cZ) aK aV (mW cI cC cZ b σ) sz [.ref (b 0), .int q1]) (gQi X vwCl (mW cI cC cZ b σ) sz (fun r' (_ : Unit) => r' = r) (fun _ => mW cI cC cZ b σ')) 0 0 (va_A (mW cI cC cZ b σ) sz) := by
  refine g_met (cc := b_M_lawful) (maxL := 5) (ret := (some .boolean)) (by decide) rfl (Nat.le_of_ble_eq_true rfl) ?_
  intro p e s m below meth c A ls hx hb hr hml hown hts hlocks hnm hsz hAe hA hP hK hD hS hl hE
  have hown : s.vm.findClass R_M = some m.cls := hown
  have u_0 : ∀ w ∈ u_ws R_M T_M 35, w ∈ w_M_lawful := fun w h => List.mem_cons_of_mem _ (tu_M w h)
  have k_0 := hts (.fieldLink R_M 87 "GraphPagesModel" "count" "I") (List.mem_cons_of_mem _ tb_385)
  have k_1 := hts (.fieldLink R_M 163 "GraphPagesModel" "elements" "I") (List.mem_cons_of_mem _ tb_465)
  have k_2 := hts (.fieldLink R_M 33 "GraphPagesModel" "name" "[I") (List.mem_cons_of_mem _ tb_450)
  unfold f_M_lawful at hf
  have key : ∀ t : Nat, (∀ (x1 : Int32) (σ0 : gS) (H : Heap) (locs : List Loc) (ls : Array Slot), R_M_lawful t 0 [x1] σ0 = some (r, σ') → va_P X vwCl (mW cI cC cZ b σ0) H → va_D A (mW cI cC cZ b σ0) → va_S A s.heap H locs → lv_has ls 5 [(0, .ref (b 0)), (1, .int x1)] → W p l e (headSpec w_M_lawful { frames := 3, cells := 0, slots := 0, locals := 73 }).room s m [.ref (b 0), .int q1].toArray below meth c H locs 0 0 (MQ below (gQi X vwCl (mW cI cC cZ b σ) sz (fun r' (_ : Unit) => r' = r) (fun _ => mW cI cC cZ b σ')) [.ref (b 0), .int q1].toArray s 0 0 (va_A (mW cI cC cZ b σ) sz)) (F0 m 0 ls [])) ∧ (∀ (x1 : Int32) (x2 : Int32) (x3 : Int32) (σ0 : gS) (H : Heap) (locs : List Loc) (ls : Array Slot), R_M_lawful t 1 [x1, x2, x3] σ0 = some (r, σ') → va_P X vwCl (mW cI cC cZ b σ0) H → va_D A (mW cI cC cZ b σ0) → va_S A s.heap H locs → lv_has ls 5 [(0, .ref (b 0)), (1, .int x1), (2, .int x2), (3, .int x3)] → W p l e (headSpec w_M_lawful { frames := 3, cells := 0, slots := 0, locals := 73 }).room s m [.ref (b 0), .int q1].toArray below meth c H locs 0 0 (MQ below (gQi X vwCl (mW cI cC cZ b σ) sz (fun r' (_ : Unit) => r' = r) (fun _ => mW cI cC cZ b σ')) [.ref (b 0), .int q1].toArray s 0 0 (va_A (mW cI cC cZ b σ) sz)) (F0 m 9 ls [])) ∧ (∀ (x1 : Int32) (x2 : Int32) (x3 : Int32) (σ0 : gS) (H : Heap) (locs : List Loc) (ls : Array Slot), R_M_lawful t 2 [x1, x2, x3] σ0 = some (r, σ') → va_P X vwCl (mW cI cC cZ b σ0) H → va_D A (mW cI cC cZ b σ0) → va_S A s.heap H locs → lv_has ls 5 [(0, .ref (b 0)), (1, .int x1), (2, .int x2), (3, .int x3)] → W p l e (headSpec w_M_lawful { frames := 3, cells := 0, slots := 0, locals := 73 }).room s m [.ref (b 0), .int q1].toArray below meth c H locs 0 0 (MQ below (gQi X vwCl (mW cI cC cZ b σ) sz (fun r' (_ : Unit) => r' = r) (fun _ => mW cI cC cZ b σ')) [.ref (b 0), .int q1].toArray s 0 0 (va_A (mW cI cC cZ b σ) sz)) (F0 m 49 ls [])) ∧ (∀ (x1 : Int32) (x2 : Int32) (x3 : Int32) (σ0 : gS) (H : Heap) (locs : List Loc) (ls : Array Slot), R_M_lawful t 3 [x1, x2, x3] σ0 = some (r, σ') → va_P X vwCl (mW cI cC cZ b σ0) H → va_D A (mW cI cC cZ b σ0) → va_S A s.heap H locs → lv_has ls 5 [(0, .ref (b 0)), (1, .int x1), (2, .int x2), (3, .int x3)] → W p l e (headSpec w_M_lawful { frames := 3, cells := 0, slots := 0, locals := 73 }).room s m [.ref (b 0), .int q1].toArray below meth c H locs 0 0 (MQ below (gQi X vwCl (mW cI cC cZ b σ) sz (fun r' (_ : Unit) => r' = r) (fun _ => mW cI cC cZ b σ')) [.ref (b 0), .int q1].toArray s 0 0 (va_A (mW cI cC cZ b σ) sz)) (F0 m 59 ls [])) ∧ (∀ (x1 : Int32) (x3 : Int32) (z0 : Int32) (σ0 : gS) (H : Heap) (locs : List Loc) (ls : Array Slot), R_M_lawful t 4 [x1, x3, z0] σ0 = some (r, σ') → va_P X vwCl (mW cI cC cZ b σ0) H → va_D A (mW cI cC cZ b σ0) → va_S A s.heap H locs → lv_has ls 5 [(0, .ref (b 0)), (1, .int x1), (3, .int x3)] → W p l e (headSpec w_M_lawful { frames := 3, cells := 0, slots := 0, locals := 73 }).room s m [.ref (b 0), .int q1].toArray below meth c H locs 0 0 (MQ below (gQi X vwCl (mW cI cC cZ b σ) sz (fun r' (_ : Unit) => r' = r) (fun _ => mW cI cC cZ b σ')) [.ref (b 0), .int q1].toArray s 0 0 (va_A (mW cI cC cZ b σ) sz)) (F0 m 74 ls [.int z0])) ∧ (∀ (x1 : Int32) (x2 : Int32) (x3 : Int32) (z0 : Int32) (σ0 : gS) (H : Heap) (locs : List Loc) (ls : Array Slot), R_M_lawful t 5 [x1, x2, x3, z0] σ0 = some (r, σ') → va_P X vwCl (mW cI cC cZ b σ0) H → va_D A (mW cI cC cZ b σ0) → va_S A s.heap H locs → lv_has ls 5 [(0, .ref (b 0)), (1, .int x1), (2, .int x2), (3, .int x3)] → W p l e (headSpec w_M_lawful { frames := 3, cells := 0, slots := 0, locals := 73 }).room s m [.ref (b 0), .int q1].toArray below meth c H locs 0 0 (MQ below (gQi X vwCl (mW cI cC cZ b σ) sz (fun r' (_ : Unit) => r' = r) (fun _ => mW cI cC cZ b σ')) [.ref (b 0), .int q1].toArray s 0 0 (va_A (mW cI cC cZ b σ) sz)) (F0 m 95 ls [.int z0])) ∧ (∀ (x1 : Int32) (x2 : Int32) (x3 : Int32) (σ0 : gS) (H : Heap) (locs : List Loc) (ls : Array Slot), R_M_lawful t 6 [x1, x2, x3] σ0 = some (r, σ') → va_P X vwCl (mW cI cC cZ b σ0) H → va_D A (mW cI cC cZ b σ0) → va_S A s.heap H locs → lv_has ls 5 [(0, .ref (b 0)), (1, .int x1), (2, .int x2), (3, .int x3)] → W p l e (headSpec w_M_lawful { frames := 3, cells := 0, slots := 0, locals := 73 }).room s m [.ref (b 0), .int q1].toArray below meth c H locs 0 0 (MQ below (gQi X vwCl (mW cI cC cZ b σ) sz (fun r' (_ : Unit) => r' = r) (fun _ => mW cI cC cZ b σ')) [.ref (b 0), .int q1].toArray s 0 0 (va_A (mW cI cC cZ b σ) sz)) (F0 m 115 ls [])) ∧ (∀ (x1 : Int32) (x2 : Int32) (x3 : Int32) (σ0 : gS) (H : Heap) (locs : List Loc) (ls : Array Slot), R_M_lawful t 7 [x1, x2, x3] σ0 = some (r, σ') → va_P X vwCl (mW cI cC cZ b σ0) H → va_D A (mW cI cC cZ b σ0) → va_S A s.heap H locs → lv_has ls 5 [(0, .ref (b 0)), (1, .int x1), (2, .int x2), (3, .int x3)] → W p l e (headSpec w_M_lawful { frames := 3, cells := 0, slots := 0, locals := 73 }).room s m [.ref (b 0), .int q1].toArray below meth c H locs 0 0 (MQ below (gQi X vwCl (mW cI cC cZ b σ) sz (fun r' (_ : Unit) => r' = r) (fun _ => mW cI cC cZ b σ')) [.ref (b 0), .int q1].toArray s 0 0 (va_A (mW cI cC cZ b σ) sz)) (F0 m 144 ls [])) := by
    intro t
    induction t with
    | zero => exact ⟨fun _ _ _ _ _ hf => (by have hf : (none : Option (Int32 × gS)) = some (r, σ') := hf; cases hf), fun _ _ _ _ _ _ _ hf => (by have hf : (none : Option (Int32 × gS)) = some (r, σ') := hf; cases hf), fun _ _ _ _ _ _ _ hf => (by have hf : (none : Option (Int32 × gS)) = some (r, σ') := hf; cases hf), fun _ _ _ _ _ _ _ hf => (by have hf : (none : Option (Int32 × gS)) = some (r, σ') := hf; cases hf), fun _ _ _ _ _ _ _ hf => (by have hf : (none : Option (Int32 × gS)) = some (r, σ') := hf; cases hf), fun _ _ _ _ _ _ _ _ hf => (by have hf : (none : Option (Int32 × gS)) = some (r, σ') := hf; cases hf), fun _ _ _ _ _ _ _ hf => (by have hf : (none : Option (Int32 × gS)) = some (r, σ') := hf; cases hf), fun _ _ _ _ _ _ _ hf => (by have hf : (none : Option (Int32 × gS)) = some (r, σ') := hf; cases hf)⟩
    | succ t ih =>
      obtain ⟨ih0, ih1, ih2, ih3, ih4, ih5, ih6, ih7⟩ := ih
      refine ⟨?_, ?_, ?_, ?_, ?_, ?_, ?_, ?_⟩
      · intro x1 σ0 H locs ls hf hP hD hS hl
        have hf : B_M_lawful_0 (R_M_lawful t) x1 σ0 = some (r, σ') := hf
        unfold B_M_lawful_0 at hf
        refine lv_aload_n hx hb d_M_lawful_0 rfl (lv_at hl 0 rfl) ?_
        refine va_get (D := X) (ci := 9) (C := R_M) (T := T_M) (N := 35) hx hb hts u_0 hown hK hP 0 gm_0 rfl 0 (by decide) k_0 (fun _ h9 => h9) rfl d_M_lawful_1 ?_
        refine lv_istore_n hx hb d_M_lawful_4 rfl hl (by decide) rfl (fun ls hl => ?_)
        refine lv_iload_n hx hb d_M_lawful_5 rfl (lv_at hl 2 rfl) ?_
        refine lv_iconst (v := 1) hx hb d_M_lawful_6 (by decide) ?_
        refine lv_iadd hx hb d_M_lawful_7 ?_
        refine lv_istore_n hx hb d_M_lawful_8 rfl hl (by decide) rfl (fun ls hl => ?_)
        exact ih1 (x1) ((σ0.1 0)) ((x1 + 1)) σ0 _ _ _ hf hP hD hS (lv_sub hl [2, 3, 1, 0] rfl)
      · intro x1 x2 x3 σ0 H locs ls hf hP hD hS hl
        have hf : B_M_lawful_1 (R_M_lawful t) x1 x2 x3 σ0 = some (r, σ') := hf
        unfold B_M_lawful_1 at hf
        refine lv_iload_n hx hb d_M_lawful_9 rfl (lv_at hl 3 rfl) ?_
        refine lv_aload_n hx hb d_M_lawful_10 rfl (lv_at hl 0 rfl) ?_
        refine va_get (D := X) (ci := 9) (C := R_M) (T := T_M) (N := 35) hx hb hts u_0 hown hK hP 0 gm_0 rfl 9 (by decide) k_1 (fun _ h9 => h9) rfl d_M_lawful_11 ?_
        refine lv_icmp_ge (tgt := 150) hx hb d_M_lawful_14 rfl (fun c1 => ?_) (fun c1 => ?_)
        · skip
          rw [if_pos c1] at hf
          refine lv_iload_n hx hb d_M_lawful_150 rfl (lv_at hl 2 rfl) ?_
          refine lv_bipush (v := 16) hx hb d_M_lawful_151 (by decide) ?_
          refine lv_icmp_gt (tgt := 160) hx hb d_M_lawful_153 rfl (fun c2 => ?_) (fun c2 => ?_)
          · skip
            rw [if_pos c2] at hf
            refine lv_iconst (v := 0) hx hb d_M_lawful_160 (by decide) ?_
            obtain ⟨rfl, rfl⟩ := gRt_e hf
            exact g_zret hx hb hr hlocks rfl hAe hS () rfl hP d_M_lawful_161
          rw [if_neg c2] at hf
          refine lv_iconst (v := 1) hx hb d_M_lawful_156 (by decide) ?_
          refine lv_goto (tgt := 161) hx hb d_M_lawful_157 rfl ?_
          obtain ⟨rfl, rfl⟩ := gRt_e hf
          exact g_zret hx hb hr hlocks rfl hAe hS () rfl hP d_M_lawful_161
        rw [if_neg c1] at hf
        refine lv_aload_n hx hb d_M_lawful_17 rfl (lv_at hl 0 rfl) ?_
        refine lv_iload_n hx hb d_M_lawful_18 rfl (lv_at hl 3 rfl) ?_
        refine lv_iload_n hx hb d_M_lawful_19 rfl (lv_at hl 1 rfl) ?_
        obtain ⟨y3, σ4, e5, hf⟩ := gBd_e hf
        refine g_wi (va_runV ⟨hx, hb, hml, hown, hts⟩ (m_M_fits e5) (cwV 2 hts (gG4 (fun _ h => List.mem_cons_of_mem _ h) tb_500 tb_501 tb_502 tb_392 tc_M_fits) rfl rfl rfl (by decide +kernel) ⟨Nat.le_of_ble_eq_true rfl, Nat.le_of_ble_eq_true rfl⟩) (g_preVW (q0 := 0) hE hK hP hD hS hA gm_0 rfl) rfl rfl hl.1 rfl (lv_room (Nat.le_of_ble_eq_true rfl)) d_M_lawful_20 ⟨Nat.zero_le _, Nat.zero_le _⟩) hD hS hA (fun _ => mW_fst) (fun y3 _ H locs hu hP hD hS => ?_)
        subst hu
        refine lv_if_ne (tgt := 28) hx hb d_M_lawful_23 rfl (fun c6 => ?_) (fun c6 => ?_)
        · skip
          rw [if_neg c6] at hf
          refine lv_aload_n hx hb d_M_lawful_28 rfl (lv_at hl 0 rfl) ?_
          refine va_get (D := X) (ci := 9) (C := R_M) (T := T_M) (N := 35) hx hb hts u_0 hown hK hP 0 gm_0 rfl 10 (by decide) k_2 (fun _ h9 => h9) rfl d_M_lawful_29 ?_
          refine lv_iload_n hx hb d_M_lawful_32 rfl (lv_at hl 3 rfl) ?_
          obtain ⟨y7, h8, e9, hf⟩ := gLd_e hf
          refine va_iald hx hb hK hP 8 0 gm_8 rfl h8 d_M_lawful_33 ?_
          rw [← e9]
          refine lv_bipush (v := 16) hx hb d_M_lawful_34 (by decide) ?_
          refine lv_icmp_eq (tgt := 49) hx hb d_M_lawful_36 rfl (fun c10 => ?_) (fun c10 => ?_)
          · skip
            rw [if_pos c10] at hf
            exact ih2 (x1) (x2) (x3) σ4 _ _ _ hf hP hD hS (lv_sub hl [0, 1, 2, 3] rfl)
          rw [if_neg c10] at hf
          refine lv_aload_n hx hb d_M_lawful_39 rfl (lv_at hl 0 rfl) ?_
          refine va_get (D := X) (ci := 9) (C := R_M) (T := T_M) (N := 35) hx hb hts u_0 hown hK hP 0 gm_0 rfl 10 (by decide) k_2 (fun _ h9 => h9) rfl d_M_lawful_40 ?_
          refine lv_iload_n hx hb d_M_lawful_43 rfl (lv_at hl 3 rfl) ?_
          obtain ⟨y11, h12, e13, hf⟩ := gLd_e hf
          refine va_iald hx hb hK hP 8 0 gm_8 rfl h12 d_M_lawful_44 ?_
          rw [← e13]
          refine lv_iconst (v := 1) hx hb d_M_lawful_45 (by decide) ?_
          refine lv_icmp_ne (tgt := 59) hx hb d_M_lawful_46 rfl (fun c14 => ?_) (fun c14 => ?_)
          · skip
            rw [if_neg c14] at hf
            exact ih3 (x1) (x2) (x3) σ4 _ _ _ hf hP hD hS (lv_sub hl [0, 1, 2, 3] rfl)
          rw [if_pos c14] at hf
          exact ih2 (x1) (x2) (x3) σ4 _ _ _ hf hP hD hS (lv_sub hl [0, 1, 2, 3] rfl)
        rw [if_pos c6] at hf
        refine lv_iconst (v := 0) hx hb d_M_lawful_26 (by decide) ?_
        obtain ⟨rfl, rfl⟩ := gRt_e hf
        exact g_zret hx hb hr hlocks rfl hAe hS () rfl hP d_M_lawful_27
      · intro x1 x2 x3 σ0 H locs ls hf hP hD hS hl
        have hf : B_M_lawful_2 (R_M_lawful t) x1 x2 x3 σ0 = some (r, σ') := hf
        unfold B_M_lawful_2 at hf
        refine lv_aload_n hx hb d_M_lawful_49 rfl (lv_at hl 0 rfl) ?_
        refine lv_iload_n hx hb d_M_lawful_50 rfl (lv_at hl 3 rfl) ?_
        obtain ⟨y15, σ16, e17, hf⟩ := gBd_e hf
        refine g_wi (va_runV ⟨hx, hb, hml, hown, hts⟩ (m_M_slots e17) (cwV 1 hts (gG4 (fun _ h => List.mem_cons_of_mem _ h) tb_503 tb_504 tb_505 tb_392 tc_M_slots) rfl rfl rfl (by decide +kernel) ⟨Nat.le_of_ble_eq_true rfl, Nat.le_of_ble_eq_true rfl⟩) (g_preVW (q0 := 0) hE hK hP hD hS hA gm_0 rfl) rfl rfl hl.1 rfl (lv_room (Nat.le_of_ble_eq_true rfl)) d_M_lawful_51 ⟨Nat.zero_le _, Nat.zero_le _⟩) hD hS hA (fun _ => mW_fst) (fun y15 _ H locs hu hP hD hS => ?_)
        subst hu
        refine lv_if_ne (tgt := 59) hx hb d_M_lawful_54 rfl (fun c18 => ?_) (fun c18 => ?_)
        · skip
          rw [if_neg c18] at hf
          exact ih3 (x1) (x2) (x3) σ16 _ _ _ hf hP hD hS (lv_sub hl [0, 1, 2, 3] rfl)
        rw [if_pos c18] at hf
        refine lv_iconst (v := 0) hx hb d_M_lawful_57 (by decide) ?_
        obtain ⟨rfl, rfl⟩ := gRt_e hf
        exact g_zret hx hb hr hlocks rfl hAe hS () rfl hP d_M_lawful_58
      · intro x1 x2 x3 σ0 H locs ls hf hP hD hS hl
        have hf : B_M_lawful_3 (R_M_lawful t) x1 x2 x3 σ0 = some (r, σ') := hf
        unfold B_M_lawful_3 at hf
        refine lv_aload_n hx hb d_M_lawful_59 rfl (lv_at hl 0 rfl) ?_
        refine lv_iload_n hx hb d_M_lawful_60 rfl (lv_at hl 3 rfl) ?_
        obtain ⟨y19, σ20, e21, hf⟩ := gBd_e hf
        refine g_wi (va_runV ⟨hx, hb, hml, hown, hts⟩ (m_M_isObject e21) (cwV 1 hts (gG4 (fun _ h => List.mem_cons_of_mem _ h) tb_487 tb_488 tb_489 tb_392 tc_M_isObject) rfl rfl rfl (by decide +kernel) ⟨Nat.le_of_ble_eq_true rfl, Nat.le_of_ble_eq_true rfl⟩) (g_preVW (q0 := 0) hE hK hP hD hS hA gm_0 rfl) rfl rfl hl.1 rfl (lv_room (Nat.le_of_ble_eq_true rfl)) d_M_lawful_61 ⟨Nat.zero_le _, Nat.zero_le _⟩) hD hS hA (fun _ => mW_fst) (fun y19 _ H locs hu hP hD hS => ?_)
        subst hu
        refine lv_if_eq (tgt := 73) hx hb d_M_lawful_64 rfl (fun c22 => ?_) (fun c22 => ?_)
        · skip
          rw [if_pos c22] at hf
          refine lv_iload_n hx hb d_M_lawful_73 rfl (lv_at hl 2 rfl) ?_
          exact ih4 (x1) (x3) (x2) σ20 _ _ _ hf hP hD hS (lv_sub hl [0, 1, 3] rfl)
        rw [if_neg c22] at hf
        refine lv_iload_n hx hb d_M_lawful_67 rfl (lv_at hl 2 rfl) ?_
        refine lv_iconst (v := 1) hx hb d_M_lawful_68 (by decide) ?_
        refine lv_iadd hx hb d_M_lawful_69 ?_
        refine lv_goto (tgt := 74) hx hb d_M_lawful_70 rfl ?_
        exact ih4 (x1) (x3) ((x2 + 1)) σ20 _ _ _ hf hP hD hS (lv_sub hl [0, 1, 3] rfl)
      · intro x1 x3 z0 σ0 H locs ls hf hP hD hS hl
        have hf : B_M_lawful_4 (R_M_lawful t) x1 x3 z0 σ0 = some (r, σ') := hf
        unfold B_M_lawful_4 at hf
        refine lv_istore_n hx hb d_M_lawful_74 rfl hl (by decide) rfl (fun ls hl => ?_)
        refine lv_aload_n hx hb d_M_lawful_75 rfl (lv_at hl 1 rfl) ?_
        refine lv_iload_n hx hb d_M_lawful_76 rfl (lv_at hl 3 rfl) ?_
        obtain ⟨y23, σ24, e25, hf⟩ := gBd_e hf
        refine g_wi (va_runV ⟨hx, hb, hml, hown, hts⟩ (m_M_isObject e25) (cwV 1 hts (gG4 (fun _ h => List.mem_cons_of_mem _ h) tb_487 tb_488 tb_489 tb_392 tc_M_isObject) rfl rfl rfl (by decide +kernel) ⟨Nat.le_of_ble_eq_true rfl, Nat.le_of_ble_eq_true rfl⟩) (g_preVW (q0 := 0) hE hK hP hD hS hA gm_0 rfl) rfl rfl hl.1 rfl (lv_room (Nat.le_of_ble_eq_true rfl)) d_M_lawful_77 ⟨Nat.zero_le _, Nat.zero_le _⟩) hD hS hA (fun _ => mW_fst) (fun y23 _ H locs hu hP hD hS => ?_)
        subst hu
        refine lv_if_eq (tgt := 94) hx hb d_M_lawful_80 rfl (fun c26 => ?_) (fun c26 => ?_)
        · skip
          rw [if_pos c26] at hf
          refine lv_iconst (v := (-1)) hx hb d_M_lawful_94 (by decide) ?_
          exact ih5 (x1) (z0) (x3) ((-1)) σ24 _ _ _ hf hP hD hS (lv_sub hl [1, 2, 0, 3] rfl)
        rw [if_neg c26] at hf
        refine lv_aload_n hx hb d_M_lawful_83 rfl (lv_at hl 1 rfl) ?_
        refine lv_iload_n hx hb d_M_lawful_84 rfl (lv_at hl 3 rfl) ?_
        refine lv_sipush (v := 247) hx hb d_M_lawful_85 (by decide) ?_
        obtain ⟨y27, σ28, e29, hf⟩ := gBd_e hf
        refine g_wi (va_runV ⟨hx, hb, hml, hown, hts⟩ (m_M_countIn e29) (cwV 2 hts (gG4 (fun _ h => List.mem_cons_of_mem _ h) tb_483 tb_484 tb_485 tb_392 tc_M_countIn) rfl rfl rfl (by decide +kernel) ⟨Nat.le_of_ble_eq_true rfl, Nat.le_of_ble_eq_true rfl⟩) (g_preVW (q0 := 0) hE hK hP hD hS hA gm_0 rfl) rfl rfl hl.1 rfl (lv_room (Nat.le_of_ble_eq_true rfl)) d_M_lawful_88 ⟨Nat.zero_le _, Nat.zero_le _⟩) hD hS hA (fun _ => mW_fst) (fun y27 _ H locs hu hP hD hS => ?_)
        subst hu
        refine lv_goto (tgt := 95) hx hb d_M_lawful_91 rfl ?_
        exact ih5 (x1) (z0) (x3) (y27) σ28 _ _ _ hf hP hD hS (lv_sub hl [1, 2, 0, 3] rfl)
      · intro x1 x2 x3 z0 σ0 H locs ls hf hP hD hS hl
        have hf : B_M_lawful_5 (R_M_lawful t) x1 x2 x3 z0 σ0 = some (r, σ') := hf
        unfold B_M_lawful_5 at hf
        refine lv_istore hx hb d_M_lawful_95 hl (by decide) rfl (fun ls hl => ?_)
        refine lv_iload hx hb d_M_lawful_97 (lv_at hl 0 rfl) ?_
        refine lv_if_lt (tgt := 115) hx hb d_M_lawful_99 rfl (fun c30 => ?_) (fun c30 => ?_)
        · skip
          rw [if_pos c30] at hf
          exact ih6 (x1) (x2) (x3) σ0 _ _ _ hf hP hD hS (lv_sub hl [1, 2, 3, 4] rfl)
        rw [if_neg c30] at hf
        refine lv_aload_n hx hb d_M_lawful_102 rfl (lv_at hl 1 rfl) ?_
        refine lv_iload_n hx hb d_M_lawful_103 rfl (lv_at hl 2 rfl) ?_
        refine lv_iload hx hb d_M_lawful_104 (lv_at hl 0 rfl) ?_
        refine lv_iload_n hx hb d_M_lawful_106 rfl (lv_at hl 4 rfl) ?_
        obtain ⟨y31, σ32, e33, hf⟩ := gBd_e hf
        refine g_wi (va_runV ⟨hx, hb, hml, hown, hts⟩ (m_M_withId e33) (cwV 3 hts (gG4 (fun _ h => List.mem_cons_of_mem _ h) tb_506 tb_507 tb_508 tb_392 tc_M_withId) rfl rfl rfl (by decide +kernel) ⟨Nat.le_of_ble_eq_true rfl, Nat.le_of_ble_eq_true rfl⟩) (g_preVW (q0 := 0) hE hK hP hD hS hA gm_0 rfl) rfl rfl hl.1 rfl (lv_room (Nat.le_of_ble_eq_true rfl)) d_M_lawful_107 ⟨Nat.zero_le _, Nat.zero_le _⟩) hD hS hA (fun _ => mW_fst) (fun y31 _ H locs hu hP hD hS => ?_)
        subst hu
        refine lv_if_lt (tgt := 115) hx hb d_M_lawful_110 rfl (fun c34 => ?_) (fun c34 => ?_)
        · skip
          rw [if_pos c34] at hf
          exact ih6 (x1) (x2) (x3) σ32 _ _ _ hf hP hD hS (lv_sub hl [1, 2, 3, 4] rfl)
        rw [if_neg c34] at hf
        refine lv_iconst (v := 0) hx hb d_M_lawful_113 (by decide) ?_
        obtain ⟨rfl, rfl⟩ := gRt_e hf
        exact g_zret hx hb hr hlocks rfl hAe hS () rfl hP d_M_lawful_114
      · intro x1 x2 x3 σ0 H locs ls hf hP hD hS hl
        have hf : B_M_lawful_6 (R_M_lawful t) x1 x2 x3 σ0 = some (r, σ') := hf
        unfold B_M_lawful_6 at hf
        refine lv_aload_n hx hb d_M_lawful_115 rfl (lv_at hl 0 rfl) ?_
        refine va_get (D := X) (ci := 9) (C := R_M) (T := T_M) (N := 35) hx hb hts u_0 hown hK hP 0 gm_0 rfl 10 (by decide) k_2 (fun _ h9 => h9) rfl d_M_lawful_116 ?_
        refine lv_iload_n hx hb d_M_lawful_119 rfl (lv_at hl 3 rfl) ?_
        obtain ⟨y35, h36, e37, hf⟩ := gLd_e hf
        refine va_iald hx hb hK hP 8 0 gm_8 rfl h36 d_M_lawful_120 ?_
        rw [← e37]
        refine lv_bipush (v := 18) hx hb d_M_lawful_121 (by decide) ?_
        refine lv_icmp_ne (tgt := 144) hx hb d_M_lawful_123 rfl (fun c38 => ?_) (fun c38 => ?_)
        · skip
          rw [if_neg c38] at hf
          exact ih7 (x1) (x2) (x3) σ0 _ _ _ hf hP hD hS (lv_sub hl [0, 1, 2, 3] rfl)
        rw [if_pos c38] at hf
        refine lv_aload_n hx hb d_M_lawful_126 rfl (lv_at hl 0 rfl) ?_
        refine lv_iload_n hx hb d_M_lawful_127 rfl (lv_at hl 1 rfl) ?_
        refine lv_aload_n hx hb d_M_lawful_128 rfl (lv_at hl 0 rfl) ?_
        refine lv_iload_n hx hb d_M_lawful_129 rfl (lv_at hl 3 rfl) ?_
        refine lv_bipush (v := 8) hx hb d_M_lawful_130 (by decide) ?_
        obtain ⟨y39, σ40, e41, hf⟩ := gBd_e hf
        refine g_wi (va_runV ⟨hx, hb, hml, hown, hts⟩ (m_M_countIn e41) (cwV 2 hts (gG4 (fun _ h => List.mem_cons_of_mem _ h) tb_483 tb_484 tb_485 tb_392 tc_M_countIn) rfl rfl rfl (by decide +kernel) ⟨Nat.le_of_ble_eq_true rfl, Nat.le_of_ble_eq_true rfl⟩) (g_preVW (q0 := 0) hE hK hP hD hS hA gm_0 rfl) rfl rfl hl.1 rfl (lv_room (Nat.le_of_ble_eq_true rfl)) d_M_lawful_132 ⟨Nat.zero_le _, Nat.zero_le _⟩) hD hS hA (fun _ => mW_fst) (fun y39 _ H locs hu hP hD hS => ?_)
        subst hu
        refine lv_iconst (v := (-1)) hx hb d_M_lawful_135 (by decide) ?_
        obtain ⟨y42, σ43, e44, hf⟩ := gBd_e hf
        refine g_wi (va_runV ⟨hx, hb, hml, hown, hts⟩ (m_M_withId e44) (cwV 3 hts (gG4 (fun _ h => List.mem_cons_of_mem _ h) tb_506 tb_507 tb_508 tb_392 tc_M_withId) rfl rfl rfl (by decide +kernel) ⟨Nat.le_of_ble_eq_true rfl, Nat.le_of_ble_eq_true rfl⟩) (g_preVW (q0 := 0) hE hK hP hD hS hA gm_0 rfl) rfl rfl hl.1 rfl (lv_room (Nat.le_of_ble_eq_true rfl)) d_M_lawful_136 ⟨Nat.zero_le _, Nat.zero_le _⟩) hD hS hA (fun _ => mW_fst) (fun y42 _ H locs hu hP hD hS => ?_)
        subst hu
        refine lv_if_ge (tgt := 144) hx hb d_M_lawful_139 rfl (fun c45 => ?_) (fun c45 => ?_)
        · skip
          rw [if_pos c45] at hf
          exact ih7 (x1) (x2) (x3) σ43 _ _ _ hf hP hD hS (lv_sub hl [0, 1, 2, 3] rfl)
        rw [if_neg c45] at hf
        refine lv_iconst (v := 0) hx hb d_M_lawful_142 (by decide) ?_
        obtain ⟨rfl, rfl⟩ := gRt_e hf
        exact g_zret hx hb hr hlocks rfl hAe hS () rfl hP d_M_lawful_143
      · intro x1 x2 x3 σ0 H locs ls hf hP hD hS hl
        have hf : B_M_lawful_7 (R_M_lawful t) x1 x2 x3 σ0 = some (r, σ') := hf
        unfold B_M_lawful_7 at hf
        refine lv_iinc (k := 3) (v := (x3 + 1)) hx hb d_M_lawful_144 hl rfl (by rw [show Int32.ofInt (1) = (1 : Int32) by decide]) (by decide) rfl (fun ls hl => ?_)
        refine lv_goto (tgt := 9) hx hb d_M_lawful_147 rfl ?_
        exact ih1 (x1) (x2) ((x3 + 1)) σ0 _ _ _ hf hP hD hS (lv_sub hl [1, 2, 3, 0] rfl)
  exact (key gFuel).1 q1 σ _ _ _ hf hP hD hS hl
