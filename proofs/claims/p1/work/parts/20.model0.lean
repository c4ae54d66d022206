def B_M_make_0 (rec : Nat → List Int32 → gS → Option (Int32 × gS)) (x1 : Int32) (x2 : Int32) (σ0 : gS) : Option (Int32 × gS) := if x1 < 0 then (some ((-1), σ0)) else (if 2 < x1 then (some ((-1), σ0)) else (if x1 = 1 then (if x2 < 0 then (some ((-1), σ0)) else (if 4 < x2 then (some ((-1), σ0)) else (rec 1 [x1, x2] σ0))) else (rec 1 [x1, x2] σ0)))
def B_M_make_1 (rec : Nat → List Int32 → gS → Option (Int32 × gS)) (x1 : Int32) (x2 : Int32) (σ0 : gS) : Option (Int32 × gS) := if (σ0.1 0) = 16 then (some ((-1), σ0)) else (gSt σ0 1 16 (σ0.1 0) x1 (fun σ7 => if x1 = 0 then (rec 2 [(σ7.1 0), 2] σ7) else (if x1 = 1 then (rec 2 [(σ7.1 0), x2] σ7) else (rec 2 [(σ7.1 0), 0] σ7))))
def B_M_make_2 (rec : Nat → List Int32 → gS → Option (Int32 × gS)) (z1 : Int32) (z2 : Int32) (σ0 : gS) : Option (Int32 × gS) := gSt σ0 2 16 z1 z2 (fun σ12 => rec 3 [0] σ12)
def B_M_make_3 (rec : Nat → List Int32 → gS → Option (Int32 × gS)) (x3 : Int32) (σ0 : gS) : Option (Int32 × gS) := if 4 ≤ x3 then (gPut σ0 0 ((σ0.1 0) + 1) (fun σ16 => some (((σ16.1 0) - 1), σ16))) else (gSt σ0 3 64 ((4 * (σ0.1 0)) + x3) 0 (fun σ18 => rec 3 [(x3 + 1)] σ18))
def S_M_make (rec : Nat → List Int32 → gS → Option (Int32 × gS)) (k : Nat) (l : List Int32) (σ0 : gS) : Option (Int32 × gS) := match k, l with
  | 0, [x1, x2] => B_M_make_0 rec x1 x2 σ0
  | 1, [x1, x2] => B_M_make_1 rec x1 x2 σ0
  | 2, [z1, z2] => B_M_make_2 rec z1 z2 σ0
  | 3, [x3] => B_M_make_3 rec x3 σ0
  | _, _ => none
def R_M_make : Nat → Nat → List Int32 → gS → Option (Int32 × gS)
  | 0 => fun _ _ _ => none
  | t + 1 => fun k l σ0 => S_M_make (R_M_make t) k l σ0
def f_M_make (σ : gS) (x1 : Int32) (x2 : Int32) : Option (Int32 × gS) := R_M_make gFuel 0 [x1, x2] σ
set_option maxHeartbeats 4000000 in
set_option maxRecDepth 100000 in
theorem m_M_make {l : Launch} {X : va_G} {cI cC cZ : ClassId} {b : Nat → Nat} {σ σ' : gS} {r : Int32} {q1 : Int32} {q2 : Int32} (hf : f_M_make σ q1 q2 = some (r, σ')) {sz : Nat} : Met l y_M_make w_M_make { frames := 0, cells := 0, slots := 0, locals := 0 } (gPc X vwCl (gT cI cC cZ) (mW cI cC cZ b σ) sz [.ref (b 0), .int q1, .int q2]) (gQi X vwCl (mW cI cC cZ b σ) sz (fun r' (_ : Unit) => r' = r) (fun _ => mW cI cC cZ b σ')) 0 0 (va_A (mW cI cC cZ b σ) sz) := by
  refine g_met (cc := b_M_make) (maxL := 4) (ret := (some .int)) (by decide) rfl (Nat.le_of_ble_eq_true rfl) ?_
  intro p e s m below meth c A ls hx hb hr hml hown hts hlocks hnm hsz hAe hA hP hK hD hS hl hN
  have hown : s.vm.findClass R_M = some m.cls := hown
  have u_0 : ∀ w ∈ u_ws R_M T_M 35, w ∈ w_M_make := fun w h => List.mem_cons_of_mem _ (tu_M w h)
  have k_0 := hts (.fieldLink R_M 87 "GraphPagesModel" "count" "I") (List.mem_cons_of_mem _ tb_82)
  have k_1 := hts (.fieldLink R_M 7 "GraphPagesModel" "sort" "[I") (List.mem_cons_of_mem _ tb_83)
  have k_2 := hts (.fieldLink R_M 13 "GraphPagesModel" "room" "[I") (List.mem_cons_of_mem _ tb_84)
  have k_3 := hts (.fieldLink R_M 16 "GraphPagesModel" "what" "[I") (List.mem_cons_of_mem _ tb_85)
  unfold f_M_make at hf
  have key : ∀ t : Nat, (∀ (x1 : Int32) (x2 : Int32) (σ0 : gS) (H : Heap) (locs : List Loc) (ls : Array Slot), R_M_make t 0 [x1, x2] σ0 = some (r, σ') → va_P X vwCl (mW cI cC cZ b σ0) H → va_D A (mW cI cC cZ b σ0) → va_S A s.heap H locs → lv_has ls 4 [(0, .ref (b 0)), (1, .int x1), (2, .int x2)] → W p l e (headSpec w_M_make { frames := 0, cells := 0, slots := 0, locals := 0 }).room s m [.ref (b 0), .int q1, .int q2].toArray below meth c H locs 0 0 (MQ below (gQi X vwCl (mW cI cC cZ b σ) sz (fun r' (_ : Unit) => r' = r) (fun _ => mW cI cC cZ b σ')) [.ref (b 0), .int q1, .int q2].toArray s 0 0 (va_A (mW cI cC cZ b σ) sz)) (F0 m 0 ls [])) ∧ (∀ (x1 : Int32) (x2 : Int32) (σ0 : gS) (H : Heap) (locs : List Loc) (ls : Array Slot), R_M_make t 1 [x1, x2] σ0 = some (r, σ') → va_P X vwCl (mW cI cC cZ b σ0) H → va_D A (mW cI cC cZ b σ0) → va_S A s.heap H locs → lv_has ls 4 [(0, .ref (b 0)), (1, .int x1), (2, .int x2)] → W p l e (headSpec w_M_make { frames := 0, cells := 0, slots := 0, locals := 0 }).room s m [.ref (b 0), .int q1, .int q2].toArray below meth c H locs 0 0 (MQ below (gQi X vwCl (mW cI cC cZ b σ) sz (fun r' (_ : Unit) => r' = r) (fun _ => mW cI cC cZ b σ')) [.ref (b 0), .int q1, .int q2].toArray s 0 0 (va_A (mW cI cC cZ b σ) sz)) (F0 m 23 ls [])) ∧ (∀ (z1 : Int32) (z2 : Int32) (σ0 : gS) (H : Heap) (locs : List Loc) (ls : Array Slot), R_M_make t 2 [z1, z2] σ0 = some (r, σ') → va_P X vwCl (mW cI cC cZ b σ0) H → va_D A (mW cI cC cZ b σ0) → va_S A s.heap H locs → lv_has ls 4 [(0, .ref (b 0))] → W p l e (headSpec w_M_make { frames := 0, cells := 0, slots := 0, locals := 0 }).room s m [.ref (b 0), .int q1, .int q2].toArray below meth c H locs 0 0 (MQ below (gQi X vwCl (mW cI cC cZ b σ) sz (fun r' (_ : Unit) => r' = r) (fun _ => mW cI cC cZ b σ')) [.ref (b 0), .int q1, .int q2].toArray s 0 0 (va_A (mW cI cC cZ b σ) sz)) (F0 m 70 ls [.int z2, .int z1, .ref (b 2)])) ∧ (∀ (x3 : Int32) (σ0 : gS) (H : Heap) (locs : List Loc) (ls : Array Slot), R_M_make t 3 [x3] σ0 = some (r, σ') → va_P X vwCl (mW cI cC cZ b σ0) H → va_D A (mW cI cC cZ b σ0) → va_S A s.heap H locs → lv_has ls 4 [(0, .ref (b 0)), (3, .int x3)] → W p l e (headSpec w_M_make { frames := 0, cells := 0, slots := 0, locals := 0 }).room s m [.ref (b 0), .int q1, .int q2].toArray below meth c H locs 0 0 (MQ below (gQi X vwCl (mW cI cC cZ b σ) sz (fun r' (_ : Unit) => r' = r) (fun _ => mW cI cC cZ b σ')) [.ref (b 0), .int q1, .int q2].toArray s 0 0 (va_A (mW cI cC cZ b σ) sz)) (F0 m 73 ls [])) := by
    intro t
    induction t with
    | zero => exact ⟨fun _ _ _ _ _ _ hf => (by have hf : (none : Option (Int32 × gS)) = some (r, σ') := hf; cases hf), fun _ _ _ _ _ _ hf => (by have hf : (none : Option (Int32 × gS)) = some (r, σ') := hf; cases hf), fun _ _ _ _ _ _ hf => (by have hf : (none : Option (Int32 × gS)) = some (r, σ') := hf; cases hf), fun _ _ _ _ _ hf => (by have hf : (none : Option (Int32 × gS)) = some (r, σ') := hf; cases hf)⟩
    | succ t ih =>
      obtain ⟨ih0, ih1, ih2, ih3⟩ := ih
      refine ⟨?_, ?_, ?_, ?_⟩
      · intro x1 x2 σ0 H locs ls hf hP hD hS hl
        have hf : B_M_make_0 (R_M_make t) x1 x2 σ0 = some (r, σ') := hf
        unfold B_M_make_0 at hf
        refine lv_iload_n hx hb d_M_make_0 rfl (lv_at hl 1 rfl) ?_
        refine lv_if_lt (tgt := 32) hx hb d_M_make_1 rfl (fun c1 => ?_) (fun c1 => ?_)
        · skip
          rw [if_pos c1] at hf
          refine lv_iconst (v := (-1)) hx hb d_M_make_32 (by decide) ?_
          obtain ⟨rfl, rfl⟩ := gRt_e hf
          exact g_zret hx hb hr hlocks rfl hAe hS () rfl hP d_M_make_33
        rw [if_neg c1] at hf
        refine lv_iload_n hx hb d_M_make_4 rfl (lv_at hl 1 rfl) ?_
        refine lv_iconst (v := 2) hx hb d_M_make_5 (by decide) ?_
        refine lv_icmp_gt (tgt := 32) hx hb d_M_make_6 rfl (fun c2 => ?_) (fun c2 => ?_)
        · skip
          rw [if_pos c2] at hf
          refine lv_iconst (v := (-1)) hx hb d_M_make_32 (by decide) ?_
          obtain ⟨rfl, rfl⟩ := gRt_e hf
          exact g_zret hx hb hr hlocks rfl hAe hS () rfl hP d_M_make_33
        rw [if_neg c2] at hf
        refine lv_iload_n hx hb d_M_make_9 rfl (lv_at hl 1 rfl) ?_
        refine lv_iconst (v := 1) hx hb d_M_make_10 (by decide) ?_
        refine lv_icmp_ne (tgt := 23) hx hb d_M_make_11 rfl (fun c3 => ?_) (fun c3 => ?_)
        · skip
          rw [if_neg c3] at hf
          exact ih1 (x1) (x2) σ0 _ _ _ hf hP hD hS (lv_sub hl [0, 1, 2] rfl)
        rw [if_pos c3] at hf
        refine lv_iload_n hx hb d_M_make_14 rfl (lv_at hl 2 rfl) ?_
        refine lv_if_lt (tgt := 32) hx hb d_M_make_15 rfl (fun c4 => ?_) (fun c4 => ?_)
        · skip
          rw [if_pos c4] at hf
          refine lv_iconst (v := (-1)) hx hb d_M_make_32 (by decide) ?_
          obtain ⟨rfl, rfl⟩ := gRt_e hf
          exact g_zret hx hb hr hlocks rfl hAe hS () rfl hP d_M_make_33
        rw [if_neg c4] at hf
        refine lv_iload_n hx hb d_M_make_18 rfl (lv_at hl 2 rfl) ?_
        refine lv_iconst (v := 4) hx hb d_M_make_19 (by decide) ?_
        refine lv_icmp_gt (tgt := 32) hx hb d_M_make_20 rfl (fun c5 => ?_) (fun c5 => ?_)
        · skip
          rw [if_pos c5] at hf
          refine lv_iconst (v := (-1)) hx hb d_M_make_32 (by decide) ?_
          obtain ⟨rfl, rfl⟩ := gRt_e hf
          exact g_zret hx hb hr hlocks rfl hAe hS () rfl hP d_M_make_33
        rw [if_neg c5] at hf
        exact ih1 (x1) (x2) σ0 _ _ _ hf hP hD hS (lv_sub hl [0, 1, 2] rfl)
      · intro x1 x2 σ0 H locs ls hf hP hD hS hl
        have hf : B_M_make_1 (R_M_make t) x1 x2 σ0 = some (r, σ') := hf
        unfold B_M_make_1 at hf
        refine lv_aload_n hx hb d_M_make_23 rfl (lv_at hl 0 rfl) ?_
        refine va_get (D := X) (ci := 9) (C := R_M) (T := T_M) (N := 35) hx hb hts u_0 hown hK hP 0 gm_0 rfl 0 (by decide) k_0 (fun _ h9 => h9) rfl d_M_make_24 ?_
        refine lv_bipush (v := 16) hx hb d_M_make_27 (by decide) ?_
        refine lv_icmp_ne (tgt := 34) hx hb d_M_make_29 rfl (fun c6 => ?_) (fun c6 => ?_)
        · skip
          rw [if_neg c6] at hf
          refine lv_aload_n hx hb d_M_make_34 rfl (lv_at hl 0 rfl) ?_
          refine va_get (D := X) (ci := 9) (C := R_M) (T := T_M) (N := 35) hx hb hts u_0 hown hK hP 0 gm_0 rfl 1 (by decide) k_1 (fun _ h9 => h9) rfl d_M_make_35 ?_
          refine lv_aload_n hx hb d_M_make_38 rfl (lv_at hl 0 rfl) ?_
          refine va_get (D := X) (ci := 9) (C := R_M) (T := T_M) (N := 35) hx hb hts u_0 hown hK hP 0 gm_0 rfl 0 (by decide) k_0 (fun _ h9 => h9) rfl d_M_make_39 ?_
          refine lv_iload_n hx hb d_M_make_42 rfl (lv_at hl 1 rfl) ?_
          obtain ⟨σ7, h8, e9, hf⟩ := gSt_e hf
          refine va_iast hx hb hK hP hD hS 1 0 gm_1 rfl h8 d_M_make_43 (fun H locs hP hD hS => ?_)
          rw [sm_1, ← e9] at hP hD
          refine lv_aload_n hx hb d_M_make_44 rfl (lv_at hl 0 rfl) ?_
          refine va_get (D := X) (ci := 9) (C := R_M) (T := T_M) (N := 35) hx hb hts u_0 hown hK hP 0 gm_0 rfl 2 (by decide) k_2 (fun _ h9 => h9) rfl d_M_make_45 ?_
          refine lv_aload_n hx hb d_M_make_48 rfl (lv_at hl 0 rfl) ?_
          refine va_get (D := X) (ci := 9) (C := R_M) (T := T_M) (N := 35) hx hb hts u_0 hown hK hP 0 gm_0 rfl 0 (by decide) k_0 (fun _ h9 => h9) rfl d_M_make_49 ?_
          refine lv_iload_n hx hb d_M_make_52 rfl (lv_at hl 1 rfl) ?_
          refine lv_if_ne (tgt := 60) hx hb d_M_make_53 rfl (fun c10 => ?_) (fun c10 => ?_)
          · skip
            rw [if_neg c10] at hf
            refine lv_iload_n hx hb d_M_make_60 rfl (lv_at hl 1 rfl) ?_
            refine lv_iconst (v := 1) hx hb d_M_make_61 (by decide) ?_
            refine lv_icmp_ne (tgt := 69) hx hb d_M_make_62 rfl (fun c11 => ?_) (fun c11 => ?_)
            · skip
              rw [if_neg c11] at hf
              refine lv_iconst (v := 0) hx hb d_M_make_69 (by decide) ?_
              exact ih2 ((σ7.1 0)) (0) σ7 _ _ _ hf hP hD hS (lv_sub hl [0] rfl)
            rw [if_pos c11] at hf
            refine lv_iload_n hx hb d_M_make_65 rfl (lv_at hl 2 rfl) ?_
            refine lv_goto (tgt := 70) hx hb d_M_make_66 rfl ?_
            exact ih2 ((σ7.1 0)) (x2) σ7 _ _ _ hf hP hD hS (lv_sub hl [0] rfl)
          rw [if_pos c10] at hf
          refine lv_iconst (v := 2) hx hb d_M_make_56 (by decide) ?_
          refine lv_goto (tgt := 70) hx hb d_M_make_57 rfl ?_
          exact ih2 ((σ7.1 0)) (2) σ7 _ _ _ hf hP hD hS (lv_sub hl [0] rfl)
        rw [if_pos c6] at hf
        refine lv_iconst (v := (-1)) hx hb d_M_make_32 (by decide) ?_
        obtain ⟨rfl, rfl⟩ := gRt_e hf
        exact g_zret hx hb hr hlocks rfl hAe hS () rfl hP d_M_make_33
      · intro z1 z2 σ0 H locs ls hf hP hD hS hl
        have hf : B_M_make_2 (R_M_make t) z1 z2 σ0 = some (r, σ') := hf
        unfold B_M_make_2 at hf
        obtain ⟨σ12, h13, e14, hf⟩ := gSt_e hf
        refine va_iast hx hb hK hP hD hS 2 0 gm_2 rfl h13 d_M_make_70 (fun H locs hP hD hS => ?_)
        rw [sm_2, ← e14] at hP hD
        refine lv_iconst (v := 0) hx hb d_M_make_71 (by decide) ?_
        refine lv_istore_n hx hb d_M_make_72 rfl hl (by decide) rfl (fun ls hl => ?_)
        exact ih3 (0) σ12 _ _ _ hf hP hD hS (lv_sub hl [1, 0] rfl)
      · intro x3 σ0 H locs ls hf hP hD hS hl
        have hf : B_M_make_3 (R_M_make t) x3 σ0 = some (r, σ') := hf
        unfold B_M_make_3 at hf
        refine lv_iload_n hx hb d_M_make_73 rfl (lv_at hl 1 rfl) ?_
        refine lv_iconst (v := 4) hx hb d_M_make_74 (by decide) ?_
        refine lv_icmp_ge (tgt := 98) hx hb d_M_make_75 rfl (fun c15 => ?_) (fun c15 => ?_)
        · skip
          rw [if_pos c15] at hf
          refine lv_aload_n hx hb d_M_make_98 rfl (lv_at hl 0 rfl) ?_
          refine lv_dup hx hb d_M_make_99 rfl ?_
          refine va_get (D := X) (ci := 9) (C := R_M) (T := T_M) (N := 35) hx hb hts u_0 hown hK hP 0 gm_0 rfl 0 (by decide) k_0 (fun _ h9 => h9) rfl d_M_make_100 ?_
          refine lv_iconst (v := 1) hx hb d_M_make_103 (by decide) ?_
          refine lv_iadd hx hb d_M_make_104 ?_
          obtain ⟨σ16, e17, hf⟩ := gPut_e hf
          refine va_put (D := X) (ci := 9) (ty := .int) (C := R_M) (T := T_M) (N := 35) hx hb hts u_0 t_M t_M_ok n_M hown hK hP hD hS 0 gm_0 rfl 0 (by decide) k_0 (fun _ h9 => h9) rfl (by decide +kernel) rfl rfl (Nat.le_of_ble_eq_true rfl) d_M_make_105 (fun H locs hP hD hS => ?_)
          rw [sm_0_0, ← e17] at hP hD
          refine lv_aload_n hx hb d_M_make_108 rfl (lv_at hl 0 rfl) ?_
          refine va_get (D := X) (ci := 9) (C := R_M) (T := T_M) (N := 35) hx hb hts u_0 hown hK hP 0 gm_0 rfl 0 (by decide) k_0 (fun _ h9 => h9) rfl d_M_make_109 ?_
          refine lv_iconst (v := 1) hx hb d_M_make_112 (by decide) ?_
          refine lv_isub hx hb d_M_make_113 ?_
          obtain ⟨rfl, rfl⟩ := gRt_e hf
          exact g_zret hx hb hr hlocks rfl hAe hS () rfl hP d_M_make_114
        rw [if_neg c15] at hf
        refine lv_aload_n hx hb d_M_make_78 rfl (lv_at hl 0 rfl) ?_
        refine va_get (D := X) (ci := 9) (C := R_M) (T := T_M) (N := 35) hx hb hts u_0 hown hK hP 0 gm_0 rfl 3 (by decide) k_3 (fun _ h9 => h9) rfl d_M_make_79 ?_
        refine lv_iconst (v := 4) hx hb d_M_make_82 (by decide) ?_
        refine lv_aload_n hx hb d_M_make_83 rfl (lv_at hl 0 rfl) ?_
        refine va_get (D := X) (ci := 9) (C := R_M) (T := T_M) (N := 35) hx hb hts u_0 hown hK hP 0 gm_0 rfl 0 (by decide) k_0 (fun _ h9 => h9) rfl d_M_make_84 ?_
        refine lv_imul hx hb d_M_make_87 ?_
        refine lv_iload_n hx hb d_M_make_88 rfl (lv_at hl 1 rfl) ?_
        refine lv_iadd hx hb d_M_make_89 ?_
        refine lv_iconst (v := 0) hx hb d_M_make_90 (by decide) ?_
        obtain ⟨σ18, h19, e20, hf⟩ := gSt_e hf
        refine va_iast hx hb hK hP hD hS 3 0 gm_3 rfl h19 d_M_make_91 (fun H locs hP hD hS => ?_)
        rw [sm_3, ← e20] at hP hD
        refine lv_iinc (k := 1) (v := (x3 + 1)) hx hb d_M_make_92 hl rfl (by rw [show Int32.ofInt (1) = (1 : Int32) by decide]) (by decide) rfl (fun ls hl => ?_)
        refine lv_goto (tgt := 73) hx hb d_M_make_95 rfl ?_
        exact ih3 ((x3 + 1)) σ18 _ _ _ hf hP hD hS (lv_sub hl [1, 0] rfl)
  exact (key gFuel).1 q1 q2 σ _ _ _ hf hP hD hS hl

def f_M_object (σ : gS) (x1 : Int32) : Option (Int32 × gS) := if x1 < 0 then (some (0, σ)) else (if (σ.1 0) ≤ x1 then (some (0, σ)) else (some (1, σ)))
set_option maxHeartbeats 4000000 in
set_option maxRecDepth 100000 in
theorem m_M_object {l : Launch} {X : va_G} {cI cC cZ : ClassId} {b : Nat → Nat} {σ σ' : gS} {r : Int32} {x1 : Int32} (hf : f_M_object σ x1 = some (r, σ')) {sz : Nat} : Met l y_M_object w_M_object { frames := 0, cells := 0, slots := 0, locals := 0 } (gPc X vwCl (gT cI cC cZ) (mW cI cC cZ b σ) sz [.ref (b 0), .int x1]) (gQi X vwCl (mW cI cC cZ b σ) sz (fun r' (_ : Unit) => r' = r) (fun _ => mW cI cC cZ b σ')) 0 0 (va_A (mW cI cC cZ b σ) sz) := by
  refine g_met (cc := b_M_object) (maxL := 2) (ret := (some .boolean)) (by decide) rfl (Nat.le_of_ble_eq_true rfl) ?_
  intro p e s m below meth c A ls hx hb hr hml hown hts hlocks hnm hsz hAe hA hP hK hD hS hl hN
  have hown : s.vm.findClass R_M = some m.cls := hown
  have u_0 : ∀ w ∈ u_ws R_M T_M 35, w ∈ w_M_object := fun w h => List.mem_cons_of_mem _ (tu_M w h)
  have k_0 := hts (.fieldLink R_M 87 "GraphPagesModel" "count" "I") (List.mem_cons_of_mem _ tb_82)
  unfold f_M_object at hf
  refine lv_iload_n hx hb d_M_object_0 rfl (lv_at hl 1 rfl) ?_
  refine lv_if_lt (tgt := 16) hx hb d_M_object_1 rfl (fun c1 => ?_) (fun c1 => ?_)
  · skip
    rw [if_pos c1] at hf
    refine lv_iconst (v := 0) hx hb d_M_object_16 (by decide) ?_
    obtain ⟨rfl, rfl⟩ := gRt_e hf
    exact g_zret hx hb hr hlocks rfl hAe hS () rfl hP d_M_object_17
  rw [if_neg c1] at hf
  refine lv_iload_n hx hb d_M_object_4 rfl (lv_at hl 1 rfl) ?_
  refine lv_aload_n hx hb d_M_object_5 rfl (lv_at hl 0 rfl) ?_
  refine va_get (D := X) (ci := 9) (C := R_M) (T := T_M) (N := 35) hx hb hts u_0 hown hK hP 0 gm_0 rfl 0 (by decide) k_0 (fun _ h9 => h9) rfl d_M_object_6 ?_
  refine lv_icmp_ge (tgt := 16) hx hb d_M_object_9 rfl (fun c2 => ?_) (fun c2 => ?_)
  · skip
    rw [if_pos c2] at hf
    refine lv_iconst (v := 0) hx hb d_M_object_16 (by decide) ?_
    obtain ⟨rfl, rfl⟩ := gRt_e hf
    exact g_zret hx hb hr hlocks rfl hAe hS () rfl hP d_M_object_17
  rw [if_neg c2] at hf
  refine lv_iconst (v := 1) hx hb d_M_object_12 (by decide) ?_
  refine lv_goto (tgt := 17) hx hb d_M_object_13 rfl ?_
  obtain ⟨rfl, rfl⟩ := gRt_e hf
  exact g_zret hx hb hr hlocks rfl hAe hS () rfl hP d_M_object_17

def f_M_type (σ : gS) (x1 : Int32) (x2 : Int32) : Option (Int32 × gS) := gBd (f_M_object σ x1) (fun y1 σ2 => if y1 = 0 then (some (0, σ2)) else (gLd σ2 1 16 x1 (fun y5 => if y5 = 2 then (if x2 < 32 then (some (0, σ2)) else (if 126 < x2 then (some (0, σ2)) else (gLd σ2 2 16 x1 (fun y11 => if y11 = 6 then (some (0, σ2)) else (gLd σ2 2 16 x1 (fun y15 => gSt σ2 5 96 ((6 * x1) + y15) x2 (fun σ18 => gLd σ18 2 16 x1 (fun y21 => gSt σ18 2 16 x1 (y21 + 1) (fun σ24 => some (1, σ24)))))))))) else (some (0, σ2)))))
set_option maxHeartbeats 4000000 in
set_option maxRecDepth 100000 in
theorem m_M_type {l : Launch} {X : va_G} {cI cC cZ : ClassId} {b : Nat → Nat} {σ σ' : gS} {r : Int32} {x1 : Int32} {x2 : Int32} (hf : f_M_type σ x1 x2 = some (r, σ')) {sz : Nat} : Met l y_M_type w_M_type { frames := 1, cells := 0, slots := 0, locals := 21 } (gPc X vwCl (gT cI cC cZ) (mW cI cC cZ b σ) sz [.ref (b 0), .int x1, .int x2]) (gQi X vwCl (mW cI cC cZ b σ) sz (fun r' (_ : Unit) => r' = r) (fun _ => mW cI cC cZ b σ')) 0 0 (va_A (mW cI cC cZ b σ) sz) := by
  refine g_met (cc := b_M_type) (maxL := 3) (ret := (some .boolean)) (by decide) rfl (Nat.le_of_ble_eq_true rfl) ?_
  intro p e s m below meth c A ls hx hb hr hml hown hts hlocks hnm hsz hAe hA hP hK hD hS hl hN
  have hown : s.vm.findClass R_M = some m.cls := hown
  have u_0 : ∀ w ∈ u_ws R_M T_M 35, w ∈ w_M_type := fun w h => List.mem_cons_of_mem _ (tu_M w h)
  have k_0 := hts (.fieldLink R_M 7 "GraphPagesModel" "sort" "[I") (List.mem_cons_of_mem _ tb_83)
  have k_1 := hts (.fieldLink R_M 13 "GraphPagesModel" "room" "[I") (List.mem_cons_of_mem _ tb_84)
  have k_2 := hts (.fieldLink R_M 22 "GraphPagesModel" "letters" "[I") (List.mem_cons_of_mem _ tb_90)
  unfold f_M_type at hf
  refine lv_aload_n hx hb d_M_type_0 rfl (lv_at hl 0 rfl) ?_
  refine lv_iload_n hx hb d_M_type_1 rfl (lv_at hl 1 rfl) ?_
  obtain ⟨y1, σ2, e3, hf⟩ := gBd_e hf
  refine g_wi (va_runV ⟨hx, hb, hml, hown, hts⟩ (m_M_object e3) (cwV 1 hts (gG4 (fun _ h => List.mem_cons_of_mem _ h) tb_86 tb_87 tb_88 tb_89 tc_M_object) rfl rfl rfl (by decide +kernel) ⟨Nat.le_of_ble_eq_true rfl, Nat.le_of_ble_eq_true rfl⟩) (g_preVW (q0 := 0) hN hK hP hD gm_0 rfl) rfl rfl hl.1 rfl (lv_room (Nat.le_of_ble_eq_true rfl)) d_M_type_2 ⟨Nat.zero_le _, Nat.zero_le _⟩) hD hS hA (fun _ => mW_fst) (fun y1 _ H locs hu hP hD hS => ?_)
  subst hu
  refine lv_if_eq (tgt := 41) hx hb d_M_type_5 rfl (fun c4 => ?_) (fun c4 => ?_)
  · skip
    rw [if_pos c4] at hf
    refine lv_iconst (v := 0) hx hb d_M_type_41 (by decide) ?_
    obtain ⟨rfl, rfl⟩ := gRt_e hf
    exact g_zret hx hb hr hlocks rfl hAe hS () rfl hP d_M_type_42
  rw [if_neg c4] at hf
  refine lv_aload_n hx hb d_M_type_8 rfl (lv_at hl 0 rfl) ?_
  refine va_get (D := X) (ci := 9) (C := R_M) (T := T_M) (N := 35) hx hb hts u_0 hown hK hP 0 gm_0 rfl 1 (by decide) k_0 (fun _ h9 => h9) rfl d_M_type_9 ?_
  refine lv_iload_n hx hb d_M_type_12 rfl (lv_at hl 1 rfl) ?_
  obtain ⟨y5, h6, e7, hf⟩ := gLd_e hf
  refine va_iald hx hb hK hP 1 0 gm_1 rfl h6 d_M_type_13 ?_
  rw [← e7]
  refine lv_iconst (v := 2) hx hb d_M_type_14 (by decide) ?_
  refine lv_icmp_ne (tgt := 41) hx hb d_M_type_15 rfl (fun c8 => ?_) (fun c8 => ?_)
  · skip
    rw [if_neg c8] at hf
    refine lv_iconst (v := 0) hx hb d_M_type_41 (by decide) ?_
    obtain ⟨rfl, rfl⟩ := gRt_e hf
    exact g_zret hx hb hr hlocks rfl hAe hS () rfl hP d_M_type_42
  rw [if_pos c8] at hf
  refine lv_iload_n hx hb d_M_type_18 rfl (lv_at hl 2 rfl) ?_
  refine lv_bipush (v := 32) hx hb d_M_type_19 (by decide) ?_
  refine lv_icmp_lt (tgt := 41) hx hb d_M_type_21 rfl (fun c9 => ?_) (fun c9 => ?_)
  · skip
    rw [if_pos c9] at hf
    refine lv_iconst (v := 0) hx hb d_M_type_41 (by decide) ?_
    obtain ⟨rfl, rfl⟩ := gRt_e hf
    exact g_zret hx hb hr hlocks rfl hAe hS () rfl hP d_M_type_42
  rw [if_neg c9] at hf
  refine lv_iload_n hx hb d_M_type_24 rfl (lv_at hl 2 rfl) ?_
  refine lv_bipush (v := 126) hx hb d_M_type_25 (by decide) ?_
  refine lv_icmp_gt (tgt := 41) hx hb d_M_type_27 rfl (fun c10 => ?_) (fun c10 => ?_)
  · skip
    rw [if_pos c10] at hf
    refine lv_iconst (v := 0) hx hb d_M_type_41 (by decide) ?_
    obtain ⟨rfl, rfl⟩ := gRt_e hf
    exact g_zret hx hb hr hlocks rfl hAe hS () rfl hP d_M_type_42
  rw [if_neg c10] at hf
  refine lv_aload_n hx hb d_M_type_30 rfl (lv_at hl 0 rfl) ?_
  refine va_get (D := X) (ci := 9) (C := R_M) (T := T_M) (N := 35) hx hb hts u_0 hown hK hP 0 gm_0 rfl 2 (by decide) k_1 (fun _ h9 => h9) rfl d_M_type_31 ?_
  refine lv_iload_n hx hb d_M_type_34 rfl (lv_at hl 1 rfl) ?_
  obtain ⟨y11, h12, e13, hf⟩ := gLd_e hf
  refine va_iald hx hb hK hP 2 0 gm_2 rfl h12 d_M_type_35 ?_
  rw [← e13]
  refine lv_bipush (v := 6) hx hb d_M_type_36 (by decide) ?_
  refine lv_icmp_ne (tgt := 43) hx hb d_M_type_38 rfl (fun c14 => ?_) (fun c14 => ?_)
  · skip
    rw [if_neg c14] at hf
    refine lv_aload_n hx hb d_M_type_43 rfl (lv_at hl 0 rfl) ?_
    refine va_get (D := X) (ci := 9) (C := R_M) (T := T_M) (N := 35) hx hb hts u_0 hown hK hP 0 gm_0 rfl 5 (by decide) k_2 (fun _ h9 => h9) rfl d_M_type_44 ?_
    refine lv_bipush (v := 6) hx hb d_M_type_47 (by decide) ?_
    refine lv_iload_n hx hb d_M_type_49 rfl (lv_at hl 1 rfl) ?_
    refine lv_imul hx hb d_M_type_50 ?_
    refine lv_aload_n hx hb d_M_type_51 rfl (lv_at hl 0 rfl) ?_
    refine va_get (D := X) (ci := 9) (C := R_M) (T := T_M) (N := 35) hx hb hts u_0 hown hK hP 0 gm_0 rfl 2 (by decide) k_1 (fun _ h9 => h9) rfl d_M_type_52 ?_
    refine lv_iload_n hx hb d_M_type_55 rfl (lv_at hl 1 rfl) ?_
    obtain ⟨y15, h16, e17, hf⟩ := gLd_e hf
    refine va_iald hx hb hK hP 2 0 gm_2 rfl h16 d_M_type_56 ?_
    rw [← e17]
    refine lv_iadd hx hb d_M_type_57 ?_
    refine lv_iload_n hx hb d_M_type_58 rfl (lv_at hl 2 rfl) ?_
    obtain ⟨σ18, h19, e20, hf⟩ := gSt_e hf
    refine va_iast hx hb hK hP hD hS 5 0 gm_5 rfl h19 d_M_type_59 (fun H locs hP hD hS => ?_)
    rw [sm_5, ← e20] at hP hD
    refine lv_aload_n hx hb d_M_type_60 rfl (lv_at hl 0 rfl) ?_
    refine va_get (D := X) (ci := 9) (C := R_M) (T := T_M) (N := 35) hx hb hts u_0 hown hK hP 0 gm_0 rfl 2 (by decide) k_1 (fun _ h9 => h9) rfl d_M_type_61 ?_
    refine lv_iload_n hx hb d_M_type_64 rfl (lv_at hl 1 rfl) ?_
    refine lv_dup2_11 hx hb d_M_type_65 rfl rfl ?_
    obtain ⟨y21, h22, e23, hf⟩ := gLd_e hf
    refine va_iald hx hb hK hP 2 0 gm_2 rfl h22 d_M_type_66 ?_
    rw [← e23]
    refine lv_iconst (v := 1) hx hb d_M_type_67 (by decide) ?_
    refine lv_iadd hx hb d_M_type_68 ?_
    obtain ⟨σ24, h25, e26, hf⟩ := gSt_e hf
    refine va_iast hx hb hK hP hD hS 2 0 gm_2 rfl h25 d_M_type_69 (fun H locs hP hD hS => ?_)
    rw [sm_2, ← e26] at hP hD
    refine lv_iconst (v := 1) hx hb d_M_type_70 (by decide) ?_
    obtain ⟨rfl, rfl⟩ := gRt_e hf
    exact g_zret hx hb hr hlocks rfl hAe hS () rfl hP d_M_type_71
  rw [if_pos c14] at hf
  refine lv_iconst (v := 0) hx hb d_M_type_41 (by decide) ?_
  obtain ⟨rfl, rfl⟩ := gRt_e hf
  exact g_zret hx hb hr hlocks rfl hAe hS () rfl hP d_M_type_42

def f_M_slotThere (σ : gS) (x1 : Int32) (x2 : Int32) : Option (Int32 × gS) := gBd (f_M_object σ x1) (fun y1 σ2 => if y1 = 0 then (some (0, σ2)) else (gLd σ2 1 16 x1 (fun y5 => if y5 = 2 then (some (0, σ2)) else (if x2 < 0 then (some (0, σ2)) else (gLd σ2 2 16 x1 (fun y10 => if y10 ≤ x2 then (some (0, σ2)) else (some (1, σ2))))))))
set_option maxHeartbeats 4000000 in
set_option maxRecDepth 100000 in
theorem m_M_slotThere {l : Launch} {X : va_G} {cI cC cZ : ClassId} {b : Nat → Nat} {σ σ' : gS} {r : Int32} {x1 : Int32} {x2 : Int32} (hf : f_M_slotThere σ x1 x2 = some (r, σ')) {sz : Nat} : Met l y_M_slotThere w_M_slotThere { frames := 1, cells := 0, slots := 0, locals := 21 } (gPc X vwCl (gT cI cC cZ) (mW cI cC cZ b σ) sz [.ref (b 0), .int x1, .int x2]) (gQi X vwCl (mW cI cC cZ b σ) sz (fun r' (_ : Unit) => r' = r) (fun _ => mW cI cC cZ b σ')) 0 0 (va_A (mW cI cC cZ b σ) sz) := by
  refine g_met (cc := b_M_slotThere) (maxL := 3) (ret := (some .boolean)) (by decide) rfl (Nat.le_of_ble_eq_true rfl) ?_
  intro p e s m below meth c A ls hx hb hr hml hown hts hlocks hnm hsz hAe hA hP hK hD hS hl hN
  have hown : s.vm.findClass R_M = some m.cls := hown
  have u_0 : ∀ w ∈ u_ws R_M T_M 35, w ∈ w_M_slotThere := fun w h => List.mem_cons_of_mem _ (tu_M w h)
  have k_0 := hts (.fieldLink R_M 7 "GraphPagesModel" "sort" "[I") (List.mem_cons_of_mem _ tb_83)
  have k_1 := hts (.fieldLink R_M 13 "GraphPagesModel" "room" "[I") (List.mem_cons_of_mem _ tb_84)
  unfold f_M_slotThere at hf
  refine lv_aload_n hx hb d_M_slotThere_0 rfl (lv_at hl 0 rfl) ?_
  refine lv_iload_n hx hb d_M_slotThere_1 rfl (lv_at hl 1 rfl) ?_
  obtain ⟨y1, σ2, e3, hf⟩ := gBd_e hf
  refine g_wi (va_runV ⟨hx, hb, hml, hown, hts⟩ (m_M_object e3) (cwV 1 hts (gG4 (fun _ h => List.mem_cons_of_mem _ h) tb_86 tb_87 tb_88 tb_89 tc_M_object) rfl rfl rfl (by decide +kernel) ⟨Nat.le_of_ble_eq_true rfl, Nat.le_of_ble_eq_true rfl⟩) (g_preVW (q0 := 0) hN hK hP hD gm_0 rfl) rfl rfl hl.1 rfl (lv_room (Nat.le_of_ble_eq_true rfl)) d_M_slotThere_2 ⟨Nat.zero_le _, Nat.zero_le _⟩) hD hS hA (fun _ => mW_fst) (fun y1 _ H locs hu hP hD hS => ?_)
  subst hu
  refine lv_if_eq (tgt := 36) hx hb d_M_slotThere_5 rfl (fun c4 => ?_) (fun c4 => ?_)
  · skip
    rw [if_pos c4] at hf
    refine lv_iconst (v := 0) hx hb d_M_slotThere_36 (by decide) ?_
    obtain ⟨rfl, rfl⟩ := gRt_e hf
    exact g_zret hx hb hr hlocks rfl hAe hS () rfl hP d_M_slotThere_37
  rw [if_neg c4] at hf
  refine lv_aload_n hx hb d_M_slotThere_8 rfl (lv_at hl 0 rfl) ?_
  refine va_get (D := X) (ci := 9) (C := R_M) (T := T_M) (N := 35) hx hb hts u_0 hown hK hP 0 gm_0 rfl 1 (by decide) k_0 (fun _ h9 => h9) rfl d_M_slotThere_9 ?_
  refine lv_iload_n hx hb d_M_slotThere_12 rfl (lv_at hl 1 rfl) ?_
  obtain ⟨y5, h6, e7, hf⟩ := gLd_e hf
  refine va_iald hx hb hK hP 1 0 gm_1 rfl h6 d_M_slotThere_13 ?_
  rw [← e7]
  refine lv_iconst (v := 2) hx hb d_M_slotThere_14 (by decide) ?_
  refine lv_icmp_eq (tgt := 36) hx hb d_M_slotThere_15 rfl (fun c8 => ?_) (fun c8 => ?_)
  · skip
    rw [if_pos c8] at hf
    refine lv_iconst (v := 0) hx hb d_M_slotThere_36 (by decide) ?_
    obtain ⟨rfl, rfl⟩ := gRt_e hf
    exact g_zret hx hb hr hlocks rfl hAe hS () rfl hP d_M_slotThere_37
  rw [if_neg c8] at hf
  refine lv_iload_n hx hb d_M_slotThere_18 rfl (lv_at hl 2 rfl) ?_
  refine lv_if_lt (tgt := 36) hx hb d_M_slotThere_19 rfl (fun c9 => ?_) (fun c9 => ?_)
  · skip
    rw [if_pos c9] at hf
    refine lv_iconst (v := 0) hx hb d_M_slotThere_36 (by decide) ?_
    obtain ⟨rfl, rfl⟩ := gRt_e hf
    exact g_zret hx hb hr hlocks rfl hAe hS () rfl hP d_M_slotThere_37
  rw [if_neg c9] at hf
  refine lv_iload_n hx hb d_M_slotThere_22 rfl (lv_at hl 2 rfl) ?_
  refine lv_aload_n hx hb d_M_slotThere_23 rfl (lv_at hl 0 rfl) ?_
  refine va_get (D := X) (ci := 9) (C := R_M) (T := T_M) (N := 35) hx hb hts u_0 hown hK hP 0 gm_0 rfl 2 (by decide) k_1 (fun _ h9 => h9) rfl d_M_slotThere_24 ?_
  refine lv_iload_n hx hb d_M_slotThere_27 rfl (lv_at hl 1 rfl) ?_
  obtain ⟨y10, h11, e12, hf⟩ := gLd_e hf
  refine va_iald hx hb hK hP 2 0 gm_2 rfl h11 d_M_slotThere_28 ?_
  rw [← e12]
  refine lv_icmp_ge (tgt := 36) hx hb d_M_slotThere_29 rfl (fun c13 => ?_) (fun c13 => ?_)
  · skip
    rw [if_pos c13] at hf
    refine lv_iconst (v := 0) hx hb d_M_slotThere_36 (by decide) ?_
    obtain ⟨rfl, rfl⟩ := gRt_e hf
    exact g_zret hx hb hr hlocks rfl hAe hS () rfl hP d_M_slotThere_37
  rw [if_neg c13] at hf
  refine lv_iconst (v := 1) hx hb d_M_slotThere_32 (by decide) ?_
  refine lv_goto (tgt := 37) hx hb d_M_slotThere_33 rfl ?_
  obtain ⟨rfl, rfl⟩ := gRt_e hf
  exact g_zret hx hb hr hlocks rfl hAe hS () rfl hP d_M_slotThere_37

def f_M_put (σ : gS) (x1 : Int32) (x2 : Int32) (x3 : Int32) : Option (Int32 × gS) := gBd (f_M_slotThere σ x1 x2) (fun y1 σ2 => if y1 = 0 then (some (0, σ2)) else (gSt σ2 3 64 ((4 * x1) + x2) 1 (fun σ5 => gSt σ5 4 64 ((4 * x1) + x2) x3 (fun σ8 => some (1, σ8)))))
set_option maxHeartbeats 4000000 in
set_option maxRecDepth 100000 in
theorem m_M_put {l : Launch} {X : va_G} {cI cC cZ : ClassId} {b : Nat → Nat} {σ σ' : gS} {r : Int32} {x1 : Int32} {x2 : Int32} {x3 : Int32} (hf : f_M_put σ x1 x2 x3 = some (r, σ')) {sz : Nat} : Met l y_M_put w_M_put { frames := 2, cells := 0, slots := 0, locals := 43 } (gPc X vwCl (gT cI cC cZ) (mW cI cC cZ b σ) sz [.ref (b 0), .int x1, .int x2, .int x3]) (gQi X vwCl (mW cI cC cZ b σ) sz (fun r' (_ : Unit) => r' = r) (fun _ => mW cI cC cZ b σ')) 0 0 (va_A (mW cI cC cZ b σ) sz) := by
  refine g_met (cc := b_M_put) (maxL := 4) (ret := (some .boolean)) (by decide) rfl (Nat.le_of_ble_eq_true rfl) ?_
  intro p e s m below meth c A ls hx hb hr hml hown hts hlocks hnm hsz hAe hA hP hK hD hS hl hN
  have hown : s.vm.findClass R_M = some m.cls := hown
  have u_0 : ∀ w ∈ u_ws R_M T_M 35, w ∈ w_M_put := fun w h => List.mem_cons_of_mem _ (tu_M w h)
  have k_0 := hts (.fieldLink R_M 16 "GraphPagesModel" "what" "[I") (List.mem_cons_of_mem _ tb_85)
  have k_1 := hts (.fieldLink R_M 19 "GraphPagesModel" "cell" "[I") (List.mem_cons_of_mem _ tb_94)
  unfold f_M_put at hf
  refine lv_aload_n hx hb d_M_put_0 rfl (lv_at hl 0 rfl) ?_
  refine lv_iload_n hx hb d_M_put_1 rfl (lv_at hl 1 rfl) ?_
  refine lv_iload_n hx hb d_M_put_2 rfl (lv_at hl 2 rfl) ?_
  obtain ⟨y1, σ2, e3, hf⟩ := gBd_e hf
  refine g_wi (va_runV ⟨hx, hb, hml, hown, hts⟩ (m_M_slotThere e3) (cwV 2 hts (gG4 (fun _ h => List.mem_cons_of_mem _ h) tb_91 tb_92 tb_93 tb_89 tc_M_slotThere) rfl rfl rfl (by decide +kernel) ⟨Nat.le_of_ble_eq_true rfl, Nat.le_of_ble_eq_true rfl⟩) (g_preVW (q0 := 0) hN hK hP hD gm_0 rfl) rfl rfl hl.1 rfl (lv_room (Nat.le_of_ble_eq_true rfl)) d_M_put_3 ⟨Nat.zero_le _, Nat.zero_le _⟩) hD hS hA (fun _ => mW_fst) (fun y1 _ H locs hu hP hD hS => ?_)
  subst hu
  refine lv_if_ne (tgt := 11) hx hb d_M_put_6 rfl (fun c4 => ?_) (fun c4 => ?_)
  · skip
    rw [if_neg c4] at hf
    refine lv_aload_n hx hb d_M_put_11 rfl (lv_at hl 0 rfl) ?_
    refine va_get (D := X) (ci := 9) (C := R_M) (T := T_M) (N := 35) hx hb hts u_0 hown hK hP 0 gm_0 rfl 3 (by decide) k_0 (fun _ h9 => h9) rfl d_M_put_12 ?_
    refine lv_iconst (v := 4) hx hb d_M_put_15 (by decide) ?_
    refine lv_iload_n hx hb d_M_put_16 rfl (lv_at hl 1 rfl) ?_
    refine lv_imul hx hb d_M_put_17 ?_
    refine lv_iload_n hx hb d_M_put_18 rfl (lv_at hl 2 rfl) ?_
    refine lv_iadd hx hb d_M_put_19 ?_
    refine lv_iconst (v := 1) hx hb d_M_put_20 (by decide) ?_
    obtain ⟨σ5, h6, e7, hf⟩ := gSt_e hf
    refine va_iast hx hb hK hP hD hS 3 0 gm_3 rfl h6 d_M_put_21 (fun H locs hP hD hS => ?_)
    rw [sm_3, ← e7] at hP hD
    refine lv_aload_n hx hb d_M_put_22 rfl (lv_at hl 0 rfl) ?_
    refine va_get (D := X) (ci := 9) (C := R_M) (T := T_M) (N := 35) hx hb hts u_0 hown hK hP 0 gm_0 rfl 4 (by decide) k_1 (fun _ h9 => h9) rfl d_M_put_23 ?_
    refine lv_iconst (v := 4) hx hb d_M_put_26 (by decide) ?_
    refine lv_iload_n hx hb d_M_put_27 rfl (lv_at hl 1 rfl) ?_
    refine lv_imul hx hb d_M_put_28 ?_
    refine lv_iload_n hx hb d_M_put_29 rfl (lv_at hl 2 rfl) ?_
    refine lv_iadd hx hb d_M_put_30 ?_
    refine lv_iload_n hx hb d_M_put_31 rfl (lv_at hl 3 rfl) ?_
    obtain ⟨σ8, h9, e10, hf⟩ := gSt_e hf
    refine va_iast hx hb hK hP hD hS 4 0 gm_4 rfl h9 d_M_put_32 (fun H locs hP hD hS => ?_)
    rw [sm_4, ← e10] at hP hD
    refine lv_iconst (v := 1) hx hb d_M_put_33 (by decide) ?_
    obtain ⟨rfl, rfl⟩ := gRt_e hf
    exact g_zret hx hb hr hlocks rfl hAe hS () rfl hP d_M_put_34
  rw [if_pos c4] at hf
  refine lv_iconst (v := 0) hx hb d_M_put_9 (by decide) ?_
  obtain ⟨rfl, rfl⟩ := gRt_e hf
  exact g_zret hx hb hr hlocks rfl hAe hS () rfl hP d_M_put_10

def B_M_link_0 (rec : Nat → List Int32 → gS → Option (Int32 × gS)) (x1 : Int32) (x2 : Int32) (x3 : Int32) (σ0 : gS) : Option (Int32 × gS) := gBd (f_M_slotThere σ0 x1 x2) (fun y1 σ2 => if y1 = 0 then (some (0, σ2)) else (if x3 = (-1) then (rec 1 [x1, x2, x3] σ2) else (gBd (f_M_object σ2 x3) (fun y6 σ7 => if y6 = 0 then (some (0, σ7)) else (rec 1 [x1, x2, x3] σ7)))))
def B_M_link_1 (rec : Nat → List Int32 → gS → Option (Int32 × gS)) (x1 : Int32) (x2 : Int32) (x3 : Int32) (σ0 : gS) : Option (Int32 × gS) := if x3 = (-1) then (rec 2 [x1, x2, x3, ((4 * x1) + x2), 0] σ0) else (rec 2 [x1, x2, x3, ((4 * x1) + x2), 2] σ0)
def B_M_link_2 (rec : Nat → List Int32 → gS → Option (Int32 × gS)) (x1 : Int32) (x2 : Int32) (x3 : Int32) (z1 : Int32) (z2 : Int32) (σ0 : gS) : Option (Int32 × gS) := gSt σ0 3 64 z1 z2 (fun σ11 => gSt σ11 4 64 ((4 * x1) + x2) x3 (fun σ14 => some (1, σ14)))
def S_M_link (rec : Nat → List Int32 → gS → Option (Int32 × gS)) (k : Nat) (l : List Int32) (σ0 : gS) : Option (Int32 × gS) := match k, l with
  | 0, [x1, x2, x3] => B_M_link_0 rec x1 x2 x3 σ0
  | 1, [x1, x2, x3] => B_M_link_1 rec x1 x2 x3 σ0
  | 2, [x1, x2, x3, z1, z2] => B_M_link_2 rec x1 x2 x3 z1 z2 σ0
  | _, _ => none
def R_M_link : Nat → Nat → List Int32 → gS → Option (Int32 × gS)
  | 0 => fun _ _ _ => none
  | t + 1 => fun k l σ0 => S_M_link (R_M_link t) k l σ0
def f_M_link (σ : gS) (x1 : Int32) (x2 : Int32) (x3 : Int32) : Option (Int32 × gS) := R_M_link gFuel 0 [x1, x2, x3] σ
set_option maxHeartbeats 4000000 in
set_option maxRecDepth 100000 in
theorem m_M_link {l : Launch} {X : va_G} {cI cC cZ : ClassId} {b : Nat → Nat} {σ σ' : gS} {r : Int32} {q1 : Int32} {q2 : Int32} {q3 : Int32} (hf : f_M_link σ q1 q2 q3 = some (r, σ')) {sz : Nat} : Met l y_M_link w_M_link { frames := 2, cells := 0, slots := 0, locals := 43 } (gPc X vwCl (gT cI cC cZ) (mW cI cC cZ b σ) sz [.ref (b 0), .int q1, .int q2, .int q3]) (gQi X vwCl (mW cI cC cZ b σ) sz (fun r' (_ : Unit) => r' = r) (fun _ => mW cI cC cZ b σ')) 0 0 (va_A (mW cI cC cZ b σ) sz) := by
  refine g_met (cc := b_M_link) (maxL := 4) (ret := (some .boolean)) (by decide) rfl (Nat.le_of_ble_eq_true rfl) ?_
  intro p e s m below meth c A ls hx hb hr hml hown hts hlocks hnm hsz hAe hA hP hK hD hS hl hN
  have hown : s.vm.findClass R_M = some m.cls := hown
  have u_0 : ∀ w ∈ u_ws R_M T_M 35, w ∈ w_M_link := fun w h => List.mem_cons_of_mem _ (tu_M w h)
  have k_0 := hts (.fieldLink R_M 16 "GraphPagesModel" "what" "[I") (List.mem_cons_of_mem _ tb_85)
  have k_1 := hts (.fieldLink R_M 19 "GraphPagesModel" "cell" "[I") (List.mem_cons_of_mem _ tb_94)
  unfold f_M_link at hf
  have key : ∀ t : Nat, (∀ (x1 : Int32) (x2 : Int32) (x3 : Int32) (σ0 : gS) (H : Heap) (locs : List Loc) (ls : Array Slot), R_M_link t 0 [x1, x2, x3] σ0 = some (r, σ') → va_P X vwCl (mW cI cC cZ b σ0) H → va_D A (mW cI cC cZ b σ0) → va_S A s.heap H locs → lv_has ls 4 [(0, .ref (b 0)), (1, .int x1), (2, .int x2), (3, .int x3)] → W p l e (headSpec w_M_link { frames := 2, cells := 0, slots := 0, locals := 43 }).room s m [.ref (b 0), .int q1, .int q2, .int q3].toArray below meth c H locs 0 0 (MQ below (gQi X vwCl (mW cI cC cZ b σ) sz (fun r' (_ : Unit) => r' = r) (fun _ => mW cI cC cZ b σ')) [.ref (b 0), .int q1, .int q2, .int q3].toArray s 0 0 (va_A (mW cI cC cZ b σ) sz)) (F0 m 0 ls [])) ∧ (∀ (x1 : Int32) (x2 : Int32) (x3 : Int32) (σ0 : gS) (H : Heap) (locs : List Loc) (ls : Array Slot), R_M_link t 1 [x1, x2, x3] σ0 = some (r, σ') → va_P X vwCl (mW cI cC cZ b σ0) H → va_D A (mW cI cC cZ b σ0) → va_S A s.heap H locs → lv_has ls 4 [(0, .ref (b 0)), (1, .int x1), (2, .int x2), (3, .int x3)] → W p l e (headSpec w_M_link { frames := 2, cells := 0, slots := 0, locals := 43 }).room s m [.ref (b 0), .int q1, .int q2, .int q3].toArray below meth c H locs 0 0 (MQ below (gQi X vwCl (mW cI cC cZ b σ) sz (fun r' (_ : Unit) => r' = r) (fun _ => mW cI cC cZ b σ')) [.ref (b 0), .int q1, .int q2, .int q3].toArray s 0 0 (va_A (mW cI cC cZ b σ) sz)) (F0 m 24 ls [])) ∧ (∀ (x1 : Int32) (x2 : Int32) (x3 : Int32) (z1 : Int32) (z2 : Int32) (σ0 : gS) (H : Heap) (locs : List Loc) (ls : Array Slot), R_M_link t 2 [x1, x2, x3, z1, z2] σ0 = some (r, σ') → va_P X vwCl (mW cI cC cZ b σ0) H → va_D A (mW cI cC cZ b σ0) → va_S A s.heap H locs → lv_has ls 4 [(0, .ref (b 0)), (1, .int x1), (2, .int x2), (3, .int x3)] → W p l e (headSpec w_M_link { frames := 2, cells := 0, slots := 0, locals := 43 }).room s m [.ref (b 0), .int q1, .int q2, .int q3].toArray below meth c H locs 0 0 (MQ below (gQi X vwCl (mW cI cC cZ b σ) sz (fun r' (_ : Unit) => r' = r) (fun _ => mW cI cC cZ b σ')) [.ref (b 0), .int q1, .int q2, .int q3].toArray s 0 0 (va_A (mW cI cC cZ b σ) sz)) (F0 m 43 ls [.int z2, .int z1, .ref (b 3)])) := by
    intro t
    induction t with
    | zero => exact ⟨fun _ _ _ _ _ _ _ hf => (by have hf : (none : Option (Int32 × gS)) = some (r, σ') := hf; cases hf), fun _ _ _ _ _ _ _ hf => (by have hf : (none : Option (Int32 × gS)) = some (r, σ') := hf; cases hf), fun _ _ _ _ _ _ _ _ _ hf => (by have hf : (none : Option (Int32 × gS)) = some (r, σ') := hf; cases hf)⟩
    | succ t ih =>
      obtain ⟨ih0, ih1, ih2⟩ := ih
      refine ⟨?_, ?_, ?_⟩
      · intro x1 x2 x3 σ0 H locs ls hf hP hD hS hl
        have hf : B_M_link_0 (R_M_link t) x1 x2 x3 σ0 = some (r, σ') := hf
        unfold B_M_link_0 at hf
        refine lv_aload_n hx hb d_M_link_0 rfl (lv_at hl 0 rfl) ?_
        refine lv_iload_n hx hb d_M_link_1 rfl (lv_at hl 1 rfl) ?_
        refine lv_iload_n hx hb d_M_link_2 rfl (lv_at hl 2 rfl) ?_
        obtain ⟨y1, σ2, e3, hf⟩ := gBd_e hf
        refine g_wi (va_runV ⟨hx, hb, hml, hown, hts⟩ (m_M_slotThere e3) (cwV 2 hts (gG4 (fun _ h => List.mem_cons_of_mem _ h) tb_91 tb_92 tb_93 tb_89 tc_M_slotThere) rfl rfl rfl (by decide +kernel) ⟨Nat.le_of_ble_eq_true rfl, Nat.le_of_ble_eq_true rfl⟩) (g_preVW (q0 := 0) hN hK hP hD gm_0 rfl) rfl rfl hl.1 rfl (lv_room (Nat.le_of_ble_eq_true rfl)) d_M_link_3 ⟨Nat.zero_le _, Nat.zero_le _⟩) hD hS hA (fun _ => mW_fst) (fun y1 _ H locs hu hP hD hS => ?_)
        subst hu
        refine lv_if_eq (tgt := 22) hx hb d_M_link_6 rfl (fun c4 => ?_) (fun c4 => ?_)
        · skip
          rw [if_pos c4] at hf
          refine lv_iconst (v := 0) hx hb d_M_link_22 (by decide) ?_
          obtain ⟨rfl, rfl⟩ := gRt_e hf
          exact g_zret hx hb hr hlocks rfl hAe hS () rfl hP d_M_link_23
        rw [if_neg c4] at hf
        refine lv_iload_n hx hb d_M_link_9 rfl (lv_at hl 3 rfl) ?_
        refine lv_iconst (v := (-1)) hx hb d_M_link_10 (by decide) ?_
        refine lv_icmp_eq (tgt := 24) hx hb d_M_link_11 rfl (fun c5 => ?_) (fun c5 => ?_)
        · skip
          rw [if_pos c5] at hf
          exact ih1 (x1) (x2) (x3) σ2 _ _ _ hf hP hD hS (lv_sub hl [0, 1, 2, 3] rfl)
        rw [if_neg c5] at hf
        refine lv_aload_n hx hb d_M_link_14 rfl (lv_at hl 0 rfl) ?_
        refine lv_iload_n hx hb d_M_link_15 rfl (lv_at hl 3 rfl) ?_
        obtain ⟨y6, σ7, e8, hf⟩ := gBd_e hf
        refine g_wi (va_runV ⟨hx, hb, hml, hown, hts⟩ (m_M_object e8) (cwV 1 hts (gG4 (fun _ h => List.mem_cons_of_mem _ h) tb_86 tb_87 tb_88 tb_89 tc_M_object) rfl rfl rfl (by decide +kernel) ⟨Nat.le_of_ble_eq_true rfl, Nat.le_of_ble_eq_true rfl⟩) (g_preVW (q0 := 0) hN hK hP hD gm_0 rfl) rfl rfl hl.1 rfl (lv_room (Nat.le_of_ble_eq_true rfl)) d_M_link_16 ⟨Nat.zero_le _, Nat.zero_le _⟩) hD hS hA (fun _ => mW_fst) (fun y6 _ H locs hu hP hD hS => ?_)
        subst hu
        refine lv_if_ne (tgt := 24) hx hb d_M_link_19 rfl (fun c9 => ?_) (fun c9 => ?_)
        · skip
          rw [if_neg c9] at hf
          exact ih1 (x1) (x2) (x3) σ7 _ _ _ hf hP hD hS (lv_sub hl [0, 1, 2, 3] rfl)
        rw [if_pos c9] at hf
        refine lv_iconst (v := 0) hx hb d_M_link_22 (by decide) ?_
        obtain ⟨rfl, rfl⟩ := gRt_e hf
        exact g_zret hx hb hr hlocks rfl hAe hS () rfl hP d_M_link_23
      · intro x1 x2 x3 σ0 H locs ls hf hP hD hS hl
        have hf : B_M_link_1 (R_M_link t) x1 x2 x3 σ0 = some (r, σ') := hf
        unfold B_M_link_1 at hf
        refine lv_aload_n hx hb d_M_link_24 rfl (lv_at hl 0 rfl) ?_
        refine va_get (D := X) (ci := 9) (C := R_M) (T := T_M) (N := 35) hx hb hts u_0 hown hK hP 0 gm_0 rfl 3 (by decide) k_0 (fun _ h9 => h9) rfl d_M_link_25 ?_
        refine lv_iconst (v := 4) hx hb d_M_link_28 (by decide) ?_
        refine lv_iload_n hx hb d_M_link_29 rfl (lv_at hl 1 rfl) ?_
        refine lv_imul hx hb d_M_link_30 ?_
        refine lv_iload_n hx hb d_M_link_31 rfl (lv_at hl 2 rfl) ?_
        refine lv_iadd hx hb d_M_link_32 ?_
        refine lv_iload_n hx hb d_M_link_33 rfl (lv_at hl 3 rfl) ?_
        refine lv_iconst (v := (-1)) hx hb d_M_link_34 (by decide) ?_
        refine lv_icmp_ne (tgt := 42) hx hb d_M_link_35 rfl (fun c10 => ?_) (fun c10 => ?_)
        · skip
          rw [if_neg c10] at hf
          refine lv_iconst (v := 2) hx hb d_M_link_42 (by decide) ?_
          exact ih2 (x1) (x2) (x3) (((4 * x1) + x2)) (2) σ0 _ _ _ hf hP hD hS (lv_sub hl [0, 1, 2, 3] rfl)
        rw [if_pos c10] at hf
        refine lv_iconst (v := 0) hx hb d_M_link_38 (by decide) ?_
        refine lv_goto (tgt := 43) hx hb d_M_link_39 rfl ?_
        exact ih2 (x1) (x2) (x3) (((4 * x1) + x2)) (0) σ0 _ _ _ hf hP hD hS (lv_sub hl [0, 1, 2, 3] rfl)
      · intro x1 x2 x3 z1 z2 σ0 H locs ls hf hP hD hS hl
        have hf : B_M_link_2 (R_M_link t) x1 x2 x3 z1 z2 σ0 = some (r, σ') := hf
        unfold B_M_link_2 at hf
        obtain ⟨σ11, h12, e13, hf⟩ := gSt_e hf
        refine va_iast hx hb hK hP hD hS 3 0 gm_3 rfl h12 d_M_link_43 (fun H locs hP hD hS => ?_)
        rw [sm_3, ← e13] at hP hD
        refine lv_aload_n hx hb d_M_link_44 rfl (lv_at hl 0 rfl) ?_
        refine va_get (D := X) (ci := 9) (C := R_M) (T := T_M) (N := 35) hx hb hts u_0 hown hK hP 0 gm_0 rfl 4 (by decide) k_1 (fun _ h9 => h9) rfl d_M_link_45 ?_
        refine lv_iconst (v := 4) hx hb d_M_link_48 (by decide) ?_
        refine lv_iload_n hx hb d_M_link_49 rfl (lv_at hl 1 rfl) ?_
        refine lv_imul hx hb d_M_link_50 ?_
        refine lv_iload_n hx hb d_M_link_51 rfl (lv_at hl 2 rfl) ?_
        refine lv_iadd hx hb d_M_link_52 ?_
        refine lv_iload_n hx hb d_M_link_53 rfl (lv_at hl 3 rfl) ?_
        obtain ⟨σ14, h15, e16, hf⟩ := gSt_e hf
        refine va_iast hx hb hK hP hD hS 4 0 gm_4 rfl h15 d_M_link_54 (fun H locs hP hD hS => ?_)
        rw [sm_4, ← e16] at hP hD
        refine lv_iconst (v := 1) hx hb d_M_link_55 (by decide) ?_
        obtain ⟨rfl, rfl⟩ := gRt_e hf
        exact g_zret hx hb hr hlocks rfl hAe hS () rfl hP d_M_link_56
  exact (key gFuel).1 q1 q2 q3 σ _ _ _ hf hP hD hS hl

def f_M_objects (σ : gS) : Option (Int32 × gS) := some ((σ.1 0), σ)
set_option maxHeartbeats 4000000 in
set_option maxRecDepth 100000 in
theorem m_M_objects {l : Launch} {X : va_G} {cI cC cZ : ClassId} {b : Nat → Nat} {σ σ' : gS} {r : Int32} (hf : f_M_objects σ = some (r, σ')) {sz : Nat} : Met l y_M_objects w_M_objects { frames := 0, cells := 0, slots := 0, locals := 0 } (gPc X vwCl (gT cI cC cZ) (mW cI cC cZ b σ) sz [.ref (b 0)]) (gQi X vwCl (mW cI cC cZ b σ) sz (fun r' (_ : Unit) => r' = r) (fun _ => mW cI cC cZ b σ')) 0 0 (va_A (mW cI cC cZ b σ) sz) := by
  refine g_met (cc := b_M_objects) (maxL := 1) (ret := (some .int)) (by decide) rfl (Nat.le_of_ble_eq_true rfl) ?_
  intro p e s m below meth c A ls hx hb hr hml hown hts hlocks hnm hsz hAe hA hP hK hD hS hl hN
  have hown : s.vm.findClass R_M = some m.cls := hown
  have u_0 : ∀ w ∈ u_ws R_M T_M 35, w ∈ w_M_objects := fun w h => List.mem_cons_of_mem _ (tu_M w h)
  have k_0 := hts (.fieldLink R_M 87 "GraphPagesModel" "count" "I") (List.mem_cons_of_mem _ tb_82)
  unfold f_M_objects at hf
  refine lv_aload_n hx hb d_M_objects_0 rfl (lv_at hl 0 rfl) ?_
  refine va_get (D := X) (ci := 9) (C := R_M) (T := T_M) (N := 35) hx hb hts u_0 hown hK hP 0 gm_0 rfl 0 (by decide) k_0 (fun _ h9 => h9) rfl d_M_objects_1 ?_
  obtain ⟨rfl, rfl⟩ := gRt_e hf
  exact g_zret hx hb hr hlocks rfl hAe hS () rfl hP d_M_objects_4

def f_M_kind (σ : gS) (x1 : Int32) : Option (Int32 × gS) := gBd (f_M_object σ x1) (fun y1 σ2 => if y1 = 0 then (some ((-1), σ2)) else (gLd σ2 1 16 x1 (fun y5 => some (y5, σ2))))
set_option maxHeartbeats 4000000 in
set_option maxRecDepth 100000 in
theorem m_M_kind {l : Launch} {X : va_G} {cI cC cZ : ClassId} {b : Nat → Nat} {σ σ' : gS} {r : Int32} {x1 : Int32} (hf : f_M_kind σ x1 = some (r, σ')) {sz : Nat} : Met l y_M_kind w_M_kind { frames := 1, cells := 0, slots := 0, locals := 21 } (gPc X vwCl (gT cI cC cZ) (mW cI cC cZ b σ) sz [.ref (b 0), .int x1]) (gQi X vwCl (mW cI cC cZ b σ) sz (fun r' (_ : Unit) => r' = r) (fun _ => mW cI cC cZ b σ')) 0 0 (va_A (mW cI cC cZ b σ) sz) := by
  refine g_met (cc := b_M_kind) (maxL := 2) (ret := (some .int)) (by decide) rfl (Nat.le_of_ble_eq_true rfl) ?_
  intro p e s m below meth c A ls hx hb hr hml hown hts hlocks hnm hsz hAe hA hP hK hD hS hl hN
  have hown : s.vm.findClass R_M = some m.cls := hown
  have u_0 : ∀ w ∈ u_ws R_M T_M 35, w ∈ w_M_kind := fun w h => List.mem_cons_of_mem _ (tu_M w h)
  have k_0 := hts (.fieldLink R_M 7 "GraphPagesModel" "sort" "[I") (List.mem_cons_of_mem _ tb_83)
  unfold f_M_kind at hf
  refine lv_aload_n hx hb d_M_kind_0 rfl (lv_at hl 0 rfl) ?_
  refine lv_iload_n hx hb d_M_kind_1 rfl (lv_at hl 1 rfl) ?_
  obtain ⟨y1, σ2, e3, hf⟩ := gBd_e hf
  refine g_wi (va_runV ⟨hx, hb, hml, hown, hts⟩ (m_M_object e3) (cwV 1 hts (gG4 (fun _ h => List.mem_cons_of_mem _ h) tb_86 tb_87 tb_88 tb_89 tc_M_object) rfl rfl rfl (by decide +kernel) ⟨Nat.le_of_ble_eq_true rfl, Nat.le_of_ble_eq_true rfl⟩) (g_preVW (q0 := 0) hN hK hP hD gm_0 rfl) rfl rfl hl.1 rfl (lv_room (Nat.le_of_ble_eq_true rfl)) d_M_kind_2 ⟨Nat.zero_le _, Nat.zero_le _⟩) hD hS hA (fun _ => mW_fst) (fun y1 _ H locs hu hP hD hS => ?_)
  subst hu
  refine lv_if_eq (tgt := 17) hx hb d_M_kind_5 rfl (fun c4 => ?_) (fun c4 => ?_)
  · skip
    rw [if_pos c4] at hf
    refine lv_iconst (v := (-1)) hx hb d_M_kind_17 (by decide) ?_
    obtain ⟨rfl, rfl⟩ := gRt_e hf
    exact g_zret hx hb hr hlocks rfl hAe hS () rfl hP d_M_kind_18
  rw [if_neg c4] at hf
  refine lv_aload_n hx hb d_M_kind_8 rfl (lv_at hl 0 rfl) ?_
  refine va_get (D := X) (ci := 9) (C := R_M) (T := T_M) (N := 35) hx hb hts u_0 hown hK hP 0 gm_0 rfl 1 (by decide) k_0 (fun _ h9 => h9) rfl d_M_kind_9 ?_
  refine lv_iload_n hx hb d_M_kind_12 rfl (lv_at hl 1 rfl) ?_
  obtain ⟨y5, h6, e7, hf⟩ := gLd_e hf
  refine va_iald hx hb hK hP 1 0 gm_1 rfl h6 d_M_kind_13 ?_
  rw [← e7]
  refine lv_goto (tgt := 18) hx hb d_M_kind_14 rfl ?_
  obtain ⟨rfl, rfl⟩ := gRt_e hf
  exact g_zret hx hb hr hlocks rfl hAe hS () rfl hP d_M_kind_18

def f_M_size (σ : gS) (x1 : Int32) : Option (Int32 × gS) := gBd (f_M_object σ x1) (fun y1 σ2 => if y1 = 0 then (some ((-1), σ2)) else (gLd σ2 2 16 x1 (fun y5 => some (y5, σ2))))
set_option maxHeartbeats 4000000 in
set_option maxRecDepth 100000 in
theorem m_M_size {l : Launch} {X : va_G} {cI cC cZ : ClassId} {b : Nat → Nat} {σ σ' : gS} {r : Int32} {x1 : Int32} (hf : f_M_size σ x1 = some (r, σ')) {sz : Nat} : Met l y_M_size w_M_size { frames := 1, cells := 0, slots := 0, locals := 21 } (gPc X vwCl (gT cI cC cZ) (mW cI cC cZ b σ) sz [.ref (b 0), .int x1]) (gQi X vwCl (mW cI cC cZ b σ) sz (fun r' (_ : Unit) => r' = r) (fun _ => mW cI cC cZ b σ')) 0 0 (va_A (mW cI cC cZ b σ) sz) := by
  refine g_met (cc := b_M_size) (maxL := 2) (ret := (some .int)) (by decide) rfl (Nat.le_of_ble_eq_true rfl) ?_
  intro p e s m below meth c A ls hx hb hr hml hown hts hlocks hnm hsz hAe hA hP hK hD hS hl hN
  have hown : s.vm.findClass R_M = some m.cls := hown
  have u_0 : ∀ w ∈ u_ws R_M T_M 35, w ∈ w_M_size := fun w h => List.mem_cons_of_mem _ (tu_M w h)
  have k_0 := hts (.fieldLink R_M 13 "GraphPagesModel" "room" "[I") (List.mem_cons_of_mem _ tb_84)
  unfold f_M_size at hf
  refine lv_aload_n hx hb d_M_size_0 rfl (lv_at hl 0 rfl) ?_
  refine lv_iload_n hx hb d_M_size_1 rfl (lv_at hl 1 rfl) ?_
  obtain ⟨y1, σ2, e3, hf⟩ := gBd_e hf
  refine g_wi (va_runV ⟨hx, hb, hml, hown, hts⟩ (m_M_object e3) (cwV 1 hts (gG4 (fun _ h => List.mem_cons_of_mem _ h) tb_86 tb_87 tb_88 tb_89 tc_M_object) rfl rfl rfl (by decide +kernel) ⟨Nat.le_of_ble_eq_true rfl, Nat.le_of_ble_eq_true rfl⟩) (g_preVW (q0 := 0) hN hK hP hD gm_0 rfl) rfl rfl hl.1 rfl (lv_room (Nat.le_of_ble_eq_true rfl)) d_M_size_2 ⟨Nat.zero_le _, Nat.zero_le _⟩) hD hS hA (fun _ => mW_fst) (fun y1 _ H locs hu hP hD hS => ?_)
  subst hu
  refine lv_if_eq (tgt := 17) hx hb d_M_size_5 rfl (fun c4 => ?_) (fun c4 => ?_)
  · skip
    rw [if_pos c4] at hf
    refine lv_iconst (v := (-1)) hx hb d_M_size_17 (by decide) ?_
    obtain ⟨rfl, rfl⟩ := gRt_e hf
    exact g_zret hx hb hr hlocks rfl hAe hS () rfl hP d_M_size_18
  rw [if_neg c4] at hf
  refine lv_aload_n hx hb d_M_size_8 rfl (lv_at hl 0 rfl) ?_
  refine va_get (D := X) (ci := 9) (C := R_M) (T := T_M) (N := 35) hx hb hts u_0 hown hK hP 0 gm_0 rfl 2 (by decide) k_0 (fun _ h9 => h9) rfl d_M_size_9 ?_
  refine lv_iload_n hx hb d_M_size_12 rfl (lv_at hl 1 rfl) ?_
  obtain ⟨y5, h6, e7, hf⟩ := gLd_e hf
  refine va_iald hx hb hK hP 2 0 gm_2 rfl h6 d_M_size_13 ?_
  rw [← e7]
  refine lv_goto (tgt := 18) hx hb d_M_size_14 rfl ?_
  obtain ⟨rfl, rfl⟩ := gRt_e hf
  exact g_zret hx hb hr hlocks rfl hAe hS () rfl hP d_M_size_18

def f_M_holds (σ : gS) (x1 : Int32) (x2 : Int32) : Option (Int32 × gS) := gBd (f_M_slotThere σ x1 x2) (fun y1 σ2 => if y1 = 0 then (some ((-1), σ2)) else (gLd σ2 3 64 ((4 * x1) + x2) (fun y5 => some (y5, σ2))))
set_option maxHeartbeats 4000000 in
set_option maxRecDepth 100000 in
theorem m_M_holds {l : Launch} {X : va_G} {cI cC cZ : ClassId} {b : Nat → Nat} {σ σ' : gS} {r : Int32} {x1 : Int32} {x2 : Int32} (hf : f_M_holds σ x1 x2 = some (r, σ')) {sz : Nat} : Met l y_M_holds w_M_holds { frames := 2, cells := 0, slots := 0, locals := 43 } (gPc X vwCl (gT cI cC cZ) (mW cI cC cZ b σ) sz [.ref (b 0), .int x1, .int x2]) (gQi X vwCl (mW cI cC cZ b σ) sz (fun r' (_ : Unit) => r' = r) (fun _ => mW cI cC cZ b σ')) 0 0 (va_A (mW cI cC cZ b σ) sz) := by
  refine g_met (cc := b_M_holds) (maxL := 3) (ret := (some .int)) (by decide) rfl (Nat.le_of_ble_eq_true rfl) ?_
  intro p e s m below meth c A ls hx hb hr hml hown hts hlocks hnm hsz hAe hA hP hK hD hS hl hN
  have hown : s.vm.findClass R_M = some m.cls := hown
  have u_0 : ∀ w ∈ u_ws R_M T_M 35, w ∈ w_M_holds := fun w h => List.mem_cons_of_mem _ (tu_M w h)
  have k_0 := hts (.fieldLink R_M 16 "GraphPagesModel" "what" "[I") (List.mem_cons_of_mem _ tb_85)
  unfold f_M_holds at hf
  refine lv_aload_n hx hb d_M_holds_0 rfl (lv_at hl 0 rfl) ?_
  refine lv_iload_n hx hb d_M_holds_1 rfl (lv_at hl 1 rfl) ?_
  refine lv_iload_n hx hb d_M_holds_2 rfl (lv_at hl 2 rfl) ?_
  obtain ⟨y1, σ2, e3, hf⟩ := gBd_e hf
  refine g_wi (va_runV ⟨hx, hb, hml, hown, hts⟩ (m_M_slotThere e3) (cwV 2 hts (gG4 (fun _ h => List.mem_cons_of_mem _ h) tb_91 tb_92 tb_93 tb_89 tc_M_slotThere) rfl rfl rfl (by decide +kernel) ⟨Nat.le_of_ble_eq_true rfl, Nat.le_of_ble_eq_true rfl⟩) (g_preVW (q0 := 0) hN hK hP hD gm_0 rfl) rfl rfl hl.1 rfl (lv_room (Nat.le_of_ble_eq_true rfl)) d_M_holds_3 ⟨Nat.zero_le _, Nat.zero_le _⟩) hD hS hA (fun _ => mW_fst) (fun y1 _ H locs hu hP hD hS => ?_)
  subst hu
  refine lv_if_eq (tgt := 22) hx hb d_M_holds_6 rfl (fun c4 => ?_) (fun c4 => ?_)
  · skip
    rw [if_pos c4] at hf
    refine lv_iconst (v := (-1)) hx hb d_M_holds_22 (by decide) ?_
    obtain ⟨rfl, rfl⟩ := gRt_e hf
    exact g_zret hx hb hr hlocks rfl hAe hS () rfl hP d_M_holds_23
  rw [if_neg c4] at hf
  refine lv_aload_n hx hb d_M_holds_9 rfl (lv_at hl 0 rfl) ?_
  refine va_get (D := X) (ci := 9) (C := R_M) (T := T_M) (N := 35) hx hb hts u_0 hown hK hP 0 gm_0 rfl 3 (by decide) k_0 (fun _ h9 => h9) rfl d_M_holds_10 ?_
  refine lv_iconst (v := 4) hx hb d_M_holds_13 (by decide) ?_
  refine lv_iload_n hx hb d_M_holds_14 rfl (lv_at hl 1 rfl) ?_
  refine lv_imul hx hb d_M_holds_15 ?_
  refine lv_iload_n hx hb d_M_holds_16 rfl (lv_at hl 2 rfl) ?_
  refine lv_iadd hx hb d_M_holds_17 ?_
  obtain ⟨y5, h6, e7, hf⟩ := gLd_e hf
  refine va_iald hx hb hK hP 3 0 gm_3 rfl h6 d_M_holds_18 ?_
  rw [← e7]
  refine lv_goto (tgt := 23) hx hb d_M_holds_19 rfl ?_
  obtain ⟨rfl, rfl⟩ := gRt_e hf
  exact g_zret hx hb hr hlocks rfl hAe hS () rfl hP d_M_holds_23

def B_M_value_0 (rec : Nat → List Int32 → gS → Option (Int32 × gS)) (x1 : Int32) (x2 : Int32) (σ0 : gS) : Option (Int32 × gS) := gBd (f_M_object σ0 x1) (fun y1 σ2 => if y1 = 0 then (rec 1 [x1, x2] σ2) else (gLd σ2 1 16 x1 (fun y5 => if y5 = 2 then (if x2 < 0 then (some (0, σ2)) else (gLd σ2 2 16 x1 (fun y10 => if y10 ≤ x2 then (some (0, σ2)) else (gLd σ2 5 96 ((6 * x1) + x2) (fun y14 => some (y14, σ2)))))) else (rec 1 [x1, x2] σ2))))
def B_M_value_1 (rec : Nat → List Int32 → gS → Option (Int32 × gS)) (x1 : Int32) (x2 : Int32) (σ0 : gS) : Option (Int32 × gS) := gBd (f_M_slotThere σ0 x1 x2) (fun y17 σ18 => if y17 = 0 then (some (0, σ18)) else (gLd σ18 3 64 ((4 * x1) + x2) (fun y21 => if y21 = 0 then (some (0, σ18)) else (gLd σ18 4 64 ((4 * x1) + x2) (fun y25 => some (y25, σ18))))))
def S_M_value (rec : Nat → List Int32 → gS → Option (Int32 × gS)) (k : Nat) (l : List Int32) (σ0 : gS) : Option (Int32 × gS) := match k, l with
  | 0, [x1, x2] => B_M_value_0 rec x1 x2 σ0
  | 1, [x1, x2] => B_M_value_1 rec x1 x2 σ0
  | _, _ => none
def R_M_value : Nat → Nat → List Int32 → gS → Option (Int32 × gS)
  | 0 => fun _ _ _ => none
  | t + 1 => fun k l σ0 => S_M_value (R_M_value t) k l σ0
def f_M_value (σ : gS) (x1 : Int32) (x2 : Int32) : Option (Int32 × gS) := R_M_value gFuel 0 [x1, x2] σ
set_option maxHeartbeats 4000000 in
set_option maxRecDepth 100000 in
theorem m_M_value {l : Launch} {X : va_G} {cI cC cZ : ClassId} {b : Nat → Nat} {σ σ' : gS} {r : Int32} {q1 : Int32} {q2 : Int32} (hf : f_M_value σ q1 q2 = some (r, σ')) {sz : Nat} : Met l y_M_value w_M_value { frames := 2, cells := 0, slots := 0, locals := 43 } (gPc X vwCl (gT cI cC cZ) (mW cI cC cZ b σ) sz [.ref (b 0), .int q1, .int q2]) (gQi X vwCl (mW cI cC cZ b σ) sz (fun r' (_ : Unit) => r' = r) (fun _ => mW cI cC cZ b σ')) 0 0 (va_A (mW cI cC cZ b σ) sz) := by
  refine g_met (cc := b_M_value) (maxL := 3) (ret := (some .int)) (by decide) rfl (Nat.le_of_ble_eq_true rfl) ?_
  intro p e s m below meth c A ls hx hb hr hml hown hts hlocks hnm hsz hAe hA hP hK hD hS hl hN
  have hown : s.vm.findClass R_M = some m.cls := hown
  have u_0 : ∀ w ∈ u_ws R_M T_M 35, w ∈ w_M_value := fun w h => List.mem_cons_of_mem _ (tu_M w h)
  have k_0 := hts (.fieldLink R_M 7 "GraphPagesModel" "sort" "[I") (List.mem_cons_of_mem _ tb_83)
  have k_1 := hts (.fieldLink R_M 13 "GraphPagesModel" "room" "[I") (List.mem_cons_of_mem _ tb_84)
  have k_2 := hts (.fieldLink R_M 22 "GraphPagesModel" "letters" "[I") (List.mem_cons_of_mem _ tb_90)
  have k_3 := hts (.fieldLink R_M 16 "GraphPagesModel" "what" "[I") (List.mem_cons_of_mem _ tb_85)
  have k_4 := hts (.fieldLink R_M 19 "GraphPagesModel" "cell" "[I") (List.mem_cons_of_mem _ tb_94)
  unfold f_M_value at hf
  have key : ∀ t : Nat, (∀ (x1 : Int32) (x2 : Int32) (σ0 : gS) (H : Heap) (locs : List Loc) (ls : Array Slot), R_M_value t 0 [x1, x2] σ0 = some (r, σ') → va_P X vwCl (mW cI cC cZ b σ0) H → va_D A (mW cI cC cZ b σ0) → va_S A s.heap H locs → lv_has ls 3 [(0, .ref (b 0)), (1, .int x1), (2, .int x2)] → W p l e (headSpec w_M_value { frames := 2, cells := 0, slots := 0, locals := 43 }).room s m [.ref (b 0), .int q1, .int q2].toArray below meth c H locs 0 0 (MQ below (gQi X vwCl (mW cI cC cZ b σ) sz (fun r' (_ : Unit) => r' = r) (fun _ => mW cI cC cZ b σ')) [.ref (b 0), .int q1, .int q2].toArray s 0 0 (va_A (mW cI cC cZ b σ) sz)) (F0 m 0 ls [])) ∧ (∀ (x1 : Int32) (x2 : Int32) (σ0 : gS) (H : Heap) (locs : List Loc) (ls : Array Slot), R_M_value t 1 [x1, x2] σ0 = some (r, σ') → va_P X vwCl (mW cI cC cZ b σ0) H → va_D A (mW cI cC cZ b σ0) → va_S A s.heap H locs → lv_has ls 3 [(0, .ref (b 0)), (1, .int x1), (2, .int x2)] → W p l e (headSpec w_M_value { frames := 2, cells := 0, slots := 0, locals := 43 }).room s m [.ref (b 0), .int q1, .int q2].toArray below meth c H locs 0 0 (MQ below (gQi X vwCl (mW cI cC cZ b σ) sz (fun r' (_ : Unit) => r' = r) (fun _ => mW cI cC cZ b σ')) [.ref (b 0), .int q1, .int q2].toArray s 0 0 (va_A (mW cI cC cZ b σ) sz)) (F0 m 48 ls [])) := by
    intro t
    induction t with
    | zero => exact ⟨fun _ _ _ _ _ _ hf => (by have hf : (none : Option (Int32 × gS)) = some (r, σ') := hf; cases hf), fun _ _ _ _ _ _ hf => (by have hf : (none : Option (Int32 × gS)) = some (r, σ') := hf; cases hf)⟩
    | succ t ih =>
      obtain ⟨ih0, ih1⟩ := ih
      refine ⟨?_, ?_⟩
      · intro x1 x2 σ0 H locs ls hf hP hD hS hl
        have hf : B_M_value_0 (R_M_value t) x1 x2 σ0 = some (r, σ') := hf
        unfold B_M_value_0 at hf
        refine lv_aload_n hx hb d_M_value_0 rfl (lv_at hl 0 rfl) ?_
        refine lv_iload_n hx hb d_M_value_1 rfl (lv_at hl 1 rfl) ?_
        obtain ⟨y1, σ2, e3, hf⟩ := gBd_e hf
        refine g_wi (va_runV ⟨hx, hb, hml, hown, hts⟩ (m_M_object e3) (cwV 1 hts (gG4 (fun _ h => List.mem_cons_of_mem _ h) tb_86 tb_87 tb_88 tb_89 tc_M_object) rfl rfl rfl (by decide +kernel) ⟨Nat.le_of_ble_eq_true rfl, Nat.le_of_ble_eq_true rfl⟩) (g_preVW (q0 := 0) hN hK hP hD gm_0 rfl) rfl rfl hl.1 rfl (lv_room (Nat.le_of_ble_eq_true rfl)) d_M_value_2 ⟨Nat.zero_le _, Nat.zero_le _⟩) hD hS hA (fun _ => mW_fst) (fun y1 _ H locs hu hP hD hS => ?_)
        subst hu
        refine lv_if_eq (tgt := 48) hx hb d_M_value_5 rfl (fun c4 => ?_) (fun c4 => ?_)
        · skip
          rw [if_pos c4] at hf
          exact ih1 (x1) (x2) σ2 _ _ _ hf hP hD hS (lv_sub hl [0, 1, 2] rfl)
        rw [if_neg c4] at hf
        refine lv_aload_n hx hb d_M_value_8 rfl (lv_at hl 0 rfl) ?_
        refine va_get (D := X) (ci := 9) (C := R_M) (T := T_M) (N := 35) hx hb hts u_0 hown hK hP 0 gm_0 rfl 1 (by decide) k_0 (fun _ h9 => h9) rfl d_M_value_9 ?_
        refine lv_iload_n hx hb d_M_value_12 rfl (lv_at hl 1 rfl) ?_
        obtain ⟨y5, h6, e7, hf⟩ := gLd_e hf
        refine va_iald hx hb hK hP 1 0 gm_1 rfl h6 d_M_value_13 ?_
        rw [← e7]
        refine lv_iconst (v := 2) hx hb d_M_value_14 (by decide) ?_
        refine lv_icmp_ne (tgt := 48) hx hb d_M_value_15 rfl (fun c8 => ?_) (fun c8 => ?_)
        · skip
          rw [if_neg c8] at hf
          exact ih1 (x1) (x2) σ2 _ _ _ hf hP hD hS (lv_sub hl [0, 1, 2] rfl)
        rw [if_pos c8] at hf
        refine lv_iload_n hx hb d_M_value_18 rfl (lv_at hl 2 rfl) ?_
        refine lv_if_lt (tgt := 46) hx hb d_M_value_19 rfl (fun c9 => ?_) (fun c9 => ?_)
        · skip
          rw [if_pos c9] at hf
          refine lv_iconst (v := 0) hx hb d_M_value_46 (by decide) ?_
          obtain ⟨rfl, rfl⟩ := gRt_e hf
          exact g_zret hx hb hr hlocks rfl hAe hS () rfl hP d_M_value_47
        rw [if_neg c9] at hf
        refine lv_iload_n hx hb d_M_value_22 rfl (lv_at hl 2 rfl) ?_
        refine lv_aload_n hx hb d_M_value_23 rfl (lv_at hl 0 rfl) ?_
        refine va_get (D := X) (ci := 9) (C := R_M) (T := T_M) (N := 35) hx hb hts u_0 hown hK hP 0 gm_0 rfl 2 (by decide) k_1 (fun _ h9 => h9) rfl d_M_value_24 ?_
        refine lv_iload_n hx hb d_M_value_27 rfl (lv_at hl 1 rfl) ?_
        obtain ⟨y10, h11, e12, hf⟩ := gLd_e hf
        refine va_iald hx hb hK hP 2 0 gm_2 rfl h11 d_M_value_28 ?_
        rw [← e12]
        refine lv_icmp_ge (tgt := 46) hx hb d_M_value_29 rfl (fun c13 => ?_) (fun c13 => ?_)
        · skip
          rw [if_pos c13] at hf
          refine lv_iconst (v := 0) hx hb d_M_value_46 (by decide) ?_
          obtain ⟨rfl, rfl⟩ := gRt_e hf
          exact g_zret hx hb hr hlocks rfl hAe hS () rfl hP d_M_value_47
        rw [if_neg c13] at hf
        refine lv_aload_n hx hb d_M_value_32 rfl (lv_at hl 0 rfl) ?_
        refine va_get (D := X) (ci := 9) (C := R_M) (T := T_M) (N := 35) hx hb hts u_0 hown hK hP 0 gm_0 rfl 5 (by decide) k_2 (fun _ h9 => h9) rfl d_M_value_33 ?_
        refine lv_bipush (v := 6) hx hb d_M_value_36 (by decide) ?_
        refine lv_iload_n hx hb d_M_value_38 rfl (lv_at hl 1 rfl) ?_
        refine lv_imul hx hb d_M_value_39 ?_
        refine lv_iload_n hx hb d_M_value_40 rfl (lv_at hl 2 rfl) ?_
        refine lv_iadd hx hb d_M_value_41 ?_
        obtain ⟨y14, h15, e16, hf⟩ := gLd_e hf
        refine va_iald hx hb hK hP 5 0 gm_5 rfl h15 d_M_value_42 ?_
        rw [← e16]
        refine lv_goto (tgt := 47) hx hb d_M_value_43 rfl ?_
        obtain ⟨rfl, rfl⟩ := gRt_e hf
        exact g_zret hx hb hr hlocks rfl hAe hS () rfl hP d_M_value_47
      · intro x1 x2 σ0 H locs ls hf hP hD hS hl
        have hf : B_M_value_1 (R_M_value t) x1 x2 σ0 = some (r, σ') := hf
        unfold B_M_value_1 at hf
        refine lv_aload_n hx hb d_M_value_48 rfl (lv_at hl 0 rfl) ?_
        refine lv_iload_n hx hb d_M_value_49 rfl (lv_at hl 1 rfl) ?_
        refine lv_iload_n hx hb d_M_value_50 rfl (lv_at hl 2 rfl) ?_
        obtain ⟨y17, σ18, e19, hf⟩ := gBd_e hf
        refine g_wi (va_runV ⟨hx, hb, hml, hown, hts⟩ (m_M_slotThere e19) (cwV 2 hts (gG4 (fun _ h => List.mem_cons_of_mem _ h) tb_91 tb_92 tb_93 tb_89 tc_M_slotThere) rfl rfl rfl (by decide +kernel) ⟨Nat.le_of_ble_eq_true rfl, Nat.le_of_ble_eq_true rfl⟩) (g_preVW (q0 := 0) hN hK hP hD gm_0 rfl) rfl rfl hl.1 rfl (lv_room (Nat.le_of_ble_eq_true rfl)) d_M_value_51 ⟨Nat.zero_le _, Nat.zero_le _⟩) hD hS hA (fun _ => mW_fst) (fun y17 _ H locs hu hP hD hS => ?_)
        subst hu
        refine lv_if_eq (tgt := 83) hx hb d_M_value_54 rfl (fun c20 => ?_) (fun c20 => ?_)
        · skip
          rw [if_pos c20] at hf
          refine lv_iconst (v := 0) hx hb d_M_value_83 (by decide) ?_
          obtain ⟨rfl, rfl⟩ := gRt_e hf
          exact g_zret hx hb hr hlocks rfl hAe hS () rfl hP d_M_value_84
        rw [if_neg c20] at hf
        refine lv_aload_n hx hb d_M_value_57 rfl (lv_at hl 0 rfl) ?_
        refine va_get (D := X) (ci := 9) (C := R_M) (T := T_M) (N := 35) hx hb hts u_0 hown hK hP 0 gm_0 rfl 3 (by decide) k_3 (fun _ h9 => h9) rfl d_M_value_58 ?_
        refine lv_iconst (v := 4) hx hb d_M_value_61 (by decide) ?_
        refine lv_iload_n hx hb d_M_value_62 rfl (lv_at hl 1 rfl) ?_
        refine lv_imul hx hb d_M_value_63 ?_
        refine lv_iload_n hx hb d_M_value_64 rfl (lv_at hl 2 rfl) ?_
        refine lv_iadd hx hb d_M_value_65 ?_
        obtain ⟨y21, h22, e23, hf⟩ := gLd_e hf
        refine va_iald hx hb hK hP 3 0 gm_3 rfl h22 d_M_value_66 ?_
        rw [← e23]
        refine lv_if_eq (tgt := 83) hx hb d_M_value_67 rfl (fun c24 => ?_) (fun c24 => ?_)
        · skip
          rw [if_pos c24] at hf
          refine lv_iconst (v := 0) hx hb d_M_value_83 (by decide) ?_
          obtain ⟨rfl, rfl⟩ := gRt_e hf
          exact g_zret hx hb hr hlocks rfl hAe hS () rfl hP d_M_value_84
        rw [if_neg c24] at hf
        refine lv_aload_n hx hb d_M_value_70 rfl (lv_at hl 0 rfl) ?_
        refine va_get (D := X) (ci := 9) (C := R_M) (T := T_M) (N := 35) hx hb hts u_0 hown hK hP 0 gm_0 rfl 4 (by decide) k_4 (fun _ h9 => h9) rfl d_M_value_71 ?_
        refine lv_iconst (v := 4) hx hb d_M_value_74 (by decide) ?_
        refine lv_iload_n hx hb d_M_value_75 rfl (lv_at hl 1 rfl) ?_
        refine lv_imul hx hb d_M_value_76 ?_
        refine lv_iload_n hx hb d_M_value_77 rfl (lv_at hl 2 rfl) ?_
        refine lv_iadd hx hb d_M_value_78 ?_
        obtain ⟨y25, h26, e27, hf⟩ := gLd_e hf
        refine va_iald hx hb hK hP 4 0 gm_4 rfl h26 d_M_value_79 ?_
        rw [← e27]
        refine lv_goto (tgt := 84) hx hb d_M_value_80 rfl ?_
        obtain ⟨rfl, rfl⟩ := gRt_e hf
        exact g_zret hx hb hr hlocks rfl hAe hS () rfl hP d_M_value_84
  exact (key gFuel).1 q1 q2 σ _ _ _ hf hP hD hS hl

def B_M_alike_0 (rec : Nat → List Int32 → gS → Option (Int32 × gS)) (x1 : Int32) (x2 : Int32) (σ0 : gS) : Option (Int32 × gS) := gBd (f_M_object σ0 x1) (fun y1 σ2 => if y1 = 0 then (some (0, σ2)) else (gBd (f_M_object σ2 x2) (fun y5 σ6 => if y5 = 0 then (some (0, σ6)) else (rec 1 [x1, x2, 0] σ6))))
def B_M_alike_1 (rec : Nat → List Int32 → gS → Option (Int32 × gS)) (x1 : Int32) (x2 : Int32) (x3 : Int32) (σ0 : gS) : Option (Int32 × gS) := if 16 ≤ x3 then (gSt σ0 24 16 x1 x2 (fun σ10 => gSt σ10 25 16 x2 x1 (fun σ13 => rec 2 [0] σ13))) else (gSt σ0 24 16 x3 (-1) (fun σ16 => gSt σ16 25 16 x3 (-1) (fun σ19 => rec 1 [x1, x2, (x3 + 1)] σ19)))
def B_M_alike_2 (rec : Nat → List Int32 → gS → Option (Int32 × gS)) (x3 : Int32) (σ0 : gS) : Option (Int32 × gS) := if (17 * (σ0.1 0)) ≤ x3 then (some (1, σ0)) else (gNe ((σ0.1 0)) (gLd σ0 24 16 (x3 - x3 / (σ0.1 0) * (σ0.1 0)) (fun y24 => if y24 < 0 then (rec 3 [x3, (x3 - x3 / (σ0.1 0) * (σ0.1 0)), y24] σ0) else (none))))
def B_M_alike_3 (rec : Nat → List Int32 → gS → Option (Int32 × gS)) (x3 : Int32) (x4 : Int32) (x5 : Int32) (σ0 : gS) : Option (Int32 × gS) := rec 4 [x3, x4, x5, 0] σ0
def B_M_alike_4 (rec : Nat → List Int32 → gS → Option (Int32 × gS)) (x3 : Int32) (x4 : Int32) (x5 : Int32) (x6 : Int32) (σ0 : gS) : Option (Int32 × gS) := if x5 < 0 then (rec 7 [x3] σ0) else (gLd σ0 1 16 x4 (fun y32 => if y32 = 2 then (rec 7 [x3] σ0) else (gLd σ0 2 16 x4 (fun y36 => if y36 ≤ x6 then (rec 7 [x3] σ0) else (gLd σ0 3 64 ((4 * x4) + x6) (fun y40 => if y40 = 2 then (gLd σ0 4 64 ((4 * x4) + x6) (fun y44 => gLd σ0 4 64 ((4 * x5) + x6) (fun y47 => gLd σ0 24 16 y44 (fun y50 => if 0 ≤ y50 then (rec 5 [x3, x4, x5, x6, y44, y47] σ0) else (gLd σ0 25 16 y47 (fun y54 => if 0 ≤ y54 then (rec 5 [x3, x4, x5, x6, y44, y47] σ0) else (gSt σ0 24 16 y44 y47 (fun σ58 => gSt σ58 25 16 y47 y44 (fun σ61 => rec 5 [x3, x4, x5, x6, y44, y47] σ61))))))))) else (rec 6 [x3, x4, x5, x6] σ0)))))))
def B_M_alike_5 (rec : Nat → List Int32 → gS → Option (Int32 × gS)) (x3 : Int32) (x4 : Int32) (x5 : Int32) (x6 : Int32) (x7 : Int32) (x8 : Int32) (σ0 : gS) : Option (Int32 × gS) := gLd σ0 24 16 x7 (fun y64 => if y64 = x8 then (gLd σ0 25 16 x8 (fun y68 => if y68 = x7 then (rec 6 [x3, x4, x5, x6] σ0) else (some (0, σ0)))) else (some (0, σ0)))
def B_M_alike_6 (rec : Nat → List Int32 → gS → Option (Int32 × gS)) (x3 : Int32) (x4 : Int32) (x5 : Int32) (x6 : Int32) (σ0 : gS) : Option (Int32 × gS) := rec 4 [x3, x4, x5, (x6 + 1)] σ0
def B_M_alike_7 (rec : Nat → List Int32 → gS → Option (Int32 × gS)) (x3 : Int32) (σ0 : gS) : Option (Int32 × gS) := rec 2 [(x3 + 1)] σ0
def S_M_alike (rec : Nat → List Int32 → gS → Option (Int32 × gS)) (k : Nat) (l : List Int32) (σ0 : gS) : Option (Int32 × gS) := match k, l with
  | 0, [x1, x2] => B_M_alike_0 rec x1 x2 σ0
  | 1, [x1, x2, x3] => B_M_alike_1 rec x1 x2 x3 σ0
  | 2, [x3] => B_M_alike_2 rec x3 σ0
  | 3, [x3, x4, x5] => B_M_alike_3 rec x3 x4 x5 σ0
  | 4, [x3, x4, x5, x6] => B_M_alike_4 rec x3 x4 x5 x6 σ0
  | 5, [x3, x4, x5, x6, x7, x8] => B_M_alike_5 rec x3 x4 x5 x6 x7 x8 σ0
  | 6, [x3, x4, x5, x6] => B_M_alike_6 rec x3 x4 x5 x6 σ0
  | 7, [x3] => B_M_alike_7 rec x3 σ0
  | _, _ => none
def R_M_alike : Nat → Nat → List Int32 → gS → Option (Int32 × gS)
  | 0 => fun _ _ _ => none
  | t + 1 => fun k l σ0 => S_M_alike (R_M_alike t) k l σ0
def f_M_alike (σ : gS) (x1 : Int32) (x2 : Int32) : Option (Int32 × gS) := R_M_alike gFuel 0 [x1, x2] σ
set_option maxHeartbeats 4000000 in
set_option maxRecDepth 100000 in
theorem m_M_alike {l : Launch} {X : va_G} {cI cC cZ : ClassId} {b : Nat → Nat} {σ σ' : gS} {r : Int32} {q1 : Int32} {q2 : Int32} (hf : f_M_alike σ q1 q2 = some (r, σ')) {sz : Nat} : Met l y_M_alike w_M_alike { frames := 1, cells := 0, slots := 0, locals := 21 } (gPc X vwCl (gT cI cC cZ) (mW cI cC cZ b σ) sz [.ref (b 0), .int q1, .int q2]) (gQi X vwCl (mW cI cC cZ b σ) sz (fun r' (_ : Unit) => r' = r) (fun _ => mW cI cC cZ b σ')) 0 0 (va_A (mW cI cC cZ b σ) sz) := by
  refine g_met (cc := b_M_alike) (maxL := 9) (ret := (some .boolean)) (by decide) rfl (Nat.le_of_ble_eq_true rfl) ?_
  intro p e s m below meth c A ls hx hb hr hml hown hts hlocks hnm hsz hAe hA hP hK hD hS hl hN
  have hown : s.vm.findClass R_M = some m.cls := hown
  have u_0 : ∀ w ∈ u_ws R_M T_M 35, w ∈ w_M_alike := fun w h => List.mem_cons_of_mem _ (tu_M w h)
  have k_0 := hts (.fieldLink R_M 81 "GraphPagesModel" "pair" "[I") (List.mem_cons_of_mem _ tb_95)
  have k_1 := hts (.fieldLink R_M 84 "GraphPagesModel" "back" "[I") (List.mem_cons_of_mem _ tb_96)
  have k_2 := hts (.fieldLink R_M 87 "GraphPagesModel" "count" "I") (List.mem_cons_of_mem _ tb_82)
  have k_3 := hts (.fieldLink R_M 7 "GraphPagesModel" "sort" "[I") (List.mem_cons_of_mem _ tb_83)
  have k_4 := hts (.fieldLink R_M 13 "GraphPagesModel" "room" "[I") (List.mem_cons_of_mem _ tb_84)
  have k_5 := hts (.fieldLink R_M 16 "GraphPagesModel" "what" "[I") (List.mem_cons_of_mem _ tb_85)
  have k_6 := hts (.fieldLink R_M 19 "GraphPagesModel" "cell" "[I") (List.mem_cons_of_mem _ tb_94)
  unfold f_M_alike at hf
  have key : ∀ t : Nat, (∀ (x1 : Int32) (x2 : Int32) (σ0 : gS) (H : Heap) (locs : List Loc) (ls : Array Slot), R_M_alike t 0 [x1, x2] σ0 = some (r, σ') → va_P X vwCl (mW cI cC cZ b σ0) H → va_D A (mW cI cC cZ b σ0) → va_S A s.heap H locs → lv_has ls 9 [(0, .ref (b 0)), (1, .int x1), (2, .int x2)] → W p l e (headSpec w_M_alike { frames := 1, cells := 0, slots := 0, locals := 21 }).room s m [.ref (b 0), .int q1, .int q2].toArray below meth c H locs 0 0 (MQ below (gQi X vwCl (mW cI cC cZ b σ) sz (fun r' (_ : Unit) => r' = r) (fun _ => mW cI cC cZ b σ')) [.ref (b 0), .int q1, .int q2].toArray s 0 0 (va_A (mW cI cC cZ b σ) sz)) (F0 m 0 ls [])) ∧ (∀ (x1 : Int32) (x2 : Int32) (x3 : Int32) (σ0 : gS) (H : Heap) (locs : List Loc) (ls : Array Slot), R_M_alike t 1 [x1, x2, x3] σ0 = some (r, σ') → va_P X vwCl (mW cI cC cZ b σ0) H → va_D A (mW cI cC cZ b σ0) → va_S A s.heap H locs → lv_has ls 9 [(0, .ref (b 0)), (1, .int x1), (2, .int x2), (3, .int x3)] → W p l e (headSpec w_M_alike { frames := 1, cells := 0, slots := 0, locals := 21 }).room s m [.ref (b 0), .int q1, .int q2].toArray below meth c H locs 0 0 (MQ below (gQi X vwCl (mW cI cC cZ b σ) sz (fun r' (_ : Unit) => r' = r) (fun _ => mW cI cC cZ b σ')) [.ref (b 0), .int q1, .int q2].toArray s 0 0 (va_A (mW cI cC cZ b σ) sz)) (F0 m 20 ls [])) ∧ (∀ (x3 : Int32) (σ0 : gS) (H : Heap) (locs : List Loc) (ls : Array Slot), R_M_alike t 2 [x3] σ0 = some (r, σ') → va_P X vwCl (mW cI cC cZ b σ0) H → va_D A (mW cI cC cZ b σ0) → va_S A s.heap H locs → lv_has ls 9 [(0, .ref (b 0)), (3, .int x3)] → W p l e (headSpec w_M_alike { frames := 1, cells := 0, slots := 0, locals := 21 }).room s m [.ref (b 0), .int q1, .int q2].toArray below meth c H locs 0 0 (MQ below (gQi X vwCl (mW cI cC cZ b σ) sz (fun r' (_ : Unit) => r' = r) (fun _ => mW cI cC cZ b σ')) [.ref (b 0), .int q1, .int q2].toArray s 0 0 (va_A (mW cI cC cZ b σ) sz)) (F0 m 62 ls [])) ∧ (∀ (x3 : Int32) (x4 : Int32) (x5 : Int32) (σ0 : gS) (H : Heap) (locs : List Loc) (ls : Array Slot), R_M_alike t 3 [x3, x4, x5] σ0 = some (r, σ') → va_P X vwCl (mW cI cC cZ b σ0) H → va_D A (mW cI cC cZ b σ0) → va_S A s.heap H locs → lv_has ls 9 [(0, .ref (b 0)), (3, .int x3), (4, .int x4), (5, .int x5)] → W p l e (headSpec w_M_alike { frames := 1, cells := 0, slots := 0, locals := 21 }).room s m [.ref (b 0), .int q1, .int q2].toArray below meth c H locs 0 0 (MQ below (gQi X vwCl (mW cI cC cZ b σ) sz (fun r' (_ : Unit) => r' = r) (fun _ => mW cI cC cZ b σ')) [.ref (b 0), .int q1, .int q2].toArray s 0 0 (va_A (mW cI cC cZ b σ) sz)) (F0 m 108 ls [])) ∧ (∀ (x3 : Int32) (x4 : Int32) (x5 : Int32) (x6 : Int32) (σ0 : gS) (H : Heap) (locs : List Loc) (ls : Array Slot), R_M_alike t 4 [x3, x4, x5, x6] σ0 = some (r, σ') → va_P X vwCl (mW cI cC cZ b σ0) H → va_D A (mW cI cC cZ b σ0) → va_S A s.heap H locs → lv_has ls 9 [(0, .ref (b 0)), (3, .int x3), (4, .int x4), (5, .int x5), (6, .int x6)] → W p l e (headSpec w_M_alike { frames := 1, cells := 0, slots := 0, locals := 21 }).room s m [.ref (b 0), .int q1, .int q2].toArray below meth c H locs 0 0 (MQ below (gQi X vwCl (mW cI cC cZ b σ) sz (fun r' (_ : Unit) => r' = r) (fun _ => mW cI cC cZ b σ')) [.ref (b 0), .int q1, .int q2].toArray s 0 0 (va_A (mW cI cC cZ b σ) sz)) (F0 m 111 ls [])) ∧ (∀ (x3 : Int32) (x4 : Int32) (x5 : Int32) (x6 : Int32) (x7 : Int32) (x8 : Int32) (σ0 : gS) (H : Heap) (locs : List Loc) (ls : Array Slot), R_M_alike t 5 [x3, x4, x5, x6, x7, x8] σ0 = some (r, σ') → va_P X vwCl (mW cI cC cZ b σ0) H → va_D A (mW cI cC cZ b σ0) → va_S A s.heap H locs → lv_has ls 9 [(0, .ref (b 0)), (3, .int x3), (4, .int x4), (5, .int x5), (6, .int x6), (7, .int x7), (8, .int x8)] → W p l e (headSpec w_M_alike { frames := 1, cells := 0, slots := 0, locals := 21 }).room s m [.ref (b 0), .int q1, .int q2].toArray below meth c H locs 0 0 (MQ below (gQi X vwCl (mW cI cC cZ b σ) sz (fun r' (_ : Unit) => r' = r) (fun _ => mW cI cC cZ b σ')) [.ref (b 0), .int q1, .int q2].toArray s 0 0 (va_A (mW cI cC cZ b σ) sz)) (F0 m 224 ls [])) ∧ (∀ (x3 : Int32) (x4 : Int32) (x5 : Int32) (x6 : Int32) (σ0 : gS) (H : Heap) (locs : List Loc) (ls : Array Slot), R_M_alike t 6 [x3, x4, x5, x6] σ0 = some (r, σ') → va_P X vwCl (mW cI cC cZ b σ0) H → va_D A (mW cI cC cZ b σ0) → va_S A s.heap H locs → lv_has ls 9 [(0, .ref (b 0)), (3, .int x3), (4, .int x4), (5, .int x5), (6, .int x6)] → W p l e (headSpec w_M_alike { frames := 1, cells := 0, slots := 0, locals := 21 }).room s m [.ref (b 0), .int q1, .int q2].toArray below meth c H locs 0 0 (MQ below (gQi X vwCl (mW cI cC cZ b σ) sz (fun r' (_ : Unit) => r' = r) (fun _ => mW cI cC cZ b σ')) [.ref (b 0), .int q1, .int q2].toArray s 0 0 (va_A (mW cI cC cZ b σ) sz)) (F0 m 250 ls [])) ∧ (∀ (x3 : Int32) (σ0 : gS) (H : Heap) (locs : List Loc) (ls : Array Slot), R_M_alike t 7 [x3] σ0 = some (r, σ') → va_P X vwCl (mW cI cC cZ b σ0) H → va_D A (mW cI cC cZ b σ0) → va_S A s.heap H locs → lv_has ls 9 [(0, .ref (b 0)), (3, .int x3)] → W p l e (headSpec w_M_alike { frames := 1, cells := 0, slots := 0, locals := 21 }).room s m [.ref (b 0), .int q1, .int q2].toArray below meth c H locs 0 0 (MQ below (gQi X vwCl (mW cI cC cZ b σ) sz (fun r' (_ : Unit) => r' = r) (fun _ => mW cI cC cZ b σ')) [.ref (b 0), .int q1, .int q2].toArray s 0 0 (va_A (mW cI cC cZ b σ) sz)) (F0 m 256 ls [])) := by
    intro t
    induction t with
    | zero => exact ⟨fun _ _ _ _ _ _ hf => (by have hf : (none : Option (Int32 × gS)) = some (r, σ') := hf; cases hf), fun _ _ _ _ _ _ _ hf => (by have hf : (none : Option (Int32 × gS)) = some (r, σ') := hf; cases hf), fun _ _ _ _ _ hf => (by have hf : (none : Option (Int32 × gS)) = some (r, σ') := hf; cases hf), fun _ _ _ _ _ _ _ hf => (by have hf : (none : Option (Int32 × gS)) = some (r, σ') := hf; cases hf), fun _ _ _ _ _ _ _ _ hf => (by have hf : (none : Option (Int32 × gS)) = some (r, σ') := hf; cases hf), fun _ _ _ _ _ _ _ _ _ _ hf => (by have hf : (none : Option (Int32 × gS)) = some (r, σ') := hf; cases hf), fun _ _ _ _ _ _ _ _ hf => (by have hf : (none : Option (Int32 × gS)) = some (r, σ') := hf; cases hf), fun _ _ _ _ _ hf => (by have hf : (none : Option (Int32 × gS)) = some (r, σ') := hf; cases hf)⟩
    | succ t ih =>
      obtain ⟨ih0, ih1, ih2, ih3, ih4, ih5, ih6, ih7⟩ := ih
      refine ⟨?_, ?_, ?_, ?_, ?_, ?_, ?_, ?_⟩
      · intro x1 x2 σ0 H locs ls hf hP hD hS hl
        have hf : B_M_alike_0 (R_M_alike t) x1 x2 σ0 = some (r, σ') := hf
        unfold B_M_alike_0 at hf
        refine lv_aload_n hx hb d_M_alike_0 rfl (lv_at hl 0 rfl) ?_
        refine lv_iload_n hx hb d_M_alike_1 rfl (lv_at hl 1 rfl) ?_
        obtain ⟨y1, σ2, e3, hf⟩ := gBd_e hf
        refine g_wi (va_runV ⟨hx, hb, hml, hown, hts⟩ (m_M_object e3) (cwV 1 hts (gG4 (fun _ h => List.mem_cons_of_mem _ h) tb_86 tb_87 tb_88 tb_89 tc_M_object) rfl rfl rfl (by decide +kernel) ⟨Nat.le_of_ble_eq_true rfl, Nat.le_of_ble_eq_true rfl⟩) (g_preVW (q0 := 0) hN hK hP hD gm_0 rfl) rfl rfl hl.1 rfl (lv_room (Nat.le_of_ble_eq_true rfl)) d_M_alike_2 ⟨Nat.zero_le _, Nat.zero_le _⟩) hD hS hA (fun _ => mW_fst) (fun y1 _ H locs hu hP hD hS => ?_)
        subst hu
        refine lv_if_eq (tgt := 16) hx hb d_M_alike_5 rfl (fun c4 => ?_) (fun c4 => ?_)
        · skip
          rw [if_pos c4] at hf
          refine lv_iconst (v := 0) hx hb d_M_alike_16 (by decide) ?_
          obtain ⟨rfl, rfl⟩ := gRt_e hf
          exact g_zret hx hb hr hlocks rfl hAe hS () rfl hP d_M_alike_17
        rw [if_neg c4] at hf
        refine lv_aload_n hx hb d_M_alike_8 rfl (lv_at hl 0 rfl) ?_
        refine lv_iload_n hx hb d_M_alike_9 rfl (lv_at hl 2 rfl) ?_
        obtain ⟨y5, σ6, e7, hf⟩ := gBd_e hf
        refine g_wi (va_runV ⟨hx, hb, hml, hown, hts⟩ (m_M_object e7) (cwV 1 hts (gG4 (fun _ h => List.mem_cons_of_mem _ h) tb_86 tb_87 tb_88 tb_89 tc_M_object) rfl rfl rfl (by decide +kernel) ⟨Nat.le_of_ble_eq_true rfl, Nat.le_of_ble_eq_true rfl⟩) (g_preVW (q0 := 0) hN hK hP hD gm_0 rfl) rfl rfl hl.1 rfl (lv_room (Nat.le_of_ble_eq_true rfl)) d_M_alike_10 ⟨Nat.zero_le _, Nat.zero_le _⟩) hD hS hA (fun _ => mW_fst) (fun y5 _ H locs hu hP hD hS => ?_)
        subst hu
        refine lv_if_ne (tgt := 18) hx hb d_M_alike_13 rfl (fun c8 => ?_) (fun c8 => ?_)
        · skip
          rw [if_neg c8] at hf
          refine lv_iconst (v := 0) hx hb d_M_alike_18 (by decide) ?_
          refine lv_istore_n hx hb d_M_alike_19 rfl hl (by decide) rfl (fun ls hl => ?_)
          exact ih1 (x1) (x2) (0) σ6 _ _ _ hf hP hD hS (lv_sub hl [1, 2, 3, 0] rfl)
        rw [if_pos c8] at hf
        refine lv_iconst (v := 0) hx hb d_M_alike_16 (by decide) ?_
        obtain ⟨rfl, rfl⟩ := gRt_e hf
        exact g_zret hx hb hr hlocks rfl hAe hS () rfl hP d_M_alike_17
      · intro x1 x2 x3 σ0 H locs ls hf hP hD hS hl
        have hf : B_M_alike_1 (R_M_alike t) x1 x2 x3 σ0 = some (r, σ') := hf
        unfold B_M_alike_1 at hf
        refine lv_iload_n hx hb d_M_alike_20 rfl (lv_at hl 3 rfl) ?_
        refine lv_bipush (v := 16) hx hb d_M_alike_21 (by decide) ?_
        refine lv_icmp_ge (tgt := 46) hx hb d_M_alike_23 rfl (fun c9 => ?_) (fun c9 => ?_)
        · skip
          rw [if_pos c9] at hf
          refine lv_aload_n hx hb d_M_alike_46 rfl (lv_at hl 0 rfl) ?_
          refine va_get (D := X) (ci := 9) (C := R_M) (T := T_M) (N := 35) hx hb hts u_0 hown hK hP 0 gm_0 rfl 33 (by decide) k_0 (fun _ h9 => h9) rfl d_M_alike_47 ?_
          refine lv_iload_n hx hb d_M_alike_50 rfl (lv_at hl 1 rfl) ?_
          refine lv_iload_n hx hb d_M_alike_51 rfl (lv_at hl 2 rfl) ?_
          obtain ⟨σ10, h11, e12, hf⟩ := gSt_e hf
          refine va_iast hx hb hK hP hD hS 24 0 gm_24 rfl h11 d_M_alike_52 (fun H locs hP hD hS => ?_)
          rw [sm_24, ← e12] at hP hD
          refine lv_aload_n hx hb d_M_alike_53 rfl (lv_at hl 0 rfl) ?_
          refine va_get (D := X) (ci := 9) (C := R_M) (T := T_M) (N := 35) hx hb hts u_0 hown hK hP 0 gm_0 rfl 34 (by decide) k_1 (fun _ h9 => h9) rfl d_M_alike_54 ?_
          refine lv_iload_n hx hb d_M_alike_57 rfl (lv_at hl 2 rfl) ?_
          refine lv_iload_n hx hb d_M_alike_58 rfl (lv_at hl 1 rfl) ?_
          obtain ⟨σ13, h14, e15, hf⟩ := gSt_e hf
          refine va_iast hx hb hK hP hD hS 25 0 gm_25 rfl h14 d_M_alike_59 (fun H locs hP hD hS => ?_)
          rw [sm_25, ← e15] at hP hD
          refine lv_iconst (v := 0) hx hb d_M_alike_60 (by decide) ?_
          refine lv_istore_n hx hb d_M_alike_61 rfl hl (by decide) rfl (fun ls hl => ?_)
          exact ih2 (0) σ13 _ _ _ hf hP hD hS (lv_sub hl [1, 0] rfl)
        rw [if_neg c9] at hf
        refine lv_aload_n hx hb d_M_alike_26 rfl (lv_at hl 0 rfl) ?_
        refine va_get (D := X) (ci := 9) (C := R_M) (T := T_M) (N := 35) hx hb hts u_0 hown hK hP 0 gm_0 rfl 33 (by decide) k_0 (fun _ h9 => h9) rfl d_M_alike_27 ?_
        refine lv_iload_n hx hb d_M_alike_30 rfl (lv_at hl 3 rfl) ?_
        refine lv_iconst (v := (-1)) hx hb d_M_alike_31 (by decide) ?_
        obtain ⟨σ16, h17, e18, hf⟩ := gSt_e hf
        refine va_iast hx hb hK hP hD hS 24 0 gm_24 rfl h17 d_M_alike_32 (fun H locs hP hD hS => ?_)
        rw [sm_24, ← e18] at hP hD
        refine lv_aload_n hx hb d_M_alike_33 rfl (lv_at hl 0 rfl) ?_
        refine va_get (D := X) (ci := 9) (C := R_M) (T := T_M) (N := 35) hx hb hts u_0 hown hK hP 0 gm_0 rfl 34 (by decide) k_1 (fun _ h9 => h9) rfl d_M_alike_34 ?_
        refine lv_iload_n hx hb d_M_alike_37 rfl (lv_at hl 3 rfl) ?_
        refine lv_iconst (v := (-1)) hx hb d_M_alike_38 (by decide) ?_
        obtain ⟨σ19, h20, e21, hf⟩ := gSt_e hf
        refine va_iast hx hb hK hP hD hS 25 0 gm_25 rfl h20 d_M_alike_39 (fun H locs hP hD hS => ?_)
        rw [sm_25, ← e21] at hP hD
        refine lv_iinc (k := 3) (v := (x3 + 1)) hx hb d_M_alike_40 hl rfl (by rw [show Int32.ofInt (1) = (1 : Int32) by decide]) (by decide) rfl (fun ls hl => ?_)
        refine lv_goto (tgt := 20) hx hb d_M_alike_43 rfl ?_
        exact ih1 (x1) (x2) ((x3 + 1)) σ19 _ _ _ hf hP hD hS (lv_sub hl [1, 2, 3, 0] rfl)
      · intro x3 σ0 H locs ls hf hP hD hS hl
        have hf : B_M_alike_2 (R_M_alike t) x3 σ0 = some (r, σ') := hf
        unfold B_M_alike_2 at hf
        refine lv_iload_n hx hb d_M_alike_62 rfl (lv_at hl 1 rfl) ?_
        refine lv_bipush (v := 17) hx hb d_M_alike_63 (by decide) ?_
        refine lv_aload_n hx hb d_M_alike_65 rfl (lv_at hl 0 rfl) ?_
        refine va_get (D := X) (ci := 9) (C := R_M) (T := T_M) (N := 35) hx hb hts u_0 hown hK hP 0 gm_0 rfl 0 (by decide) k_2 (fun _ h9 => h9) rfl d_M_alike_66 ?_
        refine lv_imul hx hb d_M_alike_69 ?_
        refine lv_icmp_ge (tgt := 262) hx hb d_M_alike_70 rfl (fun c22 => ?_) (fun c22 => ?_)
        · skip
          rw [if_pos c22] at hf
          refine lv_iconst (v := 1) hx hb d_M_alike_262 (by decide) ?_
          obtain ⟨rfl, rfl⟩ := gRt_e hf
          exact g_zret hx hb hr hlocks rfl hAe hS () rfl hP d_M_alike_263
        rw [if_neg c22] at hf
        refine lv_iload_n hx hb d_M_alike_73 rfl (lv_at hl 1 rfl) ?_
        refine lv_aload_n hx hb d_M_alike_74 rfl (lv_at hl 0 rfl) ?_
        refine va_get (D := X) (ci := 9) (C := R_M) (T := T_M) (N := 35) hx hb hts u_0 hown hK hP 0 gm_0 rfl 0 (by decide) k_2 (fun _ h9 => h9) rfl d_M_alike_75 ?_
        obtain ⟨hz23, hf⟩ := gNe_e hf
        refine lv_irem hx hb d_M_alike_78 hz23 ?_
        refine lv_istore hx hb d_M_alike_79 hl (by decide) rfl (fun ls hl => ?_)
        refine lv_aload_n hx hb d_M_alike_81 rfl (lv_at hl 1 rfl) ?_
        refine va_get (D := X) (ci := 9) (C := R_M) (T := T_M) (N := 35) hx hb hts u_0 hown hK hP 0 gm_0 rfl 33 (by decide) k_0 (fun _ h9 => h9) rfl d_M_alike_82 ?_
        refine lv_iload hx hb d_M_alike_85 (lv_at hl 0 rfl) ?_
        obtain ⟨y24, h25, e26, hf⟩ := gLd_e hf
        refine va_iald hx hb hK hP 24 0 gm_24 rfl h25 d_M_alike_87 ?_
        rw [← e26]
        refine lv_istore hx hb d_M_alike_88 hl (by decide) rfl (fun ls hl => ?_)
        refine lv_iload hx hb d_M_alike_90 (lv_at hl 0 rfl) ?_
        refine lv_if_lt (tgt := 108) hx hb d_M_alike_92 rfl (fun c27 => ?_) (fun c27 => ?_)
        · skip
          rw [if_pos c27] at hf
          exact ih3 (x3) ((x3 - x3 / (σ0.1 0) * (σ0.1 0))) (y24) σ0 _ _ _ hf hP hD hS (lv_sub hl [2, 3, 1, 0] rfl)
        rw [if_neg c27] at hf
        refine lv_aload_n hx hb d_M_alike_95 rfl (lv_at hl 2 rfl) ?_
        refine lv_iload hx hb d_M_alike_96 (lv_at hl 1 rfl) ?_
        refine lv_iload hx hb d_M_alike_98 (lv_at hl 0 rfl) ?_
        cases hf
      · intro x3 x4 x5 σ0 H locs ls hf hP hD hS hl
        have hf : B_M_alike_3 (R_M_alike t) x3 x4 x5 σ0 = some (r, σ') := hf
        unfold B_M_alike_3 at hf
        refine lv_iconst (v := 0) hx hb d_M_alike_108 (by decide) ?_
        refine lv_istore hx hb d_M_alike_109 hl (by decide) rfl (fun ls hl => ?_)
        exact ih4 (x3) (x4) (x5) (0) σ0 _ _ _ hf hP hD hS (lv_sub hl [1, 2, 3, 4, 0] rfl)
      · intro x3 x4 x5 x6 σ0 H locs ls hf hP hD hS hl
        have hf : B_M_alike_4 (R_M_alike t) x3 x4 x5 x6 σ0 = some (r, σ') := hf
        unfold B_M_alike_4 at hf
        refine lv_iload hx hb d_M_alike_111 (lv_at hl 3 rfl) ?_
        refine lv_if_lt (tgt := 256) hx hb d_M_alike_113 rfl (fun c31 => ?_) (fun c31 => ?_)
        · skip
          rw [if_pos c31] at hf
          exact ih7 (x3) σ0 _ _ _ hf hP hD hS (lv_sub hl [0, 1] rfl)
        rw [if_neg c31] at hf
        refine lv_aload_n hx hb d_M_alike_116 rfl (lv_at hl 0 rfl) ?_
        refine va_get (D := X) (ci := 9) (C := R_M) (T := T_M) (N := 35) hx hb hts u_0 hown hK hP 0 gm_0 rfl 1 (by decide) k_3 (fun _ h9 => h9) rfl d_M_alike_117 ?_
        refine lv_iload hx hb d_M_alike_120 (lv_at hl 2 rfl) ?_
        obtain ⟨y32, h33, e34, hf⟩ := gLd_e hf
        refine va_iald hx hb hK hP 1 0 gm_1 rfl h33 d_M_alike_122 ?_
        rw [← e34]
        refine lv_iconst (v := 2) hx hb d_M_alike_123 (by decide) ?_
        refine lv_icmp_eq (tgt := 256) hx hb d_M_alike_124 rfl (fun c35 => ?_) (fun c35 => ?_)
        · skip
          rw [if_pos c35] at hf
          exact ih7 (x3) σ0 _ _ _ hf hP hD hS (lv_sub hl [0, 1] rfl)
        rw [if_neg c35] at hf
        refine lv_iload hx hb d_M_alike_127 (lv_at hl 4 rfl) ?_
        refine lv_aload_n hx hb d_M_alike_129 rfl (lv_at hl 0 rfl) ?_
        refine va_get (D := X) (ci := 9) (C := R_M) (T := T_M) (N := 35) hx hb hts u_0 hown hK hP 0 gm_0 rfl 2 (by decide) k_4 (fun _ h9 => h9) rfl d_M_alike_130 ?_
        refine lv_iload hx hb d_M_alike_133 (lv_at hl 2 rfl) ?_
        obtain ⟨y36, h37, e38, hf⟩ := gLd_e hf
        refine va_iald hx hb hK hP 2 0 gm_2 rfl h37 d_M_alike_135 ?_
        rw [← e38]
        refine lv_icmp_ge (tgt := 256) hx hb d_M_alike_136 rfl (fun c39 => ?_) (fun c39 => ?_)
        · skip
          rw [if_pos c39] at hf
          exact ih7 (x3) σ0 _ _ _ hf hP hD hS (lv_sub hl [0, 1] rfl)
        rw [if_neg c39] at hf
        refine lv_aload_n hx hb d_M_alike_139 rfl (lv_at hl 0 rfl) ?_
        refine va_get (D := X) (ci := 9) (C := R_M) (T := T_M) (N := 35) hx hb hts u_0 hown hK hP 0 gm_0 rfl 3 (by decide) k_5 (fun _ h9 => h9) rfl d_M_alike_140 ?_
        refine lv_iconst (v := 4) hx hb d_M_alike_143 (by decide) ?_
        refine lv_iload hx hb d_M_alike_144 (lv_at hl 2 rfl) ?_
        refine lv_imul hx hb d_M_alike_146 ?_
        refine lv_iload hx hb d_M_alike_147 (lv_at hl 4 rfl) ?_
        refine lv_iadd hx hb d_M_alike_149 ?_
        obtain ⟨y40, h41, e42, hf⟩ := gLd_e hf
        refine va_iald hx hb hK hP 3 0 gm_3 rfl h41 d_M_alike_150 ?_
        rw [← e42]
        refine lv_iconst (v := 2) hx hb d_M_alike_151 (by decide) ?_
        refine lv_icmp_eq (tgt := 158) hx hb d_M_alike_152 rfl (fun c43 => ?_) (fun c43 => ?_)
        · skip
          rw [if_pos c43] at hf
          refine lv_aload_n hx hb d_M_alike_158 rfl (lv_at hl 0 rfl) ?_
          refine va_get (D := X) (ci := 9) (C := R_M) (T := T_M) (N := 35) hx hb hts u_0 hown hK hP 0 gm_0 rfl 4 (by decide) k_6 (fun _ h9 => h9) rfl d_M_alike_159 ?_
          refine lv_iconst (v := 4) hx hb d_M_alike_162 (by decide) ?_
          refine lv_iload hx hb d_M_alike_163 (lv_at hl 2 rfl) ?_
          refine lv_imul hx hb d_M_alike_165 ?_
          refine lv_iload hx hb d_M_alike_166 (lv_at hl 4 rfl) ?_
          refine lv_iadd hx hb d_M_alike_168 ?_
          obtain ⟨y44, h45, e46, hf⟩ := gLd_e hf
          refine va_iald hx hb hK hP 4 0 gm_4 rfl h45 d_M_alike_169 ?_
          rw [← e46]
          refine lv_istore hx hb d_M_alike_170 hl (by decide) rfl (fun ls hl => ?_)
          refine lv_aload_n hx hb d_M_alike_172 rfl (lv_at hl 1 rfl) ?_
          refine va_get (D := X) (ci := 9) (C := R_M) (T := T_M) (N := 35) hx hb hts u_0 hown hK hP 0 gm_0 rfl 4 (by decide) k_6 (fun _ h9 => h9) rfl d_M_alike_173 ?_
          refine lv_iconst (v := 4) hx hb d_M_alike_176 (by decide) ?_
          refine lv_iload hx hb d_M_alike_177 (lv_at hl 4 rfl) ?_
          refine lv_imul hx hb d_M_alike_179 ?_
          refine lv_iload hx hb d_M_alike_180 (lv_at hl 5 rfl) ?_
          refine lv_iadd hx hb d_M_alike_182 ?_
          obtain ⟨y47, h48, e49, hf⟩ := gLd_e hf
          refine va_iald hx hb hK hP 4 0 gm_4 rfl h48 d_M_alike_183 ?_
          rw [← e49]
          refine lv_istore hx hb d_M_alike_184 hl (by decide) rfl (fun ls hl => ?_)
          refine lv_aload_n hx hb d_M_alike_186 rfl (lv_at hl 2 rfl) ?_
          refine va_get (D := X) (ci := 9) (C := R_M) (T := T_M) (N := 35) hx hb hts u_0 hown hK hP 0 gm_0 rfl 33 (by decide) k_0 (fun _ h9 => h9) rfl d_M_alike_187 ?_
          refine lv_iload hx hb d_M_alike_190 (lv_at hl 1 rfl) ?_
          obtain ⟨y50, h51, e52, hf⟩ := gLd_e hf
          refine va_iald hx hb hK hP 24 0 gm_24 rfl h51 d_M_alike_192 ?_
          rw [← e52]
          refine lv_if_ge (tgt := 224) hx hb d_M_alike_193 rfl (fun c53 => ?_) (fun c53 => ?_)
          · skip
            rw [if_pos c53] at hf
            exact ih5 (x3) (x4) (x5) (x6) (y44) (y47) σ0 _ _ _ hf hP hD hS (lv_sub hl [2, 3, 4, 5, 6, 1, 0] rfl)
          rw [if_neg c53] at hf
          refine lv_aload_n hx hb d_M_alike_196 rfl (lv_at hl 2 rfl) ?_
          refine va_get (D := X) (ci := 9) (C := R_M) (T := T_M) (N := 35) hx hb hts u_0 hown hK hP 0 gm_0 rfl 34 (by decide) k_1 (fun _ h9 => h9) rfl d_M_alike_197 ?_
          refine lv_iload hx hb d_M_alike_200 (lv_at hl 0 rfl) ?_
          obtain ⟨y54, h55, e56, hf⟩ := gLd_e hf
          refine va_iald hx hb hK hP 25 0 gm_25 rfl h55 d_M_alike_202 ?_
          rw [← e56]
          refine lv_if_ge (tgt := 224) hx hb d_M_alike_203 rfl (fun c57 => ?_) (fun c57 => ?_)
          · skip
            rw [if_pos c57] at hf
            exact ih5 (x3) (x4) (x5) (x6) (y44) (y47) σ0 _ _ _ hf hP hD hS (lv_sub hl [2, 3, 4, 5, 6, 1, 0] rfl)
          rw [if_neg c57] at hf
          refine lv_aload_n hx hb d_M_alike_206 rfl (lv_at hl 2 rfl) ?_
          refine va_get (D := X) (ci := 9) (C := R_M) (T := T_M) (N := 35) hx hb hts u_0 hown hK hP 0 gm_0 rfl 33 (by decide) k_0 (fun _ h9 => h9) rfl d_M_alike_207 ?_
          refine lv_iload hx hb d_M_alike_210 (lv_at hl 1 rfl) ?_
          refine lv_iload hx hb d_M_alike_212 (lv_at hl 0 rfl) ?_
          obtain ⟨σ58, h59, e60, hf⟩ := gSt_e hf
          refine va_iast hx hb hK hP hD hS 24 0 gm_24 rfl h59 d_M_alike_214 (fun H locs hP hD hS => ?_)
          rw [sm_24, ← e60] at hP hD
          refine lv_aload_n hx hb d_M_alike_215 rfl (lv_at hl 2 rfl) ?_
          refine va_get (D := X) (ci := 9) (C := R_M) (T := T_M) (N := 35) hx hb hts u_0 hown hK hP 0 gm_0 rfl 34 (by decide) k_1 (fun _ h9 => h9) rfl d_M_alike_216 ?_
          refine lv_iload hx hb d_M_alike_219 (lv_at hl 0 rfl) ?_
          refine lv_iload hx hb d_M_alike_221 (lv_at hl 1 rfl) ?_
          obtain ⟨σ61, h62, e63, hf⟩ := gSt_e hf
          refine va_iast hx hb hK hP hD hS 25 0 gm_25 rfl h62 d_M_alike_223 (fun H locs hP hD hS => ?_)
          rw [sm_25, ← e63] at hP hD
          exact ih5 (x3) (x4) (x5) (x6) (y44) (y47) σ61 _ _ _ hf hP hD hS (lv_sub hl [2, 3, 4, 5, 6, 1, 0] rfl)
        rw [if_neg c43] at hf
        refine lv_goto (tgt := 250) hx hb d_M_alike_155 rfl ?_
        exact ih6 (x3) (x4) (x5) (x6) σ0 _ _ _ hf hP hD hS (lv_sub hl [0, 1, 2, 3, 4] rfl)
      · intro x3 x4 x5 x6 x7 x8 σ0 H locs ls hf hP hD hS hl
        have hf : B_M_alike_5 (R_M_alike t) x3 x4 x5 x6 x7 x8 σ0 = some (r, σ') := hf
        unfold B_M_alike_5 at hf
        refine lv_aload_n hx hb d_M_alike_224 rfl (lv_at hl 0 rfl) ?_
        refine va_get (D := X) (ci := 9) (C := R_M) (T := T_M) (N := 35) hx hb hts u_0 hown hK hP 0 gm_0 rfl 33 (by decide) k_0 (fun _ h9 => h9) rfl d_M_alike_225 ?_
        refine lv_iload hx hb d_M_alike_228 (lv_at hl 5 rfl) ?_
        obtain ⟨y64, h65, e66, hf⟩ := gLd_e hf
        refine va_iald hx hb hK hP 24 0 gm_24 rfl h65 d_M_alike_230 ?_
        rw [← e66]
        refine lv_iload hx hb d_M_alike_231 (lv_at hl 6 rfl) ?_
        refine lv_icmp_ne (tgt := 248) hx hb d_M_alike_233 rfl (fun c67 => ?_) (fun c67 => ?_)
        · skip
          rw [if_neg c67] at hf
          refine lv_iconst (v := 0) hx hb d_M_alike_248 (by decide) ?_
          obtain ⟨rfl, rfl⟩ := gRt_e hf
          exact g_zret hx hb hr hlocks rfl hAe hS () rfl hP d_M_alike_249
        rw [if_pos c67] at hf
        refine lv_aload_n hx hb d_M_alike_236 rfl (lv_at hl 0 rfl) ?_
        refine va_get (D := X) (ci := 9) (C := R_M) (T := T_M) (N := 35) hx hb hts u_0 hown hK hP 0 gm_0 rfl 34 (by decide) k_1 (fun _ h9 => h9) rfl d_M_alike_237 ?_
        refine lv_iload hx hb d_M_alike_240 (lv_at hl 6 rfl) ?_
        obtain ⟨y68, h69, e70, hf⟩ := gLd_e hf
        refine va_iald hx hb hK hP 25 0 gm_25 rfl h69 d_M_alike_242 ?_
        rw [← e70]
        refine lv_iload hx hb d_M_alike_243 (lv_at hl 5 rfl) ?_
        refine lv_icmp_eq (tgt := 250) hx hb d_M_alike_245 rfl (fun c71 => ?_) (fun c71 => ?_)
        · skip
          rw [if_pos c71] at hf
          exact ih6 (x3) (x4) (x5) (x6) σ0 _ _ _ hf hP hD hS (lv_sub hl [0, 1, 2, 3, 4] rfl)
        rw [if_neg c71] at hf
        refine lv_iconst (v := 0) hx hb d_M_alike_248 (by decide) ?_
        obtain ⟨rfl, rfl⟩ := gRt_e hf
        exact g_zret hx hb hr hlocks rfl hAe hS () rfl hP d_M_alike_249
      · intro x3 x4 x5 x6 σ0 H locs ls hf hP hD hS hl
        have hf : B_M_alike_6 (R_M_alike t) x3 x4 x5 x6 σ0 = some (r, σ') := hf
        unfold B_M_alike_6 at hf
        refine lv_iinc (k := 4) (v := (x6 + 1)) hx hb d_M_alike_250 hl rfl (by rw [show Int32.ofInt (1) = (1 : Int32) by decide]) (by decide) rfl (fun ls hl => ?_)
        refine lv_goto (tgt := 111) hx hb d_M_alike_253 rfl ?_
        exact ih4 (x3) (x4) (x5) ((x6 + 1)) σ0 _ _ _ hf hP hD hS (lv_sub hl [1, 2, 3, 4, 0] rfl)
      · intro x3 σ0 H locs ls hf hP hD hS hl
        have hf : B_M_alike_7 (R_M_alike t) x3 σ0 = some (r, σ') := hf
        unfold B_M_alike_7 at hf
        refine lv_iinc (k := 1) (v := (x3 + 1)) hx hb d_M_alike_256 hl rfl (by rw [show Int32.ofInt (1) = (1 : Int32) by decide]) (by decide) rfl (fun ls hl => ?_)
        refine lv_goto (tgt := 62) hx hb d_M_alike_259 rfl ?_
        exact ih2 ((x3 + 1)) σ0 _ _ _ hf hP hD hS (lv_sub hl [1, 0] rfl)
  exact (key gFuel).1 q1 q2 σ _ _ _ hf hP hD hS hl

def B_M_shared_0 (rec : Nat → List Int32 → gS → Option (Int32 × gS)) (x1 : Int32) (σ0 : gS) : Option (Int32 × gS) := gBd (f_M_object σ0 x1) (fun y1 σ2 => if y1 = 0 then (some ((-1), σ2)) else (none))
def B_M_shared_1 (rec : Nat → List Int32 → gS → Option (Int32 × gS)) (x2 : Int32) (x3 : Int32) (σ0 : gS) : Option (Int32 × gS) := if 16 ≤ x3 then (some (x2, σ0)) else (gLd σ0 20 16 x3 (fun y9 => if y9 < 2 then (rec 2 [x2, x3] σ0) else (rec 2 [(x2 + 1), x3] σ0)))
def B_M_shared_2 (rec : Nat → List Int32 → gS → Option (Int32 × gS)) (x2 : Int32) (x3 : Int32) (σ0 : gS) : Option (Int32 × gS) := rec 1 [x2, (x3 + 1)] σ0
def S_M_shared (rec : Nat → List Int32 → gS → Option (Int32 × gS)) (k : Nat) (l : List Int32) (σ0 : gS) : Option (Int32 × gS) := match k, l with
  | 0, [x1] => B_M_shared_0 rec x1 σ0
  | 1, [x2, x3] => B_M_shared_1 rec x2 x3 σ0
  | 2, [x2, x3] => B_M_shared_2 rec x2 x3 σ0
  | _, _ => none
def R_M_shared : Nat → Nat → List Int32 → gS → Option (Int32 × gS)
  | 0 => fun _ _ _ => none
  | t + 1 => fun k l σ0 => S_M_shared (R_M_shared t) k l σ0
def f_M_shared (σ : gS) (x1 : Int32) : Option (Int32 × gS) := R_M_shared gFuel 0 [x1] σ
set_option maxHeartbeats 4000000 in
set_option maxRecDepth 100000 in
theorem m_M_shared {l : Launch} {X : va_G} {cI cC cZ : ClassId} {b : Nat → Nat} {σ σ' : gS} {r : Int32} {q1 : Int32} (hf : f_M_shared σ q1 = some (r, σ')) {sz : Nat} : Met l y_M_shared w_M_shared { frames := 1, cells := 0, slots := 0, locals := 21 } (gPc X vwCl (gT cI cC cZ) (mW cI cC cZ b σ) sz [.ref (b 0), .int q1]) (gQi X vwCl (mW cI cC cZ b σ) sz (fun r' (_ : Unit) => r' = r) (fun _ => mW cI cC cZ b σ')) 0 0 (va_A (mW cI cC cZ b σ) sz) := by
  refine g_met (cc := b_M_shared) (maxL := 4) (ret := (some .int)) (by decide) rfl (Nat.le_of_ble_eq_true rfl) ?_
  intro p e s m below meth c A ls hx hb hr hml hown hts hlocks hnm hsz hAe hA hP hK hD hS hl hN
  have hown : s.vm.findClass R_M = some m.cls := hown
  have u_0 : ∀ w ∈ u_ws R_M T_M 35, w ∈ w_M_shared := fun w h => List.mem_cons_of_mem _ (tu_M w h)
  have k_0 := hts (.fieldLink R_M 69 "GraphPagesModel" "refs" "[I") (List.mem_cons_of_mem _ tb_97)
  unfold f_M_shared at hf
  have key : ∀ t : Nat, (∀ (x1 : Int32) (σ0 : gS) (H : Heap) (locs : List Loc) (ls : Array Slot), R_M_shared t 0 [x1] σ0 = some (r, σ') → va_P X vwCl (mW cI cC cZ b σ0) H → va_D A (mW cI cC cZ b σ0) → va_S A s.heap H locs → lv_has ls 4 [(0, .ref (b 0)), (1, .int x1)] → W p l e (headSpec w_M_shared { frames := 1, cells := 0, slots := 0, locals := 21 }).room s m [.ref (b 0), .int q1].toArray below meth c H locs 0 0 (MQ below (gQi X vwCl (mW cI cC cZ b σ) sz (fun r' (_ : Unit) => r' = r) (fun _ => mW cI cC cZ b σ')) [.ref (b 0), .int q1].toArray s 0 0 (va_A (mW cI cC cZ b σ) sz)) (F0 m 0 ls [])) ∧ (∀ (x2 : Int32) (x3 : Int32) (σ0 : gS) (H : Heap) (locs : List Loc) (ls : Array Slot), R_M_shared t 1 [x2, x3] σ0 = some (r, σ') → va_P X vwCl (mW cI cC cZ b σ0) H → va_D A (mW cI cC cZ b σ0) → va_S A s.heap H locs → lv_has ls 4 [(0, .ref (b 0)), (2, .int x2), (3, .int x3)] → W p l e (headSpec w_M_shared { frames := 1, cells := 0, slots := 0, locals := 21 }).room s m [.ref (b 0), .int q1].toArray below meth c H locs 0 0 (MQ below (gQi X vwCl (mW cI cC cZ b σ) sz (fun r' (_ : Unit) => r' = r) (fun _ => mW cI cC cZ b σ')) [.ref (b 0), .int q1].toArray s 0 0 (va_A (mW cI cC cZ b σ) sz)) (F0 m 19 ls [])) ∧ (∀ (x2 : Int32) (x3 : Int32) (σ0 : gS) (H : Heap) (locs : List Loc) (ls : Array Slot), R_M_shared t 2 [x2, x3] σ0 = some (r, σ') → va_P X vwCl (mW cI cC cZ b σ0) H → va_D A (mW cI cC cZ b σ0) → va_S A s.heap H locs → lv_has ls 4 [(0, .ref (b 0)), (2, .int x2), (3, .int x3)] → W p l e (headSpec w_M_shared { frames := 1, cells := 0, slots := 0, locals := 21 }).room s m [.ref (b 0), .int q1].toArray below meth c H locs 0 0 (MQ below (gQi X vwCl (mW cI cC cZ b σ) sz (fun r' (_ : Unit) => r' = r) (fun _ => mW cI cC cZ b σ')) [.ref (b 0), .int q1].toArray s 0 0 (va_A (mW cI cC cZ b σ) sz)) (F0 m 38 ls [])) := by
    intro t
    induction t with
    | zero => exact ⟨fun _ _ _ _ _ hf => (by have hf : (none : Option (Int32 × gS)) = some (r, σ') := hf; cases hf), fun _ _ _ _ _ _ hf => (by have hf : (none : Option (Int32 × gS)) = some (r, σ') := hf; cases hf), fun _ _ _ _ _ _ hf => (by have hf : (none : Option (Int32 × gS)) = some (r, σ') := hf; cases hf)⟩
    | succ t ih =>
      obtain ⟨ih0, ih1, ih2⟩ := ih
      refine ⟨?_, ?_, ?_⟩
      · intro x1 σ0 H locs ls hf hP hD hS hl
        have hf : B_M_shared_0 (R_M_shared t) x1 σ0 = some (r, σ') := hf
        unfold B_M_shared_0 at hf
        refine lv_aload_n hx hb d_M_shared_0 rfl (lv_at hl 0 rfl) ?_
        refine lv_iload_n hx hb d_M_shared_1 rfl (lv_at hl 1 rfl) ?_
        obtain ⟨y1, σ2, e3, hf⟩ := gBd_e hf
        refine g_wi (va_runV ⟨hx, hb, hml, hown, hts⟩ (m_M_object e3) (cwV 1 hts (gG4 (fun _ h => List.mem_cons_of_mem _ h) tb_86 tb_87 tb_88 tb_89 tc_M_object) rfl rfl rfl (by decide +kernel) ⟨Nat.le_of_ble_eq_true rfl, Nat.le_of_ble_eq_true rfl⟩) (g_preVW (q0 := 0) hN hK hP hD gm_0 rfl) rfl rfl hl.1 rfl (lv_room (Nat.le_of_ble_eq_true rfl)) d_M_shared_2 ⟨Nat.zero_le _, Nat.zero_le _⟩) hD hS hA (fun _ => mW_fst) (fun y1 _ H locs hu hP hD hS => ?_)
        subst hu
        refine lv_if_ne (tgt := 10) hx hb d_M_shared_5 rfl (fun c4 => ?_) (fun c4 => ?_)
        · skip
          rw [if_neg c4] at hf
          refine lv_aload_n hx hb d_M_shared_10 rfl (lv_at hl 0 rfl) ?_
          refine lv_iload_n hx hb d_M_shared_11 rfl (lv_at hl 1 rfl) ?_
          cases hf
        rw [if_pos c4] at hf
        refine lv_iconst (v := (-1)) hx hb d_M_shared_8 (by decide) ?_
        obtain ⟨rfl, rfl⟩ := gRt_e hf
        exact g_zret hx hb hr hlocks rfl hAe hS () rfl hP d_M_shared_9
      · intro x2 x3 σ0 H locs ls hf hP hD hS hl
        have hf : B_M_shared_1 (R_M_shared t) x2 x3 σ0 = some (r, σ') := hf
        unfold B_M_shared_1 at hf
        refine lv_iload_n hx hb d_M_shared_19 rfl (lv_at hl 2 rfl) ?_
        refine lv_bipush (v := 16) hx hb d_M_shared_20 (by decide) ?_
        refine lv_icmp_ge (tgt := 44) hx hb d_M_shared_22 rfl (fun c8 => ?_) (fun c8 => ?_)
        · skip
          rw [if_pos c8] at hf
          refine lv_iload_n hx hb d_M_shared_44 rfl (lv_at hl 1 rfl) ?_
          obtain ⟨rfl, rfl⟩ := gRt_e hf
          exact g_zret hx hb hr hlocks rfl hAe hS () rfl hP d_M_shared_45
        rw [if_neg c8] at hf
        refine lv_aload_n hx hb d_M_shared_25 rfl (lv_at hl 0 rfl) ?_
        refine va_get (D := X) (ci := 9) (C := R_M) (T := T_M) (N := 35) hx hb hts u_0 hown hK hP 0 gm_0 rfl 27 (by decide) k_0 (fun _ h9 => h9) rfl d_M_shared_26 ?_
        refine lv_iload_n hx hb d_M_shared_29 rfl (lv_at hl 2 rfl) ?_
        obtain ⟨y9, h10, e11, hf⟩ := gLd_e hf
        refine va_iald hx hb hK hP 20 0 gm_20 rfl h10 d_M_shared_30 ?_
        rw [← e11]
        refine lv_iconst (v := 2) hx hb d_M_shared_31 (by decide) ?_
        refine lv_icmp_lt (tgt := 38) hx hb d_M_shared_32 rfl (fun c12 => ?_) (fun c12 => ?_)
        · skip
          rw [if_pos c12] at hf
          exact ih2 (x2) (x3) σ0 _ _ _ hf hP hD hS (lv_sub hl [0, 1, 2] rfl)
        rw [if_neg c12] at hf
        refine lv_iinc (k := 1) (v := (x2 + 1)) hx hb d_M_shared_35 hl rfl (by rw [show Int32.ofInt (1) = (1 : Int32) by decide]) (by decide) rfl (fun ls hl => ?_)
        exact ih2 ((x2 + 1)) (x3) σ0 _ _ _ hf hP hD hS (lv_sub hl [1, 0, 2] rfl)
      · intro x2 x3 σ0 H locs ls hf hP hD hS hl
        have hf : B_M_shared_2 (R_M_shared t) x2 x3 σ0 = some (r, σ') := hf
        unfold B_M_shared_2 at hf
        refine lv_iinc (k := 2) (v := (x3 + 1)) hx hb d_M_shared_38 hl rfl (by rw [show Int32.ofInt (1) = (1 : Int32) by decide]) (by decide) rfl (fun ls hl => ?_)
        refine lv_goto (tgt := 19) hx hb d_M_shared_41 rfl ?_
        exact ih1 (x2) ((x3 + 1)) σ0 _ _ _ hf hP hD hS (lv_sub hl [1, 2, 0] rfl)
  exact (key gFuel).1 q1 σ _ _ _ hf hP hD hS hl

def B_M_encode_0 (rec : Nat → List Int32 → gS → Option (Int32 × gS)) (x1 : Int32) (σ0 : gS) : Option (Int32 × gS) := gBd (f_M_object σ0 x1) (fun y1 σ2 => if y1 = 0 then (some ((-1), σ2)) else (none))
def B_M_encode_1 (rec : Nat → List Int32 → gS → Option (Int32 × gS)) (x2 : Int32) (σ0 : gS) : Option (Int32 × gS) := if (σ0.1 8) < x2 then (none) else (gLd σ0 22 17 x2 (fun y12 => none))
def S_M_encode (rec : Nat → List Int32 → gS → Option (Int32 × gS)) (k : Nat) (l : List Int32) (σ0 : gS) : Option (Int32 × gS) := match k, l with
  | 0, [x1] => B_M_encode_0 rec x1 σ0
  | 1, [x2] => B_M_encode_1 rec x2 σ0
  | _, _ => none
def R_M_encode : Nat → Nat → List Int32 → gS → Option (Int32 × gS)
  | 0 => fun _ _ _ => none
  | t + 1 => fun k l σ0 => S_M_encode (R_M_encode t) k l σ0
def f_M_encode (σ : gS) (x1 : Int32) : Option (Int32 × gS) := R_M_encode gFuel 0 [x1] σ
set_option maxHeartbeats 4000000 in
set_option maxRecDepth 100000 in
theorem m_M_encode {l : Launch} {X : va_G} {cI cC cZ : ClassId} {b : Nat → Nat} {σ σ' : gS} {r : Int32} {q1 : Int32} (hf : f_M_encode σ q1 = some (r, σ')) {sz : Nat} : Met l y_M_encode w_M_encode { frames := 1, cells := 0, slots := 0, locals := 21 } (gPc X vwCl (gT cI cC cZ) (mW cI cC cZ b σ) sz [.ref (b 0), .int q1]) (gQi X vwCl (mW cI cC cZ b σ) sz (fun r' (_ : Unit) => r' = r) (fun _ => mW cI cC cZ b σ')) 0 0 (va_A (mW cI cC cZ b σ) sz) := by
  refine g_met (cc := b_M_encode) (maxL := 3) (ret := (some .int)) (by decide) rfl (Nat.le_of_ble_eq_true rfl) ?_
  intro p e s m below meth c A ls hx hb hr hml hown hts hlocks hnm hsz hAe hA hP hK hD hS hl hN
  have hown : s.vm.findClass R_M = some m.cls := hown
  have u_0 : ∀ w ∈ u_ws R_M T_M 35, w ∈ w_M_encode := fun w h => List.mem_cons_of_mem _ (tu_M w h)
  have k_0 := hts (.fieldLink R_M 128 "GraphPagesModel" "given" "I") (List.mem_cons_of_mem _ tb_98)
  have k_1 := hts (.fieldLink R_M 75 "GraphPagesModel" "order" "[I") (List.mem_cons_of_mem _ tb_99)
  unfold f_M_encode at hf
  have key : ∀ t : Nat, (∀ (x1 : Int32) (σ0 : gS) (H : Heap) (locs : List Loc) (ls : Array Slot), R_M_encode t 0 [x1] σ0 = some (r, σ') → va_P X vwCl (mW cI cC cZ b σ0) H → va_D A (mW cI cC cZ b σ0) → va_S A s.heap H locs → lv_has ls 3 [(0, .ref (b 0)), (1, .int x1)] → W p l e (headSpec w_M_encode { frames := 1, cells := 0, slots := 0, locals := 21 }).room s m [.ref (b 0), .int q1].toArray below meth c H locs 0 0 (MQ below (gQi X vwCl (mW cI cC cZ b σ) sz (fun r' (_ : Unit) => r' = r) (fun _ => mW cI cC cZ b σ')) [.ref (b 0), .int q1].toArray s 0 0 (va_A (mW cI cC cZ b σ) sz)) (F0 m 0 ls [])) ∧ (∀ (x2 : Int32) (σ0 : gS) (H : Heap) (locs : List Loc) (ls : Array Slot), R_M_encode t 1 [x2] σ0 = some (r, σ') → va_P X vwCl (mW cI cC cZ b σ0) H → va_D A (mW cI cC cZ b σ0) → va_S A s.heap H locs → lv_has ls 3 [(0, .ref (b 0)), (2, .int x2)] → W p l e (headSpec w_M_encode { frames := 1, cells := 0, slots := 0, locals := 21 }).room s m [.ref (b 0), .int q1].toArray below meth c H locs 0 0 (MQ below (gQi X vwCl (mW cI cC cZ b σ) sz (fun r' (_ : Unit) => r' = r) (fun _ => mW cI cC cZ b σ')) [.ref (b 0), .int q1].toArray s 0 0 (va_A (mW cI cC cZ b σ) sz)) (F0 m 77 ls [])) := by
    intro t
    induction t with
    | zero => exact ⟨fun _ _ _ _ _ hf => (by have hf : (none : Option (Int32 × gS)) = some (r, σ') := hf; cases hf), fun _ _ _ _ _ hf => (by have hf : (none : Option (Int32 × gS)) = some (r, σ') := hf; cases hf)⟩
    | succ t ih =>
      obtain ⟨ih0, ih1⟩ := ih
      refine ⟨?_, ?_⟩
      · intro x1 σ0 H locs ls hf hP hD hS hl
        have hf : B_M_encode_0 (R_M_encode t) x1 σ0 = some (r, σ') := hf
        unfold B_M_encode_0 at hf
        refine lv_aload_n hx hb d_M_encode_0 rfl (lv_at hl 0 rfl) ?_
        refine lv_iload_n hx hb d_M_encode_1 rfl (lv_at hl 1 rfl) ?_
        obtain ⟨y1, σ2, e3, hf⟩ := gBd_e hf
        refine g_wi (va_runV ⟨hx, hb, hml, hown, hts⟩ (m_M_object e3) (cwV 1 hts (gG4 (fun _ h => List.mem_cons_of_mem _ h) tb_86 tb_87 tb_88 tb_89 tc_M_object) rfl rfl rfl (by decide +kernel) ⟨Nat.le_of_ble_eq_true rfl, Nat.le_of_ble_eq_true rfl⟩) (g_preVW (q0 := 0) hN hK hP hD gm_0 rfl) rfl rfl hl.1 rfl (lv_room (Nat.le_of_ble_eq_true rfl)) d_M_encode_2 ⟨Nat.zero_le _, Nat.zero_le _⟩) hD hS hA (fun _ => mW_fst) (fun y1 _ H locs hu hP hD hS => ?_)
        subst hu
        refine lv_if_ne (tgt := 10) hx hb d_M_encode_5 rfl (fun c4 => ?_) (fun c4 => ?_)
        · skip
          rw [if_neg c4] at hf
          refine lv_aload_n hx hb d_M_encode_10 rfl (lv_at hl 0 rfl) ?_
          refine lv_iload_n hx hb d_M_encode_11 rfl (lv_at hl 1 rfl) ?_
          cases hf
        rw [if_pos c4] at hf
        refine lv_iconst (v := (-1)) hx hb d_M_encode_8 (by decide) ?_
        obtain ⟨rfl, rfl⟩ := gRt_e hf
        exact g_zret hx hb hr hlocks rfl hAe hS () rfl hP d_M_encode_9
      · intro x2 σ0 H locs ls hf hP hD hS hl
        have hf : B_M_encode_1 (R_M_encode t) x2 σ0 = some (r, σ') := hf
        unfold B_M_encode_1 at hf
        refine lv_iload_n hx hb d_M_encode_77 rfl (lv_at hl 1 rfl) ?_
        refine lv_aload_n hx hb d_M_encode_78 rfl (lv_at hl 0 rfl) ?_
        refine va_get (D := X) (ci := 9) (C := R_M) (T := T_M) (N := 35) hx hb hts u_0 hown hK hP 0 gm_0 rfl 30 (by decide) k_0 (fun _ h9 => h9) rfl d_M_encode_79 ?_
        refine lv_icmp_gt (tgt := 105) hx hb d_M_encode_82 rfl (fun c8 => ?_) (fun c8 => ?_)
        · skip
          rw [if_pos c8] at hf
          refine lv_aload_n hx hb d_M_encode_105 rfl (lv_at hl 0 rfl) ?_
          refine lv_bipush (v := 60) hx hb d_M_encode_106 (by decide) ?_
          refine lv_bipush (v := 47) hx hb d_M_encode_108 (by decide) ?_
          refine lv_bipush (v := 98) hx hb d_M_encode_110 (by decide) ?_
          refine lv_bipush (v := 62) hx hb d_M_encode_112 (by decide) ?_
          cases hf
        rw [if_neg c8] at hf
        refine lv_aload_n hx hb d_M_encode_85 rfl (lv_at hl 0 rfl) ?_
        refine lv_aload_n hx hb d_M_encode_86 rfl (lv_at hl 0 rfl) ?_
        refine va_get (D := X) (ci := 9) (C := R_M) (T := T_M) (N := 35) hx hb hts u_0 hown hK hP 0 gm_0 rfl 29 (by decide) k_1 (fun _ h9 => h9) rfl d_M_encode_87 ?_
        refine lv_iload_n hx hb d_M_encode_90 rfl (lv_at hl 1 rfl) ?_
        obtain ⟨y12, h13, e14, hf⟩ := gLd_e hf
        refine va_iald hx hb hK hP 22 0 gm_22 rfl h13 d_M_encode_91 ?_
        rw [← e14]
        cases hf
  exact (key gFuel).1 q1 σ _ _ _ hf hP hD hS hl

def B_M_wellFormed_0 (rec : Nat → List Int32 → gS → Option (Int32 × gS)) (σ0 : gS) : Option (Int32 × gS) := gPut σ0 4 0 (fun σ1 => gPut σ1 5 (-1) (fun σ3 => gPut σ3 6 0 (fun σ5 => gPut σ5 2 0 (fun σ7 => gPut σ7 3 0 (fun σ9 => rec 1 [] σ9)))))
def B_M_wellFormed_1 (rec : Nat → List Int32 → gS → Option (Int32 × gS)) (σ0 : gS) : Option (Int32 × gS) := if (σ0.1 1) ≤ (σ0.1 4) then (if (σ0.1 2) ≤ 0 then (some (0, σ0)) else (if 0 ≤ (σ0.1 5) then (some (0, σ0)) else (some (1, σ0)))) else (if (σ0.1 2) ≤ 0 then (rec 2 [] σ0) else (if 0 ≤ (σ0.1 5) then (rec 2 [] σ0) else (some (0, σ0))))
def B_M_wellFormed_2 (rec : Nat → List Int32 → gS → Option (Int32 × gS)) (σ0 : gS) : Option (Int32 × gS) := gLd σ0 7 1600 (σ0.1 4) (fun y16 => if y16 = 60 then (rec 3 [1] σ0) else (rec 3 [0] σ0))
def B_M_wellFormed_3 (rec : Nat → List Int32 → gS → Option (Int32 × gS)) (z0 : Int32) (σ0 : gS) : Option (Int32 × gS) := if z0 = 0 then (rec 4 [z0] σ0) else (none)
def B_M_wellFormed_4 (rec : Nat → List Int32 → gS → Option (Int32 × gS)) (x1 : Int32) (σ0 : gS) : Option (Int32 × gS) := if x1 = 0 then (if (σ0.1 5) < 0 then (rec 5 [] σ0) else (none)) else (none)
def B_M_wellFormed_5 (rec : Nat → List Int32 → gS → Option (Int32 × gS)) (σ0 : gS) : Option (Int32 × gS) := rec 6 [0] σ0
def B_M_wellFormed_6 (rec : Nat → List Int32 → gS → Option (Int32 × gS)) (z0 : Int32) (σ0 : gS) : Option (Int32 × gS) := if z0 = 0 then (some (0, σ0)) else (rec 1 [] σ0)
def S_M_wellFormed (rec : Nat → List Int32 → gS → Option (Int32 × gS)) (k : Nat) (l : List Int32) (σ0 : gS) : Option (Int32 × gS) := match k, l with
  | 0, [] => B_M_wellFormed_0 rec  σ0
  | 1, [] => B_M_wellFormed_1 rec  σ0
  | 2, [] => B_M_wellFormed_2 rec  σ0
  | 3, [z0] => B_M_wellFormed_3 rec z0 σ0
  | 4, [x1] => B_M_wellFormed_4 rec x1 σ0
  | 5, [] => B_M_wellFormed_5 rec  σ0
  | 6, [z0] => B_M_wellFormed_6 rec z0 σ0
  | _, _ => none
def R_M_wellFormed : Nat → Nat → List Int32 → gS → Option (Int32 × gS)
  | 0 => fun _ _ _ => none
  | t + 1 => fun k l σ0 => S_M_wellFormed (R_M_wellFormed t) k l σ0
def f_M_wellFormed (σ : gS) : Option (Int32 × gS) := R_M_wellFormed gFuel 0 [] σ
set_option maxHeartbeats 4000000 in
set_option maxRecDepth 100000 in
theorem m_M_wellFormed {l : Launch} {X : va_G} {cI cC cZ : ClassId} {b : Nat → Nat} {σ σ' : gS} {r : Int32} (hf : f_M_wellFormed σ = some (r, σ')) {sz : Nat} : Met l y_M_wellFormed w_M_wellFormed { frames := 0, cells := 0, slots := 0, locals := 0 } (gPc X vwCl (gT cI cC cZ) (mW cI cC cZ b σ) sz [.ref (b 0)]) (gQi X vwCl (mW cI cC cZ b σ) sz (fun r' (_ : Unit) => r' = r) (fun _ => mW cI cC cZ b σ')) 0 0 (va_A (mW cI cC cZ b σ) sz) := by
  refine g_met (cc := b_M_wellFormed) (maxL := 3) (ret := (some .boolean)) (by decide) rfl (Nat.le_of_ble_eq_true rfl) ?_
  intro p e s m below meth c A ls hx hb hr hml hown hts hlocks hnm hsz hAe hA hP hK hD hS hl hN
  have hown : s.vm.findClass R_M = some m.cls := hown
  have u_0 : ∀ w ∈ u_ws R_M T_M 35, w ∈ w_M_wellFormed := fun w h => List.mem_cons_of_mem _ (tu_M w h)
  have k_0 := hts (.fieldLink R_M 154 "GraphPagesModel" "at" "I") (List.mem_cons_of_mem _ tb_100)
  have k_1 := hts (.fieldLink R_M 157 "GraphPagesModel" "open" "I") (List.mem_cons_of_mem _ tb_101)
  have k_2 := hts (.fieldLink R_M 160 "GraphPagesModel" "depth" "I") (List.mem_cons_of_mem _ tb_102)
  have k_3 := hts (.fieldLink R_M 163 "GraphPagesModel" "elements" "I") (List.mem_cons_of_mem _ tb_103)
  have k_4 := hts (.fieldLink R_M 166 "GraphPagesModel" "attrs" "I") (List.mem_cons_of_mem _ tb_104)
  have k_5 := hts (.fieldLink R_M 110 "GraphPagesModel" "used" "I") (List.mem_cons_of_mem _ tb_105)
  have k_6 := hts (.fieldLink R_M 29 "GraphPagesModel" "page" "[C") (List.mem_cons_of_mem _ tb_106)
  unfold f_M_wellFormed at hf
  have key : ∀ t : Nat, (∀ (σ0 : gS) (H : Heap) (locs : List Loc) (ls : Array Slot), R_M_wellFormed t 0 [] σ0 = some (r, σ') → va_P X vwCl (mW cI cC cZ b σ0) H → va_D A (mW cI cC cZ b σ0) → va_S A s.heap H locs → lv_has ls 3 [(0, .ref (b 0))] → W p l e (headSpec w_M_wellFormed { frames := 0, cells := 0, slots := 0, locals := 0 }).room s m [.ref (b 0)].toArray below meth c H locs 0 0 (MQ below (gQi X vwCl (mW cI cC cZ b σ) sz (fun r' (_ : Unit) => r' = r) (fun _ => mW cI cC cZ b σ')) [.ref (b 0)].toArray s 0 0 (va_A (mW cI cC cZ b σ) sz)) (F0 m 0 ls [])) ∧ (∀ (σ0 : gS) (H : Heap) (locs : List Loc) (ls : Array Slot), R_M_wellFormed t 1 [] σ0 = some (r, σ') → va_P X vwCl (mW cI cC cZ b σ0) H → va_D A (mW cI cC cZ b σ0) → va_S A s.heap H locs → lv_has ls 3 [(0, .ref (b 0))] → W p l e (headSpec w_M_wellFormed { frames := 0, cells := 0, slots := 0, locals := 0 }).room s m [.ref (b 0)].toArray below meth c H locs 0 0 (MQ below (gQi X vwCl (mW cI cC cZ b σ) sz (fun r' (_ : Unit) => r' = r) (fun _ => mW cI cC cZ b σ')) [.ref (b 0)].toArray s 0 0 (va_A (mW cI cC cZ b σ) sz)) (F0 m 25 ls [])) ∧ (∀ (σ0 : gS) (H : Heap) (locs : List Loc) (ls : Array Slot), R_M_wellFormed t 2 [] σ0 = some (r, σ') → va_P X vwCl (mW cI cC cZ b σ0) H → va_D A (mW cI cC cZ b σ0) → va_S A s.heap H locs → lv_has ls 3 [(0, .ref (b 0))] → W p l e (headSpec w_M_wellFormed { frames := 0, cells := 0, slots := 0, locals := 0 }).room s m [.ref (b 0)].toArray below meth c H locs 0 0 (MQ below (gQi X vwCl (mW cI cC cZ b σ) sz (fun r' (_ : Unit) => r' = r) (fun _ => mW cI cC cZ b σ')) [.ref (b 0)].toArray s 0 0 (va_A (mW cI cC cZ b σ) sz)) (F0 m 52 ls [])) ∧ (∀ (z0 : Int32) (σ0 : gS) (H : Heap) (locs : List Loc) (ls : Array Slot), R_M_wellFormed t 3 [z0] σ0 = some (r, σ') → va_P X vwCl (mW cI cC cZ b σ0) H → va_D A (mW cI cC cZ b σ0) → va_S A s.heap H locs → lv_has ls 3 [(0, .ref (b 0))] → W p l e (headSpec w_M_wellFormed { frames := 0, cells := 0, slots := 0, locals := 0 }).room s m [.ref (b 0)].toArray below meth c H locs 0 0 (MQ below (gQi X vwCl (mW cI cC cZ b σ) sz (fun r' (_ : Unit) => r' = r) (fun _ => mW cI cC cZ b σ')) [.ref (b 0)].toArray s 0 0 (va_A (mW cI cC cZ b σ) sz)) (F0 m 71 ls [.int z0])) ∧ (∀ (x1 : Int32) (σ0 : gS) (H : Heap) (locs : List Loc) (ls : Array Slot), R_M_wellFormed t 4 [x1] σ0 = some (r, σ') → va_P X vwCl (mW cI cC cZ b σ0) H → va_D A (mW cI cC cZ b σ0) → va_S A s.heap H locs → lv_has ls 3 [(0, .ref (b 0)), (1, .int x1)] → W p l e (headSpec w_M_wellFormed { frames := 0, cells := 0, slots := 0, locals := 0 }).room s m [.ref (b 0)].toArray below meth c H locs 0 0 (MQ below (gQi X vwCl (mW cI cC cZ b σ) sz (fun r' (_ : Unit) => r' = r) (fun _ => mW cI cC cZ b σ')) [.ref (b 0)].toArray s 0 0 (va_A (mW cI cC cZ b σ) sz)) (F0 m 98 ls [])) ∧ (∀ (σ0 : gS) (H : Heap) (locs : List Loc) (ls : Array Slot), R_M_wellFormed t 5 [] σ0 = some (r, σ') → va_P X vwCl (mW cI cC cZ b σ0) H → va_D A (mW cI cC cZ b σ0) → va_S A s.heap H locs → lv_has ls 3 [(0, .ref (b 0))] → W p l e (headSpec w_M_wellFormed { frames := 0, cells := 0, slots := 0, locals := 0 }).room s m [.ref (b 0)].toArray below meth c H locs 0 0 (MQ below (gQi X vwCl (mW cI cC cZ b σ) sz (fun r' (_ : Unit) => r' = r) (fun _ => mW cI cC cZ b σ')) [.ref (b 0)].toArray s 0 0 (va_A (mW cI cC cZ b σ) sz)) (F0 m 127 ls [])) ∧ (∀ (z0 : Int32) (σ0 : gS) (H : Heap) (locs : List Loc) (ls : Array Slot), R_M_wellFormed t 6 [z0] σ0 = some (r, σ') → va_P X vwCl (mW cI cC cZ b σ0) H → va_D A (mW cI cC cZ b σ0) → va_S A s.heap H locs → lv_has ls 3 [(0, .ref (b 0))] → W p l e (headSpec w_M_wellFormed { frames := 0, cells := 0, slots := 0, locals := 0 }).room s m [.ref (b 0)].toArray below meth c H locs 0 0 (MQ below (gQi X vwCl (mW cI cC cZ b σ) sz (fun r' (_ : Unit) => r' = r) (fun _ => mW cI cC cZ b σ')) [.ref (b 0)].toArray s 0 0 (va_A (mW cI cC cZ b σ) sz)) (F0 m 128 ls [.int z0])) := by
    intro t
    induction t with
    | zero => exact ⟨fun  _ _ _ _ hf => (by have hf : (none : Option (Int32 × gS)) = some (r, σ') := hf; cases hf), fun  _ _ _ _ hf => (by have hf : (none : Option (Int32 × gS)) = some (r, σ') := hf; cases hf), fun  _ _ _ _ hf => (by have hf : (none : Option (Int32 × gS)) = some (r, σ') := hf; cases hf), fun _ _ _ _ _ hf => (by have hf : (none : Option (Int32 × gS)) = some (r, σ') := hf; cases hf), fun _ _ _ _ _ hf => (by have hf : (none : Option (Int32 × gS)) = some (r, σ') := hf; cases hf), fun  _ _ _ _ hf => (by have hf : (none : Option (Int32 × gS)) = some (r, σ') := hf; cases hf), fun _ _ _ _ _ hf => (by have hf : (none : Option (Int32 × gS)) = some (r, σ') := hf; cases hf)⟩
    | succ t ih =>
      obtain ⟨ih0, ih1, ih2, ih3, ih4, ih5, ih6⟩ := ih
      refine ⟨?_, ?_, ?_, ?_, ?_, ?_, ?_⟩
      · intro  σ0 H locs ls hf hP hD hS hl
        have hf : B_M_wellFormed_0 (R_M_wellFormed t)  σ0 = some (r, σ') := hf
        unfold B_M_wellFormed_0 at hf
        refine lv_aload_n hx hb d_M_wellFormed_0 rfl (lv_at hl 0 rfl) ?_
        refine lv_iconst (v := 0) hx hb d_M_wellFormed_1 (by decide) ?_
        obtain ⟨σ1, e2, hf⟩ := gPut_e hf
        refine va_put (D := X) (ci := 9) (ty := .int) (C := R_M) (T := T_M) (N := 35) hx hb hts u_0 t_M t_M_ok n_M hown hK hP hD hS 0 gm_0 rfl 22 (by decide) k_0 (fun _ h9 => h9) rfl (by decide +kernel) rfl rfl (Nat.le_of_ble_eq_true rfl) d_M_wellFormed_2 (fun H locs hP hD hS => ?_)
        rw [sm_0_22, ← e2] at hP hD
        refine lv_aload_n hx hb d_M_wellFormed_5 rfl (lv_at hl 0 rfl) ?_
        refine lv_iconst (v := (-1)) hx hb d_M_wellFormed_6 (by decide) ?_
        obtain ⟨σ3, e4, hf⟩ := gPut_e hf
        refine va_put (D := X) (ci := 9) (ty := .int) (C := R_M) (T := T_M) (N := 35) hx hb hts u_0 t_M t_M_ok n_M hown hK hP hD hS 0 gm_0 rfl 23 (by decide) k_1 (fun _ h9 => h9) rfl (by decide +kernel) rfl rfl (Nat.le_of_ble_eq_true rfl) d_M_wellFormed_7 (fun H locs hP hD hS => ?_)
        rw [sm_0_23, ← e4] at hP hD
        refine lv_aload_n hx hb d_M_wellFormed_10 rfl (lv_at hl 0 rfl) ?_
        refine lv_iconst (v := 0) hx hb d_M_wellFormed_11 (by decide) ?_
        obtain ⟨σ5, e6, hf⟩ := gPut_e hf
        refine va_put (D := X) (ci := 9) (ty := .int) (C := R_M) (T := T_M) (N := 35) hx hb hts u_0 t_M t_M_ok n_M hown hK hP hD hS 0 gm_0 rfl 24 (by decide) k_2 (fun _ h9 => h9) rfl (by decide +kernel) rfl rfl (Nat.le_of_ble_eq_true rfl) d_M_wellFormed_12 (fun H locs hP hD hS => ?_)
        rw [sm_0_24, ← e6] at hP hD
        refine lv_aload_n hx hb d_M_wellFormed_15 rfl (lv_at hl 0 rfl) ?_
        refine lv_iconst (v := 0) hx hb d_M_wellFormed_16 (by decide) ?_
        obtain ⟨σ7, e8, hf⟩ := gPut_e hf
        refine va_put (D := X) (ci := 9) (ty := .int) (C := R_M) (T := T_M) (N := 35) hx hb hts u_0 t_M t_M_ok n_M hown hK hP hD hS 0 gm_0 rfl 9 (by decide) k_3 (fun _ h9 => h9) rfl (by decide +kernel) rfl rfl (Nat.le_of_ble_eq_true rfl) d_M_wellFormed_17 (fun H locs hP hD hS => ?_)
        rw [sm_0_9, ← e8] at hP hD
        refine lv_aload_n hx hb d_M_wellFormed_20 rfl (lv_at hl 0 rfl) ?_
        refine lv_iconst (v := 0) hx hb d_M_wellFormed_21 (by decide) ?_
        obtain ⟨σ9, e10, hf⟩ := gPut_e hf
        refine va_put (D := X) (ci := 9) (ty := .int) (C := R_M) (T := T_M) (N := 35) hx hb hts u_0 t_M t_M_ok n_M hown hK hP hD hS 0 gm_0 rfl 18 (by decide) k_4 (fun _ h9 => h9) rfl (by decide +kernel) rfl rfl (Nat.le_of_ble_eq_true rfl) d_M_wellFormed_22 (fun H locs hP hD hS => ?_)
        rw [sm_0_18, ← e10] at hP hD
        exact ih1 σ9 _ _ _ hf hP hD hS (lv_sub hl [0] rfl)
      · intro  σ0 H locs ls hf hP hD hS hl
        have hf : B_M_wellFormed_1 (R_M_wellFormed t)  σ0 = some (r, σ') := hf
        unfold B_M_wellFormed_1 at hf
        refine lv_aload_n hx hb d_M_wellFormed_25 rfl (lv_at hl 0 rfl) ?_
        refine va_get (D := X) (ci := 9) (C := R_M) (T := T_M) (N := 35) hx hb hts u_0 hown hK hP 0 gm_0 rfl 22 (by decide) k_0 (fun _ h9 => h9) rfl d_M_wellFormed_26 ?_
        refine lv_aload_n hx hb d_M_wellFormed_29 rfl (lv_at hl 0 rfl) ?_
        refine va_get (D := X) (ci := 9) (C := R_M) (T := T_M) (N := 35) hx hb hts u_0 hown hK hP 0 gm_0 rfl 7 (by decide) k_5 (fun _ h9 => h9) rfl d_M_wellFormed_30 ?_
        refine lv_icmp_ge (tgt := 138) hx hb d_M_wellFormed_33 rfl (fun c11 => ?_) (fun c11 => ?_)
        · skip
          rw [if_pos c11] at hf
          refine lv_aload_n hx hb d_M_wellFormed_138 rfl (lv_at hl 0 rfl) ?_
          refine va_get (D := X) (ci := 9) (C := R_M) (T := T_M) (N := 35) hx hb hts u_0 hown hK hP 0 gm_0 rfl 9 (by decide) k_3 (fun _ h9 => h9) rfl d_M_wellFormed_139 ?_
          refine lv_if_le (tgt := 156) hx hb d_M_wellFormed_142 rfl (fun c12 => ?_) (fun c12 => ?_)
          · skip
            rw [if_pos c12] at hf
            refine lv_iconst (v := 0) hx hb d_M_wellFormed_156 (by decide) ?_
            obtain ⟨rfl, rfl⟩ := gRt_e hf
            exact g_zret hx hb hr hlocks rfl hAe hS () rfl hP d_M_wellFormed_157
          rw [if_neg c12] at hf
          refine lv_aload_n hx hb d_M_wellFormed_145 rfl (lv_at hl 0 rfl) ?_
          refine va_get (D := X) (ci := 9) (C := R_M) (T := T_M) (N := 35) hx hb hts u_0 hown hK hP 0 gm_0 rfl 23 (by decide) k_1 (fun _ h9 => h9) rfl d_M_wellFormed_146 ?_
          refine lv_if_ge (tgt := 156) hx hb d_M_wellFormed_149 rfl (fun c13 => ?_) (fun c13 => ?_)
          · skip
            rw [if_pos c13] at hf
            refine lv_iconst (v := 0) hx hb d_M_wellFormed_156 (by decide) ?_
            obtain ⟨rfl, rfl⟩ := gRt_e hf
            exact g_zret hx hb hr hlocks rfl hAe hS () rfl hP d_M_wellFormed_157
          rw [if_neg c13] at hf
          refine lv_iconst (v := 1) hx hb d_M_wellFormed_152 (by decide) ?_
          refine lv_goto (tgt := 157) hx hb d_M_wellFormed_153 rfl ?_
          obtain ⟨rfl, rfl⟩ := gRt_e hf
          exact g_zret hx hb hr hlocks rfl hAe hS () rfl hP d_M_wellFormed_157
        rw [if_neg c11] at hf
        refine lv_aload_n hx hb d_M_wellFormed_36 rfl (lv_at hl 0 rfl) ?_
        refine va_get (D := X) (ci := 9) (C := R_M) (T := T_M) (N := 35) hx hb hts u_0 hown hK hP 0 gm_0 rfl 9 (by decide) k_3 (fun _ h9 => h9) rfl d_M_wellFormed_37 ?_
        refine lv_if_le (tgt := 52) hx hb d_M_wellFormed_40 rfl (fun c14 => ?_) (fun c14 => ?_)
        · skip
          rw [if_pos c14] at hf
          exact ih2 σ0 _ _ _ hf hP hD hS (lv_sub hl [0] rfl)
        rw [if_neg c14] at hf
        refine lv_aload_n hx hb d_M_wellFormed_43 rfl (lv_at hl 0 rfl) ?_
        refine va_get (D := X) (ci := 9) (C := R_M) (T := T_M) (N := 35) hx hb hts u_0 hown hK hP 0 gm_0 rfl 23 (by decide) k_1 (fun _ h9 => h9) rfl d_M_wellFormed_44 ?_
        refine lv_if_ge (tgt := 52) hx hb d_M_wellFormed_47 rfl (fun c15 => ?_) (fun c15 => ?_)
        · skip
          rw [if_pos c15] at hf
          exact ih2 σ0 _ _ _ hf hP hD hS (lv_sub hl [0] rfl)
        rw [if_neg c15] at hf
        refine lv_iconst (v := 0) hx hb d_M_wellFormed_50 (by decide) ?_
        obtain ⟨rfl, rfl⟩ := gRt_e hf
        exact g_zret hx hb hr hlocks rfl hAe hS () rfl hP d_M_wellFormed_51
      · intro  σ0 H locs ls hf hP hD hS hl
        have hf : B_M_wellFormed_2 (R_M_wellFormed t)  σ0 = some (r, σ') := hf
        unfold B_M_wellFormed_2 at hf
        refine lv_aload_n hx hb d_M_wellFormed_52 rfl (lv_at hl 0 rfl) ?_
        refine va_get (D := X) (ci := 9) (C := R_M) (T := T_M) (N := 35) hx hb hts u_0 hown hK hP 0 gm_0 rfl 8 (by decide) k_6 (fun _ h9 => h9) rfl d_M_wellFormed_53 ?_
        refine lv_aload_n hx hb d_M_wellFormed_56 rfl (lv_at hl 0 rfl) ?_
        refine va_get (D := X) (ci := 9) (C := R_M) (T := T_M) (N := 35) hx hb hts u_0 hown hK hP 0 gm_0 rfl 22 (by decide) k_0 (fun _ h9 => h9) rfl d_M_wellFormed_57 ?_
        obtain ⟨y16, h17, e18, hf⟩ := gLd_e hf
        refine va_cald hx hb hK hP 7 1 gm_7 rfl h17 d_M_wellFormed_60 ?_
        rw [← e18]
        refine lv_bipush (v := 60) hx hb d_M_wellFormed_61 (by decide) ?_
        refine lv_icmp_ne (tgt := 70) hx hb d_M_wellFormed_63 rfl (fun c19 => ?_) (fun c19 => ?_)
        · skip
          rw [if_neg c19] at hf
          refine lv_iconst (v := 0) hx hb d_M_wellFormed_70 (by decide) ?_
          exact ih3 (0) σ0 _ _ _ hf hP hD hS (lv_sub hl [0] rfl)
        rw [if_pos c19] at hf
        refine lv_iconst (v := 1) hx hb d_M_wellFormed_66 (by decide) ?_
        refine lv_goto (tgt := 71) hx hb d_M_wellFormed_67 rfl ?_
        exact ih3 (1) σ0 _ _ _ hf hP hD hS (lv_sub hl [0] rfl)
      · intro z0 σ0 H locs ls hf hP hD hS hl
        have hf : B_M_wellFormed_3 (R_M_wellFormed t) z0 σ0 = some (r, σ') := hf
        unfold B_M_wellFormed_3 at hf
        refine lv_istore_n hx hb d_M_wellFormed_71 rfl hl (by decide) rfl (fun ls hl => ?_)
        refine lv_iload_n hx hb d_M_wellFormed_72 rfl (lv_at hl 0 rfl) ?_
        refine lv_if_eq (tgt := 98) hx hb d_M_wellFormed_73 rfl (fun c20 => ?_) (fun c20 => ?_)
        · skip
          rw [if_pos c20] at hf
          exact ih4 (z0) σ0 _ _ _ hf hP hD hS (lv_sub hl [1, 0] rfl)
        rw [if_neg c20] at hf
        refine lv_aload_n hx hb d_M_wellFormed_76 rfl (lv_at hl 1 rfl) ?_
        refine lv_aload_n hx hb d_M_wellFormed_77 rfl (lv_at hl 1 rfl) ?_
        refine va_get (D := X) (ci := 9) (C := R_M) (T := T_M) (N := 35) hx hb hts u_0 hown hK hP 0 gm_0 rfl 22 (by decide) k_0 (fun _ h9 => h9) rfl d_M_wellFormed_78 ?_
        refine lv_iconst (v := 1) hx hb d_M_wellFormed_81 (by decide) ?_
        refine lv_iadd hx hb d_M_wellFormed_82 ?_
        cases hf
      · intro x1 σ0 H locs ls hf hP hD hS hl
        have hf : B_M_wellFormed_4 (R_M_wellFormed t) x1 σ0 = some (r, σ') := hf
        unfold B_M_wellFormed_4 at hf
        refine lv_iload_n hx hb d_M_wellFormed_98 rfl (lv_at hl 1 rfl) ?_
        refine lv_if_eq (tgt := 109) hx hb d_M_wellFormed_99 rfl (fun c24 => ?_) (fun c24 => ?_)
        · skip
          rw [if_pos c24] at hf
          refine lv_aload_n hx hb d_M_wellFormed_109 rfl (lv_at hl 0 rfl) ?_
          refine va_get (D := X) (ci := 9) (C := R_M) (T := T_M) (N := 35) hx hb hts u_0 hown hK hP 0 gm_0 rfl 23 (by decide) k_1 (fun _ h9 => h9) rfl d_M_wellFormed_110 ?_
          refine lv_if_lt (tgt := 127) hx hb d_M_wellFormed_113 rfl (fun c25 => ?_) (fun c25 => ?_)
          · skip
            rw [if_pos c25] at hf
            exact ih5 σ0 _ _ _ hf hP hD hS (lv_sub hl [0] rfl)
          rw [if_neg c25] at hf
          refine lv_aload_n hx hb d_M_wellFormed_116 rfl (lv_at hl 0 rfl) ?_
          cases hf
        rw [if_neg c24] at hf
        refine lv_aload_n hx hb d_M_wellFormed_102 rfl (lv_at hl 0 rfl) ?_
        cases hf
      · intro  σ0 H locs ls hf hP hD hS hl
        have hf : B_M_wellFormed_5 (R_M_wellFormed t)  σ0 = some (r, σ') := hf
        unfold B_M_wellFormed_5 at hf
        refine lv_iconst (v := 0) hx hb d_M_wellFormed_127 (by decide) ?_
        exact ih6 (0) σ0 _ _ _ hf hP hD hS (lv_sub hl [0] rfl)
      · intro z0 σ0 H locs ls hf hP hD hS hl
        have hf : B_M_wellFormed_6 (R_M_wellFormed t) z0 σ0 = some (r, σ') := hf
        unfold B_M_wellFormed_6 at hf
        refine lv_istore_n hx hb d_M_wellFormed_128 rfl hl (by decide) rfl (fun ls hl => ?_)
        refine lv_iload_n hx hb d_M_wellFormed_129 rfl (lv_at hl 0 rfl) ?_
        refine lv_if_ne (tgt := 135) hx hb d_M_wellFormed_130 rfl (fun c32 => ?_) (fun c32 => ?_)
        · skip
          rw [if_neg c32] at hf
          refine lv_goto (tgt := 25) hx hb d_M_wellFormed_135 rfl ?_
          exact ih1 σ0 _ _ _ hf hP hD hS (lv_sub hl [1] rfl)
        rw [if_pos c32] at hf
        refine lv_iconst (v := 0) hx hb d_M_wellFormed_133 (by decide) ?_
        obtain ⟨rfl, rfl⟩ := gRt_e hf
        exact g_zret hx hb hr hlocks rfl hAe hS () rfl hP d_M_wellFormed_134
  exact (key gFuel).1  σ _ _ _ hf hP hD hS hl

def B_M_decode_0 (rec : Nat → List Int32 → gS → Option (Int32 × gS)) (σ0 : gS) : Option (Int32 × gS) := gBd (f_M_wellFormed σ0) (fun y1 σ2 => if y1 = 0 then (some ((-1), σ2)) else (gLd σ2 8 420 0 (fun y5 => if y5 = 5 then (none) else (some ((-2), σ2)))))
def B_M_decode_1 (rec : Nat → List Int32 → gS → Option (Int32 × gS)) (x1 : Int32) (x2 : Int32) (σ0 : gS) : Option (Int32 × gS) := if (σ0.1 2) ≤ x2 then (rec 6 [x1, (x1 + 1)] σ0) else (none)
def B_M_decode_2 (rec : Nat → List Int32 → gS → Option (Int32 × gS)) (x1 : Int32) (x2 : Int32) (z1 : Int32) (z3 : Int32) (σ0 : gS) : Option (Int32 × gS) := gLd σ0 8 420 x2 (fun y16 => if y16 = 1 then (none) else (rec 3 [x1, x2, z1, z3, 0] σ0))
def B_M_decode_3 (rec : Nat → List Int32 → gS → Option (Int32 × gS)) (x1 : Int32) (x2 : Int32) (z1 : Int32) (z3 : Int32) (z4 : Int32) (σ0 : gS) : Option (Int32 × gS) := gBd (f_M_make σ0 z3 z4) (fun y23 σ24 => gSt σ24 15 420 z1 y23 (fun σ26 => rec 4 [x1, x2, 0] σ26))
def B_M_decode_4 (rec : Nat → List Int32 → gS → Option (Int32 × gS)) (x1 : Int32) (x2 : Int32) (x3 : Int32) (σ0 : gS) : Option (Int32 × gS) := gLd σ0 8 420 x2 (fun y29 => if y29 = 20 then (gLd σ0 12 420 x2 (fun y33 => if y33 ≤ x3 then (rec 5 [x1, x2] σ0) else (gLd σ0 15 420 x2 (fun y37 => gLd σ0 13 5040 ((12 * x2) + x3) (fun y40 => gBd (f_M_type σ0 y37 y40) (fun y43 σ44 => rec 4 [x1, x2, (x3 + 1)] σ44)))))) else (rec 5 [x1, x2] σ0))
def B_M_decode_5 (rec : Nat → List Int32 → gS → Option (Int32 × gS)) (x1 : Int32) (x2 : Int32) (σ0 : gS) : Option (Int32 × gS) := rec 1 [x1, (x2 + 1)] σ0
def B_M_decode_6 (rec : Nat → List Int32 → gS → Option (Int32 × gS)) (x1 : Int32) (x2 : Int32) (σ0 : gS) : Option (Int32 × gS) := if (σ0.1 2) ≤ x2 then (none) else (gLd σ0 9 420 x2 (fun y50 => if y50 = x1 then (rec 7 [x1, x2] σ0) else (gLd σ0 8 420 x2 (fun y54 => if y54 = 14 then (rec 7 [x1, x2] σ0) else (gLd σ0 9 420 x2 (fun y58 => gLd σ0 15 420 y58 (fun y61 => gLd σ0 8 420 x2 (fun y64 => if y64 = 9 then (gLd σ0 14 420 x2 (fun y74 => none)) else (gLd σ0 14 420 x2 (fun y68 => none))))))))))
def B_M_decode_7 (rec : Nat → List Int32 → gS → Option (Int32 × gS)) (x1 : Int32) (x2 : Int32) (σ0 : gS) : Option (Int32 × gS) := rec 6 [x1, (x2 + 1)] σ0
def S_M_decode (rec : Nat → List Int32 → gS → Option (Int32 × gS)) (k : Nat) (l : List Int32) (σ0 : gS) : Option (Int32 × gS) := match k, l with
  | 0, [] => B_M_decode_0 rec  σ0
  | 1, [x1, x2] => B_M_decode_1 rec x1 x2 σ0
  | 2, [x1, x2, z1, z3] => B_M_decode_2 rec x1 x2 z1 z3 σ0
  | 3, [x1, x2, z1, z3, z4] => B_M_decode_3 rec x1 x2 z1 z3 z4 σ0
  | 4, [x1, x2, x3] => B_M_decode_4 rec x1 x2 x3 σ0
  | 5, [x1, x2] => B_M_decode_5 rec x1 x2 σ0
  | 6, [x1, x2] => B_M_decode_6 rec x1 x2 σ0
  | 7, [x1, x2] => B_M_decode_7 rec x1 x2 σ0
  | _, _ => none
def R_M_decode : Nat → Nat → List Int32 → gS → Option (Int32 × gS)
  | 0 => fun _ _ _ => none
  | t + 1 => fun k l σ0 => S_M_decode (R_M_decode t) k l σ0
def f_M_decode (σ : gS) : Option (Int32 × gS) := R_M_decode gFuel 0 [] σ
set_option maxHeartbeats 4000000 in
set_option maxRecDepth 100000 in
theorem m_M_decode {l : Launch} {X : va_G} {cI cC cZ : ClassId} {b : Nat → Nat} {σ σ' : gS} {r : Int32} (hf : f_M_decode σ = some (r, σ')) {sz : Nat} : Met l y_M_decode w_M_decode { frames := 2, cells := 0, slots := 0, locals := 43 } (gPc X vwCl (gT cI cC cZ) (mW cI cC cZ b σ) sz [.ref (b 0)]) (gQi X vwCl (mW cI cC cZ b σ) sz (fun r' (_ : Unit) => r' = r) (fun _ => mW cI cC cZ b σ')) 0 0 (va_A (mW cI cC cZ b σ) sz) := by
  refine g_met (cc := b_M_decode) (maxL := 4) (ret := (some .int)) (by decide) rfl (Nat.le_of_ble_eq_true rfl) ?_
  intro p e s m below meth c A ls hx hb hr hml hown hts hlocks hnm hsz hAe hA hP hK hD hS hl hN
  have hown : s.vm.findClass R_M = some m.cls := hown
  have u_0 : ∀ w ∈ u_ws R_M T_M 35, w ∈ w_M_decode := fun w h => List.mem_cons_of_mem _ (tu_M w h)
  have k_0 := hts (.fieldLink R_M 33 "GraphPagesModel" "name" "[I") (List.mem_cons_of_mem _ tb_116)
  have k_1 := hts (.fieldLink R_M 163 "GraphPagesModel" "elements" "I") (List.mem_cons_of_mem _ tb_103)
  have k_2 := hts (.fieldLink R_M 45 "GraphPagesModel" "textLength" "[I") (List.mem_cons_of_mem _ tb_117)
  have k_3 := hts (.fieldLink R_M 54 "GraphPagesModel" "made" "[I") (List.mem_cons_of_mem _ tb_118)
  have k_4 := hts (.fieldLink R_M 48 "GraphPagesModel" "text" "[C") (List.mem_cons_of_mem _ tb_119)
  have k_5 := hts (.fieldLink R_M 36 "GraphPagesModel" "parent" "[I") (List.mem_cons_of_mem _ tb_120)
  have k_6 := hts (.fieldLink R_M 51 "GraphPagesModel" "slot" "[I") (List.mem_cons_of_mem _ tb_121)
  unfold f_M_decode at hf
  have key : ∀ t : Nat, (∀ (σ0 : gS) (H : Heap) (locs : List Loc) (ls : Array Slot), R_M_decode t 0 [] σ0 = some (r, σ') → va_P X vwCl (mW cI cC cZ b σ0) H → va_D A (mW cI cC cZ b σ0) → va_S A s.heap H locs → lv_has ls 4 [(0, .ref (b 0))] → W p l e (headSpec w_M_decode { frames := 2, cells := 0, slots := 0, locals := 43 }).room s m [.ref (b 0)].toArray below meth c H locs 0 0 (MQ below (gQi X vwCl (mW cI cC cZ b σ) sz (fun r' (_ : Unit) => r' = r) (fun _ => mW cI cC cZ b σ')) [.ref (b 0)].toArray s 0 0 (va_A (mW cI cC cZ b σ) sz)) (F0 m 0 ls [])) ∧ (∀ (x1 : Int32) (x2 : Int32) (σ0 : gS) (H : Heap) (locs : List Loc) (ls : Array Slot), R_M_decode t 1 [x1, x2] σ0 = some (r, σ') → va_P X vwCl (mW cI cC cZ b σ0) H → va_D A (mW cI cC cZ b σ0) → va_S A s.heap H locs → lv_has ls 4 [(0, .ref (b 0)), (1, .int x1), (2, .int x2)] → W p l e (headSpec w_M_decode { frames := 2, cells := 0, slots := 0, locals := 43 }).room s m [.ref (b 0)].toArray below meth c H locs 0 0 (MQ below (gQi X vwCl (mW cI cC cZ b σ) sz (fun r' (_ : Unit) => r' = r) (fun _ => mW cI cC cZ b σ')) [.ref (b 0)].toArray s 0 0 (va_A (mW cI cC cZ b σ) sz)) (F0 m 66 ls [])) ∧ (∀ (x1 : Int32) (x2 : Int32) (z1 : Int32) (z3 : Int32) (σ0 : gS) (H : Heap) (locs : List Loc) (ls : Array Slot), R_M_decode t 2 [x1, x2, z1, z3] σ0 = some (r, σ') → va_P X vwCl (mW cI cC cZ b σ0) H → va_D A (mW cI cC cZ b σ0) → va_S A s.heap H locs → lv_has ls 4 [(0, .ref (b 0)), (1, .int x1), (2, .int x2)] → W p l e (headSpec w_M_decode { frames := 2, cells := 0, slots := 0, locals := 43 }).room s m [.ref (b 0)].toArray below meth c H locs 0 0 (MQ below (gQi X vwCl (mW cI cC cZ b σ) sz (fun r' (_ : Unit) => r' = r) (fun _ => mW cI cC cZ b σ')) [.ref (b 0)].toArray s 0 0 (va_A (mW cI cC cZ b σ) sz)) (F0 m 121 ls [.int z3, .ref (b 0), .int z1, .ref (b 15)])) ∧ (∀ (x1 : Int32) (x2 : Int32) (z1 : Int32) (z3 : Int32) (z4 : Int32) (σ0 : gS) (H : Heap) (locs : List Loc) (ls : Array Slot), R_M_decode t 3 [x1, x2, z1, z3, z4] σ0 = some (r, σ') → va_P X vwCl (mW cI cC cZ b σ0) H → va_D A (mW cI cC cZ b σ0) → va_S A s.heap H locs → lv_has ls 4 [(0, .ref (b 0)), (1, .int x1), (2, .int x2)] → W p l e (headSpec w_M_decode { frames := 2, cells := 0, slots := 0, locals := 43 }).room s m [.ref (b 0)].toArray below meth c H locs 0 0 (MQ below (gQi X vwCl (mW cI cC cZ b σ) sz (fun r' (_ : Unit) => r' = r) (fun _ => mW cI cC cZ b σ')) [.ref (b 0)].toArray s 0 0 (va_A (mW cI cC cZ b σ) sz)) (F0 m 142 ls [.int z4, .int z3, .ref (b 0), .int z1, .ref (b 15)])) ∧ (∀ (x1 : Int32) (x2 : Int32) (x3 : Int32) (σ0 : gS) (H : Heap) (locs : List Loc) (ls : Array Slot), R_M_decode t 4 [x1, x2, x3] σ0 = some (r, σ') → va_P X vwCl (mW cI cC cZ b σ0) H → va_D A (mW cI cC cZ b σ0) → va_S A s.heap H locs → lv_has ls 4 [(0, .ref (b 0)), (1, .int x1), (2, .int x2), (3, .int x3)] → W p l e (headSpec w_M_decode { frames := 2, cells := 0, slots := 0, locals := 43 }).room s m [.ref (b 0)].toArray below meth c H locs 0 0 (MQ below (gQi X vwCl (mW cI cC cZ b σ) sz (fun r' (_ : Unit) => r' = r) (fun _ => mW cI cC cZ b σ')) [.ref (b 0)].toArray s 0 0 (va_A (mW cI cC cZ b σ) sz)) (F0 m 148 ls [])) ∧ (∀ (x1 : Int32) (x2 : Int32) (σ0 : gS) (H : Heap) (locs : List Loc) (ls : Array Slot), R_M_decode t 5 [x1, x2] σ0 = some (r, σ') → va_P X vwCl (mW cI cC cZ b σ0) H → va_D A (mW cI cC cZ b σ0) → va_S A s.heap H locs → lv_has ls 4 [(0, .ref (b 0)), (1, .int x1), (2, .int x2)] → W p l e (headSpec w_M_decode { frames := 2, cells := 0, slots := 0, locals := 43 }).room s m [.ref (b 0)].toArray below meth c H locs 0 0 (MQ below (gQi X vwCl (mW cI cC cZ b σ) sz (fun r' (_ : Unit) => r' = r) (fun _ => mW cI cC cZ b σ')) [.ref (b 0)].toArray s 0 0 (va_A (mW cI cC cZ b σ) sz)) (F0 m 197 ls [])) ∧ (∀ (x1 : Int32) (x2 : Int32) (σ0 : gS) (H : Heap) (locs : List Loc) (ls : Array Slot), R_M_decode t 6 [x1, x2] σ0 = some (r, σ') → va_P X vwCl (mW cI cC cZ b σ0) H → va_D A (mW cI cC cZ b σ0) → va_S A s.heap H locs → lv_has ls 4 [(0, .ref (b 0)), (1, .int x1), (2, .int x2)] → W p l e (headSpec w_M_decode { frames := 2, cells := 0, slots := 0, locals := 43 }).room s m [.ref (b 0)].toArray below meth c H locs 0 0 (MQ below (gQi X vwCl (mW cI cC cZ b σ) sz (fun r' (_ : Unit) => r' = r) (fun _ => mW cI cC cZ b σ')) [.ref (b 0)].toArray s 0 0 (va_A (mW cI cC cZ b σ) sz)) (F0 m 207 ls [])) ∧ (∀ (x1 : Int32) (x2 : Int32) (σ0 : gS) (H : Heap) (locs : List Loc) (ls : Array Slot), R_M_decode t 7 [x1, x2] σ0 = some (r, σ') → va_P X vwCl (mW cI cC cZ b σ0) H → va_D A (mW cI cC cZ b σ0) → va_S A s.heap H locs → lv_has ls 4 [(0, .ref (b 0)), (1, .int x1), (2, .int x2)] → W p l e (headSpec w_M_decode { frames := 2, cells := 0, slots := 0, locals := 43 }).room s m [.ref (b 0)].toArray below meth c H locs 0 0 (MQ below (gQi X vwCl (mW cI cC cZ b σ) sz (fun r' (_ : Unit) => r' = r) (fun _ => mW cI cC cZ b σ')) [.ref (b 0)].toArray s 0 0 (va_A (mW cI cC cZ b σ) sz)) (F0 m 306 ls [])) := by
    intro t
    induction t with
    | zero => exact ⟨fun  _ _ _ _ hf => (by have hf : (none : Option (Int32 × gS)) = some (r, σ') := hf; cases hf), fun _ _ _ _ _ _ hf => (by have hf : (none : Option (Int32 × gS)) = some (r, σ') := hf; cases hf), fun _ _ _ _ _ _ _ _ hf => (by have hf : (none : Option (Int32 × gS)) = some (r, σ') := hf; cases hf), fun _ _ _ _ _ _ _ _ _ hf => (by have hf : (none : Option (Int32 × gS)) = some (r, σ') := hf; cases hf), fun _ _ _ _ _ _ _ hf => (by have hf : (none : Option (Int32 × gS)) = some (r, σ') := hf; cases hf), fun _ _ _ _ _ _ hf => (by have hf : (none : Option (Int32 × gS)) = some (r, σ') := hf; cases hf), fun _ _ _ _ _ _ hf => (by have hf : (none : Option (Int32 × gS)) = some (r, σ') := hf; cases hf), fun _ _ _ _ _ _ hf => (by have hf : (none : Option (Int32 × gS)) = some (r, σ') := hf; cases hf)⟩
    | succ t ih =>
      obtain ⟨ih0, ih1, ih2, ih3, ih4, ih5, ih6, ih7⟩ := ih
      refine ⟨?_, ?_, ?_, ?_, ?_, ?_, ?_, ?_⟩
      · intro  σ0 H locs ls hf hP hD hS hl
        have hf : B_M_decode_0 (R_M_decode t)  σ0 = some (r, σ') := hf
        unfold B_M_decode_0 at hf
        refine lv_aload_n hx hb d_M_decode_0 rfl (lv_at hl 0 rfl) ?_
        obtain ⟨y1, σ2, e3, hf⟩ := gBd_e hf
        refine g_wi (va_runV ⟨hx, hb, hml, hown, hts⟩ (m_M_wellFormed e3) (cwV 0 hts (gG4 (fun _ h => List.mem_cons_of_mem _ h) tb_107 tb_108 tb_109 tb_89 tc_M_wellFormed) rfl rfl rfl (by decide +kernel) ⟨Nat.le_of_ble_eq_true rfl, Nat.le_of_ble_eq_true rfl⟩) (g_preVW (q0 := 0) hN hK hP hD gm_0 rfl) rfl rfl hl.1 rfl (lv_room (Nat.le_of_ble_eq_true rfl)) d_M_decode_1 ⟨Nat.zero_le _, Nat.zero_le _⟩) hD hS hA (fun _ => mW_fst) (fun y1 _ H locs hu hP hD hS => ?_)
        subst hu
        refine lv_if_ne (tgt := 9) hx hb d_M_decode_4 rfl (fun c4 => ?_) (fun c4 => ?_)
        · skip
          rw [if_neg c4] at hf
          refine lv_aload_n hx hb d_M_decode_9 rfl (lv_at hl 0 rfl) ?_
          refine va_get (D := X) (ci := 9) (C := R_M) (T := T_M) (N := 35) hx hb hts u_0 hown hK hP 0 gm_0 rfl 10 (by decide) k_0 (fun _ h9 => h9) rfl d_M_decode_10 ?_
          refine lv_iconst (v := 0) hx hb d_M_decode_13 (by decide) ?_
          obtain ⟨y5, h6, e7, hf⟩ := gLd_e hf
          refine va_iald hx hb hK hP 8 0 gm_8 rfl h6 d_M_decode_14 ?_
          rw [← e7]
          refine lv_iconst (v := 5) hx hb d_M_decode_15 (by decide) ?_
          refine lv_icmp_ne (tgt := 29) hx hb d_M_decode_16 rfl (fun c8 => ?_) (fun c8 => ?_)
          · skip
            rw [if_neg c8] at hf
            refine lv_bipush (v := (-2)) hx hb d_M_decode_29 (by decide) ?_
            obtain ⟨rfl, rfl⟩ := gRt_e hf
            exact g_zret hx hb hr hlocks rfl hAe hS () rfl hP d_M_decode_31
          rw [if_pos c8] at hf
          refine lv_aload_n hx hb d_M_decode_19 rfl (lv_at hl 0 rfl) ?_
          refine lv_iconst (v := 0) hx hb d_M_decode_20 (by decide) ?_
          refine lv_bipush (v := 22) hx hb d_M_decode_21 (by decide) ?_
          cases hf
        rw [if_pos c4] at hf
        refine lv_iconst (v := (-1)) hx hb d_M_decode_7 (by decide) ?_
        obtain ⟨rfl, rfl⟩ := gRt_e hf
        exact g_zret hx hb hr hlocks rfl hAe hS () rfl hP d_M_decode_8
      · intro x1 x2 σ0 H locs ls hf hP hD hS hl
        have hf : B_M_decode_1 (R_M_decode t) x1 x2 σ0 = some (r, σ') := hf
        unfold B_M_decode_1 at hf
        refine lv_iload_n hx hb d_M_decode_66 rfl (lv_at hl 2 rfl) ?_
        refine lv_aload_n hx hb d_M_decode_67 rfl (lv_at hl 0 rfl) ?_
        refine va_get (D := X) (ci := 9) (C := R_M) (T := T_M) (N := 35) hx hb hts u_0 hown hK hP 0 gm_0 rfl 9 (by decide) k_1 (fun _ h9 => h9) rfl d_M_decode_68 ?_
        refine lv_icmp_ge (tgt := 203) hx hb d_M_decode_71 rfl (fun c12 => ?_) (fun c12 => ?_)
        · skip
          rw [if_pos c12] at hf
          refine lv_iload_n hx hb d_M_decode_203 rfl (lv_at hl 1 rfl) ?_
          refine lv_iconst (v := 1) hx hb d_M_decode_204 (by decide) ?_
          refine lv_iadd hx hb d_M_decode_205 ?_
          refine lv_istore_n hx hb d_M_decode_206 rfl hl (by decide) rfl (fun ls hl => ?_)
          exact ih6 (x1) ((x1 + 1)) σ0 _ _ _ hf hP hD hS (lv_sub hl [1, 2, 0] rfl)
        rw [if_neg c12] at hf
        refine lv_aload_n hx hb d_M_decode_74 rfl (lv_at hl 0 rfl) ?_
        refine lv_iload_n hx hb d_M_decode_75 rfl (lv_at hl 2 rfl) ?_
        cases hf
      · intro x1 x2 z1 z3 σ0 H locs ls hf hP hD hS hl
        have hf : B_M_decode_2 (R_M_decode t) x1 x2 z1 z3 σ0 = some (r, σ') := hf
        unfold B_M_decode_2 at hf
        refine lv_aload_n hx hb d_M_decode_121 rfl (lv_at hl 0 rfl) ?_
        refine va_get (D := X) (ci := 9) (C := R_M) (T := T_M) (N := 35) hx hb hts u_0 hown hK hP 0 gm_0 rfl 10 (by decide) k_0 (fun _ h9 => h9) rfl d_M_decode_122 ?_
        refine lv_iload_n hx hb d_M_decode_125 rfl (lv_at hl 2 rfl) ?_
        obtain ⟨y16, h17, e18, hf⟩ := gLd_e hf
        refine va_iald hx hb hK hP 8 0 gm_8 rfl h17 d_M_decode_126 ?_
        rw [← e18]
        refine lv_iconst (v := 1) hx hb d_M_decode_127 (by decide) ?_
        refine lv_icmp_ne (tgt := 141) hx hb d_M_decode_128 rfl (fun c19 => ?_) (fun c19 => ?_)
        · skip
          rw [if_neg c19] at hf
          refine lv_iconst (v := 0) hx hb d_M_decode_141 (by decide) ?_
          exact ih3 (x1) (x2) (z1) (z3) (0) σ0 _ _ _ hf hP hD hS (lv_sub hl [0, 1, 2] rfl)
        rw [if_pos c19] at hf
        refine lv_aload_n hx hb d_M_decode_131 rfl (lv_at hl 0 rfl) ?_
        refine lv_iload_n hx hb d_M_decode_132 rfl (lv_at hl 2 rfl) ?_
        refine lv_bipush (v := 14) hx hb d_M_decode_133 (by decide) ?_
        cases hf
      · intro x1 x2 z1 z3 z4 σ0 H locs ls hf hP hD hS hl
        have hf : B_M_decode_3 (R_M_decode t) x1 x2 z1 z3 z4 σ0 = some (r, σ') := hf
        unfold B_M_decode_3 at hf
        obtain ⟨y23, σ24, e25, hf⟩ := gBd_e hf
        refine g_wi (va_runV ⟨hx, hb, hml, hown, hts⟩ (m_M_make e25) (cwV 2 hts (gG4 (fun _ h => List.mem_cons_of_mem _ h) tb_110 tb_111 tb_112 tb_89 tc_M_make) rfl rfl rfl (by decide +kernel) ⟨Nat.le_of_ble_eq_true rfl, Nat.le_of_ble_eq_true rfl⟩) (g_preVW (q0 := 0) hN hK hP hD gm_0 rfl) rfl rfl hl.1 rfl (lv_room (Nat.le_of_ble_eq_true rfl)) d_M_decode_142 ⟨Nat.zero_le _, Nat.zero_le _⟩) hD hS hA (fun _ => mW_fst) (fun y23 _ H locs hu hP hD hS => ?_)
        subst hu
        obtain ⟨σ26, h27, e28, hf⟩ := gSt_e hf
        refine va_iast hx hb hK hP hD hS 15 0 gm_15 rfl h27 d_M_decode_145 (fun H locs hP hD hS => ?_)
        rw [sm_15, ← e28] at hP hD
        refine lv_iconst (v := 0) hx hb d_M_decode_146 (by decide) ?_
        refine lv_istore_n hx hb d_M_decode_147 rfl hl (by decide) rfl (fun ls hl => ?_)
        exact ih4 (x1) (x2) (0) σ26 _ _ _ hf hP hD hS (lv_sub hl [1, 2, 3, 0] rfl)
      · intro x1 x2 x3 σ0 H locs ls hf hP hD hS hl
        have hf : B_M_decode_4 (R_M_decode t) x1 x2 x3 σ0 = some (r, σ') := hf
        unfold B_M_decode_4 at hf
        refine lv_aload_n hx hb d_M_decode_148 rfl (lv_at hl 0 rfl) ?_
        refine va_get (D := X) (ci := 9) (C := R_M) (T := T_M) (N := 35) hx hb hts u_0 hown hK hP 0 gm_0 rfl 10 (by decide) k_0 (fun _ h9 => h9) rfl d_M_decode_149 ?_
        refine lv_iload_n hx hb d_M_decode_152 rfl (lv_at hl 2 rfl) ?_
        obtain ⟨y29, h30, e31, hf⟩ := gLd_e hf
        refine va_iald hx hb hK hP 8 0 gm_8 rfl h30 d_M_decode_153 ?_
        rw [← e31]
        refine lv_bipush (v := 20) hx hb d_M_decode_154 (by decide) ?_
        refine lv_icmp_ne (tgt := 197) hx hb d_M_decode_156 rfl (fun c32 => ?_) (fun c32 => ?_)
        · skip
          rw [if_neg c32] at hf
          exact ih5 (x1) (x2) σ0 _ _ _ hf hP hD hS (lv_sub hl [0, 1, 2] rfl)
        rw [if_pos c32] at hf
        refine lv_iload_n hx hb d_M_decode_159 rfl (lv_at hl 3 rfl) ?_
        refine lv_aload_n hx hb d_M_decode_160 rfl (lv_at hl 0 rfl) ?_
        refine va_get (D := X) (ci := 9) (C := R_M) (T := T_M) (N := 35) hx hb hts u_0 hown hK hP 0 gm_0 rfl 14 (by decide) k_2 (fun _ h9 => h9) rfl d_M_decode_161 ?_
        refine lv_iload_n hx hb d_M_decode_164 rfl (lv_at hl 2 rfl) ?_
        obtain ⟨y33, h34, e35, hf⟩ := gLd_e hf
        refine va_iald hx hb hK hP 12 0 gm_12 rfl h34 d_M_decode_165 ?_
        rw [← e35]
        refine lv_icmp_ge (tgt := 197) hx hb d_M_decode_166 rfl (fun c36 => ?_) (fun c36 => ?_)
        · skip
          rw [if_pos c36] at hf
          exact ih5 (x1) (x2) σ0 _ _ _ hf hP hD hS (lv_sub hl [0, 1, 2] rfl)
        rw [if_neg c36] at hf
        refine lv_aload_n hx hb d_M_decode_169 rfl (lv_at hl 0 rfl) ?_
        refine lv_aload_n hx hb d_M_decode_170 rfl (lv_at hl 0 rfl) ?_
        refine va_get (D := X) (ci := 9) (C := R_M) (T := T_M) (N := 35) hx hb hts u_0 hown hK hP 0 gm_0 rfl 17 (by decide) k_3 (fun _ h9 => h9) rfl d_M_decode_171 ?_
        refine lv_iload_n hx hb d_M_decode_174 rfl (lv_at hl 2 rfl) ?_
        obtain ⟨y37, h38, e39, hf⟩ := gLd_e hf
        refine va_iald hx hb hK hP 15 0 gm_15 rfl h38 d_M_decode_175 ?_
        rw [← e39]
        refine lv_aload_n hx hb d_M_decode_176 rfl (lv_at hl 0 rfl) ?_
        refine va_get (D := X) (ci := 9) (C := R_M) (T := T_M) (N := 35) hx hb hts u_0 hown hK hP 0 gm_0 rfl 15 (by decide) k_4 (fun _ h9 => h9) rfl d_M_decode_177 ?_
        refine lv_bipush (v := 12) hx hb d_M_decode_180 (by decide) ?_
        refine lv_iload_n hx hb d_M_decode_182 rfl (lv_at hl 2 rfl) ?_
        refine lv_imul hx hb d_M_decode_183 ?_
        refine lv_iload_n hx hb d_M_decode_184 rfl (lv_at hl 3 rfl) ?_
        refine lv_iadd hx hb d_M_decode_185 ?_
        obtain ⟨y40, h41, e42, hf⟩ := gLd_e hf
        refine va_cald hx hb hK hP 13 1 gm_13 rfl h41 d_M_decode_186 ?_
        rw [← e42]
        obtain ⟨y43, σ44, e45, hf⟩ := gBd_e hf
        refine g_wi (va_runV ⟨hx, hb, hml, hown, hts⟩ (m_M_type e45) (cwV 2 hts (gG4 (fun _ h => List.mem_cons_of_mem _ h) tb_113 tb_114 tb_115 tb_89 tc_M_type) rfl rfl rfl (by decide +kernel) ⟨Nat.le_of_ble_eq_true rfl, Nat.le_of_ble_eq_true rfl⟩) (g_preVW (q0 := 0) hN hK hP hD gm_0 rfl) rfl rfl hl.1 rfl (lv_room (Nat.le_of_ble_eq_true rfl)) d_M_decode_187 ⟨Nat.zero_le _, Nat.zero_le _⟩) hD hS hA (fun _ => mW_fst) (fun y43 _ H locs hu hP hD hS => ?_)
        subst hu
        refine lv_pop hx hb d_M_decode_190 rfl ?_
        refine lv_iinc (k := 3) (v := (x3 + 1)) hx hb d_M_decode_191 hl rfl (by rw [show Int32.ofInt (1) = (1 : Int32) by decide]) (by decide) rfl (fun ls hl => ?_)
        refine lv_goto (tgt := 148) hx hb d_M_decode_194 rfl ?_
        exact ih4 (x1) (x2) ((x3 + 1)) σ44 _ _ _ hf hP hD hS (lv_sub hl [1, 2, 3, 0] rfl)
      · intro x1 x2 σ0 H locs ls hf hP hD hS hl
        have hf : B_M_decode_5 (R_M_decode t) x1 x2 σ0 = some (r, σ') := hf
        unfold B_M_decode_5 at hf
        refine lv_iinc (k := 2) (v := (x2 + 1)) hx hb d_M_decode_197 hl rfl (by rw [show Int32.ofInt (1) = (1 : Int32) by decide]) (by decide) rfl (fun ls hl => ?_)
        refine lv_goto (tgt := 66) hx hb d_M_decode_200 rfl ?_
        exact ih1 (x1) ((x2 + 1)) σ0 _ _ _ hf hP hD hS (lv_sub hl [1, 2, 0] rfl)
      · intro x1 x2 σ0 H locs ls hf hP hD hS hl
        have hf : B_M_decode_6 (R_M_decode t) x1 x2 σ0 = some (r, σ') := hf
        unfold B_M_decode_6 at hf
        refine lv_iload_n hx hb d_M_decode_207 rfl (lv_at hl 2 rfl) ?_
        refine lv_aload_n hx hb d_M_decode_208 rfl (lv_at hl 0 rfl) ?_
        refine va_get (D := X) (ci := 9) (C := R_M) (T := T_M) (N := 35) hx hb hts u_0 hown hK hP 0 gm_0 rfl 9 (by decide) k_1 (fun _ h9 => h9) rfl d_M_decode_209 ?_
        refine lv_icmp_ge (tgt := 312) hx hb d_M_decode_212 rfl (fun c46 => ?_) (fun c46 => ?_)
        · skip
          rw [if_pos c46] at hf
          refine lv_aload_n hx hb d_M_decode_312 rfl (lv_at hl 0 rfl) ?_
          refine va_get (D := X) (ci := 9) (C := R_M) (T := T_M) (N := 35) hx hb hts u_0 hown hK hP 0 gm_0 rfl 17 (by decide) k_3 (fun _ h9 => h9) rfl d_M_decode_313 ?_
          refine lv_aload_n hx hb d_M_decode_316 rfl (lv_at hl 0 rfl) ?_
          refine lv_iload_n hx hb d_M_decode_317 rfl (lv_at hl 1 rfl) ?_
          refine lv_iconst (v := 1) hx hb d_M_decode_318 (by decide) ?_
          refine lv_iadd hx hb d_M_decode_319 ?_
          refine lv_iload_n hx hb d_M_decode_320 rfl (lv_at hl 1 rfl) ?_
          cases hf
        rw [if_neg c46] at hf
        refine lv_aload_n hx hb d_M_decode_215 rfl (lv_at hl 0 rfl) ?_
        refine va_get (D := X) (ci := 9) (C := R_M) (T := T_M) (N := 35) hx hb hts u_0 hown hK hP 0 gm_0 rfl 11 (by decide) k_5 (fun _ h9 => h9) rfl d_M_decode_216 ?_
        refine lv_iload_n hx hb d_M_decode_219 rfl (lv_at hl 2 rfl) ?_
        obtain ⟨y50, h51, e52, hf⟩ := gLd_e hf
        refine va_iald hx hb hK hP 9 0 gm_9 rfl h51 d_M_decode_220 ?_
        rw [← e52]
        refine lv_iload_n hx hb d_M_decode_221 rfl (lv_at hl 1 rfl) ?_
        refine lv_icmp_eq (tgt := 306) hx hb d_M_decode_222 rfl (fun c53 => ?_) (fun c53 => ?_)
        · skip
          rw [if_pos c53] at hf
          exact ih7 (x1) (x2) σ0 _ _ _ hf hP hD hS (lv_sub hl [0, 1, 2] rfl)
        rw [if_neg c53] at hf
        refine lv_aload_n hx hb d_M_decode_225 rfl (lv_at hl 0 rfl) ?_
        refine va_get (D := X) (ci := 9) (C := R_M) (T := T_M) (N := 35) hx hb hts u_0 hown hK hP 0 gm_0 rfl 10 (by decide) k_0 (fun _ h9 => h9) rfl d_M_decode_226 ?_
        refine lv_iload_n hx hb d_M_decode_229 rfl (lv_at hl 2 rfl) ?_
        obtain ⟨y54, h55, e56, hf⟩ := gLd_e hf
        refine va_iald hx hb hK hP 8 0 gm_8 rfl h55 d_M_decode_230 ?_
        rw [← e56]
        refine lv_bipush (v := 14) hx hb d_M_decode_231 (by decide) ?_
        refine lv_icmp_ne (tgt := 239) hx hb d_M_decode_233 rfl (fun c57 => ?_) (fun c57 => ?_)
        · skip
          rw [if_neg c57] at hf
          refine lv_aload_n hx hb d_M_decode_239 rfl (lv_at hl 0 rfl) ?_
          refine va_get (D := X) (ci := 9) (C := R_M) (T := T_M) (N := 35) hx hb hts u_0 hown hK hP 0 gm_0 rfl 17 (by decide) k_3 (fun _ h9 => h9) rfl d_M_decode_240 ?_
          refine lv_aload_n hx hb d_M_decode_243 rfl (lv_at hl 0 rfl) ?_
          refine va_get (D := X) (ci := 9) (C := R_M) (T := T_M) (N := 35) hx hb hts u_0 hown hK hP 0 gm_0 rfl 11 (by decide) k_5 (fun _ h9 => h9) rfl d_M_decode_244 ?_
          refine lv_iload_n hx hb d_M_decode_247 rfl (lv_at hl 2 rfl) ?_
          obtain ⟨y58, h59, e60, hf⟩ := gLd_e hf
          refine va_iald hx hb hK hP 9 0 gm_9 rfl h59 d_M_decode_248 ?_
          rw [← e60]
          obtain ⟨y61, h62, e63, hf⟩ := gLd_e hf
          refine va_iald hx hb hK hP 15 0 gm_15 rfl h62 d_M_decode_249 ?_
          rw [← e63]
          refine lv_istore_n hx hb d_M_decode_250 rfl hl (by decide) rfl (fun ls hl => ?_)
          refine lv_aload_n hx hb d_M_decode_251 rfl (lv_at hl 1 rfl) ?_
          refine va_get (D := X) (ci := 9) (C := R_M) (T := T_M) (N := 35) hx hb hts u_0 hown hK hP 0 gm_0 rfl 10 (by decide) k_0 (fun _ h9 => h9) rfl d_M_decode_252 ?_
          refine lv_iload_n hx hb d_M_decode_255 rfl (lv_at hl 3 rfl) ?_
          obtain ⟨y64, h65, e66, hf⟩ := gLd_e hf
          refine va_iald hx hb hK hP 8 0 gm_8 rfl h65 d_M_decode_256 ?_
          rw [← e66]
          refine lv_bipush (v := 9) hx hb d_M_decode_257 (by decide) ?_
          refine lv_icmp_ne (tgt := 283) hx hb d_M_decode_259 rfl (fun c67 => ?_) (fun c67 => ?_)
          · skip
            rw [if_neg c67] at hf
            refine lv_aload_n hx hb d_M_decode_283 rfl (lv_at hl 1 rfl) ?_
            refine lv_iload_n hx hb d_M_decode_284 rfl (lv_at hl 0 rfl) ?_
            refine lv_aload_n hx hb d_M_decode_285 rfl (lv_at hl 1 rfl) ?_
            refine va_get (D := X) (ci := 9) (C := R_M) (T := T_M) (N := 35) hx hb hts u_0 hown hK hP 0 gm_0 rfl 16 (by decide) k_6 (fun _ h9 => h9) rfl d_M_decode_286 ?_
            refine lv_iload_n hx hb d_M_decode_289 rfl (lv_at hl 3 rfl) ?_
            obtain ⟨y68, h69, e70, hf⟩ := gLd_e hf
            refine va_iald hx hb hK hP 14 0 gm_14 rfl h69 d_M_decode_290 ?_
            rw [← e70]
            refine lv_aload_n hx hb d_M_decode_291 rfl (lv_at hl 1 rfl) ?_
            refine va_get (D := X) (ci := 9) (C := R_M) (T := T_M) (N := 35) hx hb hts u_0 hown hK hP 0 gm_0 rfl 17 (by decide) k_3 (fun _ h9 => h9) rfl d_M_decode_292 ?_
            refine lv_aload_n hx hb d_M_decode_295 rfl (lv_at hl 1 rfl) ?_
            refine lv_iload_n hx hb d_M_decode_296 rfl (lv_at hl 3 rfl) ?_
            refine lv_iload_n hx hb d_M_decode_297 rfl (lv_at hl 2 rfl) ?_
            cases hf
          rw [if_pos c67] at hf
          refine lv_aload_n hx hb d_M_decode_262 rfl (lv_at hl 1 rfl) ?_
          refine lv_iload_n hx hb d_M_decode_263 rfl (lv_at hl 0 rfl) ?_
          refine lv_aload_n hx hb d_M_decode_264 rfl (lv_at hl 1 rfl) ?_
          refine va_get (D := X) (ci := 9) (C := R_M) (T := T_M) (N := 35) hx hb hts u_0 hown hK hP 0 gm_0 rfl 16 (by decide) k_6 (fun _ h9 => h9) rfl d_M_decode_265 ?_
          refine lv_iload_n hx hb d_M_decode_268 rfl (lv_at hl 3 rfl) ?_
          obtain ⟨y74, h75, e76, hf⟩ := gLd_e hf
          refine va_iald hx hb hK hP 14 0 gm_14 rfl h75 d_M_decode_269 ?_
          rw [← e76]
          refine lv_aload_n hx hb d_M_decode_270 rfl (lv_at hl 1 rfl) ?_
          refine lv_iload_n hx hb d_M_decode_271 rfl (lv_at hl 3 rfl) ?_
          cases hf
        rw [if_pos c57] at hf
        refine lv_goto (tgt := 306) hx hb d_M_decode_236 rfl ?_
        exact ih7 (x1) (x2) σ0 _ _ _ hf hP hD hS (lv_sub hl [0, 1, 2] rfl)
      · intro x1 x2 σ0 H locs ls hf hP hD hS hl
        have hf : B_M_decode_7 (R_M_decode t) x1 x2 σ0 = some (r, σ') := hf
        unfold B_M_decode_7 at hf
        refine lv_iinc (k := 2) (v := (x2 + 1)) hx hb d_M_decode_306 hl rfl (by rw [show Int32.ofInt (1) = (1 : Int32) by decide]) (by decide) rfl (fun ls hl => ?_)
        refine lv_goto (tgt := 207) hx hb d_M_decode_309 rfl ?_
        exact ih6 (x1) ((x2 + 1)) σ0 _ _ _ hf hP hD hS (lv_sub hl [1, 2, 0] rfl)
  exact (key gFuel).1  σ _ _ _ hf hP hD hS hl
