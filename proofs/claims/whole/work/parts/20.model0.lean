def B_M_make_0 (rec : Nat → List Int32 → gS → Option (Int32 × gS)) (x1 : Int32) (x2 : Int32) (σ0 : gS) : Option (Int32 × gS) := if x1 < 0 then (some ((-1), σ0)) else (if 2 < x1 then (some ((-1), σ0)) else (if x1 = 1 then (if x2 < 0 then (some ((-1), σ0)) else (if 4 < x2 then (some ((-1), σ0)) else (rec 1 [x1, x2] σ0))) else (rec 1 [x1, x2] σ0)))
def B_M_make_1 (rec : Nat → List Int32 → gS → Option (Int32 × gS)) (x1 : Int32) (x2 : Int32) (σ0 : gS) : Option (Int32 × gS) := if (σ0.1 0) = 16 then (some ((-1), σ0)) else (gSt σ0 1 16 (σ0.1 0) x1 (fun σ7 => if x1 = 0 then (rec 2 [(σ7.1 0), 2] σ7) else (if x1 = 1 then (rec 2 [(σ7.1 0), x2] σ7) else (rec 2 [(σ7.1 0), 0] σ7))))
def B_M_make_2 (rec : Nat → List Int32 → gS → Option (Int32 × gS)) (z1 : Int32) (z2 : Int32) (σ0 : gS) : Option (Int32 × gS) := gSt σ0 2 16 z1 z2 (fun σ12 => rec 3 [0] σ12)
def B_M_make_3 (rec : Nat → List Int32 → gS → Option (Int32 × gS)) (x3 : Int32) (σ0 : gS) : Option (Int32 × gS) := if 4 ≤ x3 then (gPut σ0 0 ((σ0.1 0) + 1) (fun σ16 => some (((σ16.1 0) - 1), σ16))) else (gSt σ0 3 64 ((4 * (σ0.1 0)) + x3) 0 (fun σ18 => rec 3 [(x3 + 1)] σ18))
def S_M_make (rec : Nat → List Int32 → gS → Option (Int32 × gS)) (k : Nat) (l : List Int32) (σ0 : gS) : Option (Int32 × gS) := match k, l with
  | 0, [x1, x2] => B_M_make_0 rec x1 x2 σ0
  | 1, [x1, x2] => B_M_make_1 rec x1 x2 σ0
  | 2, [z1, z2] => B_M_make_2 rec z1 z2 σ0
  | 3, [x3] => B_M_make_3 rec x3 σ0
  | _, _ => none
def R_M_make : Nat → Nat → List Int32 → gS → Option (Int32 × gS)
  | 0 => fun _ _ _ => none
  | t + 1 => fun k l σ0 => S_M_make (R_M_make t) k l σ0
def f_M_make (σ : gS) (x1 : Int32) (x2 : Int32) : Option (Int32 × gS) := R_M_make gFuel 0 [x1, x2] σ
set_option maxHeartbeats 4000000 in
set_option maxRecDepth 100000 in
theorem m_M_make {l : Launch} {X : va_G} {cI cC cZ : ClassId} {aK aV : Nat → Nat} {b : Nat → Nat} {σ σ' : gS} {r : Int32} {q1 : Int32} {q2 : Int32} (hf : f_M_make σ q1 q2 = some (r, σ')) {sz : Nat} : Met l y_M_make w_M_make { frames := 0, cells := 0, slots := 0, locals := 0 } (gPc X vwCl (gT cI cC cZ) aK aV (mW cI cC cZ b σ) sz [.ref (b 0), .int q1, .int q2]) (gQi X vwCl (mW cI cC cZ b σ) sz (fun r' (_ : Unit) => r' = r) (fun _ => mW cI cC cZ b σ')) 0 0 (va_A (mW cI cC cZ b σ) sz) := by
  refine g_met (cc := b_M_make) (maxL := 4) (ret := (some .int)) (by decide) rfl (Nat.le_of_ble_eq_true rfl) ?_
  intro p e s m below meth c A ls hx hb hr hml hown hts hlocks hnm hsz hAe hA hP hK hD hS hl hE
  have hown : s.vm.findClass R_M = some m.cls := hown
  have u_0 : ∀ w ∈ u_ws R_M T_M 35, w ∈ w_M_make := fun w h => List.mem_cons_of_mem _ (tu_M w h)
  have k_0 := hts (.fieldLink R_M 87 "GraphPagesModel" "count" "I") (List.mem_cons_of_mem _ tb_385)
  have k_1 := hts (.fieldLink R_M 7 "GraphPagesModel" "sort" "[I") (List.mem_cons_of_mem _ tb_386)
  have k_2 := hts (.fieldLink R_M 13 "GraphPagesModel" "room" "[I") (List.mem_cons_of_mem _ tb_387)
  have k_3 := hts (.fieldLink R_M 16 "GraphPagesModel" "what" "[I") (List.mem_cons_of_mem _ tb_388)
  unfold f_M_make at hf
  have key : ∀ t : Nat, (∀ (x1 : Int32) (x2 : Int32) (σ0 : gS) (H : Heap) (locs : List Loc) (ls : Array Slot), R_M_make t 0 [x1, x2] σ0 = some (r, σ') → va_P X vwCl (mW cI cC cZ b σ0) H → va_D A (mW cI cC cZ b σ0) → va_S A s.heap H locs → lv_has ls 4 [(0, .ref (b 0)), (1, .int x1), (2, .int x2)] → W p l e (headSpec w_M_make { frames := 0, cells := 0, slots := 0, locals := 0 }).room s m [.ref (b 0), .int q1, .int q2].toArray below meth c H locs 0 0 (MQ below (gQi X vwCl (mW cI cC cZ b σ) sz (fun r' (_ : Unit) => r' = r) (fun _ => mW cI cC cZ b σ')) [.ref (b 0), .int q1, .int q2].toArray s 0 0 (va_A (mW cI cC cZ b σ) sz)) (F0 m 0 ls [])) ∧ (∀ (x1 : Int32) (x2 : Int32) (σ0 : gS) (H : Heap) (locs : List Loc) (ls : Array Slot), R_M_make t 1 [x1, x2] σ0 = some (r, σ') → va_P X vwCl (mW cI cC cZ b σ0) H → va_D A (mW cI cC cZ b σ0) → va_S A s.heap H locs → lv_has ls 4 [(0, .ref (b 0)), (1, .int x1), (2, .int x2)] → W p l e (headSpec w_M_make { frames := 0, cells := 0, slots := 0, locals := 0 }).room s m [.ref (b 0), .int q1, .int q2].toArray below meth c H locs 0 0 (MQ below (gQi X vwCl (mW cI cC cZ b σ) sz (fun r' (_ : Unit) => r' = r) (fun _ => mW cI cC cZ b σ')) [.ref (b 0), .int q1, .int q2].toArray s 0 0 (va_A (mW cI cC cZ b σ) sz)) (F0 m 23 ls [])) ∧ (∀ (z1 : Int32) (z2 : Int32) (σ0 : gS) (H : Heap) (locs : List Loc) (ls : Array Slot), R_M_make t 2 [z1, z2] σ0 = some (r, σ') → va_P X vwCl (mW cI cC cZ b σ0) H → va_D A (mW cI cC cZ b σ0) → va_S A s.heap H locs → lv_has ls 4 [(0, .ref (b 0))] → W p l e (headSpec w_M_make { frames := 0, cells := 0, slots := 0, locals := 0 }).room s m [.ref (b 0), .int q1, .int q2].toArray below meth c H locs 0 0 (MQ below (gQi X vwCl (mW cI cC cZ b σ) sz (fun r' (_ : Unit) => r' = r) (fun _ => mW cI cC cZ b σ')) [.ref (b 0), .int q1, .int q2].toArray s 0 0 (va_A (mW cI cC cZ b σ) sz)) (F0 m 70 ls [.int z2, .int z1, .ref (b 2)])) ∧ (∀ (x3 : Int32) (σ0 : gS) (H : Heap) (locs : List Loc) (ls : Array Slot), R_M_make t 3 [x3] σ0 = some (r, σ') → va_P X vwCl (mW cI cC cZ b σ0) H → va_D A (mW cI cC cZ b σ0) → va_S A s.heap H locs → lv_has ls 4 [(0, .ref (b 0)), (3, .int x3)] → W p l e (headSpec w_M_make { frames := 0, cells := 0, slots := 0, locals := 0 }).room s m [.ref (b 0), .int q1, .int q2].toArray below meth c H locs 0 0 (MQ below (gQi X vwCl (mW cI cC cZ b σ) sz (fun r' (_ : Unit) => r' = r) (fun _ => mW cI cC cZ b σ')) [.ref (b 0), .int q1, .int q2].toArray s 0 0 (va_A (mW cI cC cZ b σ) sz)) (F0 m 73 ls [])) := by
    intro t
    induction t with
    | zero => exact ⟨fun _ _ _ _ _ _ hf => (by have hf : (none : Option (Int32 × gS)) = some (r, σ') := hf; cases hf), fun _ _ _ _ _ _ hf => (by have hf : (none : Option (Int32 × gS)) = some (r, σ') := hf; cases hf), fun _ _ _ _ _ _ hf => (by have hf : (none : Option (Int32 × gS)) = some (r, σ') := hf; cases hf), fun _ _ _ _ _ hf => (by have hf : (none : Option (Int32 × gS)) = some (r, σ') := hf; cases hf)⟩
    | succ t ih =>
      obtain ⟨ih0, ih1, ih2, ih3⟩ := ih
      refine ⟨?_, ?_, ?_, ?_⟩
      · intro x1 x2 σ0 H locs ls hf hP hD hS hl
        have hf : B_M_make_0 (R_M_make t) x1 x2 σ0 = some (r, σ') := hf
        unfold B_M_make_0 at hf
        refine lv_iload_n hx hb d_M_make_0 rfl (lv_at hl 1 rfl) ?_
        refine lv_if_lt (tgt := 32) hx hb d_M_make_1 rfl (fun c1 => ?_) (fun c1 => ?_)
        · skip
          rw [if_pos c1] at hf
          refine lv_iconst (v := (-1)) hx hb d_M_make_32 (by decide) ?_
          obtain ⟨rfl, rfl⟩ := gRt_e hf
          exact g_zret hx hb hr hlocks rfl hAe hS () rfl hP d_M_make_33
        rw [if_neg c1] at hf
        refine lv_iload_n hx hb d_M_make_4 rfl (lv_at hl 1 rfl) ?_
        refine lv_iconst (v := 2) hx hb d_M_make_5 (by decide) ?_
        refine lv_icmp_gt (tgt := 32) hx hb d_M_make_6 rfl (fun c2 => ?_) (fun c2 => ?_)
        · skip
          rw [if_pos c2] at hf
          refine lv_iconst (v := (-1)) hx hb d_M_make_32 (by decide) ?_
          obtain ⟨rfl, rfl⟩ := gRt_e hf
          exact g_zret hx hb hr hlocks rfl hAe hS () rfl hP d_M_make_33
        rw [if_neg c2] at hf
        refine lv_iload_n hx hb d_M_make_9 rfl (lv_at hl 1 rfl) ?_
        refine lv_iconst (v := 1) hx hb d_M_make_10 (by decide) ?_
        refine lv_icmp_ne (tgt := 23) hx hb d_M_make_11 rfl (fun c3 => ?_) (fun c3 => ?_)
        · skip
          rw [if_neg c3] at hf
          exact ih1 (x1) (x2) σ0 _ _ _ hf hP hD hS (lv_sub hl [0, 1, 2] rfl)
        rw [if_pos c3] at hf
        refine lv_iload_n hx hb d_M_make_14 rfl (lv_at hl 2 rfl) ?_
        refine lv_if_lt (tgt := 32) hx hb d_M_make_15 rfl (fun c4 => ?_) (fun c4 => ?_)
        · skip
          rw [if_pos c4] at hf
          refine lv_iconst (v := (-1)) hx hb d_M_make_32 (by decide) ?_
          obtain ⟨rfl, rfl⟩ := gRt_e hf
          exact g_zret hx hb hr hlocks rfl hAe hS () rfl hP d_M_make_33
        rw [if_neg c4] at hf
        refine lv_iload_n hx hb d_M_make_18 rfl (lv_at hl 2 rfl) ?_
        refine lv_iconst (v := 4) hx hb d_M_make_19 (by decide) ?_
        refine lv_icmp_gt (tgt := 32) hx hb d_M_make_20 rfl (fun c5 => ?_) (fun c5 => ?_)
        · skip
          rw [if_pos c5] at hf
          refine lv_iconst (v := (-1)) hx hb d_M_make_32 (by decide) ?_
          obtain ⟨rfl, rfl⟩ := gRt_e hf
          exact g_zret hx hb hr hlocks rfl hAe hS () rfl hP d_M_make_33
        rw [if_neg c5] at hf
        exact ih1 (x1) (x2) σ0 _ _ _ hf hP hD hS (lv_sub hl [0, 1, 2] rfl)
      · intro x1 x2 σ0 H locs ls hf hP hD hS hl
        have hf : B_M_make_1 (R_M_make t) x1 x2 σ0 = some (r, σ') := hf
        unfold B_M_make_1 at hf
        refine lv_aload_n hx hb d_M_make_23 rfl (lv_at hl 0 rfl) ?_
        refine va_get (D := X) (ci := 9) (C := R_M) (T := T_M) (N := 35) hx hb hts u_0 hown hK hP 0 gm_0 rfl 0 (by decide) k_0 (fun _ h9 => h9) rfl d_M_make_24 ?_
        refine lv_bipush (v := 16) hx hb d_M_make_27 (by decide) ?_
        refine lv_icmp_ne (tgt := 34) hx hb d_M_make_29 rfl (fun c6 => ?_) (fun c6 => ?_)
        · skip
          rw [if_neg c6] at hf
          refine lv_aload_n hx hb d_M_make_34 rfl (lv_at hl 0 rfl) ?_
          refine va_get (D := X) (ci := 9) (C := R_M) (T := T_M) (N := 35) hx hb hts u_0 hown hK hP 0 gm_0 rfl 1 (by decide) k_1 (fun _ h9 => h9) rfl d_M_make_35 ?_
          refine lv_aload_n hx hb d_M_make_38 rfl (lv_at hl 0 rfl) ?_
          refine va_get (D := X) (ci := 9) (C := R_M) (T := T_M) (N := 35) hx hb hts u_0 hown hK hP 0 gm_0 rfl 0 (by decide) k_0 (fun _ h9 => h9) rfl d_M_make_39 ?_
          refine lv_iload_n hx hb d_M_make_42 rfl (lv_at hl 1 rfl) ?_
          obtain ⟨σ7, h8, e9, hf⟩ := gSt_e hf
          refine va_iast hx hb hK hP hD hS 1 0 gm_1 rfl h8 d_M_make_43 (fun H locs hP hD hS => ?_)
          rw [sm_1, ← e9] at hP hD
          refine lv_aload_n hx hb d_M_make_44 rfl (lv_at hl 0 rfl) ?_
          refine va_get (D := X) (ci := 9) (C := R_M) (T := T_M) (N := 35) hx hb hts u_0 hown hK hP 0 gm_0 rfl 2 (by decide) k_2 (fun _ h9 => h9) rfl d_M_make_45 ?_
          refine lv_aload_n hx hb d_M_make_48 rfl (lv_at hl 0 rfl) ?_
          refine va_get (D := X) (ci := 9) (C := R_M) (T := T_M) (N := 35) hx hb hts u_0 hown hK hP 0 gm_0 rfl 0 (by decide) k_0 (fun _ h9 => h9) rfl d_M_make_49 ?_
          refine lv_iload_n hx hb d_M_make_52 rfl (lv_at hl 1 rfl) ?_
          refine lv_if_ne (tgt := 60) hx hb d_M_make_53 rfl (fun c10 => ?_) (fun c10 => ?_)
          · skip
            rw [if_neg c10] at hf
            refine lv_iload_n hx hb d_M_make_60 rfl (lv_at hl 1 rfl) ?_
            refine lv_iconst (v := 1) hx hb d_M_make_61 (by decide) ?_
            refine lv_icmp_ne (tgt := 69) hx hb d_M_make_62 rfl (fun c11 => ?_) (fun c11 => ?_)
            · skip
              rw [if_neg c11] at hf
              refine lv_iconst (v := 0) hx hb d_M_make_69 (by decide) ?_
              exact ih2 ((σ7.1 0)) (0) σ7 _ _ _ hf hP hD hS (lv_sub hl [0] rfl)
            rw [if_pos c11] at hf
            refine lv_iload_n hx hb d_M_make_65 rfl (lv_at hl 2 rfl) ?_
            refine lv_goto (tgt := 70) hx hb d_M_make_66 rfl ?_
            exact ih2 ((σ7.1 0)) (x2) σ7 _ _ _ hf hP hD hS (lv_sub hl [0] rfl)
          rw [if_pos c10] at hf
          refine lv_iconst (v := 2) hx hb d_M_make_56 (by decide) ?_
          refine lv_goto (tgt := 70) hx hb d_M_make_57 rfl ?_
          exact ih2 ((σ7.1 0)) (2) σ7 _ _ _ hf hP hD hS (lv_sub hl [0] rfl)
        rw [if_pos c6] at hf
        refine lv_iconst (v := (-1)) hx hb d_M_make_32 (by decide) ?_
        obtain ⟨rfl, rfl⟩ := gRt_e hf
        exact g_zret hx hb hr hlocks rfl hAe hS () rfl hP d_M_make_33
      · intro z1 z2 σ0 H locs ls hf hP hD hS hl
        have hf : B_M_make_2 (R_M_make t) z1 z2 σ0 = some (r, σ') := hf
        unfold B_M_make_2 at hf
        obtain ⟨σ12, h13, e14, hf⟩ := gSt_e hf
        refine va_iast hx hb hK hP hD hS 2 0 gm_2 rfl h13 d_M_make_70 (fun H locs hP hD hS => ?_)
        rw [sm_2, ← e14] at hP hD
        refine lv_iconst (v := 0) hx hb d_M_make_71 (by decide) ?_
        refine lv_istore_n hx hb d_M_make_72 rfl hl (by decide) rfl (fun ls hl => ?_)
        exact ih3 (0) σ12 _ _ _ hf hP hD hS (lv_sub hl [1, 0] rfl)
      · intro x3 σ0 H locs ls hf hP hD hS hl
        have hf : B_M_make_3 (R_M_make t) x3 σ0 = some (r, σ') := hf
        unfold B_M_make_3 at hf
        refine lv_iload_n hx hb d_M_make_73 rfl (lv_at hl 1 rfl) ?_
        refine lv_iconst (v := 4) hx hb d_M_make_74 (by decide) ?_
        refine lv_icmp_ge (tgt := 98) hx hb d_M_make_75 rfl (fun c15 => ?_) (fun c15 => ?_)
        · skip
          rw [if_pos c15] at hf
          refine lv_aload_n hx hb d_M_make_98 rfl (lv_at hl 0 rfl) ?_
          refine lv_dup hx hb d_M_make_99 rfl ?_
          refine va_get (D := X) (ci := 9) (C := R_M) (T := T_M) (N := 35) hx hb hts u_0 hown hK hP 0 gm_0 rfl 0 (by decide) k_0 (fun _ h9 => h9) rfl d_M_make_100 ?_
          refine lv_iconst (v := 1) hx hb d_M_make_103 (by decide) ?_
          refine lv_iadd hx hb d_M_make_104 ?_
          obtain ⟨σ16, e17, hf⟩ := gPut_e hf
          refine va_put (D := X) (ci := 9) (ty := .int) (C := R_M) (T := T_M) (N := 35) hx hb hts u_0 t_M t_M_ok n_M hown hK hP hD hS 0 gm_0 rfl 0 (by decide) k_0 (fun _ h9 => h9) rfl (by decide +kernel) rfl rfl (Nat.le_of_ble_eq_true rfl) d_M_make_105 (fun H locs hP hD hS => ?_)
          rw [sm_0_0, ← e17] at hP hD
          refine lv_aload_n hx hb d_M_make_108 rfl (lv_at hl 0 rfl) ?_
          refine va_get (D := X) (ci := 9) (C := R_M) (T := T_M) (N := 35) hx hb hts u_0 hown hK hP 0 gm_0 rfl 0 (by decide) k_0 (fun _ h9 => h9) rfl d_M_make_109 ?_
          refine lv_iconst (v := 1) hx hb d_M_make_112 (by decide) ?_
          refine lv_isub hx hb d_M_make_113 ?_
          obtain ⟨rfl, rfl⟩ := gRt_e hf
          exact g_zret hx hb hr hlocks rfl hAe hS () rfl hP d_M_make_114
        rw [if_neg c15] at hf
        refine lv_aload_n hx hb d_M_make_78 rfl (lv_at hl 0 rfl) ?_
        refine va_get (D := X) (ci := 9) (C := R_M) (T := T_M) (N := 35) hx hb hts u_0 hown hK hP 0 gm_0 rfl 3 (by decide) k_3 (fun _ h9 => h9) rfl d_M_make_79 ?_
        refine lv_iconst (v := 4) hx hb d_M_make_82 (by decide) ?_
        refine lv_aload_n hx hb d_M_make_83 rfl (lv_at hl 0 rfl) ?_
        refine va_get (D := X) (ci := 9) (C := R_M) (T := T_M) (N := 35) hx hb hts u_0 hown hK hP 0 gm_0 rfl 0 (by decide) k_0 (fun _ h9 => h9) rfl d_M_make_84 ?_
        refine lv_imul hx hb d_M_make_87 ?_
        refine lv_iload_n hx hb d_M_make_88 rfl (lv_at hl 1 rfl) ?_
        refine lv_iadd hx hb d_M_make_89 ?_
        refine lv_iconst (v := 0) hx hb d_M_make_90 (by decide) ?_
        obtain ⟨σ18, h19, e20, hf⟩ := gSt_e hf
        refine va_iast hx hb hK hP hD hS 3 0 gm_3 rfl h19 d_M_make_91 (fun H locs hP hD hS => ?_)
        rw [sm_3, ← e20] at hP hD
        refine lv_iinc (k := 1) (v := (x3 + 1)) hx hb d_M_make_92 hl rfl (by rw [show Int32.ofInt (1) = (1 : Int32) by decide]) (by decide) rfl (fun ls hl => ?_)
        refine lv_goto (tgt := 73) hx hb d_M_make_95 rfl ?_
        exact ih3 ((x3 + 1)) σ18 _ _ _ hf hP hD hS (lv_sub hl [1, 0] rfl)
  exact (key gFuel).1 q1 q2 σ _ _ _ hf hP hD hS hl

def f_M_object (σ : gS) (x1 : Int32) : Option (Int32 × gS) := if x1 < 0 then (some (0, σ)) else (if (σ.1 0) ≤ x1 then (some (0, σ)) else (some (1, σ)))
set_option maxHeartbeats 4000000 in
set_option maxRecDepth 100000 in
theorem m_M_object {l : Launch} {X : va_G} {cI cC cZ : ClassId} {aK aV : Nat → Nat} {b : Nat → Nat} {σ σ' : gS} {r : Int32} {x1 : Int32} (hf : f_M_object σ x1 = some (r, σ')) {sz : Nat} : Met l y_M_object w_M_object { frames := 0, cells := 0, slots := 0, locals := 0 } (gPc X vwCl (gT cI cC cZ) aK aV (mW cI cC cZ b σ) sz [.ref (b 0), .int x1]) (gQi X vwCl (mW cI cC cZ b σ) sz (fun r' (_ : Unit) => r' = r) (fun _ => mW cI cC cZ b σ')) 0 0 (va_A (mW cI cC cZ b σ) sz) := by
  refine g_met (cc := b_M_object) (maxL := 2) (ret := (some .boolean)) (by decide) rfl (Nat.le_of_ble_eq_true rfl) ?_
  intro p e s m below meth c A ls hx hb hr hml hown hts hlocks hnm hsz hAe hA hP hK hD hS hl hE
  have hown : s.vm.findClass R_M = some m.cls := hown
  have u_0 : ∀ w ∈ u_ws R_M T_M 35, w ∈ w_M_object := fun w h => List.mem_cons_of_mem _ (tu_M w h)
  have k_0 := hts (.fieldLink R_M 87 "GraphPagesModel" "count" "I") (List.mem_cons_of_mem _ tb_385)
  unfold f_M_object at hf
  refine lv_iload_n hx hb d_M_object_0 rfl (lv_at hl 1 rfl) ?_
  refine lv_if_lt (tgt := 16) hx hb d_M_object_1 rfl (fun c1 => ?_) (fun c1 => ?_)
  · skip
    rw [if_pos c1] at hf
    refine lv_iconst (v := 0) hx hb d_M_object_16 (by decide) ?_
    obtain ⟨rfl, rfl⟩ := gRt_e hf
    exact g_zret hx hb hr hlocks rfl hAe hS () rfl hP d_M_object_17
  rw [if_neg c1] at hf
  refine lv_iload_n hx hb d_M_object_4 rfl (lv_at hl 1 rfl) ?_
  refine lv_aload_n hx hb d_M_object_5 rfl (lv_at hl 0 rfl) ?_
  refine va_get (D := X) (ci := 9) (C := R_M) (T := T_M) (N := 35) hx hb hts u_0 hown hK hP 0 gm_0 rfl 0 (by decide) k_0 (fun _ h9 => h9) rfl d_M_object_6 ?_
  refine lv_icmp_ge (tgt := 16) hx hb d_M_object_9 rfl (fun c2 => ?_) (fun c2 => ?_)
  · skip
    rw [if_pos c2] at hf
    refine lv_iconst (v := 0) hx hb d_M_object_16 (by decide) ?_
    obtain ⟨rfl, rfl⟩ := gRt_e hf
    exact g_zret hx hb hr hlocks rfl hAe hS () rfl hP d_M_object_17
  rw [if_neg c2] at hf
  refine lv_iconst (v := 1) hx hb d_M_object_12 (by decide) ?_
  refine lv_goto (tgt := 17) hx hb d_M_object_13 rfl ?_
  obtain ⟨rfl, rfl⟩ := gRt_e hf
  exact g_zret hx hb hr hlocks rfl hAe hS () rfl hP d_M_object_17

def f_M_type (σ : gS) (x1 : Int32) (x2 : Int32) : Option (Int32 × gS) := gBd (f_M_object σ x1) (fun y1 σ2 => if y1 = 0 then (some (0, σ2)) else (gLd σ2 1 16 x1 (fun y5 => if y5 = 2 then (if x2 < 32 then (some (0, σ2)) else (if 126 < x2 then (some (0, σ2)) else (gLd σ2 2 16 x1 (fun y11 => if y11 = 6 then (some (0, σ2)) else (gLd σ2 2 16 x1 (fun y15 => gSt σ2 5 96 ((6 * x1) + y15) x2 (fun σ18 => gLd σ18 2 16 x1 (fun y21 => gSt σ18 2 16 x1 (y21 + 1) (fun σ24 => some (1, σ24)))))))))) else (some (0, σ2)))))
set_option maxHeartbeats 4000000 in
set_option maxRecDepth 100000 in
theorem m_M_type {l : Launch} {X : va_G} {cI cC cZ : ClassId} {aK aV : Nat → Nat} {b : Nat → Nat} {σ σ' : gS} {r : Int32} {x1 : Int32} {x2 : Int32} (hf : f_M_type σ x1 x2 = some (r, σ')) {sz : Nat} : Met l y_M_type w_M_type { frames := 1, cells := 0, slots := 0, locals := 21 } (gPc X vwCl (gT cI cC cZ) aK aV (mW cI cC cZ b σ) sz [.ref (b 0), .int x1, .int x2]) (gQi X vwCl (mW cI cC cZ b σ) sz (fun r' (_ : Unit) => r' = r) (fun _ => mW cI cC cZ b σ')) 0 0 (va_A (mW cI cC cZ b σ) sz) := by
  refine g_met (cc := b_M_type) (maxL := 3) (ret := (some .boolean)) (by decide) rfl (Nat.le_of_ble_eq_true rfl) ?_
  intro p e s m below meth c A ls hx hb hr hml hown hts hlocks hnm hsz hAe hA hP hK hD hS hl hE
  have hown : s.vm.findClass R_M = some m.cls := hown
  have u_0 : ∀ w ∈ u_ws R_M T_M 35, w ∈ w_M_type := fun w h => List.mem_cons_of_mem _ (tu_M w h)
  have k_0 := hts (.fieldLink R_M 7 "GraphPagesModel" "sort" "[I") (List.mem_cons_of_mem _ tb_386)
  have k_1 := hts (.fieldLink R_M 13 "GraphPagesModel" "room" "[I") (List.mem_cons_of_mem _ tb_387)
  have k_2 := hts (.fieldLink R_M 22 "GraphPagesModel" "letters" "[I") (List.mem_cons_of_mem _ tb_393)
  unfold f_M_type at hf
  refine lv_aload_n hx hb d_M_type_0 rfl (lv_at hl 0 rfl) ?_
  refine lv_iload_n hx hb d_M_type_1 rfl (lv_at hl 1 rfl) ?_
  obtain ⟨y1, σ2, e3, hf⟩ := gBd_e hf
  refine g_wi (va_runV ⟨hx, hb, hml, hown, hts⟩ (m_M_object e3) (cwV 1 hts (gG4 (fun _ h => List.mem_cons_of_mem _ h) tb_389 tb_390 tb_391 tb_392 tc_M_object) rfl rfl rfl (by decide +kernel) ⟨Nat.le_of_ble_eq_true rfl, Nat.le_of_ble_eq_true rfl⟩) (g_preVW (q0 := 0) hE hK hP hD hS hA gm_0 rfl) rfl rfl hl.1 rfl (lv_room (Nat.le_of_ble_eq_true rfl)) d_M_type_2 ⟨Nat.zero_le _, Nat.zero_le _⟩) hD hS hA (fun _ => mW_fst) (fun y1 _ H locs hu hP hD hS => ?_)
  subst hu
  refine lv_if_eq (tgt := 41) hx hb d_M_type_5 rfl (fun c4 => ?_) (fun c4 => ?_)
  · skip
    rw [if_pos c4] at hf
    refine lv_iconst (v := 0) hx hb d_M_type_41 (by decide) ?_
    obtain ⟨rfl, rfl⟩ := gRt_e hf
    exact g_zret hx hb hr hlocks rfl hAe hS () rfl hP d_M_type_42
  rw [if_neg c4] at hf
  refine lv_aload_n hx hb d_M_type_8 rfl (lv_at hl 0 rfl) ?_
  refine va_get (D := X) (ci := 9) (C := R_M) (T := T_M) (N := 35) hx hb hts u_0 hown hK hP 0 gm_0 rfl 1 (by decide) k_0 (fun _ h9 => h9) rfl d_M_type_9 ?_
  refine lv_iload_n hx hb d_M_type_12 rfl (lv_at hl 1 rfl) ?_
  obtain ⟨y5, h6, e7, hf⟩ := gLd_e hf
  refine va_iald hx hb hK hP 1 0 gm_1 rfl h6 d_M_type_13 ?_
  rw [← e7]
  refine lv_iconst (v := 2) hx hb d_M_type_14 (by decide) ?_
  refine lv_icmp_ne (tgt := 41) hx hb d_M_type_15 rfl (fun c8 => ?_) (fun c8 => ?_)
  · skip
    rw [if_neg c8] at hf
    refine lv_iconst (v := 0) hx hb d_M_type_41 (by decide) ?_
    obtain ⟨rfl, rfl⟩ := gRt_e hf
    exact g_zret hx hb hr hlocks rfl hAe hS () rfl hP d_M_type_42
  rw [if_pos c8] at hf
  refine lv_iload_n hx hb d_M_type_18 rfl (lv_at hl 2 rfl) ?_
  refine lv_bipush (v := 32) hx hb d_M_type_19 (by decide) ?_
  refine lv_icmp_lt (tgt := 41) hx hb d_M_type_21 rfl (fun c9 => ?_) (fun c9 => ?_)
  · skip
    rw [if_pos c9] at hf
    refine lv_iconst (v := 0) hx hb d_M_type_41 (by decide) ?_
    obtain ⟨rfl, rfl⟩ := gRt_e hf
    exact g_zret hx hb hr hlocks rfl hAe hS () rfl hP d_M_type_42
  rw [if_neg c9] at hf
  refine lv_iload_n hx hb d_M_type_24 rfl (lv_at hl 2 rfl) ?_
  refine lv_bipush (v := 126) hx hb d_M_type_25 (by decide) ?_
  refine lv_icmp_gt (tgt := 41) hx hb d_M_type_27 rfl (fun c10 => ?_) (fun c10 => ?_)
  · skip
    rw [if_pos c10] at hf
    refine lv_iconst (v := 0) hx hb d_M_type_41 (by decide) ?_
    obtain ⟨rfl, rfl⟩ := gRt_e hf
    exact g_zret hx hb hr hlocks rfl hAe hS () rfl hP d_M_type_42
  rw [if_neg c10] at hf
  refine lv_aload_n hx hb d_M_type_30 rfl (lv_at hl 0 rfl) ?_
  refine va_get (D := X) (ci := 9) (C := R_M) (T := T_M) (N := 35) hx hb hts u_0 hown hK hP 0 gm_0 rfl 2 (by decide) k_1 (fun _ h9 => h9) rfl d_M_type_31 ?_
  refine lv_iload_n hx hb d_M_type_34 rfl (lv_at hl 1 rfl) ?_
  obtain ⟨y11, h12, e13, hf⟩ := gLd_e hf
  refine va_iald hx hb hK hP 2 0 gm_2 rfl h12 d_M_type_35 ?_
  rw [← e13]
  refine lv_bipush (v := 6) hx hb d_M_type_36 (by decide) ?_
  refine lv_icmp_ne (tgt := 43) hx hb d_M_type_38 rfl (fun c14 => ?_) (fun c14 => ?_)
  · skip
    rw [if_neg c14] at hf
    refine lv_aload_n hx hb d_M_type_43 rfl (lv_at hl 0 rfl) ?_
    refine va_get (D := X) (ci := 9) (C := R_M) (T := T_M) (N := 35) hx hb hts u_0 hown hK hP 0 gm_0 rfl 5 (by decide) k_2 (fun _ h9 => h9) rfl d_M_type_44 ?_
    refine lv_bipush (v := 6) hx hb d_M_type_47 (by decide) ?_
    refine lv_iload_n hx hb d_M_type_49 rfl (lv_at hl 1 rfl) ?_
    refine lv_imul hx hb d_M_type_50 ?_
    refine lv_aload_n hx hb d_M_type_51 rfl (lv_at hl 0 rfl) ?_
    refine va_get (D := X) (ci := 9) (C := R_M) (T := T_M) (N := 35) hx hb hts u_0 hown hK hP 0 gm_0 rfl 2 (by decide) k_1 (fun _ h9 => h9) rfl d_M_type_52 ?_
    refine lv_iload_n hx hb d_M_type_55 rfl (lv_at hl 1 rfl) ?_
    obtain ⟨y15, h16, e17, hf⟩ := gLd_e hf
    refine va_iald hx hb hK hP 2 0 gm_2 rfl h16 d_M_type_56 ?_
    rw [← e17]
    refine lv_iadd hx hb d_M_type_57 ?_
    refine lv_iload_n hx hb d_M_type_58 rfl (lv_at hl 2 rfl) ?_
    obtain ⟨σ18, h19, e20, hf⟩ := gSt_e hf
    refine va_iast hx hb hK hP hD hS 5 0 gm_5 rfl h19 d_M_type_59 (fun H locs hP hD hS => ?_)
    rw [sm_5, ← e20] at hP hD
    refine lv_aload_n hx hb d_M_type_60 rfl (lv_at hl 0 rfl) ?_
    refine va_get (D := X) (ci := 9) (C := R_M) (T := T_M) (N := 35) hx hb hts u_0 hown hK hP 0 gm_0 rfl 2 (by decide) k_1 (fun _ h9 => h9) rfl d_M_type_61 ?_
    refine lv_iload_n hx hb d_M_type_64 rfl (lv_at hl 1 rfl) ?_
    refine lv_dup2_11 hx hb d_M_type_65 rfl rfl ?_
    obtain ⟨y21, h22, e23, hf⟩ := gLd_e hf
    refine va_iald hx hb hK hP 2 0 gm_2 rfl h22 d_M_type_66 ?_
    rw [← e23]
    refine lv_iconst (v := 1) hx hb d_M_type_67 (by decide) ?_
    refine lv_iadd hx hb d_M_type_68 ?_
    obtain ⟨σ24, h25, e26, hf⟩ := gSt_e hf
    refine va_iast hx hb hK hP hD hS 2 0 gm_2 rfl h25 d_M_type_69 (fun H locs hP hD hS => ?_)
    rw [sm_2, ← e26] at hP hD
    refine lv_iconst (v := 1) hx hb d_M_type_70 (by decide) ?_
    obtain ⟨rfl, rfl⟩ := gRt_e hf
    exact g_zret hx hb hr hlocks rfl hAe hS () rfl hP d_M_type_71
  rw [if_pos c14] at hf
  refine lv_iconst (v := 0) hx hb d_M_type_41 (by decide) ?_
  obtain ⟨rfl, rfl⟩ := gRt_e hf
  exact g_zret hx hb hr hlocks rfl hAe hS () rfl hP d_M_type_42

def f_M_slotThere (σ : gS) (x1 : Int32) (x2 : Int32) : Option (Int32 × gS) := gBd (f_M_object σ x1) (fun y1 σ2 => if y1 = 0 then (some (0, σ2)) else (gLd σ2 1 16 x1 (fun y5 => if y5 = 2 then (some (0, σ2)) else (if x2 < 0 then (some (0, σ2)) else (gLd σ2 2 16 x1 (fun y10 => if y10 ≤ x2 then (some (0, σ2)) else (some (1, σ2))))))))
set_option maxHeartbeats 4000000 in
set_option maxRecDepth 100000 in
theorem m_M_slotThere {l : Launch} {X : va_G} {cI cC cZ : ClassId} {aK aV : Nat → Nat} {b : Nat → Nat} {σ σ' : gS} {r : Int32} {x1 : Int32} {x2 : Int32} (hf : f_M_slotThere σ x1 x2 = some (r, σ')) {sz : Nat} : Met l y_M_slotThere w_M_slotThere { frames := 1, cells := 0, slots := 0, locals := 21 } (gPc X vwCl (gT cI cC cZ) aK aV (mW cI cC cZ b σ) sz [.ref (b 0), .int x1, .int x2]) (gQi X vwCl (mW cI cC cZ b σ) sz (fun r' (_ : Unit) => r' = r) (fun _ => mW cI cC cZ b σ')) 0 0 (va_A (mW cI cC cZ b σ) sz) := by
  refine g_met (cc := b_M_slotThere) (maxL := 3) (ret := (some .boolean)) (by decide) rfl (Nat.le_of_ble_eq_true rfl) ?_
  intro p e s m below meth c A ls hx hb hr hml hown hts hlocks hnm hsz hAe hA hP hK hD hS hl hE
  have hown : s.vm.findClass R_M = some m.cls := hown
  have u_0 : ∀ w ∈ u_ws R_M T_M 35, w ∈ w_M_slotThere := fun w h => List.mem_cons_of_mem _ (tu_M w h)
  have k_0 := hts (.fieldLink R_M 7 "GraphPagesModel" "sort" "[I") (List.mem_cons_of_mem _ tb_386)
  have k_1 := hts (.fieldLink R_M 13 "GraphPagesModel" "room" "[I") (List.mem_cons_of_mem _ tb_387)
  unfold f_M_slotThere at hf
  refine lv_aload_n hx hb d_M_slotThere_0 rfl (lv_at hl 0 rfl) ?_
  refine lv_iload_n hx hb d_M_slotThere_1 rfl (lv_at hl 1 rfl) ?_
  obtain ⟨y1, σ2, e3, hf⟩ := gBd_e hf
  refine g_wi (va_runV ⟨hx, hb, hml, hown, hts⟩ (m_M_object e3) (cwV 1 hts (gG4 (fun _ h => List.mem_cons_of_mem _ h) tb_389 tb_390 tb_391 tb_392 tc_M_object) rfl rfl rfl (by decide +kernel) ⟨Nat.le_of_ble_eq_true rfl, Nat.le_of_ble_eq_true rfl⟩) (g_preVW (q0 := 0) hE hK hP hD hS hA gm_0 rfl) rfl rfl hl.1 rfl (lv_room (Nat.le_of_ble_eq_true rfl)) d_M_slotThere_2 ⟨Nat.zero_le _, Nat.zero_le _⟩) hD hS hA (fun _ => mW_fst) (fun y1 _ H locs hu hP hD hS => ?_)
  subst hu
  refine lv_if_eq (tgt := 36) hx hb d_M_slotThere_5 rfl (fun c4 => ?_) (fun c4 => ?_)
  · skip
    rw [if_pos c4] at hf
    refine lv_iconst (v := 0) hx hb d_M_slotThere_36 (by decide) ?_
    obtain ⟨rfl, rfl⟩ := gRt_e hf
    exact g_zret hx hb hr hlocks rfl hAe hS () rfl hP d_M_slotThere_37
  rw [if_neg c4] at hf
  refine lv_aload_n hx hb d_M_slotThere_8 rfl (lv_at hl 0 rfl) ?_
  refine va_get (D := X) (ci := 9) (C := R_M) (T := T_M) (N := 35) hx hb hts u_0 hown hK hP 0 gm_0 rfl 1 (by decide) k_0 (fun _ h9 => h9) rfl d_M_slotThere_9 ?_
  refine lv_iload_n hx hb d_M_slotThere_12 rfl (lv_at hl 1 rfl) ?_
  obtain ⟨y5, h6, e7, hf⟩ := gLd_e hf
  refine va_iald hx hb hK hP 1 0 gm_1 rfl h6 d_M_slotThere_13 ?_
  rw [← e7]
  refine lv_iconst (v := 2) hx hb d_M_slotThere_14 (by decide) ?_
  refine lv_icmp_eq (tgt := 36) hx hb d_M_slotThere_15 rfl (fun c8 => ?_) (fun c8 => ?_)
  · skip
    rw [if_pos c8] at hf
    refine lv_iconst (v := 0) hx hb d_M_slotThere_36 (by decide) ?_
    obtain ⟨rfl, rfl⟩ := gRt_e hf
    exact g_zret hx hb hr hlocks rfl hAe hS () rfl hP d_M_slotThere_37
  rw [if_neg c8] at hf
  refine lv_iload_n hx hb d_M_slotThere_18 rfl (lv_at hl 2 rfl) ?_
  refine lv_if_lt (tgt := 36) hx hb d_M_slotThere_19 rfl (fun c9 => ?_) (fun c9 => ?_)
  · skip
    rw [if_pos c9] at hf
    refine lv_iconst (v := 0) hx hb d_M_slotThere_36 (by decide) ?_
    obtain ⟨rfl, rfl⟩ := gRt_e hf
    exact g_zret hx hb hr hlocks rfl hAe hS () rfl hP d_M_slotThere_37
  rw [if_neg c9] at hf
  refine lv_iload_n hx hb d_M_slotThere_22 rfl (lv_at hl 2 rfl) ?_
  refine lv_aload_n hx hb d_M_slotThere_23 rfl (lv_at hl 0 rfl) ?_
  refine va_get (D := X) (ci := 9) (C := R_M) (T := T_M) (N := 35) hx hb hts u_0 hown hK hP 0 gm_0 rfl 2 (by decide) k_1 (fun _ h9 => h9) rfl d_M_slotThere_24 ?_
  refine lv_iload_n hx hb d_M_slotThere_27 rfl (lv_at hl 1 rfl) ?_
  obtain ⟨y10, h11, e12, hf⟩ := gLd_e hf
  refine va_iald hx hb hK hP 2 0 gm_2 rfl h11 d_M_slotThere_28 ?_
  rw [← e12]
  refine lv_icmp_ge (tgt := 36) hx hb d_M_slotThere_29 rfl (fun c13 => ?_) (fun c13 => ?_)
  · skip
    rw [if_pos c13] at hf
    refine lv_iconst (v := 0) hx hb d_M_slotThere_36 (by decide) ?_
    obtain ⟨rfl, rfl⟩ := gRt_e hf
    exact g_zret hx hb hr hlocks rfl hAe hS () rfl hP d_M_slotThere_37
  rw [if_neg c13] at hf
  refine lv_iconst (v := 1) hx hb d_M_slotThere_32 (by decide) ?_
  refine lv_goto (tgt := 37) hx hb d_M_slotThere_33 rfl ?_
  obtain ⟨rfl, rfl⟩ := gRt_e hf
  exact g_zret hx hb hr hlocks rfl hAe hS () rfl hP d_M_slotThere_37

def f_M_put (σ : gS) (x1 : Int32) (x2 : Int32) (x3 : Int32) : Option (Int32 × gS) := gBd (f_M_slotThere σ x1 x2) (fun y1 σ2 => if y1 = 0 then (some (0, σ2)) else (gSt σ2 3 64 ((4 * x1) + x2) 1 (fun σ5 => gSt σ5 4 64 ((4 * x1) + x2) x3 (fun σ8 => some (1, σ8)))))
set_option maxHeartbeats 4000000 in
set_option maxRecDepth 100000 in
theorem m_M_put {l : Launch} {X : va_G} {cI cC cZ : ClassId} {aK aV : Nat → Nat} {b : Nat → Nat} {σ σ' : gS} {r : Int32} {x1 : Int32} {x2 : Int32} {x3 : Int32} (hf : f_M_put σ x1 x2 x3 = some (r, σ')) {sz : Nat} : Met l y_M_put w_M_put { frames := 2, cells := 0, slots := 0, locals := 43 } (gPc X vwCl (gT cI cC cZ) aK aV (mW cI cC cZ b σ) sz [.ref (b 0), .int x1, .int x2, .int x3]) (gQi X vwCl (mW cI cC cZ b σ) sz (fun r' (_ : Unit) => r' = r) (fun _ => mW cI cC cZ b σ')) 0 0 (va_A (mW cI cC cZ b σ) sz) := by
  refine g_met (cc := b_M_put) (maxL := 4) (ret := (some .boolean)) (by decide) rfl (Nat.le_of_ble_eq_true rfl) ?_
  intro p e s m below meth c A ls hx hb hr hml hown hts hlocks hnm hsz hAe hA hP hK hD hS hl hE
  have hown : s.vm.findClass R_M = some m.cls := hown
  have u_0 : ∀ w ∈ u_ws R_M T_M 35, w ∈ w_M_put := fun w h => List.mem_cons_of_mem _ (tu_M w h)
  have k_0 := hts (.fieldLink R_M 16 "GraphPagesModel" "what" "[I") (List.mem_cons_of_mem _ tb_388)
  have k_1 := hts (.fieldLink R_M 19 "GraphPagesModel" "cell" "[I") (List.mem_cons_of_mem _ tb_397)
  unfold f_M_put at hf
  refine lv_aload_n hx hb d_M_put_0 rfl (lv_at hl 0 rfl) ?_
  refine lv_iload_n hx hb d_M_put_1 rfl (lv_at hl 1 rfl) ?_
  refine lv_iload_n hx hb d_M_put_2 rfl (lv_at hl 2 rfl) ?_
  obtain ⟨y1, σ2, e3, hf⟩ := gBd_e hf
  refine g_wi (va_runV ⟨hx, hb, hml, hown, hts⟩ (m_M_slotThere e3) (cwV 2 hts (gG4 (fun _ h => List.mem_cons_of_mem _ h) tb_394 tb_395 tb_396 tb_392 tc_M_slotThere) rfl rfl rfl (by decide +kernel) ⟨Nat.le_of_ble_eq_true rfl, Nat.le_of_ble_eq_true rfl⟩) (g_preVW (q0 := 0) hE hK hP hD hS hA gm_0 rfl) rfl rfl hl.1 rfl (lv_room (Nat.le_of_ble_eq_true rfl)) d_M_put_3 ⟨Nat.zero_le _, Nat.zero_le _⟩) hD hS hA (fun _ => mW_fst) (fun y1 _ H locs hu hP hD hS => ?_)
  subst hu
  refine lv_if_ne (tgt := 11) hx hb d_M_put_6 rfl (fun c4 => ?_) (fun c4 => ?_)
  · skip
    rw [if_neg c4] at hf
    refine lv_aload_n hx hb d_M_put_11 rfl (lv_at hl 0 rfl) ?_
    refine va_get (D := X) (ci := 9) (C := R_M) (T := T_M) (N := 35) hx hb hts u_0 hown hK hP 0 gm_0 rfl 3 (by decide) k_0 (fun _ h9 => h9) rfl d_M_put_12 ?_
    refine lv_iconst (v := 4) hx hb d_M_put_15 (by decide) ?_
    refine lv_iload_n hx hb d_M_put_16 rfl (lv_at hl 1 rfl) ?_
    refine lv_imul hx hb d_M_put_17 ?_
    refine lv_iload_n hx hb d_M_put_18 rfl (lv_at hl 2 rfl) ?_
    refine lv_iadd hx hb d_M_put_19 ?_
    refine lv_iconst (v := 1) hx hb d_M_put_20 (by decide) ?_
    obtain ⟨σ5, h6, e7, hf⟩ := gSt_e hf
    refine va_iast hx hb hK hP hD hS 3 0 gm_3 rfl h6 d_M_put_21 (fun H locs hP hD hS => ?_)
    rw [sm_3, ← e7] at hP hD
    refine lv_aload_n hx hb d_M_put_22 rfl (lv_at hl 0 rfl) ?_
    refine va_get (D := X) (ci := 9) (C := R_M) (T := T_M) (N := 35) hx hb hts u_0 hown hK hP 0 gm_0 rfl 4 (by decide) k_1 (fun _ h9 => h9) rfl d_M_put_23 ?_
    refine lv_iconst (v := 4) hx hb d_M_put_26 (by decide) ?_
    refine lv_iload_n hx hb d_M_put_27 rfl (lv_at hl 1 rfl) ?_
    refine lv_imul hx hb d_M_put_28 ?_
    refine lv_iload_n hx hb d_M_put_29 rfl (lv_at hl 2 rfl) ?_
    refine lv_iadd hx hb d_M_put_30 ?_
    refine lv_iload_n hx hb d_M_put_31 rfl (lv_at hl 3 rfl) ?_
    obtain ⟨σ8, h9, e10, hf⟩ := gSt_e hf
    refine va_iast hx hb hK hP hD hS 4 0 gm_4 rfl h9 d_M_put_32 (fun H locs hP hD hS => ?_)
    rw [sm_4, ← e10] at hP hD
    refine lv_iconst (v := 1) hx hb d_M_put_33 (by decide) ?_
    obtain ⟨rfl, rfl⟩ := gRt_e hf
    exact g_zret hx hb hr hlocks rfl hAe hS () rfl hP d_M_put_34
  rw [if_pos c4] at hf
  refine lv_iconst (v := 0) hx hb d_M_put_9 (by decide) ?_
  obtain ⟨rfl, rfl⟩ := gRt_e hf
  exact g_zret hx hb hr hlocks rfl hAe hS () rfl hP d_M_put_10

def B_M_link_0 (rec : Nat → List Int32 → gS → Option (Int32 × gS)) (x1 : Int32) (x2 : Int32) (x3 : Int32) (σ0 : gS) : Option (Int32 × gS) := gBd (f_M_slotThere σ0 x1 x2) (fun y1 σ2 => if y1 = 0 then (some (0, σ2)) else (if x3 = (-1) then (rec 1 [x1, x2, x3] σ2) else (gBd (f_M_object σ2 x3) (fun y6 σ7 => if y6 = 0 then (some (0, σ7)) else (rec 1 [x1, x2, x3] σ7)))))
def B_M_link_1 (rec : Nat → List Int32 → gS → Option (Int32 × gS)) (x1 : Int32) (x2 : Int32) (x3 : Int32) (σ0 : gS) : Option (Int32 × gS) := if x3 = (-1) then (rec 2 [x1, x2, x3, ((4 * x1) + x2), 0] σ0) else (rec 2 [x1, x2, x3, ((4 * x1) + x2), 2] σ0)
def B_M_link_2 (rec : Nat → List Int32 → gS → Option (Int32 × gS)) (x1 : Int32) (x2 : Int32) (x3 : Int32) (z1 : Int32) (z2 : Int32) (σ0 : gS) : Option (Int32 × gS) := gSt σ0 3 64 z1 z2 (fun σ11 => gSt σ11 4 64 ((4 * x1) + x2) x3 (fun σ14 => some (1, σ14)))
def S_M_link (rec : Nat → List Int32 → gS → Option (Int32 × gS)) (k : Nat) (l : List Int32) (σ0 : gS) : Option (Int32 × gS) := match k, l with
  | 0, [x1, x2, x3] => B_M_link_0 rec x1 x2 x3 σ0
  | 1, [x1, x2, x3] => B_M_link_1 rec x1 x2 x3 σ0
  | 2, [x1, x2, x3, z1, z2] => B_M_link_2 rec x1 x2 x3 z1 z2 σ0
  | _, _ => none
def R_M_link : Nat → Nat → List Int32 → gS → Option (Int32 × gS)
  | 0 => fun _ _ _ => none
  | t + 1 => fun k l σ0 => S_M_link (R_M_link t) k l σ0
def f_M_link (σ : gS) (x1 : Int32) (x2 : Int32) (x3 : Int32) : Option (Int32 × gS) := R_M_link gFuel 0 [x1, x2, x3] σ
set_option maxHeartbeats 4000000 in
set_option maxRecDepth 100000 in
theorem m_M_link {l : Launch} {X : va_G} {cI cC cZ : ClassId} {aK aV : Nat → Nat} {b : Nat → Nat} {σ σ' : gS} {r : Int32} {q1 : Int32} {q2 : Int32} {q3 : Int32} (hf : f_M_link σ q1 q2 q3 = some (r, σ')) {sz : Nat} : Met l y_M_link w_M_link { frames := 2, cells := 0, slots := 0, locals := 43 } (gPc X vwCl (gT cI cC cZ) aK aV (mW cI cC cZ b σ) sz [.ref (b 0), .int q1, .int q2, .int q3]) (gQi X vwCl (mW cI cC cZ b σ) sz (fun r' (_ : Unit) => r' = r) (fun _ => mW cI cC cZ b σ')) 0 0 (va_A (mW cI cC cZ b σ) sz) := by
  refine g_met (cc := b_M_link) (maxL := 4) (ret := (some .boolean)) (by decide) rfl (Nat.le_of_ble_eq_true rfl) ?_
  intro p e s m below meth c A ls hx hb hr hml hown hts hlocks hnm hsz hAe hA hP hK hD hS hl hE
  have hown : s.vm.findClass R_M = some m.cls := hown
  have u_0 : ∀ w ∈ u_ws R_M T_M 35, w ∈ w_M_link := fun w h => List.mem_cons_of_mem _ (tu_M w h)
  have k_0 := hts (.fieldLink R_M 16 "GraphPagesModel" "what" "[I") (List.mem_cons_of_mem _ tb_388)
  have k_1 := hts (.fieldLink R_M 19 "GraphPagesModel" "cell" "[I") (List.mem_cons_of_mem _ tb_397)
  unfold f_M_link at hf
  have key : ∀ t : Nat, (∀ (x1 : Int32) (x2 : Int32) (x3 : Int32) (σ0 : gS) (H : Heap) (locs : List Loc) (ls : Array Slot), R_M_link t 0 [x1, x2, x3] σ0 = some (r, σ') → va_P X vwCl (mW cI cC cZ b σ0) H → va_D A (mW cI cC cZ b σ0) → va_S A s.heap H locs → lv_has ls 4 [(0, .ref (b 0)), (1, .int x1), (2, .int x2), (3, .int x3)] → W p l e (headSpec w_M_link { frames := 2, cells := 0, slots := 0, locals := 43 }).room s m [.ref (b 0), .int q1, .int q2, .int q3].toArray below meth c H locs 0 0 (MQ below (gQi X vwCl (mW cI cC cZ b σ) sz (fun r' (_ : Unit) => r' = r) (fun _ => mW cI cC cZ b σ')) [.ref (b 0), .int q1, .int q2, .int q3].toArray s 0 0 (va_A (mW cI cC cZ b σ) sz)) (F0 m 0 ls [])) ∧ (∀ (x1 : Int32) (x2 : Int32) (x3 : Int32) (σ0 : gS) (H : Heap) (locs : List Loc) (ls : Array Slot), R_M_link t 1 [x1, x2, x3] σ0 = some (r, σ') → va_P X vwCl (mW cI cC cZ b σ0) H → va_D A (mW cI cC cZ b σ0) → va_S A s.heap H locs → lv_has ls 4 [(0, .ref (b 0)), (1, .int x1), (2, .int x2), (3, .int x3)] → W p l e (headSpec w_M_link { frames := 2, cells := 0, slots := 0, locals := 43 }).room s m [.ref (b 0), .int q1, .int q2, .int q3].toArray below meth c H locs 0 0 (MQ below (gQi X vwCl (mW cI cC cZ b σ) sz (fun r' (_ : Unit) => r' = r) (fun _ => mW cI cC cZ b σ')) [.ref (b 0), .int q1, .int q2, .int q3].toArray s 0 0 (va_A (mW cI cC cZ b σ) sz)) (F0 m 24 ls [])) ∧ (∀ (x1 : Int32) (x2 : Int32) (x3 : Int32) (z1 : Int32) (z2 : Int32) (σ0 : gS) (H : Heap) (locs : List Loc) (ls : Array Slot), R_M_link t 2 [x1, x2, x3, z1, z2] σ0 = some (r, σ') → va_P X vwCl (mW cI cC cZ b σ0) H → va_D A (mW cI cC cZ b σ0) → va_S A s.heap H locs → lv_has ls 4 [(0, .ref (b 0)), (1, .int x1), (2, .int x2), (3, .int x3)] → W p l e (headSpec w_M_link { frames := 2, cells := 0, slots := 0, locals := 43 }).room s m [.ref (b 0), .int q1, .int q2, .int q3].toArray below meth c H locs 0 0 (MQ below (gQi X vwCl (mW cI cC cZ b σ) sz (fun r' (_ : Unit) => r' = r) (fun _ => mW cI cC cZ b σ')) [.ref (b 0), .int q1, .int q2, .int q3].toArray s 0 0 (va_A (mW cI cC cZ b σ) sz)) (F0 m 43 ls [.int z2, .int z1, .ref (b 3)])) := by
    intro t
    induction t with
    | zero => exact ⟨fun _ _ _ _ _ _ _ hf => (by have hf : (none : Option (Int32 × gS)) = some (r, σ') := hf; cases hf), fun _ _ _ _ _ _ _ hf => (by have hf : (none : Option (Int32 × gS)) = some (r, σ') := hf; cases hf), fun _ _ _ _ _ _ _ _ _ hf => (by have hf : (none : Option (Int32 × gS)) = some (r, σ') := hf; cases hf)⟩
    | succ t ih =>
      obtain ⟨ih0, ih1, ih2⟩ := ih
      refine ⟨?_, ?_, ?_⟩
      · intro x1 x2 x3 σ0 H locs ls hf hP hD hS hl
        have hf : B_M_link_0 (R_M_link t) x1 x2 x3 σ0 = some (r, σ') := hf
        unfold B_M_link_0 at hf
        refine lv_aload_n hx hb d_M_link_0 rfl (lv_at hl 0 rfl) ?_
        refine lv_iload_n hx hb d_M_link_1 rfl (lv_at hl 1 rfl) ?_
        refine lv_iload_n hx hb d_M_link_2 rfl (lv_at hl 2 rfl) ?_
        obtain ⟨y1, σ2, e3, hf⟩ := gBd_e hf
        refine g_wi (va_runV ⟨hx, hb, hml, hown, hts⟩ (m_M_slotThere e3) (cwV 2 hts (gG4 (fun _ h => List.mem_cons_of_mem _ h) tb_394 tb_395 tb_396 tb_392 tc_M_slotThere) rfl rfl rfl (by decide +kernel) ⟨Nat.le_of_ble_eq_true rfl, Nat.le_of_ble_eq_true rfl⟩) (g_preVW (q0 := 0) hE hK hP hD hS hA gm_0 rfl) rfl rfl hl.1 rfl (lv_room (Nat.le_of_ble_eq_true rfl)) d_M_link_3 ⟨Nat.zero_le _, Nat.zero_le _⟩) hD hS hA (fun _ => mW_fst) (fun y1 _ H locs hu hP hD hS => ?_)
        subst hu
        refine lv_if_eq (tgt := 22) hx hb d_M_link_6 rfl (fun c4 => ?_) (fun c4 => ?_)
        · skip
          rw [if_pos c4] at hf
          refine lv_iconst (v := 0) hx hb d_M_link_22 (by decide) ?_
          obtain ⟨rfl, rfl⟩ := gRt_e hf
          exact g_zret hx hb hr hlocks rfl hAe hS () rfl hP d_M_link_23
        rw [if_neg c4] at hf
        refine lv_iload_n hx hb d_M_link_9 rfl (lv_at hl 3 rfl) ?_
        refine lv_iconst (v := (-1)) hx hb d_M_link_10 (by decide) ?_
        refine lv_icmp_eq (tgt := 24) hx hb d_M_link_11 rfl (fun c5 => ?_) (fun c5 => ?_)
        · skip
          rw [if_pos c5] at hf
          exact ih1 (x1) (x2) (x3) σ2 _ _ _ hf hP hD hS (lv_sub hl [0, 1, 2, 3] rfl)
        rw [if_neg c5] at hf
        refine lv_aload_n hx hb d_M_link_14 rfl (lv_at hl 0 rfl) ?_
        refine lv_iload_n hx hb d_M_link_15 rfl (lv_at hl 3 rfl) ?_
        obtain ⟨y6, σ7, e8, hf⟩ := gBd_e hf
        refine g_wi (va_runV ⟨hx, hb, hml, hown, hts⟩ (m_M_object e8) (cwV 1 hts (gG4 (fun _ h => List.mem_cons_of_mem _ h) tb_389 tb_390 tb_391 tb_392 tc_M_object) rfl rfl rfl (by decide +kernel) ⟨Nat.le_of_ble_eq_true rfl, Nat.le_of_ble_eq_true rfl⟩) (g_preVW (q0 := 0) hE hK hP hD hS hA gm_0 rfl) rfl rfl hl.1 rfl (lv_room (Nat.le_of_ble_eq_true rfl)) d_M_link_16 ⟨Nat.zero_le _, Nat.zero_le _⟩) hD hS hA (fun _ => mW_fst) (fun y6 _ H locs hu hP hD hS => ?_)
        subst hu
        refine lv_if_ne (tgt := 24) hx hb d_M_link_19 rfl (fun c9 => ?_) (fun c9 => ?_)
        · skip
          rw [if_neg c9] at hf
          exact ih1 (x1) (x2) (x3) σ7 _ _ _ hf hP hD hS (lv_sub hl [0, 1, 2, 3] rfl)
        rw [if_pos c9] at hf
        refine lv_iconst (v := 0) hx hb d_M_link_22 (by decide) ?_
        obtain ⟨rfl, rfl⟩ := gRt_e hf
        exact g_zret hx hb hr hlocks rfl hAe hS () rfl hP d_M_link_23
      · intro x1 x2 x3 σ0 H locs ls hf hP hD hS hl
        have hf : B_M_link_1 (R_M_link t) x1 x2 x3 σ0 = some (r, σ') := hf
        unfold B_M_link_1 at hf
        refine lv_aload_n hx hb d_M_link_24 rfl (lv_at hl 0 rfl) ?_
        refine va_get (D := X) (ci := 9) (C := R_M) (T := T_M) (N := 35) hx hb hts u_0 hown hK hP 0 gm_0 rfl 3 (by decide) k_0 (fun _ h9 => h9) rfl d_M_link_25 ?_
        refine lv_iconst (v := 4) hx hb d_M_link_28 (by decide) ?_
        refine lv_iload_n hx hb d_M_link_29 rfl (lv_at hl 1 rfl) ?_
        refine lv_imul hx hb d_M_link_30 ?_
        refine lv_iload_n hx hb d_M_link_31 rfl (lv_at hl 2 rfl) ?_
        refine lv_iadd hx hb d_M_link_32 ?_
        refine lv_iload_n hx hb d_M_link_33 rfl (lv_at hl 3 rfl) ?_
        refine lv_iconst (v := (-1)) hx hb d_M_link_34 (by decide) ?_
        refine lv_icmp_ne (tgt := 42) hx hb d_M_link_35 rfl (fun c10 => ?_) (fun c10 => ?_)
        · skip
          rw [if_neg c10] at hf
          refine lv_iconst (v := 2) hx hb d_M_link_42 (by decide) ?_
          exact ih2 (x1) (x2) (x3) (((4 * x1) + x2)) (2) σ0 _ _ _ hf hP hD hS (lv_sub hl [0, 1, 2, 3] rfl)
        rw [if_pos c10] at hf
        refine lv_iconst (v := 0) hx hb d_M_link_38 (by decide) ?_
        refine lv_goto (tgt := 43) hx hb d_M_link_39 rfl ?_
        exact ih2 (x1) (x2) (x3) (((4 * x1) + x2)) (0) σ0 _ _ _ hf hP hD hS (lv_sub hl [0, 1, 2, 3] rfl)
      · intro x1 x2 x3 z1 z2 σ0 H locs ls hf hP hD hS hl
        have hf : B_M_link_2 (R_M_link t) x1 x2 x3 z1 z2 σ0 = some (r, σ') := hf
        unfold B_M_link_2 at hf
        obtain ⟨σ11, h12, e13, hf⟩ := gSt_e hf
        refine va_iast hx hb hK hP hD hS 3 0 gm_3 rfl h12 d_M_link_43 (fun H locs hP hD hS => ?_)
        rw [sm_3, ← e13] at hP hD
        refine lv_aload_n hx hb d_M_link_44 rfl (lv_at hl 0 rfl) ?_
        refine va_get (D := X) (ci := 9) (C := R_M) (T := T_M) (N := 35) hx hb hts u_0 hown hK hP 0 gm_0 rfl 4 (by decide) k_1 (fun _ h9 => h9) rfl d_M_link_45 ?_
        refine lv_iconst (v := 4) hx hb d_M_link_48 (by decide) ?_
        refine lv_iload_n hx hb d_M_link_49 rfl (lv_at hl 1 rfl) ?_
        refine lv_imul hx hb d_M_link_50 ?_
        refine lv_iload_n hx hb d_M_link_51 rfl (lv_at hl 2 rfl) ?_
        refine lv_iadd hx hb d_M_link_52 ?_
        refine lv_iload_n hx hb d_M_link_53 rfl (lv_at hl 3 rfl) ?_
        obtain ⟨σ14, h15, e16, hf⟩ := gSt_e hf
        refine va_iast hx hb hK hP hD hS 4 0 gm_4 rfl h15 d_M_link_54 (fun H locs hP hD hS => ?_)
        rw [sm_4, ← e16] at hP hD
        refine lv_iconst (v := 1) hx hb d_M_link_55 (by decide) ?_
        obtain ⟨rfl, rfl⟩ := gRt_e hf
        exact g_zret hx hb hr hlocks rfl hAe hS () rfl hP d_M_link_56
  exact (key gFuel).1 q1 q2 q3 σ _ _ _ hf hP hD hS hl

def f_M_objects (σ : gS) : Option (Int32 × gS) := some ((σ.1 0), σ)
set_option maxHeartbeats 4000000 in
set_option maxRecDepth 100000 in
theorem m_M_objects {l : Launch} {X : va_G} {cI cC cZ : ClassId} {aK aV : Nat → Nat} {b : Nat → Nat} {σ σ' : gS} {r : Int32} (hf : f_M_objects σ = some (r, σ')) {sz : Nat} : Met l y_M_objects w_M_objects { frames := 0, cells := 0, slots := 0, locals := 0 } (gPc X vwCl (gT cI cC cZ) aK aV (mW cI cC cZ b σ) sz [.ref (b 0)]) (gQi X vwCl (mW cI cC cZ b σ) sz (fun r' (_ : Unit) => r' = r) (fun _ => mW cI cC cZ b σ')) 0 0 (va_A (mW cI cC cZ b σ) sz) := by
  refine g_met (cc := b_M_objects) (maxL := 1) (ret := (some .int)) (by decide) rfl (Nat.le_of_ble_eq_true rfl) ?_
  intro p e s m below meth c A ls hx hb hr hml hown hts hlocks hnm hsz hAe hA hP hK hD hS hl hE
  have hown : s.vm.findClass R_M = some m.cls := hown
  have u_0 : ∀ w ∈ u_ws R_M T_M 35, w ∈ w_M_objects := fun w h => List.mem_cons_of_mem _ (tu_M w h)
  have k_0 := hts (.fieldLink R_M 87 "GraphPagesModel" "count" "I") (List.mem_cons_of_mem _ tb_385)
  unfold f_M_objects at hf
  refine lv_aload_n hx hb d_M_objects_0 rfl (lv_at hl 0 rfl) ?_
  refine va_get (D := X) (ci := 9) (C := R_M) (T := T_M) (N := 35) hx hb hts u_0 hown hK hP 0 gm_0 rfl 0 (by decide) k_0 (fun _ h9 => h9) rfl d_M_objects_1 ?_
  obtain ⟨rfl, rfl⟩ := gRt_e hf
  exact g_zret hx hb hr hlocks rfl hAe hS () rfl hP d_M_objects_4

def f_M_kind (σ : gS) (x1 : Int32) : Option (Int32 × gS) := gBd (f_M_object σ x1) (fun y1 σ2 => if y1 = 0 then (some ((-1), σ2)) else (gLd σ2 1 16 x1 (fun y5 => some (y5, σ2))))
set_option maxHeartbeats 4000000 in
set_option maxRecDepth 100000 in
theorem m_M_kind {l : Launch} {X : va_G} {cI cC cZ : ClassId} {aK aV : Nat → Nat} {b : Nat → Nat} {σ σ' : gS} {r : Int32} {x1 : Int32} (hf : f_M_kind σ x1 = some (r, σ')) {sz : Nat} : Met l y_M_kind w_M_kind { frames := 1, cells := 0, slots := 0, locals := 21 } (gPc X vwCl (gT cI cC cZ) aK aV (mW cI cC cZ b σ) sz [.ref (b 0), .int x1]) (gQi X vwCl (mW cI cC cZ b σ) sz (fun r' (_ : Unit) => r' = r) (fun _ => mW cI cC cZ b σ')) 0 0 (va_A (mW cI cC cZ b σ) sz) := by
  refine g_met (cc := b_M_kind) (maxL := 2) (ret := (some .int)) (by decide) rfl (Nat.le_of_ble_eq_true rfl) ?_
  intro p e s m below meth c A ls hx hb hr hml hown hts hlocks hnm hsz hAe hA hP hK hD hS hl hE
  have hown : s.vm.findClass R_M = some m.cls := hown
  have u_0 : ∀ w ∈ u_ws R_M T_M 35, w ∈ w_M_kind := fun w h => List.mem_cons_of_mem _ (tu_M w h)
  have k_0 := hts (.fieldLink R_M 7 "GraphPagesModel" "sort" "[I") (List.mem_cons_of_mem _ tb_386)
  unfold f_M_kind at hf
  refine lv_aload_n hx hb d_M_kind_0 rfl (lv_at hl 0 rfl) ?_
  refine lv_iload_n hx hb d_M_kind_1 rfl (lv_at hl 1 rfl) ?_
  obtain ⟨y1, σ2, e3, hf⟩ := gBd_e hf
  refine g_wi (va_runV ⟨hx, hb, hml, hown, hts⟩ (m_M_object e3) (cwV 1 hts (gG4 (fun _ h => List.mem_cons_of_mem _ h) tb_389 tb_390 tb_391 tb_392 tc_M_object) rfl rfl rfl (by decide +kernel) ⟨Nat.le_of_ble_eq_true rfl, Nat.le_of_ble_eq_true rfl⟩) (g_preVW (q0 := 0) hE hK hP hD hS hA gm_0 rfl) rfl rfl hl.1 rfl (lv_room (Nat.le_of_ble_eq_true rfl)) d_M_kind_2 ⟨Nat.zero_le _, Nat.zero_le _⟩) hD hS hA (fun _ => mW_fst) (fun y1 _ H locs hu hP hD hS => ?_)
  subst hu
  refine lv_if_eq (tgt := 17) hx hb d_M_kind_5 rfl (fun c4 => ?_) (fun c4 => ?_)
  · skip
    rw [if_pos c4] at hf
    refine lv_iconst (v := (-1)) hx hb d_M_kind_17 (by decide) ?_
    obtain ⟨rfl, rfl⟩ := gRt_e hf
    exact g_zret hx hb hr hlocks rfl hAe hS () rfl hP d_M_kind_18
  rw [if_neg c4] at hf
  refine lv_aload_n hx hb d_M_kind_8 rfl (lv_at hl 0 rfl) ?_
  refine va_get (D := X) (ci := 9) (C := R_M) (T := T_M) (N := 35) hx hb hts u_0 hown hK hP 0 gm_0 rfl 1 (by decide) k_0 (fun _ h9 => h9) rfl d_M_kind_9 ?_
  refine lv_iload_n hx hb d_M_kind_12 rfl (lv_at hl 1 rfl) ?_
  obtain ⟨y5, h6, e7, hf⟩ := gLd_e hf
  refine va_iald hx hb hK hP 1 0 gm_1 rfl h6 d_M_kind_13 ?_
  rw [← e7]
  refine lv_goto (tgt := 18) hx hb d_M_kind_14 rfl ?_
  obtain ⟨rfl, rfl⟩ := gRt_e hf
  exact g_zret hx hb hr hlocks rfl hAe hS () rfl hP d_M_kind_18

def f_M_size (σ : gS) (x1 : Int32) : Option (Int32 × gS) := gBd (f_M_object σ x1) (fun y1 σ2 => if y1 = 0 then (some ((-1), σ2)) else (gLd σ2 2 16 x1 (fun y5 => some (y5, σ2))))
set_option maxHeartbeats 4000000 in
set_option maxRecDepth 100000 in
theorem m_M_size {l : Launch} {X : va_G} {cI cC cZ : ClassId} {aK aV : Nat → Nat} {b : Nat → Nat} {σ σ' : gS} {r : Int32} {x1 : Int32} (hf : f_M_size σ x1 = some (r, σ')) {sz : Nat} : Met l y_M_size w_M_size { frames := 1, cells := 0, slots := 0, locals := 21 } (gPc X vwCl (gT cI cC cZ) aK aV (mW cI cC cZ b σ) sz [.ref (b 0), .int x1]) (gQi X vwCl (mW cI cC cZ b σ) sz (fun r' (_ : Unit) => r' = r) (fun _ => mW cI cC cZ b σ')) 0 0 (va_A (mW cI cC cZ b σ) sz) := by
  refine g_met (cc := b_M_size) (maxL := 2) (ret := (some .int)) (by decide) rfl (Nat.le_of_ble_eq_true rfl) ?_
  intro p e s m below meth c A ls hx hb hr hml hown hts hlocks hnm hsz hAe hA hP hK hD hS hl hE
  have hown : s.vm.findClass R_M = some m.cls := hown
  have u_0 : ∀ w ∈ u_ws R_M T_M 35, w ∈ w_M_size := fun w h => List.mem_cons_of_mem _ (tu_M w h)
  have k_0 := hts (.fieldLink R_M 13 "GraphPagesModel" "room" "[I") (List.mem_cons_of_mem _ tb_387)
  unfold f_M_size at hf
  refine lv_aload_n hx hb d_M_size_0 rfl (lv_at hl 0 rfl) ?_
  refine lv_iload_n hx hb d_M_size_1 rfl (lv_at hl 1 rfl) ?_
  obtain ⟨y1, σ2, e3, hf⟩ := gBd_e hf
  refine g_wi (va_runV ⟨hx, hb, hml, hown, hts⟩ (m_M_object e3) (cwV 1 hts (gG4 (fun _ h => List.mem_cons_of_mem _ h) tb_389 tb_390 tb_391 tb_392 tc_M_object) rfl rfl rfl (by decide +kernel) ⟨Nat.le_of_ble_eq_true rfl, Nat.le_of_ble_eq_true rfl⟩) (g_preVW (q0 := 0) hE hK hP hD hS hA gm_0 rfl) rfl rfl hl.1 rfl (lv_room (Nat.le_of_ble_eq_true rfl)) d_M_size_2 ⟨Nat.zero_le _, Nat.zero_le _⟩) hD hS hA (fun _ => mW_fst) (fun y1 _ H locs hu hP hD hS => ?_)
  subst hu
  refine lv_if_eq (tgt := 17) hx hb d_M_size_5 rfl (fun c4 => ?_) (fun c4 => ?_)
  · skip
    rw [if_pos c4] at hf
    refine lv_iconst (v := (-1)) hx hb d_M_size_17 (by decide) ?_
    obtain ⟨rfl, rfl⟩ := gRt_e hf
    exact g_zret hx hb hr hlocks rfl hAe hS () rfl hP d_M_size_18
  rw [if_neg c4] at hf
  refine lv_aload_n hx hb d_M_size_8 rfl (lv_at hl 0 rfl) ?_
  refine va_get (D := X) (ci := 9) (C := R_M) (T := T_M) (N := 35) hx hb hts u_0 hown hK hP 0 gm_0 rfl 2 (by decide) k_0 (fun _ h9 => h9) rfl d_M_size_9 ?_
  refine lv_iload_n hx hb d_M_size_12 rfl (lv_at hl 1 rfl) ?_
  obtain ⟨y5, h6, e7, hf⟩ := gLd_e hf
  refine va_iald hx hb hK hP 2 0 gm_2 rfl h6 d_M_size_13 ?_
  rw [← e7]
  refine lv_goto (tgt := 18) hx hb d_M_size_14 rfl ?_
  obtain ⟨rfl, rfl⟩ := gRt_e hf
  exact g_zret hx hb hr hlocks rfl hAe hS () rfl hP d_M_size_18

def f_M_holds (σ : gS) (x1 : Int32) (x2 : Int32) : Option (Int32 × gS) := gBd (f_M_slotThere σ x1 x2) (fun y1 σ2 => if y1 = 0 then (some ((-1), σ2)) else (gLd σ2 3 64 ((4 * x1) + x2) (fun y5 => some (y5, σ2))))
set_option maxHeartbeats 4000000 in
set_option maxRecDepth 100000 in
theorem m_M_holds {l : Launch} {X : va_G} {cI cC cZ : ClassId} {aK aV : Nat → Nat} {b : Nat → Nat} {σ σ' : gS} {r : Int32} {x1 : Int32} {x2 : Int32} (hf : f_M_holds σ x1 x2 = some (r, σ')) {sz : Nat} : Met l y_M_holds w_M_holds { frames := 2, cells := 0, slots := 0, locals := 43 } (gPc X vwCl (gT cI cC cZ) aK aV (mW cI cC cZ b σ) sz [.ref (b 0), .int x1, .int x2]) (gQi X vwCl (mW cI cC cZ b σ) sz (fun r' (_ : Unit) => r' = r) (fun _ => mW cI cC cZ b σ')) 0 0 (va_A (mW cI cC cZ b σ) sz) := by
  refine g_met (cc := b_M_holds) (maxL := 3) (ret := (some .int)) (by decide) rfl (Nat.le_of_ble_eq_true rfl) ?_
  intro p e s m below meth c A ls hx hb hr hml hown hts hlocks hnm hsz hAe hA hP hK hD hS hl hE
  have hown : s.vm.findClass R_M = some m.cls := hown
  have u_0 : ∀ w ∈ u_ws R_M T_M 35, w ∈ w_M_holds := fun w h => List.mem_cons_of_mem _ (tu_M w h)
  have k_0 := hts (.fieldLink R_M 16 "GraphPagesModel" "what" "[I") (List.mem_cons_of_mem _ tb_388)
  unfold f_M_holds at hf
  refine lv_aload_n hx hb d_M_holds_0 rfl (lv_at hl 0 rfl) ?_
  refine lv_iload_n hx hb d_M_holds_1 rfl (lv_at hl 1 rfl) ?_
  refine lv_iload_n hx hb d_M_holds_2 rfl (lv_at hl 2 rfl) ?_
  obtain ⟨y1, σ2, e3, hf⟩ := gBd_e hf
  refine g_wi (va_runV ⟨hx, hb, hml, hown, hts⟩ (m_M_slotThere e3) (cwV 2 hts (gG4 (fun _ h => List.mem_cons_of_mem _ h) tb_394 tb_395 tb_396 tb_392 tc_M_slotThere) rfl rfl rfl (by decide +kernel) ⟨Nat.le_of_ble_eq_true rfl, Nat.le_of_ble_eq_true rfl⟩) (g_preVW (q0 := 0) hE hK hP hD hS hA gm_0 rfl) rfl rfl hl.1 rfl (lv_room (Nat.le_of_ble_eq_true rfl)) d_M_holds_3 ⟨Nat.zero_le _, Nat.zero_le _⟩) hD hS hA (fun _ => mW_fst) (fun y1 _ H locs hu hP hD hS => ?_)
  subst hu
  refine lv_if_eq (tgt := 22) hx hb d_M_holds_6 rfl (fun c4 => ?_) (fun c4 => ?_)
  · skip
    rw [if_pos c4] at hf
    refine lv_iconst (v := (-1)) hx hb d_M_holds_22 (by decide) ?_
    obtain ⟨rfl, rfl⟩ := gRt_e hf
    exact g_zret hx hb hr hlocks rfl hAe hS () rfl hP d_M_holds_23
  rw [if_neg c4] at hf
  refine lv_aload_n hx hb d_M_holds_9 rfl (lv_at hl 0 rfl) ?_
  refine va_get (D := X) (ci := 9) (C := R_M) (T := T_M) (N := 35) hx hb hts u_0 hown hK hP 0 gm_0 rfl 3 (by decide) k_0 (fun _ h9 => h9) rfl d_M_holds_10 ?_
  refine lv_iconst (v := 4) hx hb d_M_holds_13 (by decide) ?_
  refine lv_iload_n hx hb d_M_holds_14 rfl (lv_at hl 1 rfl) ?_
  refine lv_imul hx hb d_M_holds_15 ?_
  refine lv_iload_n hx hb d_M_holds_16 rfl (lv_at hl 2 rfl) ?_
  refine lv_iadd hx hb d_M_holds_17 ?_
  obtain ⟨y5, h6, e7, hf⟩ := gLd_e hf
  refine va_iald hx hb hK hP 3 0 gm_3 rfl h6 d_M_holds_18 ?_
  rw [← e7]
  refine lv_goto (tgt := 23) hx hb d_M_holds_19 rfl ?_
  obtain ⟨rfl, rfl⟩ := gRt_e hf
  exact g_zret hx hb hr hlocks rfl hAe hS () rfl hP d_M_holds_23

def B_M_value_0 (rec : Nat → List Int32 → gS → Option (Int32 × gS)) (x1 : Int32) (x2 : Int32) (σ0 : gS) : Option (Int32 × gS) := gBd (f_M_object σ0 x1) (fun y1 σ2 => if y1 = 0 then (rec 1 [x1, x2] σ2) else (gLd σ2 1 16 x1 (fun y5 => if y5 = 2 then (if x2 < 0 then (some (0, σ2)) else (gLd σ2 2 16 x1 (fun y10 => if y10 ≤ x2 then (some (0, σ2)) else (gLd σ2 5 96 ((6 * x1) + x2) (fun y14 => some (y14, σ2)))))) else (rec 1 [x1, x2] σ2))))
def B_M_value_1 (rec : Nat → List Int32 → gS → Option (Int32 × gS)) (x1 : Int32) (x2 : Int32) (σ0 : gS) : Option (Int32 × gS) := gBd (f_M_slotThere σ0 x1 x2) (fun y17 σ18 => if y17 = 0 then (some (0, σ18)) else (gLd σ18 3 64 ((4 * x1) + x2) (fun y21 => if y21 = 0 then (some (0, σ18)) else (gLd σ18 4 64 ((4 * x1) + x2) (fun y25 => some (y25, σ18))))))
def S_M_value (rec : Nat → List Int32 → gS → Option (Int32 × gS)) (k : Nat) (l : List Int32) (σ0 : gS) : Option (Int32 × gS) := match k, l with
  | 0, [x1, x2] => B_M_value_0 rec x1 x2 σ0
  | 1, [x1, x2] => B_M_value_1 rec x1 x2 σ0
  | _, _ => none
def R_M_value : Nat → Nat → List Int32 → gS → Option (Int32 × gS)
  | 0 => fun _ _ _ => none
  | t + 1 => fun k l σ0 => S_M_value (R_M_value t) k l σ0
def f_M_value (σ : gS) (x1 : Int32) (x2 : Int32) : Option (Int32 × gS) := R_M_value gFuel 0 [x1, x2] σ
set_option maxHeartbeats 4000000 in
set_option maxRecDepth 100000 in
theorem m_M_value {l : Launch} {X : va_G} {cI cC cZ : ClassId} {aK aV : Nat → Nat} {b : Nat → Nat} {σ σ' : gS} {r : Int32} {q1 : Int32} {q2 : Int32} (hf : f_M_value σ q1 q2 = some (r, σ')) {sz : Nat} : Met l y_M_value w_M_value { frames := 2, cells := 0, slots := 0, locals := 43 } (gPc X vwCl (gT cI cC cZ) aK aV (mW cI cC cZ b σ) sz [.ref (b 0), .int q1, .int q2]) (gQi X vwCl (mW cI cC cZ b σ) sz (fun r' (_ : Unit) => r' = r) (fun _ => mW cI cC cZ b σ')) 0 0 (va_A (mW cI cC cZ b σ) sz) := by
  refine g_met (cc := b_M_value) (maxL := 3) (ret := (some .int)) (by decide) rfl (Nat.le_of_ble_eq_true rfl) ?_
  intro p e s m below meth c A ls hx hb hr hml hown hts hlocks hnm hsz hAe hA hP hK hD hS hl hE
  have hown : s.vm.findClass R_M = some m.cls := hown
  have u_0 : ∀ w ∈ u_ws R_M T_M 35, w ∈ w_M_value := fun w h => List.mem_cons_of_mem _ (tu_M w h)
  have k_0 := hts (.fieldLink R_M 7 "GraphPagesModel" "sort" "[I") (List.mem_cons_of_mem _ tb_386)
  have k_1 := hts (.fieldLink R_M 13 "GraphPagesModel" "room" "[I") (List.mem_cons_of_mem _ tb_387)
  have k_2 := hts (.fieldLink R_M 22 "GraphPagesModel" "letters" "[I") (List.mem_cons_of_mem _ tb_393)
  have k_3 := hts (.fieldLink R_M 16 "GraphPagesModel" "what" "[I") (List.mem_cons_of_mem _ tb_388)
  have k_4 := hts (.fieldLink R_M 19 "GraphPagesModel" "cell" "[I") (List.mem_cons_of_mem _ tb_397)
  unfold f_M_value at hf
  have key : ∀ t : Nat, (∀ (x1 : Int32) (x2 : Int32) (σ0 : gS) (H : Heap) (locs : List Loc) (ls : Array Slot), R_M_value t 0 [x1, x2] σ0 = some (r, σ') → va_P X vwCl (mW cI cC cZ b σ0) H → va_D A (mW cI cC cZ b σ0) → va_S A s.heap H locs → lv_has ls 3 [(0, .ref (b 0)), (1, .int x1), (2, .int x2)] → W p l e (headSpec w_M_value { frames := 2, cells := 0, slots := 0, locals := 43 }).room s m [.ref (b 0), .int q1, .int q2].toArray below meth c H locs 0 0 (MQ below (gQi X vwCl (mW cI cC cZ b σ) sz (fun r' (_ : Unit) => r' = r) (fun _ => mW cI cC cZ b σ')) [.ref (b 0), .int q1, .int q2].toArray s 0 0 (va_A (mW cI cC cZ b σ) sz)) (F0 m 0 ls [])) ∧ (∀ (x1 : Int32) (x2 : Int32) (σ0 : gS) (H : Heap) (locs : List Loc) (ls : Array Slot), R_M_value t 1 [x1, x2] σ0 = some (r, σ') → va_P X vwCl (mW cI cC cZ b σ0) H → va_D A (mW cI cC cZ b σ0) → va_S A s.heap H locs → lv_has ls 3 [(0, .ref (b 0)), (1, .int x1), (2, .int x2)] → W p l e (headSpec w_M_value { frames := 2, cells := 0, slots := 0, locals := 43 }).room s m [.ref (b 0), .int q1, .int q2].toArray below meth c H locs 0 0 (MQ below (gQi X vwCl (mW cI cC cZ b σ) sz (fun r' (_ : Unit) => r' = r) (fun _ => mW cI cC cZ b σ')) [.ref (b 0), .int q1, .int q2].toArray s 0 0 (va_A (mW cI cC cZ b σ) sz)) (F0 m 48 ls [])) := by
    intro t
    induction t with
    | zero => exact ⟨fun _ _ _ _ _ _ hf => (by have hf : (none : Option (Int32 × gS)) = some (r, σ') := hf; cases hf), fun _ _ _ _ _ _ hf => (by have hf : (none : Option (Int32 × gS)) = some (r, σ') := hf; cases hf)⟩
    | succ t ih =>
      obtain ⟨ih0, ih1⟩ := ih
      refine ⟨?_, ?_⟩
      · intro x1 x2 σ0 H locs ls hf hP hD hS hl
        have hf : B_M_value_0 (R_M_value t) x1 x2 σ0 = some (r, σ') := hf
        unfold B_M_value_0 at hf
        refine lv_aload_n hx hb d_M_value_0 rfl (lv_at hl 0 rfl) ?_
        refine lv_iload_n hx hb d_M_value_1 rfl (lv_at hl 1 rfl) ?_
        obtain ⟨y1, σ2, e3, hf⟩ := gBd_e hf
        refine g_wi (va_runV ⟨hx, hb, hml, hown, hts⟩ (m_M_object e3) (cwV 1 hts (gG4 (fun _ h => List.mem_cons_of_mem _ h) tb_389 tb_390 tb_391 tb_392 tc_M_object) rfl rfl rfl (by decide +kernel) ⟨Nat.le_of_ble_eq_true rfl, Nat.le_of_ble_eq_true rfl⟩) (g_preVW (q0 := 0) hE hK hP hD hS hA gm_0 rfl) rfl rfl hl.1 rfl (lv_room (Nat.le_of_ble_eq_true rfl)) d_M_value_2 ⟨Nat.zero_le _, Nat.zero_le _⟩) hD hS hA (fun _ => mW_fst) (fun y1 _ H locs hu hP hD hS => ?_)
        subst hu
        refine lv_if_eq (tgt := 48) hx hb d_M_value_5 rfl (fun c4 => ?_) (fun c4 => ?_)
        · skip
          rw [if_pos c4] at hf
          exact ih1 (x1) (x2) σ2 _ _ _ hf hP hD hS (lv_sub hl [0, 1, 2] rfl)
        rw [if_neg c4] at hf
        refine lv_aload_n hx hb d_M_value_8 rfl (lv_at hl 0 rfl) ?_
        refine va_get (D := X) (ci := 9) (C := R_M) (T := T_M) (N := 35) hx hb hts u_0 hown hK hP 0 gm_0 rfl 1 (by decide) k_0 (fun _ h9 => h9) rfl d_M_value_9 ?_
        refine lv_iload_n hx hb d_M_value_12 rfl (lv_at hl 1 rfl) ?_
        obtain ⟨y5, h6, e7, hf⟩ := gLd_e hf
        refine va_iald hx hb hK hP 1 0 gm_1 rfl h6 d_M_value_13 ?_
        rw [← e7]
        refine lv_iconst (v := 2) hx hb d_M_value_14 (by decide) ?_
        refine lv_icmp_ne (tgt := 48) hx hb d_M_value_15 rfl (fun c8 => ?_) (fun c8 => ?_)
        · skip
          rw [if_neg c8] at hf
          exact ih1 (x1) (x2) σ2 _ _ _ hf hP hD hS (lv_sub hl [0, 1, 2] rfl)
        rw [if_pos c8] at hf
        refine lv_iload_n hx hb d_M_value_18 rfl (lv_at hl 2 rfl) ?_
        refine lv_if_lt (tgt := 46) hx hb d_M_value_19 rfl (fun c9 => ?_) (fun c9 => ?_)
        · skip
          rw [if_pos c9] at hf
          refine lv_iconst (v := 0) hx hb d_M_value_46 (by decide) ?_
          obtain ⟨rfl, rfl⟩ := gRt_e hf
          exact g_zret hx hb hr hlocks rfl hAe hS () rfl hP d_M_value_47
        rw [if_neg c9] at hf
        refine lv_iload_n hx hb d_M_value_22 rfl (lv_at hl 2 rfl) ?_
        refine lv_aload_n hx hb d_M_value_23 rfl (lv_at hl 0 rfl) ?_
        refine va_get (D := X) (ci := 9) (C := R_M) (T := T_M) (N := 35) hx hb hts u_0 hown hK hP 0 gm_0 rfl 2 (by decide) k_1 (fun _ h9 => h9) rfl d_M_value_24 ?_
        refine lv_iload_n hx hb d_M_value_27 rfl (lv_at hl 1 rfl) ?_
        obtain ⟨y10, h11, e12, hf⟩ := gLd_e hf
        refine va_iald hx hb hK hP 2 0 gm_2 rfl h11 d_M_value_28 ?_
        rw [← e12]
        refine lv_icmp_ge (tgt := 46) hx hb d_M_value_29 rfl (fun c13 => ?_) (fun c13 => ?_)
        · skip
          rw [if_pos c13] at hf
          refine lv_iconst (v := 0) hx hb d_M_value_46 (by decide) ?_
          obtain ⟨rfl, rfl⟩ := gRt_e hf
          exact g_zret hx hb hr hlocks rfl hAe hS () rfl hP d_M_value_47
        rw [if_neg c13] at hf
        refine lv_aload_n hx hb d_M_value_32 rfl (lv_at hl 0 rfl) ?_
        refine va_get (D := X) (ci := 9) (C := R_M) (T := T_M) (N := 35) hx hb hts u_0 hown hK hP 0 gm_0 rfl 5 (by decide) k_2 (fun _ h9 => h9) rfl d_M_value_33 ?_
        refine lv_bipush (v := 6) hx hb d_M_value_36 (by decide) ?_
        refine lv_iload_n hx hb d_M_value_38 rfl (lv_at hl 1 rfl) ?_
        refine lv_imul hx hb d_M_value_39 ?_
        refine lv_iload_n hx hb d_M_value_40 rfl (lv_at hl 2 rfl) ?_
        refine lv_iadd hx hb d_M_value_41 ?_
        obtain ⟨y14, h15, e16, hf⟩ := gLd_e hf
        refine va_iald hx hb hK hP 5 0 gm_5 rfl h15 d_M_value_42 ?_
        rw [← e16]
        refine lv_goto (tgt := 47) hx hb d_M_value_43 rfl ?_
        obtain ⟨rfl, rfl⟩ := gRt_e hf
        exact g_zret hx hb hr hlocks rfl hAe hS () rfl hP d_M_value_47
      · intro x1 x2 σ0 H locs ls hf hP hD hS hl
        have hf : B_M_value_1 (R_M_value t) x1 x2 σ0 = some (r, σ') := hf
        unfold B_M_value_1 at hf
        refine lv_aload_n hx hb d_M_value_48 rfl (lv_at hl 0 rfl) ?_
        refine lv_iload_n hx hb d_M_value_49 rfl (lv_at hl 1 rfl) ?_
        refine lv_iload_n hx hb d_M_value_50 rfl (lv_at hl 2 rfl) ?_
        obtain ⟨y17, σ18, e19, hf⟩ := gBd_e hf
        refine g_wi (va_runV ⟨hx, hb, hml, hown, hts⟩ (m_M_slotThere e19) (cwV 2 hts (gG4 (fun _ h => List.mem_cons_of_mem _ h) tb_394 tb_395 tb_396 tb_392 tc_M_slotThere) rfl rfl rfl (by decide +kernel) ⟨Nat.le_of_ble_eq_true rfl, Nat.le_of_ble_eq_true rfl⟩) (g_preVW (q0 := 0) hE hK hP hD hS hA gm_0 rfl) rfl rfl hl.1 rfl (lv_room (Nat.le_of_ble_eq_true rfl)) d_M_value_51 ⟨Nat.zero_le _, Nat.zero_le _⟩) hD hS hA (fun _ => mW_fst) (fun y17 _ H locs hu hP hD hS => ?_)
        subst hu
        refine lv_if_eq (tgt := 83) hx hb d_M_value_54 rfl (fun c20 => ?_) (fun c20 => ?_)
        · skip
          rw [if_pos c20] at hf
          refine lv_iconst (v := 0) hx hb d_M_value_83 (by decide) ?_
          obtain ⟨rfl, rfl⟩ := gRt_e hf
          exact g_zret hx hb hr hlocks rfl hAe hS () rfl hP d_M_value_84
        rw [if_neg c20] at hf
        refine lv_aload_n hx hb d_M_value_57 rfl (lv_at hl 0 rfl) ?_
        refine va_get (D := X) (ci := 9) (C := R_M) (T := T_M) (N := 35) hx hb hts u_0 hown hK hP 0 gm_0 rfl 3 (by decide) k_3 (fun _ h9 => h9) rfl d_M_value_58 ?_
        refine lv_iconst (v := 4) hx hb d_M_value_61 (by decide) ?_
        refine lv_iload_n hx hb d_M_value_62 rfl (lv_at hl 1 rfl) ?_
        refine lv_imul hx hb d_M_value_63 ?_
        refine lv_iload_n hx hb d_M_value_64 rfl (lv_at hl 2 rfl) ?_
        refine lv_iadd hx hb d_M_value_65 ?_
        obtain ⟨y21, h22, e23, hf⟩ := gLd_e hf
        refine va_iald hx hb hK hP 3 0 gm_3 rfl h22 d_M_value_66 ?_
        rw [← e23]
        refine lv_if_eq (tgt := 83) hx hb d_M_value_67 rfl (fun c24 => ?_) (fun c24 => ?_)
        · skip
          rw [if_pos c24] at hf
          refine lv_iconst (v := 0) hx hb d_M_value_83 (by decide) ?_
          obtain ⟨rfl, rfl⟩ := gRt_e hf
          exact g_zret hx hb hr hlocks rfl hAe hS () rfl hP d_M_value_84
        rw [if_neg c24] at hf
        refine lv_aload_n hx hb d_M_value_70 rfl (lv_at hl 0 rfl) ?_
        refine va_get (D := X) (ci := 9) (C := R_M) (T := T_M) (N := 35) hx hb hts u_0 hown hK hP 0 gm_0 rfl 4 (by decide) k_4 (fun _ h9 => h9) rfl d_M_value_71 ?_
        refine lv_iconst (v := 4) hx hb d_M_value_74 (by decide) ?_
        refine lv_iload_n hx hb d_M_value_75 rfl (lv_at hl 1 rfl) ?_
        refine lv_imul hx hb d_M_value_76 ?_
        refine lv_iload_n hx hb d_M_value_77 rfl (lv_at hl 2 rfl) ?_
        refine lv_iadd hx hb d_M_value_78 ?_
        obtain ⟨y25, h26, e27, hf⟩ := gLd_e hf
        refine va_iald hx hb hK hP 4 0 gm_4 rfl h26 d_M_value_79 ?_
        rw [← e27]
        refine lv_goto (tgt := 84) hx hb d_M_value_80 rfl ?_
        obtain ⟨rfl, rfl⟩ := gRt_e hf
        exact g_zret hx hb hr hlocks rfl hAe hS () rfl hP d_M_value_84
  exact (key gFuel).1 q1 q2 σ _ _ _ hf hP hD hS hl

def B_M_sameOutside_0 (rec : Nat → List Int32 → gS → Option (Int32 × gS)) (x1 : Int32) (x2 : Int32) (σ0 : gS) : Option (Int32 × gS) := gLd σ0 1 16 x1 (fun y1 => gLd σ0 1 16 x2 (fun y4 => if y1 = y4 then (gLd σ0 2 16 x1 (fun y8 => gLd σ0 2 16 x2 (fun y11 => if y8 = y11 then (rec 1 [x1, x2, 0] σ0) else (some (0, σ0))))) else (some (0, σ0))))
def B_M_sameOutside_1 (rec : Nat → List Int32 → gS → Option (Int32 × gS)) (x1 : Int32) (x2 : Int32) (x3 : Int32) (σ0 : gS) : Option (Int32 × gS) := gLd σ0 2 16 x1 (fun y15 => if y15 ≤ x3 then (some (1, σ0)) else (gLd σ0 1 16 x1 (fun y19 => if y19 = 2 then (gLd σ0 5 96 ((6 * x1) + x3) (fun y23 => gLd σ0 5 96 ((6 * x2) + x3) (fun y26 => if y23 = y26 then (rec 2 [x1, x2, x3] σ0) else (some (0, σ0))))) else (rec 2 [x1, x2, x3] σ0))))
def B_M_sameOutside_2 (rec : Nat → List Int32 → gS → Option (Int32 × gS)) (x1 : Int32) (x2 : Int32) (x3 : Int32) (σ0 : gS) : Option (Int32 × gS) := gLd σ0 1 16 x1 (fun y30 => if y30 = 2 then (rec 3 [x1, x2, x3] σ0) else (gLd σ0 3 64 ((4 * x1) + x3) (fun y34 => gLd σ0 3 64 ((4 * x2) + x3) (fun y37 => if y34 = y37 then (rec 3 [x1, x2, x3] σ0) else (some (0, σ0))))))
def B_M_sameOutside_3 (rec : Nat → List Int32 → gS → Option (Int32 × gS)) (x1 : Int32) (x2 : Int32) (x3 : Int32) (σ0 : gS) : Option (Int32 × gS) := gLd σ0 1 16 x1 (fun y41 => if y41 = 2 then (rec 4 [x1, x2, x3] σ0) else (gLd σ0 3 64 ((4 * x1) + x3) (fun y45 => if y45 = 1 then (gLd σ0 4 64 ((4 * x1) + x3) (fun y49 => gLd σ0 4 64 ((4 * x2) + x3) (fun y52 => if y49 = y52 then (rec 4 [x1, x2, x3] σ0) else (some (0, σ0))))) else (rec 4 [x1, x2, x3] σ0))))
def B_M_sameOutside_4 (rec : Nat → List Int32 → gS → Option (Int32 × gS)) (x1 : Int32) (x2 : Int32) (x3 : Int32) (σ0 : gS) : Option (Int32 × gS) := rec 1 [x1, x2, (x3 + 1)] σ0
def S_M_sameOutside (rec : Nat → List Int32 → gS → Option (Int32 × gS)) (k : Nat) (l : List Int32) (σ0 : gS) : Option (Int32 × gS) := match k, l with
  | 0, [x1, x2] => B_M_sameOutside_0 rec x1 x2 σ0
  | 1, [x1, x2, x3] => B_M_sameOutside_1 rec x1 x2 x3 σ0
  | 2, [x1, x2, x3] => B_M_sameOutside_2 rec x1 x2 x3 σ0
  | 3, [x1, x2, x3] => B_M_sameOutside_3 rec x1 x2 x3 σ0
  | 4, [x1, x2, x3] => B_M_sameOutside_4 rec x1 x2 x3 σ0
  | _, _ => none
def R_M_sameOutside : Nat → Nat → List Int32 → gS → Option (Int32 × gS)
  | 0 => fun _ _ _ => none
  | t + 1 => fun k l σ0 => S_M_sameOutside (R_M_sameOutside t) k l σ0
def f_M_sameOutside (σ : gS) (x1 : Int32) (x2 : Int32) : Option (Int32 × gS) := R_M_sameOutside gFuel 0 [x1, x2] σ
set_option maxHeartbeats 4000000 in
set_option maxRecDepth 100000 in
theorem m_M_sameOutside {l : Launch} {X : va_G} {cI cC cZ : ClassId} {aK aV : Nat → Nat} {b : Nat → Nat} {σ σ' : gS} {r : Int32} {q1 : Int32} {q2 : Int32} (hf : f_M_sameOutside σ q1 q2 = some (r, σ')) {sz : Nat} : Met l y_M_sameOutside w_M_sameOutside { frames := 0, cells := 0, slots := 0, locals := 0 } (gPc X vwCl (gT cI cC cZ) aK aV (mW cI cC cZ b σ) sz [.ref (b 0), .int q1, .int q2]) (gQi X vwCl (mW cI cC cZ b σ) sz (fun r' (_ : Unit) => r' = r) (fun _ => mW cI cC cZ b σ')) 0 0 (va_A (mW cI cC cZ b σ) sz) := by
  refine g_met (cc := b_M_sameOutside) (maxL := 4) (ret := (some .boolean)) (by decide) rfl (Nat.le_of_ble_eq_true rfl) ?_
  intro p e s m below meth c A ls hx hb hr hml hown hts hlocks hnm hsz hAe hA hP hK hD hS hl hE
  have hown : s.vm.findClass R_M = some m.cls := hown
  have u_0 : ∀ w ∈ u_ws R_M T_M 35, w ∈ w_M_sameOutside := fun w h => List.mem_cons_of_mem _ (tu_M w h)
  have k_0 := hts (.fieldLink R_M 7 "GraphPagesModel" "sort" "[I") (List.mem_cons_of_mem _ tb_386)
  have k_1 := hts (.fieldLink R_M 13 "GraphPagesModel" "room" "[I") (List.mem_cons_of_mem _ tb_387)
  have k_2 := hts (.fieldLink R_M 22 "GraphPagesModel" "letters" "[I") (List.mem_cons_of_mem _ tb_393)
  have k_3 := hts (.fieldLink R_M 16 "GraphPagesModel" "what" "[I") (List.mem_cons_of_mem _ tb_388)
  have k_4 := hts (.fieldLink R_M 19 "GraphPagesModel" "cell" "[I") (List.mem_cons_of_mem _ tb_397)
  unfold f_M_sameOutside at hf
  have key : ∀ t : Nat, (∀ (x1 : Int32) (x2 : Int32) (σ0 : gS) (H : Heap) (locs : List Loc) (ls : Array Slot), R_M_sameOutside t 0 [x1, x2] σ0 = some (r, σ') → va_P X vwCl (mW cI cC cZ b σ0) H → va_D A (mW cI cC cZ b σ0) → va_S A s.heap H locs → lv_has ls 4 [(0, .ref (b 0)), (1, .int x1), (2, .int x2)] → W p l e (headSpec w_M_sameOutside { frames := 0, cells := 0, slots := 0, locals := 0 }).room s m [.ref (b 0), .int q1, .int q2].toArray below meth c H locs 0 0 (MQ below (gQi X vwCl (mW cI cC cZ b σ) sz (fun r' (_ : Unit) => r' = r) (fun _ => mW cI cC cZ b σ')) [.ref (b 0), .int q1, .int q2].toArray s 0 0 (va_A (mW cI cC cZ b σ) sz)) (F0 m 0 ls [])) ∧ (∀ (x1 : Int32) (x2 : Int32) (x3 : Int32) (σ0 : gS) (H : Heap) (locs : List Loc) (ls : Array Slot), R_M_sameOutside t 1 [x1, x2, x3] σ0 = some (r, σ') → va_P X vwCl (mW cI cC cZ b σ0) H → va_D A (mW cI cC cZ b σ0) → va_S A s.heap H locs → lv_has ls 4 [(0, .ref (b 0)), (1, .int x1), (2, .int x2), (3, .int x3)] → W p l e (headSpec w_M_sameOutside { frames := 0, cells := 0, slots := 0, locals := 0 }).room s m [.ref (b 0), .int q1, .int q2].toArray below meth c H locs 0 0 (MQ below (gQi X vwCl (mW cI cC cZ b σ) sz (fun r' (_ : Unit) => r' = r) (fun _ => mW cI cC cZ b σ')) [.ref (b 0), .int q1, .int q2].toArray s 0 0 (va_A (mW cI cC cZ b σ) sz)) (F0 m 34 ls [])) ∧ (∀ (x1 : Int32) (x2 : Int32) (x3 : Int32) (σ0 : gS) (H : Heap) (locs : List Loc) (ls : Array Slot), R_M_sameOutside t 2 [x1, x2, x3] σ0 = some (r, σ') → va_P X vwCl (mW cI cC cZ b σ0) H → va_D A (mW cI cC cZ b σ0) → va_S A s.heap H locs → lv_has ls 4 [(0, .ref (b 0)), (1, .int x1), (2, .int x2), (3, .int x3)] → W p l e (headSpec w_M_sameOutside { frames := 0, cells := 0, slots := 0, locals := 0 }).room s m [.ref (b 0), .int q1, .int q2].toArray below meth c H locs 0 0 (MQ below (gQi X vwCl (mW cI cC cZ b σ) sz (fun r' (_ : Unit) => r' = r) (fun _ => mW cI cC cZ b σ')) [.ref (b 0), .int q1, .int q2].toArray s 0 0 (va_A (mW cI cC cZ b σ) sz)) (F0 m 81 ls [])) ∧ (∀ (x1 : Int32) (x2 : Int32) (x3 : Int32) (σ0 : gS) (H : Heap) (locs : List Loc) (ls : Array Slot), R_M_sameOutside t 3 [x1, x2, x3] σ0 = some (r, σ') → va_P X vwCl (mW cI cC cZ b σ0) H → va_D A (mW cI cC cZ b σ0) → va_S A s.heap H locs → lv_has ls 4 [(0, .ref (b 0)), (1, .int x1), (2, .int x2), (3, .int x3)] → W p l e (headSpec w_M_sameOutside { frames := 0, cells := 0, slots := 0, locals := 0 }).room s m [.ref (b 0), .int q1, .int q2].toArray below meth c H locs 0 0 (MQ below (gQi X vwCl (mW cI cC cZ b σ) sz (fun r' (_ : Unit) => r' = r) (fun _ => mW cI cC cZ b σ')) [.ref (b 0), .int q1, .int q2].toArray s 0 0 (va_A (mW cI cC cZ b σ) sz)) (F0 m 116 ls [])) ∧ (∀ (x1 : Int32) (x2 : Int32) (x3 : Int32) (σ0 : gS) (H : Heap) (locs : List Loc) (ls : Array Slot), R_M_sameOutside t 4 [x1, x2, x3] σ0 = some (r, σ') → va_P X vwCl (mW cI cC cZ b σ0) H → va_D A (mW cI cC cZ b σ0) → va_S A s.heap H locs → lv_has ls 4 [(0, .ref (b 0)), (1, .int x1), (2, .int x2), (3, .int x3)] → W p l e (headSpec w_M_sameOutside { frames := 0, cells := 0, slots := 0, locals := 0 }).room s m [.ref (b 0), .int q1, .int q2].toArray below meth c H locs 0 0 (MQ below (gQi X vwCl (mW cI cC cZ b σ) sz (fun r' (_ : Unit) => r' = r) (fun _ => mW cI cC cZ b σ')) [.ref (b 0), .int q1, .int q2].toArray s 0 0 (va_A (mW cI cC cZ b σ) sz)) (F0 m 165 ls [])) := by
    intro t
    induction t with
    | zero => exact ⟨fun _ _ _ _ _ _ hf => (by have hf : (none : Option (Int32 × gS)) = some (r, σ') := hf; cases hf), fun _ _ _ _ _ _ _ hf => (by have hf : (none : Option (Int32 × gS)) = some (r, σ') := hf; cases hf), fun _ _ _ _ _ _ _ hf => (by have hf : (none : Option (Int32 × gS)) = some (r, σ') := hf; cases hf), fun _ _ _ _ _ _ _ hf => (by have hf : (none : Option (Int32 × gS)) = some (r, σ') := hf; cases hf), fun _ _ _ _ _ _ _ hf => (by have hf : (none : Option (Int32 × gS)) = some (r, σ') := hf; cases hf)⟩
    | succ t ih =>
      obtain ⟨ih0, ih1, ih2, ih3, ih4⟩ := ih
      refine ⟨?_, ?_, ?_, ?_, ?_⟩
      · intro x1 x2 σ0 H locs ls hf hP hD hS hl
        have hf : B_M_sameOutside_0 (R_M_sameOutside t) x1 x2 σ0 = some (r, σ') := hf
        unfold B_M_sameOutside_0 at hf
        refine lv_aload_n hx hb d_M_sameOutside_0 rfl (lv_at hl 0 rfl) ?_
        refine va_get (D := X) (ci := 9) (C := R_M) (T := T_M) (N := 35) hx hb hts u_0 hown hK hP 0 gm_0 rfl 1 (by decide) k_0 (fun _ h9 => h9) rfl d_M_sameOutside_1 ?_
        refine lv_iload_n hx hb d_M_sameOutside_4 rfl (lv_at hl 1 rfl) ?_
        obtain ⟨y1, h2, e3, hf⟩ := gLd_e hf
        refine va_iald hx hb hK hP 1 0 gm_1 rfl h2 d_M_sameOutside_5 ?_
        rw [← e3]
        refine lv_aload_n hx hb d_M_sameOutside_6 rfl (lv_at hl 0 rfl) ?_
        refine va_get (D := X) (ci := 9) (C := R_M) (T := T_M) (N := 35) hx hb hts u_0 hown hK hP 0 gm_0 rfl 1 (by decide) k_0 (fun _ h9 => h9) rfl d_M_sameOutside_7 ?_
        refine lv_iload_n hx hb d_M_sameOutside_10 rfl (lv_at hl 2 rfl) ?_
        obtain ⟨y4, h5, e6, hf⟩ := gLd_e hf
        refine va_iald hx hb hK hP 1 0 gm_1 rfl h5 d_M_sameOutside_11 ?_
        rw [← e6]
        refine lv_icmp_ne (tgt := 30) hx hb d_M_sameOutside_12 rfl (fun c7 => ?_) (fun c7 => ?_)
        · skip
          rw [if_neg c7] at hf
          refine lv_iconst (v := 0) hx hb d_M_sameOutside_30 (by decide) ?_
          obtain ⟨rfl, rfl⟩ := gRt_e hf
          exact g_zret hx hb hr hlocks rfl hAe hS () rfl hP d_M_sameOutside_31
        rw [if_pos c7] at hf
        refine lv_aload_n hx hb d_M_sameOutside_15 rfl (lv_at hl 0 rfl) ?_
        refine va_get (D := X) (ci := 9) (C := R_M) (T := T_M) (N := 35) hx hb hts u_0 hown hK hP 0 gm_0 rfl 2 (by decide) k_1 (fun _ h9 => h9) rfl d_M_sameOutside_16 ?_
        refine lv_iload_n hx hb d_M_sameOutside_19 rfl (lv_at hl 1 rfl) ?_
        obtain ⟨y8, h9, e10, hf⟩ := gLd_e hf
        refine va_iald hx hb hK hP 2 0 gm_2 rfl h9 d_M_sameOutside_20 ?_
        rw [← e10]
        refine lv_aload_n hx hb d_M_sameOutside_21 rfl (lv_at hl 0 rfl) ?_
        refine va_get (D := X) (ci := 9) (C := R_M) (T := T_M) (N := 35) hx hb hts u_0 hown hK hP 0 gm_0 rfl 2 (by decide) k_1 (fun _ h9 => h9) rfl d_M_sameOutside_22 ?_
        refine lv_iload_n hx hb d_M_sameOutside_25 rfl (lv_at hl 2 rfl) ?_
        obtain ⟨y11, h12, e13, hf⟩ := gLd_e hf
        refine va_iald hx hb hK hP 2 0 gm_2 rfl h12 d_M_sameOutside_26 ?_
        rw [← e13]
        refine lv_icmp_eq (tgt := 32) hx hb d_M_sameOutside_27 rfl (fun c14 => ?_) (fun c14 => ?_)
        · skip
          rw [if_pos c14] at hf
          refine lv_iconst (v := 0) hx hb d_M_sameOutside_32 (by decide) ?_
          refine lv_istore_n hx hb d_M_sameOutside_33 rfl hl (by decide) rfl (fun ls hl => ?_)
          exact ih1 (x1) (x2) (0) σ0 _ _ _ hf hP hD hS (lv_sub hl [1, 2, 3, 0] rfl)
        rw [if_neg c14] at hf
        refine lv_iconst (v := 0) hx hb d_M_sameOutside_30 (by decide) ?_
        obtain ⟨rfl, rfl⟩ := gRt_e hf
        exact g_zret hx hb hr hlocks rfl hAe hS () rfl hP d_M_sameOutside_31
      · intro x1 x2 x3 σ0 H locs ls hf hP hD hS hl
        have hf : B_M_sameOutside_1 (R_M_sameOutside t) x1 x2 x3 σ0 = some (r, σ') := hf
        unfold B_M_sameOutside_1 at hf
        refine lv_iload_n hx hb d_M_sameOutside_34 rfl (lv_at hl 3 rfl) ?_
        refine lv_aload_n hx hb d_M_sameOutside_35 rfl (lv_at hl 0 rfl) ?_
        refine va_get (D := X) (ci := 9) (C := R_M) (T := T_M) (N := 35) hx hb hts u_0 hown hK hP 0 gm_0 rfl 2 (by decide) k_1 (fun _ h9 => h9) rfl d_M_sameOutside_36 ?_
        refine lv_iload_n hx hb d_M_sameOutside_39 rfl (lv_at hl 1 rfl) ?_
        obtain ⟨y15, h16, e17, hf⟩ := gLd_e hf
        refine va_iald hx hb hK hP 2 0 gm_2 rfl h16 d_M_sameOutside_40 ?_
        rw [← e17]
        refine lv_icmp_ge (tgt := 171) hx hb d_M_sameOutside_41 rfl (fun c18 => ?_) (fun c18 => ?_)
        · skip
          rw [if_pos c18] at hf
          refine lv_iconst (v := 1) hx hb d_M_sameOutside_171 (by decide) ?_
          obtain ⟨rfl, rfl⟩ := gRt_e hf
          exact g_zret hx hb hr hlocks rfl hAe hS () rfl hP d_M_sameOutside_172
        rw [if_neg c18] at hf
        refine lv_aload_n hx hb d_M_sameOutside_44 rfl (lv_at hl 0 rfl) ?_
        refine va_get (D := X) (ci := 9) (C := R_M) (T := T_M) (N := 35) hx hb hts u_0 hown hK hP 0 gm_0 rfl 1 (by decide) k_0 (fun _ h9 => h9) rfl d_M_sameOutside_45 ?_
        refine lv_iload_n hx hb d_M_sameOutside_48 rfl (lv_at hl 1 rfl) ?_
        obtain ⟨y19, h20, e21, hf⟩ := gLd_e hf
        refine va_iald hx hb hK hP 1 0 gm_1 rfl h20 d_M_sameOutside_49 ?_
        rw [← e21]
        refine lv_iconst (v := 2) hx hb d_M_sameOutside_50 (by decide) ?_
        refine lv_icmp_ne (tgt := 81) hx hb d_M_sameOutside_51 rfl (fun c22 => ?_) (fun c22 => ?_)
        · skip
          rw [if_neg c22] at hf
          exact ih2 (x1) (x2) (x3) σ0 _ _ _ hf hP hD hS (lv_sub hl [0, 1, 2, 3] rfl)
        rw [if_pos c22] at hf
        refine lv_aload_n hx hb d_M_sameOutside_54 rfl (lv_at hl 0 rfl) ?_
        refine va_get (D := X) (ci := 9) (C := R_M) (T := T_M) (N := 35) hx hb hts u_0 hown hK hP 0 gm_0 rfl 5 (by decide) k_2 (fun _ h9 => h9) rfl d_M_sameOutside_55 ?_
        refine lv_bipush (v := 6) hx hb d_M_sameOutside_58 (by decide) ?_
        refine lv_iload_n hx hb d_M_sameOutside_60 rfl (lv_at hl 1 rfl) ?_
        refine lv_imul hx hb d_M_sameOutside_61 ?_
        refine lv_iload_n hx hb d_M_sameOutside_62 rfl (lv_at hl 3 rfl) ?_
        refine lv_iadd hx hb d_M_sameOutside_63 ?_
        obtain ⟨y23, h24, e25, hf⟩ := gLd_e hf
        refine va_iald hx hb hK hP 5 0 gm_5 rfl h24 d_M_sameOutside_64 ?_
        rw [← e25]
        refine lv_aload_n hx hb d_M_sameOutside_65 rfl (lv_at hl 0 rfl) ?_
        refine va_get (D := X) (ci := 9) (C := R_M) (T := T_M) (N := 35) hx hb hts u_0 hown hK hP 0 gm_0 rfl 5 (by decide) k_2 (fun _ h9 => h9) rfl d_M_sameOutside_66 ?_
        refine lv_bipush (v := 6) hx hb d_M_sameOutside_69 (by decide) ?_
        refine lv_iload_n hx hb d_M_sameOutside_71 rfl (lv_at hl 2 rfl) ?_
        refine lv_imul hx hb d_M_sameOutside_72 ?_
        refine lv_iload_n hx hb d_M_sameOutside_73 rfl (lv_at hl 3 rfl) ?_
        refine lv_iadd hx hb d_M_sameOutside_74 ?_
        obtain ⟨y26, h27, e28, hf⟩ := gLd_e hf
        refine va_iald hx hb hK hP 5 0 gm_5 rfl h27 d_M_sameOutside_75 ?_
        rw [← e28]
        refine lv_icmp_eq (tgt := 81) hx hb d_M_sameOutside_76 rfl (fun c29 => ?_) (fun c29 => ?_)
        · skip
          rw [if_pos c29] at hf
          exact ih2 (x1) (x2) (x3) σ0 _ _ _ hf hP hD hS (lv_sub hl [0, 1, 2, 3] rfl)
        rw [if_neg c29] at hf
        refine lv_iconst (v := 0) hx hb d_M_sameOutside_79 (by decide) ?_
        obtain ⟨rfl, rfl⟩ := gRt_e hf
        exact g_zret hx hb hr hlocks rfl hAe hS () rfl hP d_M_sameOutside_80
      · intro x1 x2 x3 σ0 H locs ls hf hP hD hS hl
        have hf : B_M_sameOutside_2 (R_M_sameOutside t) x1 x2 x3 σ0 = some (r, σ') := hf
        unfold B_M_sameOutside_2 at hf
        refine lv_aload_n hx hb d_M_sameOutside_81 rfl (lv_at hl 0 rfl) ?_
        refine va_get (D := X) (ci := 9) (C := R_M) (T := T_M) (N := 35) hx hb hts u_0 hown hK hP 0 gm_0 rfl 1 (by decide) k_0 (fun _ h9 => h9) rfl d_M_sameOutside_82 ?_
        refine lv_iload_n hx hb d_M_sameOutside_85 rfl (lv_at hl 1 rfl) ?_
        obtain ⟨y30, h31, e32, hf⟩ := gLd_e hf
        refine va_iald hx hb hK hP 1 0 gm_1 rfl h31 d_M_sameOutside_86 ?_
        rw [← e32]
        refine lv_iconst (v := 2) hx hb d_M_sameOutside_87 (by decide) ?_
        refine lv_icmp_eq (tgt := 116) hx hb d_M_sameOutside_88 rfl (fun c33 => ?_) (fun c33 => ?_)
        · skip
          rw [if_pos c33] at hf
          exact ih3 (x1) (x2) (x3) σ0 _ _ _ hf hP hD hS (lv_sub hl [0, 1, 2, 3] rfl)
        rw [if_neg c33] at hf
        refine lv_aload_n hx hb d_M_sameOutside_91 rfl (lv_at hl 0 rfl) ?_
        refine va_get (D := X) (ci := 9) (C := R_M) (T := T_M) (N := 35) hx hb hts u_0 hown hK hP 0 gm_0 rfl 3 (by decide) k_3 (fun _ h9 => h9) rfl d_M_sameOutside_92 ?_
        refine lv_iconst (v := 4) hx hb d_M_sameOutside_95 (by decide) ?_
        refine lv_iload_n hx hb d_M_sameOutside_96 rfl (lv_at hl 1 rfl) ?_
        refine lv_imul hx hb d_M_sameOutside_97 ?_
        refine lv_iload_n hx hb d_M_sameOutside_98 rfl (lv_at hl 3 rfl) ?_
        refine lv_iadd hx hb d_M_sameOutside_99 ?_
        obtain ⟨y34, h35, e36, hf⟩ := gLd_e hf
        refine va_iald hx hb hK hP 3 0 gm_3 rfl h35 d_M_sameOutside_100 ?_
        rw [← e36]
        refine lv_aload_n hx hb d_M_sameOutside_101 rfl (lv_at hl 0 rfl) ?_
        refine va_get (D := X) (ci := 9) (C := R_M) (T := T_M) (N := 35) hx hb hts u_0 hown hK hP 0 gm_0 rfl 3 (by decide) k_3 (fun _ h9 => h9) rfl d_M_sameOutside_102 ?_
        refine lv_iconst (v := 4) hx hb d_M_sameOutside_105 (by decide) ?_
        refine lv_iload_n hx hb d_M_sameOutside_106 rfl (lv_at hl 2 rfl) ?_
        refine lv_imul hx hb d_M_sameOutside_107 ?_
        refine lv_iload_n hx hb d_M_sameOutside_108 rfl (lv_at hl 3 rfl) ?_
        refine lv_iadd hx hb d_M_sameOutside_109 ?_
        obtain ⟨y37, h38, e39, hf⟩ := gLd_e hf
        refine va_iald hx hb hK hP 3 0 gm_3 rfl h38 d_M_sameOutside_110 ?_
        rw [← e39]
        refine lv_icmp_eq (tgt := 116) hx hb d_M_sameOutside_111 rfl (fun c40 => ?_) (fun c40 => ?_)
        · skip
          rw [if_pos c40] at hf
          exact ih3 (x1) (x2) (x3) σ0 _ _ _ hf hP hD hS (lv_sub hl [0, 1, 2, 3] rfl)
        rw [if_neg c40] at hf
        refine lv_iconst (v := 0) hx hb d_M_sameOutside_114 (by decide) ?_
        obtain ⟨rfl, rfl⟩ := gRt_e hf
        exact g_zret hx hb hr hlocks rfl hAe hS () rfl hP d_M_sameOutside_115
      · intro x1 x2 x3 σ0 H locs ls hf hP hD hS hl
        have hf : B_M_sameOutside_3 (R_M_sameOutside t) x1 x2 x3 σ0 = some (r, σ') := hf
        unfold B_M_sameOutside_3 at hf
        refine lv_aload_n hx hb d_M_sameOutside_116 rfl (lv_at hl 0 rfl) ?_
        refine va_get (D := X) (ci := 9) (C := R_M) (T := T_M) (N := 35) hx hb hts u_0 hown hK hP 0 gm_0 rfl 1 (by decide) k_0 (fun _ h9 => h9) rfl d_M_sameOutside_117 ?_
        refine lv_iload_n hx hb d_M_sameOutside_120 rfl (lv_at hl 1 rfl) ?_
        obtain ⟨y41, h42, e43, hf⟩ := gLd_e hf
        refine va_iald hx hb hK hP 1 0 gm_1 rfl h42 d_M_sameOutside_121 ?_
        rw [← e43]
        refine lv_iconst (v := 2) hx hb d_M_sameOutside_122 (by decide) ?_
        refine lv_icmp_eq (tgt := 165) hx hb d_M_sameOutside_123 rfl (fun c44 => ?_) (fun c44 => ?_)
        · skip
          rw [if_pos c44] at hf
          exact ih4 (x1) (x2) (x3) σ0 _ _ _ hf hP hD hS (lv_sub hl [0, 1, 2, 3] rfl)
        rw [if_neg c44] at hf
        refine lv_aload_n hx hb d_M_sameOutside_126 rfl (lv_at hl 0 rfl) ?_
        refine va_get (D := X) (ci := 9) (C := R_M) (T := T_M) (N := 35) hx hb hts u_0 hown hK hP 0 gm_0 rfl 3 (by decide) k_3 (fun _ h9 => h9) rfl d_M_sameOutside_127 ?_
        refine lv_iconst (v := 4) hx hb d_M_sameOutside_130 (by decide) ?_
        refine lv_iload_n hx hb d_M_sameOutside_131 rfl (lv_at hl 1 rfl) ?_
        refine lv_imul hx hb d_M_sameOutside_132 ?_
        refine lv_iload_n hx hb d_M_sameOutside_133 rfl (lv_at hl 3 rfl) ?_
        refine lv_iadd hx hb d_M_sameOutside_134 ?_
        obtain ⟨y45, h46, e47, hf⟩ := gLd_e hf
        refine va_iald hx hb hK hP 3 0 gm_3 rfl h46 d_M_sameOutside_135 ?_
        rw [← e47]
        refine lv_iconst (v := 1) hx hb d_M_sameOutside_136 (by decide) ?_
        refine lv_icmp_ne (tgt := 165) hx hb d_M_sameOutside_137 rfl (fun c48 => ?_) (fun c48 => ?_)
        · skip
          rw [if_neg c48] at hf
          exact ih4 (x1) (x2) (x3) σ0 _ _ _ hf hP hD hS (lv_sub hl [0, 1, 2, 3] rfl)
        rw [if_pos c48] at hf
        refine lv_aload_n hx hb d_M_sameOutside_140 rfl (lv_at hl 0 rfl) ?_
        refine va_get (D := X) (ci := 9) (C := R_M) (T := T_M) (N := 35) hx hb hts u_0 hown hK hP 0 gm_0 rfl 4 (by decide) k_4 (fun _ h9 => h9) rfl d_M_sameOutside_141 ?_
        refine lv_iconst (v := 4) hx hb d_M_sameOutside_144 (by decide) ?_
        refine lv_iload_n hx hb d_M_sameOutside_145 rfl (lv_at hl 1 rfl) ?_
        refine lv_imul hx hb d_M_sameOutside_146 ?_
        refine lv_iload_n hx hb d_M_sameOutside_147 rfl (lv_at hl 3 rfl) ?_
        refine lv_iadd hx hb d_M_sameOutside_148 ?_
        obtain ⟨y49, h50, e51, hf⟩ := gLd_e hf
        refine va_iald hx hb hK hP 4 0 gm_4 rfl h50 d_M_sameOutside_149 ?_
        rw [← e51]
        refine lv_aload_n hx hb d_M_sameOutside_150 rfl (lv_at hl 0 rfl) ?_
        refine va_get (D := X) (ci := 9) (C := R_M) (T := T_M) (N := 35) hx hb hts u_0 hown hK hP 0 gm_0 rfl 4 (by decide) k_4 (fun _ h9 => h9) rfl d_M_sameOutside_151 ?_
        refine lv_iconst (v := 4) hx hb d_M_sameOutside_154 (by decide) ?_
        refine lv_iload_n hx hb d_M_sameOutside_155 rfl (lv_at hl 2 rfl) ?_
        refine lv_imul hx hb d_M_sameOutside_156 ?_
        refine lv_iload_n hx hb d_M_sameOutside_157 rfl (lv_at hl 3 rfl) ?_
        refine lv_iadd hx hb d_M_sameOutside_158 ?_
        obtain ⟨y52, h53, e54, hf⟩ := gLd_e hf
        refine va_iald hx hb hK hP 4 0 gm_4 rfl h53 d_M_sameOutside_159 ?_
        rw [← e54]
        refine lv_icmp_eq (tgt := 165) hx hb d_M_sameOutside_160 rfl (fun c55 => ?_) (fun c55 => ?_)
        · skip
          rw [if_pos c55] at hf
          exact ih4 (x1) (x2) (x3) σ0 _ _ _ hf hP hD hS (lv_sub hl [0, 1, 2, 3] rfl)
        rw [if_neg c55] at hf
        refine lv_iconst (v := 0) hx hb d_M_sameOutside_163 (by decide) ?_
        obtain ⟨rfl, rfl⟩ := gRt_e hf
        exact g_zret hx hb hr hlocks rfl hAe hS () rfl hP d_M_sameOutside_164
      · intro x1 x2 x3 σ0 H locs ls hf hP hD hS hl
        have hf : B_M_sameOutside_4 (R_M_sameOutside t) x1 x2 x3 σ0 = some (r, σ') := hf
        unfold B_M_sameOutside_4 at hf
        refine lv_iinc (k := 3) (v := (x3 + 1)) hx hb d_M_sameOutside_165 hl rfl (by rw [show Int32.ofInt (1) = (1 : Int32) by decide]) (by decide) rfl (fun ls hl => ?_)
        refine lv_goto (tgt := 34) hx hb d_M_sameOutside_168 rfl ?_
        exact ih1 (x1) (x2) ((x3 + 1)) σ0 _ _ _ hf hP hD hS (lv_sub hl [1, 2, 3, 0] rfl)
  exact (key gFuel).1 q1 q2 σ _ _ _ hf hP hD hS hl

def B_M_alike_0 (rec : Nat → List Int32 → gS → Option (Int32 × gS)) (x1 : Int32) (x2 : Int32) (σ0 : gS) : Option (Int32 × gS) := gBd (f_M_object σ0 x1) (fun y1 σ2 => if y1 = 0 then (some (0, σ2)) else (gBd (f_M_object σ2 x2) (fun y5 σ6 => if y5 = 0 then (some (0, σ6)) else (rec 1 [x1, x2, 0] σ6))))
def B_M_alike_1 (rec : Nat → List Int32 → gS → Option (Int32 × gS)) (x1 : Int32) (x2 : Int32) (x3 : Int32) (σ0 : gS) : Option (Int32 × gS) := if 16 ≤ x3 then (gSt σ0 24 16 x1 x2 (fun σ10 => gSt σ10 25 16 x2 x1 (fun σ13 => rec 2 [0] σ13))) else (gSt σ0 24 16 x3 (-1) (fun σ16 => gSt σ16 25 16 x3 (-1) (fun σ19 => rec 1 [x1, x2, (x3 + 1)] σ19)))
def B_M_alike_2 (rec : Nat → List Int32 → gS → Option (Int32 × gS)) (x3 : Int32) (σ0 : gS) : Option (Int32 × gS) := if (17 * (σ0.1 0)) ≤ x3 then (some (1, σ0)) else (gNe ((σ0.1 0)) (gLd σ0 24 16 (x3 - x3 / (σ0.1 0) * (σ0.1 0)) (fun y24 => if y24 < 0 then (rec 3 [x3, (x3 - x3 / (σ0.1 0) * (σ0.1 0)), y24] σ0) else (gBd (f_M_sameOutside σ0 (x3 - x3 / (σ0.1 0) * (σ0.1 0)) y24) (fun y28 σ29 => if y28 = 0 then (some (0, σ29)) else (rec 3 [x3, (x3 - x3 / (σ0.1 0) * (σ0.1 0)), y24] σ29))))))
def B_M_alike_3 (rec : Nat → List Int32 → gS → Option (Int32 × gS)) (x3 : Int32) (x4 : Int32) (x5 : Int32) (σ0 : gS) : Option (Int32 × gS) := rec 4 [x3, x4, x5, 0] σ0
def B_M_alike_4 (rec : Nat → List Int32 → gS → Option (Int32 × gS)) (x3 : Int32) (x4 : Int32) (x5 : Int32) (x6 : Int32) (σ0 : gS) : Option (Int32 × gS) := if x5 < 0 then (rec 7 [x3] σ0) else (gLd σ0 1 16 x4 (fun y33 => if y33 = 2 then (rec 7 [x3] σ0) else (gLd σ0 2 16 x4 (fun y37 => if y37 ≤ x6 then (rec 7 [x3] σ0) else (gLd σ0 3 64 ((4 * x4) + x6) (fun y41 => if y41 = 2 then (gLd σ0 4 64 ((4 * x4) + x6) (fun y45 => gLd σ0 4 64 ((4 * x5) + x6) (fun y48 => gLd σ0 24 16 y45 (fun y51 => if 0 ≤ y51 then (rec 5 [x3, x4, x5, x6, y45, y48] σ0) else (gLd σ0 25 16 y48 (fun y55 => if 0 ≤ y55 then (rec 5 [x3, x4, x5, x6, y45, y48] σ0) else (gSt σ0 24 16 y45 y48 (fun σ59 => gSt σ59 25 16 y48 y45 (fun σ62 => rec 5 [x3, x4, x5, x6, y45, y48] σ62))))))))) else (rec 6 [x3, x4, x5, x6] σ0)))))))
def B_M_alike_5 (rec : Nat → List Int32 → gS → Option (Int32 × gS)) (x3 : Int32) (x4 : Int32) (x5 : Int32) (x6 : Int32) (x7 : Int32) (x8 : Int32) (σ0 : gS) : Option (Int32 × gS) := gLd σ0 24 16 x7 (fun y65 => if y65 = x8 then (gLd σ0 25 16 x8 (fun y69 => if y69 = x7 then (rec 6 [x3, x4, x5, x6] σ0) else (some (0, σ0)))) else (some (0, σ0)))
def B_M_alike_6 (rec : Nat → List Int32 → gS → Option (Int32 × gS)) (x3 : Int32) (x4 : Int32) (x5 : Int32) (x6 : Int32) (σ0 : gS) : Option (Int32 × gS) := rec 4 [x3, x4, x5, (x6 + 1)] σ0
def B_M_alike_7 (rec : Nat → List Int32 → gS → Option (Int32 × gS)) (x3 : Int32) (σ0 : gS) : Option (Int32 × gS) := rec 2 [(x3 + 1)] σ0
def S_M_alike (rec : Nat → List Int32 → gS → Option (Int32 × gS)) (k : Nat) (l : List Int32) (σ0 : gS) : Option (Int32 × gS) := match k, l with
  | 0, [x1, x2] => B_M_alike_0 rec x1 x2 σ0
  | 1, [x1, x2, x3] => B_M_alike_1 rec x1 x2 x3 σ0
  | 2, [x3] => B_M_alike_2 rec x3 σ0
  | 3, [x3, x4, x5] => B_M_alike_3 rec x3 x4 x5 σ0
  | 4, [x3, x4, x5, x6] => B_M_alike_4 rec x3 x4 x5 x6 σ0
  | 5, [x3, x4, x5, x6, x7, x8] => B_M_alike_5 rec x3 x4 x5 x6 x7 x8 σ0
  | 6, [x3, x4, x5, x6] => B_M_alike_6 rec x3 x4 x5 x6 σ0
  | 7, [x3] => B_M_alike_7 rec x3 σ0
  | _, _ => none
def R_M_alike : Nat → Nat → List Int32 → gS → Option (Int32 × gS)
  | 0 => fun _ _ _ => none
  | t + 1 => fun k l σ0 => S_M_alike (R_M_alike t) k l σ0
def f_M_alike (σ : gS) (x1 : Int32) (x2 : Int32) : Option (Int32 × gS) := R_M_alike gFuel 0 [x1, x2] σ
set_option maxHeartbeats 4000000 in
set_option maxRecDepth 100000 in
theorem m_M_alike {l : Launch} {X : va_G} {cI cC cZ : ClassId} {aK aV : Nat → Nat} {b : Nat → Nat} {σ σ' : gS} {r : Int32} {q1 : Int32} {q2 : Int32} (hf : f_M_alike σ q1 q2 = some (r, σ')) {sz : Nat} : Met l y_M_alike w_M_alike { frames := 1, cells := 0, slots := 0, locals := 23 } (gPc X vwCl (gT cI cC cZ) aK aV (mW cI cC cZ b σ) sz [.ref (b 0), .int q1, .int q2]) (gQi X vwCl (mW cI cC cZ b σ) sz (fun r' (_ : Unit) => r' = r) (fun _ => mW cI cC cZ b σ')) 0 0 (va_A (mW cI cC cZ b σ) sz) := by
  refine g_met (cc := b_M_alike) (maxL := 9) (ret := (some .boolean)) (by decide) rfl (Nat.le_of_ble_eq_true rfl) ?_
  intro p e s m below meth c A ls hx hb hr hml hown hts hlocks hnm hsz hAe hA hP hK hD hS hl hE
  have hown : s.vm.findClass R_M = some m.cls := hown
  have u_0 : ∀ w ∈ u_ws R_M T_M 35, w ∈ w_M_alike := fun w h => List.mem_cons_of_mem _ (tu_M w h)
  have k_0 := hts (.fieldLink R_M 81 "GraphPagesModel" "pair" "[I") (List.mem_cons_of_mem _ tb_401)
  have k_1 := hts (.fieldLink R_M 84 "GraphPagesModel" "back" "[I") (List.mem_cons_of_mem _ tb_402)
  have k_2 := hts (.fieldLink R_M 87 "GraphPagesModel" "count" "I") (List.mem_cons_of_mem _ tb_385)
  have k_3 := hts (.fieldLink R_M 7 "GraphPagesModel" "sort" "[I") (List.mem_cons_of_mem _ tb_386)
  have k_4 := hts (.fieldLink R_M 13 "GraphPagesModel" "room" "[I") (List.mem_cons_of_mem _ tb_387)
  have k_5 := hts (.fieldLink R_M 16 "GraphPagesModel" "what" "[I") (List.mem_cons_of_mem _ tb_388)
  have k_6 := hts (.fieldLink R_M 19 "GraphPagesModel" "cell" "[I") (List.mem_cons_of_mem _ tb_397)
  unfold f_M_alike at hf
  have key : ∀ t : Nat, (∀ (x1 : Int32) (x2 : Int32) (σ0 : gS) (H : Heap) (locs : List Loc) (ls : Array Slot), R_M_alike t 0 [x1, x2] σ0 = some (r, σ') → va_P X vwCl (mW cI cC cZ b σ0) H → va_D A (mW cI cC cZ b σ0) → va_S A s.heap H locs → lv_has ls 9 [(0, .ref (b 0)), (1, .int x1), (2, .int x2)] → W p l e (headSpec w_M_alike { frames := 1, cells := 0, slots := 0, locals := 23 }).room s m [.ref (b 0), .int q1, .int q2].toArray below meth c H locs 0 0 (MQ below (gQi X vwCl (mW cI cC cZ b σ) sz (fun r' (_ : Unit) => r' = r) (fun _ => mW cI cC cZ b σ')) [.ref (b 0), .int q1, .int q2].toArray s 0 0 (va_A (mW cI cC cZ b σ) sz)) (F0 m 0 ls [])) ∧ (∀ (x1 : Int32) (x2 : Int32) (x3 : Int32) (σ0 : gS) (H : Heap) (locs : List Loc) (ls : Array Slot), R_M_alike t 1 [x1, x2, x3] σ0 = some (r, σ') → va_P X vwCl (mW cI cC cZ b σ0) H → va_D A (mW cI cC cZ b σ0) → va_S A s.heap H locs → lv_has ls 9 [(0, .ref (b 0)), (1, .int x1), (2, .int x2), (3, .int x3)] → W p l e (headSpec w_M_alike { frames := 1, cells := 0, slots := 0, locals := 23 }).room s m [.ref (b 0), .int q1, .int q2].toArray below meth c H locs 0 0 (MQ below (gQi X vwCl (mW cI cC cZ b σ) sz (fun r' (_ : Unit) => r' = r) (fun _ => mW cI cC cZ b σ')) [.ref (b 0), .int q1, .int q2].toArray s 0 0 (va_A (mW cI cC cZ b σ) sz)) (F0 m 20 ls [])) ∧ (∀ (x3 : Int32) (σ0 : gS) (H : Heap) (locs : List Loc) (ls : Array Slot), R_M_alike t 2 [x3] σ0 = some (r, σ') → va_P X vwCl (mW cI cC cZ b σ0) H → va_D A (mW cI cC cZ b σ0) → va_S A s.heap H locs → lv_has ls 9 [(0, .ref (b 0)), (3, .int x3)] → W p l e (headSpec w_M_alike { frames := 1, cells := 0, slots := 0, locals := 23 }).room s m [.ref (b 0), .int q1, .int q2].toArray below meth c H locs 0 0 (MQ below (gQi X vwCl (mW cI cC cZ b σ) sz (fun r' (_ : Unit) => r' = r) (fun _ => mW cI cC cZ b σ')) [.ref (b 0), .int q1, .int q2].toArray s 0 0 (va_A (mW cI cC cZ b σ) sz)) (F0 m 62 ls [])) ∧ (∀ (x3 : Int32) (x4 : Int32) (x5 : Int32) (σ0 : gS) (H : Heap) (locs : List Loc) (ls : Array Slot), R_M_alike t 3 [x3, x4, x5] σ0 = some (r, σ') → va_P X vwCl (mW cI cC cZ b σ0) H → va_D A (mW cI cC cZ b σ0) → va_S A s.heap H locs → lv_has ls 9 [(0, .ref (b 0)), (3, .int x3), (4, .int x4), (5, .int x5)] → W p l e (headSpec w_M_alike { frames := 1, cells := 0, slots := 0, locals := 23 }).room s m [.ref (b 0), .int q1, .int q2].toArray below meth c H locs 0 0 (MQ below (gQi X vwCl (mW cI cC cZ b σ) sz (fun r' (_ : Unit) => r' = r) (fun _ => mW cI cC cZ b σ')) [.ref (b 0), .int q1, .int q2].toArray s 0 0 (va_A (mW cI cC cZ b σ) sz)) (F0 m 108 ls [])) ∧ (∀ (x3 : Int32) (x4 : Int32) (x5 : Int32) (x6 : Int32) (σ0 : gS) (H : Heap) (locs : List Loc) (ls : Array Slot), R_M_alike t 4 [x3, x4, x5, x6] σ0 = some (r, σ') → va_P X vwCl (mW cI cC cZ b σ0) H → va_D A (mW cI cC cZ b σ0) → va_S A s.heap H locs → lv_has ls 9 [(0, .ref (b 0)), (3, .int x3), (4, .int x4), (5, .int x5), (6, .int x6)] → W p l e (headSpec w_M_alike { frames := 1, cells := 0, slots := 0, locals := 23 }).room s m [.ref (b 0), .int q1, .int q2].toArray below meth c H locs 0 0 (MQ below (gQi X vwCl (mW cI cC cZ b σ) sz (fun r' (_ : Unit) => r' = r) (fun _ => mW cI cC cZ b σ')) [.ref (b 0), .int q1, .int q2].toArray s 0 0 (va_A (mW cI cC cZ b σ) sz)) (F0 m 111 ls [])) ∧ (∀ (x3 : Int32) (x4 : Int32) (x5 : Int32) (x6 : Int32) (x7 : Int32) (x8 : Int32) (σ0 : gS) (H : Heap) (locs : List Loc) (ls : Array Slot), R_M_alike t 5 [x3, x4, x5, x6, x7, x8] σ0 = some (r, σ') → va_P X vwCl (mW cI cC cZ b σ0) H → va_D A (mW cI cC cZ b σ0) → va_S A s.heap H locs → lv_has ls 9 [(0, .ref (b 0)), (3, .int x3), (4, .int x4), (5, .int x5), (6, .int x6), (7, .int x7), (8, .int x8)] → W p l e (headSpec w_M_alike { frames := 1, cells := 0, slots := 0, locals := 23 }).room s m [.ref (b 0), .int q1, .int q2].toArray below meth c H locs 0 0 (MQ below (gQi X vwCl (mW cI cC cZ b σ) sz (fun r' (_ : Unit) => r' = r) (fun _ => mW cI cC cZ b σ')) [.ref (b 0), .int q1, .int q2].toArray s 0 0 (va_A (mW cI cC cZ b σ) sz)) (F0 m 224 ls [])) ∧ (∀ (x3 : Int32) (x4 : Int32) (x5 : Int32) (x6 : Int32) (σ0 : gS) (H : Heap) (locs : List Loc) (ls : Array Slot), R_M_alike t 6 [x3, x4, x5, x6] σ0 = some (r, σ') → va_P X vwCl (mW cI cC cZ b σ0) H → va_D A (mW cI cC cZ b σ0) → va_S A s.heap H locs → lv_has ls 9 [(0, .ref (b 0)), (3, .int x3), (4, .int x4), (5, .int x5), (6, .int x6)] → W p l e (headSpec w_M_alike { frames := 1, cells := 0, slots := 0, locals := 23 }).room s m [.ref (b 0), .int q1, .int q2].toArray below meth c H locs 0 0 (MQ below (gQi X vwCl (mW cI cC cZ b σ) sz (fun r' (_ : Unit) => r' = r) (fun _ => mW cI cC cZ b σ')) [.ref (b 0), .int q1, .int q2].toArray s 0 0 (va_A (mW cI cC cZ b σ) sz)) (F0 m 250 ls [])) ∧ (∀ (x3 : Int32) (σ0 : gS) (H : Heap) (locs : List Loc) (ls : Array Slot), R_M_alike t 7 [x3] σ0 = some (r, σ') → va_P X vwCl (mW cI cC cZ b σ0) H → va_D A (mW cI cC cZ b σ0) → va_S A s.heap H locs → lv_has ls 9 [(0, .ref (b 0)), (3, .int x3)] → W p l e (headSpec w_M_alike { frames := 1, cells := 0, slots := 0, locals := 23 }).room s m [.ref (b 0), .int q1, .int q2].toArray below meth c H locs 0 0 (MQ below (gQi X vwCl (mW cI cC cZ b σ) sz (fun r' (_ : Unit) => r' = r) (fun _ => mW cI cC cZ b σ')) [.ref (b 0), .int q1, .int q2].toArray s 0 0 (va_A (mW cI cC cZ b σ) sz)) (F0 m 256 ls [])) := by
    intro t
    induction t with
    | zero => exact ⟨fun _ _ _ _ _ _ hf => (by have hf : (none : Option (Int32 × gS)) = some (r, σ') := hf; cases hf), fun _ _ _ _ _ _ _ hf => (by have hf : (none : Option (Int32 × gS)) = some (r, σ') := hf; cases hf), fun _ _ _ _ _ hf => (by have hf : (none : Option (Int32 × gS)) = some (r, σ') := hf; cases hf), fun _ _ _ _ _ _ _ hf => (by have hf : (none : Option (Int32 × gS)) = some (r, σ') := hf; cases hf), fun _ _ _ _ _ _ _ _ hf => (by have hf : (none : Option (Int32 × gS)) = some (r, σ') := hf; cases hf), fun _ _ _ _ _ _ _ _ _ _ hf => (by have hf : (none : Option (Int32 × gS)) = some (r, σ') := hf; cases hf), fun _ _ _ _ _ _ _ _ hf => (by have hf : (none : Option (Int32 × gS)) = some (r, σ') := hf; cases hf), fun _ _ _ _ _ hf => (by have hf : (none : Option (Int32 × gS)) = some (r, σ') := hf; cases hf)⟩
    | succ t ih =>
      obtain ⟨ih0, ih1, ih2, ih3, ih4, ih5, ih6, ih7⟩ := ih
      refine ⟨?_, ?_, ?_, ?_, ?_, ?_, ?_, ?_⟩
      · intro x1 x2 σ0 H locs ls hf hP hD hS hl
        have hf : B_M_alike_0 (R_M_alike t) x1 x2 σ0 = some (r, σ') := hf
        unfold B_M_alike_0 at hf
        refine lv_aload_n hx hb d_M_alike_0 rfl (lv_at hl 0 rfl) ?_
        refine lv_iload_n hx hb d_M_alike_1 rfl (lv_at hl 1 rfl) ?_
        obtain ⟨y1, σ2, e3, hf⟩ := gBd_e hf
        refine g_wi (va_runV ⟨hx, hb, hml, hown, hts⟩ (m_M_object e3) (cwV 1 hts (gG4 (fun _ h => List.mem_cons_of_mem _ h) tb_389 tb_390 tb_391 tb_392 tc_M_object) rfl rfl rfl (by decide +kernel) ⟨Nat.le_of_ble_eq_true rfl, Nat.le_of_ble_eq_true rfl⟩) (g_preVW (q0 := 0) hE hK hP hD hS hA gm_0 rfl) rfl rfl hl.1 rfl (lv_room (Nat.le_of_ble_eq_true rfl)) d_M_alike_2 ⟨Nat.zero_le _, Nat.zero_le _⟩) hD hS hA (fun _ => mW_fst) (fun y1 _ H locs hu hP hD hS => ?_)
        subst hu
        refine lv_if_eq (tgt := 16) hx hb d_M_alike_5 rfl (fun c4 => ?_) (fun c4 => ?_)
        · skip
          rw [if_pos c4] at hf
          refine lv_iconst (v := 0) hx hb d_M_alike_16 (by decide) ?_
          obtain ⟨rfl, rfl⟩ := gRt_e hf
          exact g_zret hx hb hr hlocks rfl hAe hS () rfl hP d_M_alike_17
        rw [if_neg c4] at hf
        refine lv_aload_n hx hb d_M_alike_8 rfl (lv_at hl 0 rfl) ?_
        refine lv_iload_n hx hb d_M_alike_9 rfl (lv_at hl 2 rfl) ?_
        obtain ⟨y5, σ6, e7, hf⟩ := gBd_e hf
        refine g_wi (va_runV ⟨hx, hb, hml, hown, hts⟩ (m_M_object e7) (cwV 1 hts (gG4 (fun _ h => List.mem_cons_of_mem _ h) tb_389 tb_390 tb_391 tb_392 tc_M_object) rfl rfl rfl (by decide +kernel) ⟨Nat.le_of_ble_eq_true rfl, Nat.le_of_ble_eq_true rfl⟩) (g_preVW (q0 := 0) hE hK hP hD hS hA gm_0 rfl) rfl rfl hl.1 rfl (lv_room (Nat.le_of_ble_eq_true rfl)) d_M_alike_10 ⟨Nat.zero_le _, Nat.zero_le _⟩) hD hS hA (fun _ => mW_fst) (fun y5 _ H locs hu hP hD hS => ?_)
        subst hu
        refine lv_if_ne (tgt := 18) hx hb d_M_alike_13 rfl (fun c8 => ?_) (fun c8 => ?_)
        · skip
          rw [if_neg c8] at hf
          refine lv_iconst (v := 0) hx hb d_M_alike_18 (by decide) ?_
          refine lv_istore_n hx hb d_M_alike_19 rfl hl (by decide) rfl (fun ls hl => ?_)
          exact ih1 (x1) (x2) (0) σ6 _ _ _ hf hP hD hS (lv_sub hl [1, 2, 3, 0] rfl)
        rw [if_pos c8] at hf
        refine lv_iconst (v := 0) hx hb d_M_alike_16 (by decide) ?_
        obtain ⟨rfl, rfl⟩ := gRt_e hf
        exact g_zret hx hb hr hlocks rfl hAe hS () rfl hP d_M_alike_17
      · intro x1 x2 x3 σ0 H locs ls hf hP hD hS hl
        have hf : B_M_alike_1 (R_M_alike t) x1 x2 x3 σ0 = some (r, σ') := hf
        unfold B_M_alike_1 at hf
        refine lv_iload_n hx hb d_M_alike_20 rfl (lv_at hl 3 rfl) ?_
        refine lv_bipush (v := 16) hx hb d_M_alike_21 (by decide) ?_
        refine lv_icmp_ge (tgt := 46) hx hb d_M_alike_23 rfl (fun c9 => ?_) (fun c9 => ?_)
        · skip
          rw [if_pos c9] at hf
          refine lv_aload_n hx hb d_M_alike_46 rfl (lv_at hl 0 rfl) ?_
          refine va_get (D := X) (ci := 9) (C := R_M) (T := T_M) (N := 35) hx hb hts u_0 hown hK hP 0 gm_0 rfl 33 (by decide) k_0 (fun _ h9 => h9) rfl d_M_alike_47 ?_
          refine lv_iload_n hx hb d_M_alike_50 rfl (lv_at hl 1 rfl) ?_
          refine lv_iload_n hx hb d_M_alike_51 rfl (lv_at hl 2 rfl) ?_
          obtain ⟨σ10, h11, e12, hf⟩ := gSt_e hf
          refine va_iast hx hb hK hP hD hS 24 0 gm_24 rfl h11 d_M_alike_52 (fun H locs hP hD hS => ?_)
          rw [sm_24, ← e12] at hP hD
          refine lv_aload_n hx hb d_M_alike_53 rfl (lv_at hl 0 rfl) ?_
          refine va_get (D := X) (ci := 9) (C := R_M) (T := T_M) (N := 35) hx hb hts u_0 hown hK hP 0 gm_0 rfl 34 (by decide) k_1 (fun _ h9 => h9) rfl d_M_alike_54 ?_
          refine lv_iload_n hx hb d_M_alike_57 rfl (lv_at hl 2 rfl) ?_
          refine lv_iload_n hx hb d_M_alike_58 rfl (lv_at hl 1 rfl) ?_
          obtain ⟨σ13, h14, e15, hf⟩ := gSt_e hf
          refine va_iast hx hb hK hP hD hS 25 0 gm_25 rfl h14 d_M_alike_59 (fun H locs hP hD hS => ?_)
          rw [sm_25, ← e15] at hP hD
          refine lv_iconst (v := 0) hx hb d_M_alike_60 (by decide) ?_
          refine lv_istore_n hx hb d_M_alike_61 rfl hl (by decide) rfl (fun ls hl => ?_)
          exact ih2 (0) σ13 _ _ _ hf hP hD hS (lv_sub hl [1, 0] rfl)
        rw [if_neg c9] at hf
        refine lv_aload_n hx hb d_M_alike_26 rfl (lv_at hl 0 rfl) ?_
        refine va_get (D := X) (ci := 9) (C := R_M) (T := T_M) (N := 35) hx hb hts u_0 hown hK hP 0 gm_0 rfl 33 (by decide) k_0 (fun _ h9 => h9) rfl d_M_alike_27 ?_
        refine lv_iload_n hx hb d_M_alike_30 rfl (lv_at hl 3 rfl) ?_
        refine lv_iconst (v := (-1)) hx hb d_M_alike_31 (by decide) ?_
        obtain ⟨σ16, h17, e18, hf⟩ := gSt_e hf
        refine va_iast hx hb hK hP hD hS 24 0 gm_24 rfl h17 d_M_alike_32 (fun H locs hP hD hS => ?_)
        rw [sm_24, ← e18] at hP hD
        refine lv_aload_n hx hb d_M_alike_33 rfl (lv_at hl 0 rfl) ?_
        refine va_get (D := X) (ci := 9) (C := R_M) (T := T_M) (N := 35) hx hb hts u_0 hown hK hP 0 gm_0 rfl 34 (by decide) k_1 (fun _ h9 => h9) rfl d_M_alike_34 ?_
        refine lv_iload_n hx hb d_M_alike_37 rfl (lv_at hl 3 rfl) ?_
        refine lv_iconst (v := (-1)) hx hb d_M_alike_38 (by decide) ?_
        obtain ⟨σ19, h20, e21, hf⟩ := gSt_e hf
        refine va_iast hx hb hK hP hD hS 25 0 gm_25 rfl h20 d_M_alike_39 (fun H locs hP hD hS => ?_)
        rw [sm_25, ← e21] at hP hD
        refine lv_iinc (k := 3) (v := (x3 + 1)) hx hb d_M_alike_40 hl rfl (by rw [show Int32.ofInt (1) = (1 : Int32) by decide]) (by decide) rfl (fun ls hl => ?_)
        refine lv_goto (tgt := 20) hx hb d_M_alike_43 rfl ?_
        exact ih1 (x1) (x2) ((x3 + 1)) σ19 _ _ _ hf hP hD hS (lv_sub hl [1, 2, 3, 0] rfl)
      · intro x3 σ0 H locs ls hf hP hD hS hl
        have hf : B_M_alike_2 (R_M_alike t) x3 σ0 = some (r, σ') := hf
        unfold B_M_alike_2 at hf
        refine lv_iload_n hx hb d_M_alike_62 rfl (lv_at hl 1 rfl) ?_
        refine lv_bipush (v := 17) hx hb d_M_alike_63 (by decide) ?_
        refine lv_aload_n hx hb d_M_alike_65 rfl (lv_at hl 0 rfl) ?_
        refine va_get (D := X) (ci := 9) (C := R_M) (T := T_M) (N := 35) hx hb hts u_0 hown hK hP 0 gm_0 rfl 0 (by decide) k_2 (fun _ h9 => h9) rfl d_M_alike_66 ?_
        refine lv_imul hx hb d_M_alike_69 ?_
        refine lv_icmp_ge (tgt := 262) hx hb d_M_alike_70 rfl (fun c22 => ?_) (fun c22 => ?_)
        · skip
          rw [if_pos c22] at hf
          refine lv_iconst (v := 1) hx hb d_M_alike_262 (by decide) ?_
          obtain ⟨rfl, rfl⟩ := gRt_e hf
          exact g_zret hx hb hr hlocks rfl hAe hS () rfl hP d_M_alike_263
        rw [if_neg c22] at hf
        refine lv_iload_n hx hb d_M_alike_73 rfl (lv_at hl 1 rfl) ?_
        refine lv_aload_n hx hb d_M_alike_74 rfl (lv_at hl 0 rfl) ?_
        refine va_get (D := X) (ci := 9) (C := R_M) (T := T_M) (N := 35) hx hb hts u_0 hown hK hP 0 gm_0 rfl 0 (by decide) k_2 (fun _ h9 => h9) rfl d_M_alike_75 ?_
        obtain ⟨hz23, hf⟩ := gNe_e hf
        refine lv_irem hx hb d_M_alike_78 hz23 ?_
        refine lv_istore hx hb d_M_alike_79 hl (by decide) rfl (fun ls hl => ?_)
        refine lv_aload_n hx hb d_M_alike_81 rfl (lv_at hl 1 rfl) ?_
        refine va_get (D := X) (ci := 9) (C := R_M) (T := T_M) (N := 35) hx hb hts u_0 hown hK hP 0 gm_0 rfl 33 (by decide) k_0 (fun _ h9 => h9) rfl d_M_alike_82 ?_
        refine lv_iload hx hb d_M_alike_85 (lv_at hl 0 rfl) ?_
        obtain ⟨y24, h25, e26, hf⟩ := gLd_e hf
        refine va_iald hx hb hK hP 24 0 gm_24 rfl h25 d_M_alike_87 ?_
        rw [← e26]
        refine lv_istore hx hb d_M_alike_88 hl (by decide) rfl (fun ls hl => ?_)
        refine lv_iload hx hb d_M_alike_90 (lv_at hl 0 rfl) ?_
        refine lv_if_lt (tgt := 108) hx hb d_M_alike_92 rfl (fun c27 => ?_) (fun c27 => ?_)
        · skip
          rw [if_pos c27] at hf
          exact ih3 (x3) ((x3 - x3 / (σ0.1 0) * (σ0.1 0))) (y24) σ0 _ _ _ hf hP hD hS (lv_sub hl [2, 3, 1, 0] rfl)
        rw [if_neg c27] at hf
        refine lv_aload_n hx hb d_M_alike_95 rfl (lv_at hl 2 rfl) ?_
        refine lv_iload hx hb d_M_alike_96 (lv_at hl 1 rfl) ?_
        refine lv_iload hx hb d_M_alike_98 (lv_at hl 0 rfl) ?_
        obtain ⟨y28, σ29, e30, hf⟩ := gBd_e hf
        refine g_wi (va_runV ⟨hx, hb, hml, hown, hts⟩ (m_M_sameOutside e30) (cwV 2 hts (gG4 (fun _ h => List.mem_cons_of_mem _ h) tb_398 tb_399 tb_400 tb_392 tc_M_sameOutside) rfl rfl rfl (by decide +kernel) ⟨Nat.le_of_ble_eq_true rfl, Nat.le_of_ble_eq_true rfl⟩) (g_preVW (q0 := 0) hE hK hP hD hS hA gm_0 rfl) rfl rfl hl.1 rfl (lv_room (Nat.le_of_ble_eq_true rfl)) d_M_alike_100 ⟨Nat.zero_le _, Nat.zero_le _⟩) hD hS hA (fun _ => mW_fst) (fun y28 _ H locs hu hP hD hS => ?_)
        subst hu
        refine lv_if_ne (tgt := 108) hx hb d_M_alike_103 rfl (fun c31 => ?_) (fun c31 => ?_)
        · skip
          rw [if_neg c31] at hf
          exact ih3 (x3) ((x3 - x3 / (σ0.1 0) * (σ0.1 0))) (y24) σ29 _ _ _ hf hP hD hS (lv_sub hl [2, 3, 1, 0] rfl)
        rw [if_pos c31] at hf
        refine lv_iconst (v := 0) hx hb d_M_alike_106 (by decide) ?_
        obtain ⟨rfl, rfl⟩ := gRt_e hf
        exact g_zret hx hb hr hlocks rfl hAe hS () rfl hP d_M_alike_107
      · intro x3 x4 x5 σ0 H locs ls hf hP hD hS hl
        have hf : B_M_alike_3 (R_M_alike t) x3 x4 x5 σ0 = some (r, σ') := hf
        unfold B_M_alike_3 at hf
        refine lv_iconst (v := 0) hx hb d_M_alike_108 (by decide) ?_
        refine lv_istore hx hb d_M_alike_109 hl (by decide) rfl (fun ls hl => ?_)
        exact ih4 (x3) (x4) (x5) (0) σ0 _ _ _ hf hP hD hS (lv_sub hl [1, 2, 3, 4, 0] rfl)
      · intro x3 x4 x5 x6 σ0 H locs ls hf hP hD hS hl
        have hf : B_M_alike_4 (R_M_alike t) x3 x4 x5 x6 σ0 = some (r, σ') := hf
        unfold B_M_alike_4 at hf
        refine lv_iload hx hb d_M_alike_111 (lv_at hl 3 rfl) ?_
        refine lv_if_lt (tgt := 256) hx hb d_M_alike_113 rfl (fun c32 => ?_) (fun c32 => ?_)
        · skip
          rw [if_pos c32] at hf
          exact ih7 (x3) σ0 _ _ _ hf hP hD hS (lv_sub hl [0, 1] rfl)
        rw [if_neg c32] at hf
        refine lv_aload_n hx hb d_M_alike_116 rfl (lv_at hl 0 rfl) ?_
        refine va_get (D := X) (ci := 9) (C := R_M) (T := T_M) (N := 35) hx hb hts u_0 hown hK hP 0 gm_0 rfl 1 (by decide) k_3 (fun _ h9 => h9) rfl d_M_alike_117 ?_
        refine lv_iload hx hb d_M_alike_120 (lv_at hl 2 rfl) ?_
        obtain ⟨y33, h34, e35, hf⟩ := gLd_e hf
        refine va_iald hx hb hK hP 1 0 gm_1 rfl h34 d_M_alike_122 ?_
        rw [← e35]
        refine lv_iconst (v := 2) hx hb d_M_alike_123 (by decide) ?_
        refine lv_icmp_eq (tgt := 256) hx hb d_M_alike_124 rfl (fun c36 => ?_) (fun c36 => ?_)
        · skip
          rw [if_pos c36] at hf
          exact ih7 (x3) σ0 _ _ _ hf hP hD hS (lv_sub hl [0, 1] rfl)
        rw [if_neg c36] at hf
        refine lv_iload hx hb d_M_alike_127 (lv_at hl 4 rfl) ?_
        refine lv_aload_n hx hb d_M_alike_129 rfl (lv_at hl 0 rfl) ?_
        refine va_get (D := X) (ci := 9) (C := R_M) (T := T_M) (N := 35) hx hb hts u_0 hown hK hP 0 gm_0 rfl 2 (by decide) k_4 (fun _ h9 => h9) rfl d_M_alike_130 ?_
        refine lv_iload hx hb d_M_alike_133 (lv_at hl 2 rfl) ?_
        obtain ⟨y37, h38, e39, hf⟩ := gLd_e hf
        refine va_iald hx hb hK hP 2 0 gm_2 rfl h38 d_M_alike_135 ?_
        rw [← e39]
        refine lv_icmp_ge (tgt := 256) hx hb d_M_alike_136 rfl (fun c40 => ?_) (fun c40 => ?_)
        · skip
          rw [if_pos c40] at hf
          exact ih7 (x3) σ0 _ _ _ hf hP hD hS (lv_sub hl [0, 1] rfl)
        rw [if_neg c40] at hf
        refine lv_aload_n hx hb d_M_alike_139 rfl (lv_at hl 0 rfl) ?_
        refine va_get (D := X) (ci := 9) (C := R_M) (T := T_M) (N := 35) hx hb hts u_0 hown hK hP 0 gm_0 rfl 3 (by decide) k_5 (fun _ h9 => h9) rfl d_M_alike_140 ?_
        refine lv_iconst (v := 4) hx hb d_M_alike_143 (by decide) ?_
        refine lv_iload hx hb d_M_alike_144 (lv_at hl 2 rfl) ?_
        refine lv_imul hx hb d_M_alike_146 ?_
        refine lv_iload hx hb d_M_alike_147 (lv_at hl 4 rfl) ?_
        refine lv_iadd hx hb d_M_alike_149 ?_
        obtain ⟨y41, h42, e43, hf⟩ := gLd_e hf
        refine va_iald hx hb hK hP 3 0 gm_3 rfl h42 d_M_alike_150 ?_
        rw [← e43]
        refine lv_iconst (v := 2) hx hb d_M_alike_151 (by decide) ?_
        refine lv_icmp_eq (tgt := 158) hx hb d_M_alike_152 rfl (fun c44 => ?_) (fun c44 => ?_)
        · skip
          rw [if_pos c44] at hf
          refine lv_aload_n hx hb d_M_alike_158 rfl (lv_at hl 0 rfl) ?_
          refine va_get (D := X) (ci := 9) (C := R_M) (T := T_M) (N := 35) hx hb hts u_0 hown hK hP 0 gm_0 rfl 4 (by decide) k_6 (fun _ h9 => h9) rfl d_M_alike_159 ?_
          refine lv_iconst (v := 4) hx hb d_M_alike_162 (by decide) ?_
          refine lv_iload hx hb d_M_alike_163 (lv_at hl 2 rfl) ?_
          refine lv_imul hx hb d_M_alike_165 ?_
          refine lv_iload hx hb d_M_alike_166 (lv_at hl 4 rfl) ?_
          refine lv_iadd hx hb d_M_alike_168 ?_
          obtain ⟨y45, h46, e47, hf⟩ := gLd_e hf
          refine va_iald hx hb hK hP 4 0 gm_4 rfl h46 d_M_alike_169 ?_
          rw [← e47]
          refine lv_istore hx hb d_M_alike_170 hl (by decide) rfl (fun ls hl => ?_)
          refine lv_aload_n hx hb d_M_alike_172 rfl (lv_at hl 1 rfl) ?_
          refine va_get (D := X) (ci := 9) (C := R_M) (T := T_M) (N := 35) hx hb hts u_0 hown hK hP 0 gm_0 rfl 4 (by decide) k_6 (fun _ h9 => h9) rfl d_M_alike_173 ?_
          refine lv_iconst (v := 4) hx hb d_M_alike_176 (by decide) ?_
          refine lv_iload hx hb d_M_alike_177 (lv_at hl 4 rfl) ?_
          refine lv_imul hx hb d_M_alike_179 ?_
          refine lv_iload hx hb d_M_alike_180 (lv_at hl 5 rfl) ?_
          refine lv_iadd hx hb d_M_alike_182 ?_
          obtain ⟨y48, h49, e50, hf⟩ := gLd_e hf
          refine va_iald hx hb hK hP 4 0 gm_4 rfl h49 d_M_alike_183 ?_
          rw [← e50]
          refine lv_istore hx hb d_M_alike_184 hl (by decide) rfl (fun ls hl => ?_)
          refine lv_aload_n hx hb d_M_alike_186 rfl (lv_at hl 2 rfl) ?_
          refine va_get (D := X) (ci := 9) (C := R_M) (T := T_M) (N := 35) hx hb hts u_0 hown hK hP 0 gm_0 rfl 33 (by decide) k_0 (fun _ h9 => h9) rfl d_M_alike_187 ?_
          refine lv_iload hx hb d_M_alike_190 (lv_at hl 1 rfl) ?_
          obtain ⟨y51, h52, e53, hf⟩ := gLd_e hf
          refine va_iald hx hb hK hP 24 0 gm_24 rfl h52 d_M_alike_192 ?_
          rw [← e53]
          refine lv_if_ge (tgt := 224) hx hb d_M_alike_193 rfl (fun c54 => ?_) (fun c54 => ?_)
          · skip
            rw [if_pos c54] at hf
            exact ih5 (x3) (x4) (x5) (x6) (y45) (y48) σ0 _ _ _ hf hP hD hS (lv_sub hl [2, 3, 4, 5, 6, 1, 0] rfl)
          rw [if_neg c54] at hf
          refine lv_aload_n hx hb d_M_alike_196 rfl (lv_at hl 2 rfl) ?_
          refine va_get (D := X) (ci := 9) (C := R_M) (T := T_M) (N := 35) hx hb hts u_0 hown hK hP 0 gm_0 rfl 34 (by decide) k_1 (fun _ h9 => h9) rfl d_M_alike_197 ?_
          refine lv_iload hx hb d_M_alike_200 (lv_at hl 0 rfl) ?_
          obtain ⟨y55, h56, e57, hf⟩ := gLd_e hf
          refine va_iald hx hb hK hP 25 0 gm_25 rfl h56 d_M_alike_202 ?_
          rw [← e57]
          refine lv_if_ge (tgt := 224) hx hb d_M_alike_203 rfl (fun c58 => ?_) (fun c58 => ?_)
          · skip
            rw [if_pos c58] at hf
            exact ih5 (x3) (x4) (x5) (x6) (y45) (y48) σ0 _ _ _ hf hP hD hS (lv_sub hl [2, 3, 4, 5, 6, 1, 0] rfl)
          rw [if_neg c58] at hf
          refine lv_aload_n hx hb d_M_alike_206 rfl (lv_at hl 2 rfl) ?_
          refine va_get (D := X) (ci := 9) (C := R_M) (T := T_M) (N := 35) hx hb hts u_0 hown hK hP 0 gm_0 rfl 33 (by decide) k_0 (fun _ h9 => h9) rfl d_M_alike_207 ?_
          refine lv_iload hx hb d_M_alike_210 (lv_at hl 1 rfl) ?_
          refine lv_iload hx hb d_M_alike_212 (lv_at hl 0 rfl) ?_
          obtain ⟨σ59, h60, e61, hf⟩ := gSt_e hf
          refine va_iast hx hb hK hP hD hS 24 0 gm_24 rfl h60 d_M_alike_214 (fun H locs hP hD hS => ?_)
          rw [sm_24, ← e61] at hP hD
          refine lv_aload_n hx hb d_M_alike_215 rfl (lv_at hl 2 rfl) ?_
          refine va_get (D := X) (ci := 9) (C := R_M) (T := T_M) (N := 35) hx hb hts u_0 hown hK hP 0 gm_0 rfl 34 (by decide) k_1 (fun _ h9 => h9) rfl d_M_alike_216 ?_
          refine lv_iload hx hb d_M_alike_219 (lv_at hl 0 rfl) ?_
          refine lv_iload hx hb d_M_alike_221 (lv_at hl 1 rfl) ?_
          obtain ⟨σ62, h63, e64, hf⟩ := gSt_e hf
          refine va_iast hx hb hK hP hD hS 25 0 gm_25 rfl h63 d_M_alike_223 (fun H locs hP hD hS => ?_)
          rw [sm_25, ← e64] at hP hD
          exact ih5 (x3) (x4) (x5) (x6) (y45) (y48) σ62 _ _ _ hf hP hD hS (lv_sub hl [2, 3, 4, 5, 6, 1, 0] rfl)
        rw [if_neg c44] at hf
        refine lv_goto (tgt := 250) hx hb d_M_alike_155 rfl ?_
        exact ih6 (x3) (x4) (x5) (x6) σ0 _ _ _ hf hP hD hS (lv_sub hl [0, 1, 2, 3, 4] rfl)
      · intro x3 x4 x5 x6 x7 x8 σ0 H locs ls hf hP hD hS hl
        have hf : B_M_alike_5 (R_M_alike t) x3 x4 x5 x6 x7 x8 σ0 = some (r, σ') := hf
        unfold B_M_alike_5 at hf
        refine lv_aload_n hx hb d_M_alike_224 rfl (lv_at hl 0 rfl) ?_
        refine va_get (D := X) (ci := 9) (C := R_M) (T := T_M) (N := 35) hx hb hts u_0 hown hK hP 0 gm_0 rfl 33 (by decide) k_0 (fun _ h9 => h9) rfl d_M_alike_225 ?_
        refine lv_iload hx hb d_M_alike_228 (lv_at hl 5 rfl) ?_
        obtain ⟨y65, h66, e67, hf⟩ := gLd_e hf
        refine va_iald hx hb hK hP 24 0 gm_24 rfl h66 d_M_alike_230 ?_
        rw [← e67]
        refine lv_iload hx hb d_M_alike_231 (lv_at hl 6 rfl) ?_
        refine lv_icmp_ne (tgt := 248) hx hb d_M_alike_233 rfl (fun c68 => ?_) (fun c68 => ?_)
        · skip
          rw [if_neg c68] at hf
          refine lv_iconst (v := 0) hx hb d_M_alike_248 (by decide) ?_
          obtain ⟨rfl, rfl⟩ := gRt_e hf
          exact g_zret hx hb hr hlocks rfl hAe hS () rfl hP d_M_alike_249
        rw [if_pos c68] at hf
        refine lv_aload_n hx hb d_M_alike_236 rfl (lv_at hl 0 rfl) ?_
        refine va_get (D := X) (ci := 9) (C := R_M) (T := T_M) (N := 35) hx hb hts u_0 hown hK hP 0 gm_0 rfl 34 (by decide) k_1 (fun _ h9 => h9) rfl d_M_alike_237 ?_
        refine lv_iload hx hb d_M_alike_240 (lv_at hl 6 rfl) ?_
        obtain ⟨y69, h70, e71, hf⟩ := gLd_e hf
        refine va_iald hx hb hK hP 25 0 gm_25 rfl h70 d_M_alike_242 ?_
        rw [← e71]
        refine lv_iload hx hb d_M_alike_243 (lv_at hl 5 rfl) ?_
        refine lv_icmp_eq (tgt := 250) hx hb d_M_alike_245 rfl (fun c72 => ?_) (fun c72 => ?_)
        · skip
          rw [if_pos c72] at hf
          exact ih6 (x3) (x4) (x5) (x6) σ0 _ _ _ hf hP hD hS (lv_sub hl [0, 1, 2, 3, 4] rfl)
        rw [if_neg c72] at hf
        refine lv_iconst (v := 0) hx hb d_M_alike_248 (by decide) ?_
        obtain ⟨rfl, rfl⟩ := gRt_e hf
        exact g_zret hx hb hr hlocks rfl hAe hS () rfl hP d_M_alike_249
      · intro x3 x4 x5 x6 σ0 H locs ls hf hP hD hS hl
        have hf : B_M_alike_6 (R_M_alike t) x3 x4 x5 x6 σ0 = some (r, σ') := hf
        unfold B_M_alike_6 at hf
        refine lv_iinc (k := 4) (v := (x6 + 1)) hx hb d_M_alike_250 hl rfl (by rw [show Int32.ofInt (1) = (1 : Int32) by decide]) (by decide) rfl (fun ls hl => ?_)
        refine lv_goto (tgt := 111) hx hb d_M_alike_253 rfl ?_
        exact ih4 (x3) (x4) (x5) ((x6 + 1)) σ0 _ _ _ hf hP hD hS (lv_sub hl [1, 2, 3, 4, 0] rfl)
      · intro x3 σ0 H locs ls hf hP hD hS hl
        have hf : B_M_alike_7 (R_M_alike t) x3 σ0 = some (r, σ') := hf
        unfold B_M_alike_7 at hf
        refine lv_iinc (k := 1) (v := (x3 + 1)) hx hb d_M_alike_256 hl rfl (by rw [show Int32.ofInt (1) = (1 : Int32) by decide]) (by decide) rfl (fun ls hl => ?_)
        refine lv_goto (tgt := 62) hx hb d_M_alike_259 rfl ?_
        exact ih2 ((x3 + 1)) σ0 _ _ _ hf hP hD hS (lv_sub hl [1, 0] rfl)
  exact (key gFuel).1 q1 q2 σ _ _ _ hf hP hD hS hl

def B_M_mark_0 (rec : Nat → List Int32 → gS → Option (Int32 × gS)) (x1 : Int32) (σ0 : gS) : Option (Int32 × gS) := rec 1 [x1, 0] σ0
def B_M_mark_1 (rec : Nat → List Int32 → gS → Option (Int32 × gS)) (x1 : Int32) (x2 : Int32) (σ0 : gS) : Option (Int32 × gS) := if 16 ≤ x2 then (rec 4 [0] σ0) else (if x2 = x1 then (rec 2 [x1, x2, x2, 1] σ0) else (rec 2 [x1, x2, x2, 0] σ0))
def B_M_mark_2 (rec : Nat → List Int32 → gS → Option (Int32 × gS)) (x1 : Int32) (x2 : Int32) (z1 : Int32) (z2 : Int32) (σ0 : gS) : Option (Int32 × gS) := gSt σ0 19 16 z1 (vp_nar .boolean z2) (fun σ3 => if x2 = x1 then (rec 3 [x1, x2, x2, 1] σ3) else (rec 3 [x1, x2, x2, 0] σ3))
def B_M_mark_3 (rec : Nat → List Int32 → gS → Option (Int32 × gS)) (x1 : Int32) (x2 : Int32) (z1 : Int32) (z2 : Int32) (σ0 : gS) : Option (Int32 × gS) := gSt σ0 20 16 z1 z2 (fun σ7 => gSt σ7 21 16 x2 0 (fun σ10 => rec 1 [x1, (x2 + 1)] σ10))
def B_M_mark_4 (rec : Nat → List Int32 → gS → Option (Int32 × gS)) (x2 : Int32) (σ0 : gS) : Option (Int32 × gS) := if 16 ≤ x2 then (rec 7 [0] σ0) else (rec 5 [x2, 0] σ0)
def B_M_mark_5 (rec : Nat → List Int32 → gS → Option (Int32 × gS)) (x2 : Int32) (x3 : Int32) (σ0 : gS) : Option (Int32 × gS) := if (4 * (σ0.1 0)) ≤ x3 then (rec 4 [(x2 + 1)] σ0) else (gLd σ0 19 16 (x3 / 4) (fun y15 => if y15 = 0 then (rec 6 [x2, x3] σ0) else (gBd (f_M_holds σ0 (x3 / 4) (x3 - x3 / 4 * 4)) (fun y19 σ20 => if y19 = 2 then (gLd σ20 4 64 x3 (fun y23 => gSt σ20 19 16 y23 (vp_nar .boolean 1) (fun σ26 => rec 6 [x2, x3] σ26))) else (rec 6 [x2, x3] σ20)))))
def B_M_mark_6 (rec : Nat → List Int32 → gS → Option (Int32 × gS)) (x2 : Int32) (x3 : Int32) (σ0 : gS) : Option (Int32 × gS) := rec 5 [x2, (x3 + 1)] σ0
def B_M_mark_7 (rec : Nat → List Int32 → gS → Option (Int32 × gS)) (x2 : Int32) (σ0 : gS) : Option (Int32 × gS) := if (4 * (σ0.1 0)) ≤ x2 then (some (0, σ0)) else (gLd σ0 19 16 (x2 / 4) (fun y30 => if y30 = 0 then (rec 8 [x2] σ0) else (gBd (f_M_holds σ0 (x2 / 4) (x2 - x2 / 4 * 4)) (fun y34 σ35 => if y34 = 2 then (gLd σ35 4 64 x2 (fun y38 => gLd σ35 20 16 y38 (fun y41 => gSt σ35 20 16 y38 (y41 + 1) (fun σ44 => rec 8 [x2] σ44)))) else (rec 8 [x2] σ35)))))
def B_M_mark_8 (rec : Nat → List Int32 → gS → Option (Int32 × gS)) (x2 : Int32) (σ0 : gS) : Option (Int32 × gS) := rec 7 [(x2 + 1)] σ0
def S_M_mark (rec : Nat → List Int32 → gS → Option (Int32 × gS)) (k : Nat) (l : List Int32) (σ0 : gS) : Option (Int32 × gS) := match k, l with
  | 0, [x1] => B_M_mark_0 rec x1 σ0
  | 1, [x1, x2] => B_M_mark_1 rec x1 x2 σ0
  | 2, [x1, x2, z1, z2] => B_M_mark_2 rec x1 x2 z1 z2 σ0
  | 3, [x1, x2, z1, z2] => B_M_mark_3 rec x1 x2 z1 z2 σ0
  | 4, [x2] => B_M_mark_4 rec x2 σ0
  | 5, [x2, x3] => B_M_mark_5 rec x2 x3 σ0
  | 6, [x2, x3] => B_M_mark_6 rec x2 x3 σ0
  | 7, [x2] => B_M_mark_7 rec x2 σ0
  | 8, [x2] => B_M_mark_8 rec x2 σ0
  | _, _ => none
def R_M_mark : Nat → Nat → List Int32 → gS → Option (Int32 × gS)
  | 0 => fun _ _ _ => none
  | t + 1 => fun k l σ0 => S_M_mark (R_M_mark t) k l σ0
def f_M_mark (σ : gS) (x1 : Int32) : Option (Int32 × gS) := R_M_mark gFuel 0 [x1] σ
set_option maxHeartbeats 4000000 in
set_option maxRecDepth 100000 in
theorem m_M_mark {l : Launch} {X : va_G} {cI cC cZ : ClassId} {aK aV : Nat → Nat} {b : Nat → Nat} {σ σ' : gS} {r : Int32} {q1 : Int32} (hf : f_M_mark σ q1 = some (r, σ')) {sz : Nat} : Met l y_M_mark w_M_mark { frames := 3, cells := 0, slots := 0, locals := 65 } (gPc X vwCl (gT cI cC cZ) aK aV (mW cI cC cZ b σ) sz [.ref (b 0), .int q1]) (gQv X vwCl (mW cI cC cZ b σ) sz (fun (_ : Unit) => True) (fun _ => mW cI cC cZ b σ')) 0 0 (va_A (mW cI cC cZ b σ) sz) := by
  refine g_met (cc := b_M_mark) (maxL := 4) (ret := none) (by decide) rfl (Nat.le_of_ble_eq_true rfl) ?_
  intro p e s m below meth c A ls hx hb hr hml hown hts hlocks hnm hsz hAe hA hP hK hD hS hl hE
  have hown : s.vm.findClass R_M = some m.cls := hown
  have u_0 : ∀ w ∈ u_ws R_M T_M 35, w ∈ w_M_mark := fun w h => List.mem_cons_of_mem _ (tu_M w h)
  have k_0 := hts (.fieldLink R_M 66 "GraphPagesModel" "reached" "[Z") (List.mem_cons_of_mem _ tb_406)
  have k_1 := hts (.fieldLink R_M 69 "GraphPagesModel" "refs" "[I") (List.mem_cons_of_mem _ tb_407)
  have k_2 := hts (.fieldLink R_M 72 "GraphPagesModel" "id" "[I") (List.mem_cons_of_mem _ tb_408)
  have k_3 := hts (.fieldLink R_M 87 "GraphPagesModel" "count" "I") (List.mem_cons_of_mem _ tb_385)
  have k_4 := hts (.fieldLink R_M 19 "GraphPagesModel" "cell" "[I") (List.mem_cons_of_mem _ tb_397)
  unfold f_M_mark at hf
  have key : ∀ t : Nat, (∀ (x1 : Int32) (σ0 : gS) (H : Heap) (locs : List Loc) (ls : Array Slot), R_M_mark t 0 [x1] σ0 = some (r, σ') → va_P X vwCl (mW cI cC cZ b σ0) H → va_D A (mW cI cC cZ b σ0) → va_S A s.heap H locs → lv_has ls 4 [(0, .ref (b 0)), (1, .int x1)] → W p l e (headSpec w_M_mark { frames := 3, cells := 0, slots := 0, locals := 65 }).room s m [.ref (b 0), .int q1].toArray below meth c H locs 0 0 (MQ below (gQv X vwCl (mW cI cC cZ b σ) sz (fun (_ : Unit) => True) (fun _ => mW cI cC cZ b σ')) [.ref (b 0), .int q1].toArray s 0 0 (va_A (mW cI cC cZ b σ) sz)) (F0 m 0 ls [])) ∧ (∀ (x1 : Int32) (x2 : Int32) (σ0 : gS) (H : Heap) (locs : List Loc) (ls : Array Slot), R_M_mark t 1 [x1, x2] σ0 = some (r, σ') → va_P X vwCl (mW cI cC cZ b σ0) H → va_D A (mW cI cC cZ b σ0) → va_S A s.heap H locs → lv_has ls 4 [(0, .ref (b 0)), (1, .int x1), (2, .int x2)] → W p l e (headSpec w_M_mark { frames := 3, cells := 0, slots := 0, locals := 65 }).room s m [.ref (b 0), .int q1].toArray below meth c H locs 0 0 (MQ below (gQv X vwCl (mW cI cC cZ b σ) sz (fun (_ : Unit) => True) (fun _ => mW cI cC cZ b σ')) [.ref (b 0), .int q1].toArray s 0 0 (va_A (mW cI cC cZ b σ) sz)) (F0 m 2 ls [])) ∧ (∀ (x1 : Int32) (x2 : Int32) (z1 : Int32) (z2 : Int32) (σ0 : gS) (H : Heap) (locs : List Loc) (ls : Array Slot), R_M_mark t 2 [x1, x2, z1, z2] σ0 = some (r, σ') → va_P X vwCl (mW cI cC cZ b σ0) H → va_D A (mW cI cC cZ b σ0) → va_S A s.heap H locs → lv_has ls 4 [(0, .ref (b 0)), (1, .int x1), (2, .int x2)] → W p l e (headSpec w_M_mark { frames := 3, cells := 0, slots := 0, locals := 65 }).room s m [.ref (b 0), .int q1].toArray below meth c H locs 0 0 (MQ below (gQv X vwCl (mW cI cC cZ b σ) sz (fun (_ : Unit) => True) (fun _ => mW cI cC cZ b σ')) [.ref (b 0), .int q1].toArray s 0 0 (va_A (mW cI cC cZ b σ) sz)) (F0 m 23 ls [.int z2, .int z1, .ref (b 19)])) ∧ (∀ (x1 : Int32) (x2 : Int32) (z1 : Int32) (z2 : Int32) (σ0 : gS) (H : Heap) (locs : List Loc) (ls : Array Slot), R_M_mark t 3 [x1, x2, z1, z2] σ0 = some (r, σ') → va_P X vwCl (mW cI cC cZ b σ0) H → va_D A (mW cI cC cZ b σ0) → va_S A s.heap H locs → lv_has ls 4 [(0, .ref (b 0)), (1, .int x1), (2, .int x2)] → W p l e (headSpec w_M_mark { frames := 3, cells := 0, slots := 0, locals := 65 }).room s m [.ref (b 0), .int q1].toArray below meth c H locs 0 0 (MQ below (gQv X vwCl (mW cI cC cZ b σ) sz (fun (_ : Unit) => True) (fun _ => mW cI cC cZ b σ')) [.ref (b 0), .int q1].toArray s 0 0 (va_A (mW cI cC cZ b σ) sz)) (F0 m 39 ls [.int z2, .int z1, .ref (b 20)])) ∧ (∀ (x2 : Int32) (σ0 : gS) (H : Heap) (locs : List Loc) (ls : Array Slot), R_M_mark t 4 [x2] σ0 = some (r, σ') → va_P X vwCl (mW cI cC cZ b σ0) H → va_D A (mW cI cC cZ b σ0) → va_S A s.heap H locs → lv_has ls 4 [(0, .ref (b 0)), (2, .int x2)] → W p l e (headSpec w_M_mark { frames := 3, cells := 0, slots := 0, locals := 65 }).room s m [.ref (b 0), .int q1].toArray below meth c H locs 0 0 (MQ below (gQv X vwCl (mW cI cC cZ b σ) sz (fun (_ : Unit) => True) (fun _ => mW cI cC cZ b σ')) [.ref (b 0), .int q1].toArray s 0 0 (va_A (mW cI cC cZ b σ) sz)) (F0 m 55 ls [])) ∧ (∀ (x2 : Int32) (x3 : Int32) (σ0 : gS) (H : Heap) (locs : List Loc) (ls : Array Slot), R_M_mark t 5 [x2, x3] σ0 = some (r, σ') → va_P X vwCl (mW cI cC cZ b σ0) H → va_D A (mW cI cC cZ b σ0) → va_S A s.heap H locs → lv_has ls 4 [(0, .ref (b 0)), (2, .int x2), (3, .int x3)] → W p l e (headSpec w_M_mark { frames := 3, cells := 0, slots := 0, locals := 65 }).room s m [.ref (b 0), .int q1].toArray below meth c H locs 0 0 (MQ below (gQv X vwCl (mW cI cC cZ b σ) sz (fun (_ : Unit) => True) (fun _ => mW cI cC cZ b σ')) [.ref (b 0), .int q1].toArray s 0 0 (va_A (mW cI cC cZ b σ) sz)) (F0 m 63 ls [])) ∧ (∀ (x2 : Int32) (x3 : Int32) (σ0 : gS) (H : Heap) (locs : List Loc) (ls : Array Slot), R_M_mark t 6 [x2, x3] σ0 = some (r, σ') → va_P X vwCl (mW cI cC cZ b σ0) H → va_D A (mW cI cC cZ b σ0) → va_S A s.heap H locs → lv_has ls 4 [(0, .ref (b 0)), (2, .int x2), (3, .int x3)] → W p l e (headSpec w_M_mark { frames := 3, cells := 0, slots := 0, locals := 65 }).room s m [.ref (b 0), .int q1].toArray below meth c H locs 0 0 (MQ below (gQv X vwCl (mW cI cC cZ b σ) sz (fun (_ : Unit) => True) (fun _ => mW cI cC cZ b σ')) [.ref (b 0), .int q1].toArray s 0 0 (va_A (mW cI cC cZ b σ) sz)) (F0 m 110 ls [])) ∧ (∀ (x2 : Int32) (σ0 : gS) (H : Heap) (locs : List Loc) (ls : Array Slot), R_M_mark t 7 [x2] σ0 = some (r, σ') → va_P X vwCl (mW cI cC cZ b σ0) H → va_D A (mW cI cC cZ b σ0) → va_S A s.heap H locs → lv_has ls 4 [(0, .ref (b 0)), (2, .int x2)] → W p l e (headSpec w_M_mark { frames := 3, cells := 0, slots := 0, locals := 65 }).room s m [.ref (b 0), .int q1].toArray below meth c H locs 0 0 (MQ below (gQv X vwCl (mW cI cC cZ b σ) sz (fun (_ : Unit) => True) (fun _ => mW cI cC cZ b σ')) [.ref (b 0), .int q1].toArray s 0 0 (va_A (mW cI cC cZ b σ) sz)) (F0 m 124 ls [])) ∧ (∀ (x2 : Int32) (σ0 : gS) (H : Heap) (locs : List Loc) (ls : Array Slot), R_M_mark t 8 [x2] σ0 = some (r, σ') → va_P X vwCl (mW cI cC cZ b σ0) H → va_D A (mW cI cC cZ b σ0) → va_S A s.heap H locs → lv_has ls 4 [(0, .ref (b 0)), (2, .int x2)] → W p l e (headSpec w_M_mark { frames := 3, cells := 0, slots := 0, locals := 65 }).room s m [.ref (b 0), .int q1].toArray below meth c H locs 0 0 (MQ below (gQv X vwCl (mW cI cC cZ b σ) sz (fun (_ : Unit) => True) (fun _ => mW cI cC cZ b σ')) [.ref (b 0), .int q1].toArray s 0 0 (va_A (mW cI cC cZ b σ) sz)) (F0 m 174 ls [])) := by
    intro t
    induction t with
    | zero => exact ⟨fun _ _ _ _ _ hf => (by have hf : (none : Option (Int32 × gS)) = some (r, σ') := hf; cases hf), fun _ _ _ _ _ _ hf => (by have hf : (none : Option (Int32 × gS)) = some (r, σ') := hf; cases hf), fun _ _ _ _ _ _ _ _ hf => (by have hf : (none : Option (Int32 × gS)) = some (r, σ') := hf; cases hf), fun _ _ _ _ _ _ _ _ hf => (by have hf : (none : Option (Int32 × gS)) = some (r, σ') := hf; cases hf), fun _ _ _ _ _ hf => (by have hf : (none : Option (Int32 × gS)) = some (r, σ') := hf; cases hf), fun _ _ _ _ _ _ hf => (by have hf : (none : Option (Int32 × gS)) = some (r, σ') := hf; cases hf), fun _ _ _ _ _ _ hf => (by have hf : (none : Option (Int32 × gS)) = some (r, σ') := hf; cases hf), fun _ _ _ _ _ hf => (by have hf : (none : Option (Int32 × gS)) = some (r, σ') := hf; cases hf), fun _ _ _ _ _ hf => (by have hf : (none : Option (Int32 × gS)) = some (r, σ') := hf; cases hf)⟩
    | succ t ih =>
      obtain ⟨ih0, ih1, ih2, ih3, ih4, ih5, ih6, ih7, ih8⟩ := ih
      refine ⟨?_, ?_, ?_, ?_, ?_, ?_, ?_, ?_, ?_⟩
      · intro x1 σ0 H locs ls hf hP hD hS hl
        have hf : B_M_mark_0 (R_M_mark t) x1 σ0 = some (r, σ') := hf
        unfold B_M_mark_0 at hf
        refine lv_iconst (v := 0) hx hb d_M_mark_0 (by decide) ?_
        refine lv_istore_n hx hb d_M_mark_1 rfl hl (by decide) rfl (fun ls hl => ?_)
        exact ih1 (x1) (0) σ0 _ _ _ hf hP hD hS (lv_sub hl [1, 2, 0] rfl)
      · intro x1 x2 σ0 H locs ls hf hP hD hS hl
        have hf : B_M_mark_1 (R_M_mark t) x1 x2 σ0 = some (r, σ') := hf
        unfold B_M_mark_1 at hf
        refine lv_iload_n hx hb d_M_mark_2 rfl (lv_at hl 2 rfl) ?_
        refine lv_bipush (v := 16) hx hb d_M_mark_3 (by decide) ?_
        refine lv_icmp_ge (tgt := 53) hx hb d_M_mark_5 rfl (fun c1 => ?_) (fun c1 => ?_)
        · skip
          rw [if_pos c1] at hf
          refine lv_iconst (v := 0) hx hb d_M_mark_53 (by decide) ?_
          refine lv_istore_n hx hb d_M_mark_54 rfl hl (by decide) rfl (fun ls hl => ?_)
          exact ih4 (0) σ0 _ _ _ hf hP hD hS (lv_sub hl [1, 0] rfl)
        rw [if_neg c1] at hf
        refine lv_aload_n hx hb d_M_mark_8 rfl (lv_at hl 0 rfl) ?_
        refine va_get (D := X) (ci := 9) (C := R_M) (T := T_M) (N := 35) hx hb hts u_0 hown hK hP 0 gm_0 rfl 26 (by decide) k_0 (fun _ h9 => h9) rfl d_M_mark_9 ?_
        refine lv_iload_n hx hb d_M_mark_12 rfl (lv_at hl 2 rfl) ?_
        refine lv_iload_n hx hb d_M_mark_13 rfl (lv_at hl 2 rfl) ?_
        refine lv_iload_n hx hb d_M_mark_14 rfl (lv_at hl 1 rfl) ?_
        refine lv_icmp_ne (tgt := 22) hx hb d_M_mark_15 rfl (fun c2 => ?_) (fun c2 => ?_)
        · skip
          rw [if_neg c2] at hf
          refine lv_iconst (v := 0) hx hb d_M_mark_22 (by decide) ?_
          exact ih2 (x1) (x2) (x2) (0) σ0 _ _ _ hf hP hD hS (lv_sub hl [0, 1, 2] rfl)
        rw [if_pos c2] at hf
        refine lv_iconst (v := 1) hx hb d_M_mark_18 (by decide) ?_
        refine lv_goto (tgt := 23) hx hb d_M_mark_19 rfl ?_
        exact ih2 (x1) (x2) (x2) (1) σ0 _ _ _ hf hP hD hS (lv_sub hl [0, 1, 2] rfl)
      · intro x1 x2 z1 z2 σ0 H locs ls hf hP hD hS hl
        have hf : B_M_mark_2 (R_M_mark t) x1 x2 z1 z2 σ0 = some (r, σ') := hf
        unfold B_M_mark_2 at hf
        obtain ⟨σ3, h4, e5, hf⟩ := gSt_e hf
        refine va_zast hx hb hK hP hD hS 19 2 gm_19 rfl h4 d_M_mark_23 (fun H locs hP hD hS => ?_)
        rw [sm_19, ← e5] at hP hD
        refine lv_aload_n hx hb d_M_mark_24 rfl (lv_at hl 0 rfl) ?_
        refine va_get (D := X) (ci := 9) (C := R_M) (T := T_M) (N := 35) hx hb hts u_0 hown hK hP 0 gm_0 rfl 27 (by decide) k_1 (fun _ h9 => h9) rfl d_M_mark_25 ?_
        refine lv_iload_n hx hb d_M_mark_28 rfl (lv_at hl 2 rfl) ?_
        refine lv_iload_n hx hb d_M_mark_29 rfl (lv_at hl 2 rfl) ?_
        refine lv_iload_n hx hb d_M_mark_30 rfl (lv_at hl 1 rfl) ?_
        refine lv_icmp_ne (tgt := 38) hx hb d_M_mark_31 rfl (fun c6 => ?_) (fun c6 => ?_)
        · skip
          rw [if_neg c6] at hf
          refine lv_iconst (v := 0) hx hb d_M_mark_38 (by decide) ?_
          exact ih3 (x1) (x2) (x2) (0) σ3 _ _ _ hf hP hD hS (lv_sub hl [0, 1, 2] rfl)
        rw [if_pos c6] at hf
        refine lv_iconst (v := 1) hx hb d_M_mark_34 (by decide) ?_
        refine lv_goto (tgt := 39) hx hb d_M_mark_35 rfl ?_
        exact ih3 (x1) (x2) (x2) (1) σ3 _ _ _ hf hP hD hS (lv_sub hl [0, 1, 2] rfl)
      · intro x1 x2 z1 z2 σ0 H locs ls hf hP hD hS hl
        have hf : B_M_mark_3 (R_M_mark t) x1 x2 z1 z2 σ0 = some (r, σ') := hf
        unfold B_M_mark_3 at hf
        obtain ⟨σ7, h8, e9, hf⟩ := gSt_e hf
        refine va_iast hx hb hK hP hD hS 20 0 gm_20 rfl h8 d_M_mark_39 (fun H locs hP hD hS => ?_)
        rw [sm_20, ← e9] at hP hD
        refine lv_aload_n hx hb d_M_mark_40 rfl (lv_at hl 0 rfl) ?_
        refine va_get (D := X) (ci := 9) (C := R_M) (T := T_M) (N := 35) hx hb hts u_0 hown hK hP 0 gm_0 rfl 28 (by decide) k_2 (fun _ h9 => h9) rfl d_M_mark_41 ?_
        refine lv_iload_n hx hb d_M_mark_44 rfl (lv_at hl 2 rfl) ?_
        refine lv_iconst (v := 0) hx hb d_M_mark_45 (by decide) ?_
        obtain ⟨σ10, h11, e12, hf⟩ := gSt_e hf
        refine va_iast hx hb hK hP hD hS 21 0 gm_21 rfl h11 d_M_mark_46 (fun H locs hP hD hS => ?_)
        rw [sm_21, ← e12] at hP hD
        refine lv_iinc (k := 2) (v := (x2 + 1)) hx hb d_M_mark_47 hl rfl (by rw [show Int32.ofInt (1) = (1 : Int32) by decide]) (by decide) rfl (fun ls hl => ?_)
        refine lv_goto (tgt := 2) hx hb d_M_mark_50 rfl ?_
        exact ih1 (x1) ((x2 + 1)) σ10 _ _ _ hf hP hD hS (lv_sub hl [1, 2, 0] rfl)
      · intro x2 σ0 H locs ls hf hP hD hS hl
        have hf : B_M_mark_4 (R_M_mark t) x2 σ0 = some (r, σ') := hf
        unfold B_M_mark_4 at hf
        refine lv_iload_n hx hb d_M_mark_55 rfl (lv_at hl 1 rfl) ?_
        refine lv_bipush (v := 16) hx hb d_M_mark_56 (by decide) ?_
        refine lv_icmp_ge (tgt := 122) hx hb d_M_mark_58 rfl (fun c13 => ?_) (fun c13 => ?_)
        · skip
          rw [if_pos c13] at hf
          refine lv_iconst (v := 0) hx hb d_M_mark_122 (by decide) ?_
          refine lv_istore_n hx hb d_M_mark_123 rfl hl (by decide) rfl (fun ls hl => ?_)
          exact ih7 (0) σ0 _ _ _ hf hP hD hS (lv_sub hl [1, 0] rfl)
        rw [if_neg c13] at hf
        refine lv_iconst (v := 0) hx hb d_M_mark_61 (by decide) ?_
        refine lv_istore_n hx hb d_M_mark_62 rfl hl (by decide) rfl (fun ls hl => ?_)
        exact ih5 (x2) (0) σ0 _ _ _ hf hP hD hS (lv_sub hl [1, 2, 0] rfl)
      · intro x2 x3 σ0 H locs ls hf hP hD hS hl
        have hf : B_M_mark_5 (R_M_mark t) x2 x3 σ0 = some (r, σ') := hf
        unfold B_M_mark_5 at hf
        refine lv_iload_n hx hb d_M_mark_63 rfl (lv_at hl 2 rfl) ?_
        refine lv_iconst (v := 4) hx hb d_M_mark_64 (by decide) ?_
        refine lv_aload_n hx hb d_M_mark_65 rfl (lv_at hl 0 rfl) ?_
        refine va_get (D := X) (ci := 9) (C := R_M) (T := T_M) (N := 35) hx hb hts u_0 hown hK hP 0 gm_0 rfl 0 (by decide) k_3 (fun _ h9 => h9) rfl d_M_mark_66 ?_
        refine lv_imul hx hb d_M_mark_69 ?_
        refine lv_icmp_ge (tgt := 116) hx hb d_M_mark_70 rfl (fun c14 => ?_) (fun c14 => ?_)
        · skip
          rw [if_pos c14] at hf
          refine lv_iinc (k := 1) (v := (x2 + 1)) hx hb d_M_mark_116 hl rfl (by rw [show Int32.ofInt (1) = (1 : Int32) by decide]) (by decide) rfl (fun ls hl => ?_)
          refine lv_goto (tgt := 55) hx hb d_M_mark_119 rfl ?_
          exact ih4 ((x2 + 1)) σ0 _ _ _ hf hP hD hS (lv_sub hl [1, 0] rfl)
        rw [if_neg c14] at hf
        refine lv_aload_n hx hb d_M_mark_73 rfl (lv_at hl 0 rfl) ?_
        refine va_get (D := X) (ci := 9) (C := R_M) (T := T_M) (N := 35) hx hb hts u_0 hown hK hP 0 gm_0 rfl 26 (by decide) k_0 (fun _ h9 => h9) rfl d_M_mark_74 ?_
        refine lv_iload_n hx hb d_M_mark_77 rfl (lv_at hl 2 rfl) ?_
        refine lv_iconst (v := 4) hx hb d_M_mark_78 (by decide) ?_
        refine lv_idiv hx hb d_M_mark_79 (by decide) ?_
        obtain ⟨y15, h16, e17, hf⟩ := gLd_e hf
        refine va_zald hx hb hK hP 19 2 gm_19 rfl h16 d_M_mark_80 ?_
        rw [← e17]
        refine lv_if_eq (tgt := 110) hx hb d_M_mark_81 rfl (fun c18 => ?_) (fun c18 => ?_)
        · skip
          rw [if_pos c18] at hf
          exact ih6 (x2) (x3) σ0 _ _ _ hf hP hD hS (lv_sub hl [0, 1, 2] rfl)
        rw [if_neg c18] at hf
        refine lv_aload_n hx hb d_M_mark_84 rfl (lv_at hl 0 rfl) ?_
        refine lv_iload_n hx hb d_M_mark_85 rfl (lv_at hl 2 rfl) ?_
        refine lv_iconst (v := 4) hx hb d_M_mark_86 (by decide) ?_
        refine lv_idiv hx hb d_M_mark_87 (by decide) ?_
        refine lv_iload_n hx hb d_M_mark_88 rfl (lv_at hl 2 rfl) ?_
        refine lv_iconst (v := 4) hx hb d_M_mark_89 (by decide) ?_
        refine lv_irem hx hb d_M_mark_90 (by decide) ?_
        obtain ⟨y19, σ20, e21, hf⟩ := gBd_e hf
        refine g_wi (va_runV ⟨hx, hb, hml, hown, hts⟩ (m_M_holds e21) (cwV 2 hts (gG4 (fun _ h => List.mem_cons_of_mem _ h) tb_403 tb_404 tb_405 tb_392 tc_M_holds) rfl rfl rfl (by decide +kernel) ⟨Nat.le_of_ble_eq_true rfl, Nat.le_of_ble_eq_true rfl⟩) (g_preVW (q0 := 0) hE hK hP hD hS hA gm_0 rfl) rfl rfl hl.1 rfl (lv_room (Nat.le_of_ble_eq_true rfl)) d_M_mark_91 ⟨Nat.zero_le _, Nat.zero_le _⟩) hD hS hA (fun _ => mW_fst) (fun y19 _ H locs hu hP hD hS => ?_)
        subst hu
        refine lv_iconst (v := 2) hx hb d_M_mark_94 (by decide) ?_
        refine lv_icmp_ne (tgt := 110) hx hb d_M_mark_95 rfl (fun c22 => ?_) (fun c22 => ?_)
        · skip
          rw [if_neg c22] at hf
          exact ih6 (x2) (x3) σ20 _ _ _ hf hP hD hS (lv_sub hl [0, 1, 2] rfl)
        rw [if_pos c22] at hf
        refine lv_aload_n hx hb d_M_mark_98 rfl (lv_at hl 0 rfl) ?_
        refine va_get (D := X) (ci := 9) (C := R_M) (T := T_M) (N := 35) hx hb hts u_0 hown hK hP 0 gm_0 rfl 26 (by decide) k_0 (fun _ h9 => h9) rfl d_M_mark_99 ?_
        refine lv_aload_n hx hb d_M_mark_102 rfl (lv_at hl 0 rfl) ?_
        refine va_get (D := X) (ci := 9) (C := R_M) (T := T_M) (N := 35) hx hb hts u_0 hown hK hP 0 gm_0 rfl 4 (by decide) k_4 (fun _ h9 => h9) rfl d_M_mark_103 ?_
        refine lv_iload_n hx hb d_M_mark_106 rfl (lv_at hl 2 rfl) ?_
        obtain ⟨y23, h24, e25, hf⟩ := gLd_e hf
        refine va_iald hx hb hK hP 4 0 gm_4 rfl h24 d_M_mark_107 ?_
        rw [← e25]
        refine lv_iconst (v := 1) hx hb d_M_mark_108 (by decide) ?_
        obtain ⟨σ26, h27, e28, hf⟩ := gSt_e hf
        refine va_zast hx hb hK hP hD hS 19 2 gm_19 rfl h27 d_M_mark_109 (fun H locs hP hD hS => ?_)
        rw [sm_19, ← e28] at hP hD
        exact ih6 (x2) (x3) σ26 _ _ _ hf hP hD hS (lv_sub hl [0, 1, 2] rfl)
      · intro x2 x3 σ0 H locs ls hf hP hD hS hl
        have hf : B_M_mark_6 (R_M_mark t) x2 x3 σ0 = some (r, σ') := hf
        unfold B_M_mark_6 at hf
        refine lv_iinc (k := 2) (v := (x3 + 1)) hx hb d_M_mark_110 hl rfl (by rw [show Int32.ofInt (1) = (1 : Int32) by decide]) (by decide) rfl (fun ls hl => ?_)
        refine lv_goto (tgt := 63) hx hb d_M_mark_113 rfl ?_
        exact ih5 (x2) ((x3 + 1)) σ0 _ _ _ hf hP hD hS (lv_sub hl [1, 2, 0] rfl)
      · intro x2 σ0 H locs ls hf hP hD hS hl
        have hf : B_M_mark_7 (R_M_mark t) x2 σ0 = some (r, σ') := hf
        unfold B_M_mark_7 at hf
        refine lv_iload_n hx hb d_M_mark_124 rfl (lv_at hl 1 rfl) ?_
        refine lv_iconst (v := 4) hx hb d_M_mark_125 (by decide) ?_
        refine lv_aload_n hx hb d_M_mark_126 rfl (lv_at hl 0 rfl) ?_
        refine va_get (D := X) (ci := 9) (C := R_M) (T := T_M) (N := 35) hx hb hts u_0 hown hK hP 0 gm_0 rfl 0 (by decide) k_3 (fun _ h9 => h9) rfl d_M_mark_127 ?_
        refine lv_imul hx hb d_M_mark_130 ?_
        refine lv_icmp_ge (tgt := 180) hx hb d_M_mark_131 rfl (fun c29 => ?_) (fun c29 => ?_)
        · skip
          rw [if_pos c29] at hf
          obtain ⟨-, rfl⟩ := gRt_e hf
          exact g_vret hx hb hr hlocks hAe hS () trivial hP d_M_mark_180
        rw [if_neg c29] at hf
        refine lv_aload_n hx hb d_M_mark_134 rfl (lv_at hl 0 rfl) ?_
        refine va_get (D := X) (ci := 9) (C := R_M) (T := T_M) (N := 35) hx hb hts u_0 hown hK hP 0 gm_0 rfl 26 (by decide) k_0 (fun _ h9 => h9) rfl d_M_mark_135 ?_
        refine lv_iload_n hx hb d_M_mark_138 rfl (lv_at hl 1 rfl) ?_
        refine lv_iconst (v := 4) hx hb d_M_mark_139 (by decide) ?_
        refine lv_idiv hx hb d_M_mark_140 (by decide) ?_
        obtain ⟨y30, h31, e32, hf⟩ := gLd_e hf
        refine va_zald hx hb hK hP 19 2 gm_19 rfl h31 d_M_mark_141 ?_
        rw [← e32]
        refine lv_if_eq (tgt := 174) hx hb d_M_mark_142 rfl (fun c33 => ?_) (fun c33 => ?_)
        · skip
          rw [if_pos c33] at hf
          exact ih8 (x2) σ0 _ _ _ hf hP hD hS (lv_sub hl [0, 1] rfl)
        rw [if_neg c33] at hf
        refine lv_aload_n hx hb d_M_mark_145 rfl (lv_at hl 0 rfl) ?_
        refine lv_iload_n hx hb d_M_mark_146 rfl (lv_at hl 1 rfl) ?_
        refine lv_iconst (v := 4) hx hb d_M_mark_147 (by decide) ?_
        refine lv_idiv hx hb d_M_mark_148 (by decide) ?_
        refine lv_iload_n hx hb d_M_mark_149 rfl (lv_at hl 1 rfl) ?_
        refine lv_iconst (v := 4) hx hb d_M_mark_150 (by decide) ?_
        refine lv_irem hx hb d_M_mark_151 (by decide) ?_
        obtain ⟨y34, σ35, e36, hf⟩ := gBd_e hf
        refine g_wi (va_runV ⟨hx, hb, hml, hown, hts⟩ (m_M_holds e36) (cwV 2 hts (gG4 (fun _ h => List.mem_cons_of_mem _ h) tb_403 tb_404 tb_405 tb_392 tc_M_holds) rfl rfl rfl (by decide +kernel) ⟨Nat.le_of_ble_eq_true rfl, Nat.le_of_ble_eq_true rfl⟩) (g_preVW (q0 := 0) hE hK hP hD hS hA gm_0 rfl) rfl rfl hl.1 rfl (lv_room (Nat.le_of_ble_eq_true rfl)) d_M_mark_152 ⟨Nat.zero_le _, Nat.zero_le _⟩) hD hS hA (fun _ => mW_fst) (fun y34 _ H locs hu hP hD hS => ?_)
        subst hu
        refine lv_iconst (v := 2) hx hb d_M_mark_155 (by decide) ?_
        refine lv_icmp_ne (tgt := 174) hx hb d_M_mark_156 rfl (fun c37 => ?_) (fun c37 => ?_)
        · skip
          rw [if_neg c37] at hf
          exact ih8 (x2) σ35 _ _ _ hf hP hD hS (lv_sub hl [0, 1] rfl)
        rw [if_pos c37] at hf
        refine lv_aload_n hx hb d_M_mark_159 rfl (lv_at hl 0 rfl) ?_
        refine va_get (D := X) (ci := 9) (C := R_M) (T := T_M) (N := 35) hx hb hts u_0 hown hK hP 0 gm_0 rfl 27 (by decide) k_1 (fun _ h9 => h9) rfl d_M_mark_160 ?_
        refine lv_aload_n hx hb d_M_mark_163 rfl (lv_at hl 0 rfl) ?_
        refine va_get (D := X) (ci := 9) (C := R_M) (T := T_M) (N := 35) hx hb hts u_0 hown hK hP 0 gm_0 rfl 4 (by decide) k_4 (fun _ h9 => h9) rfl d_M_mark_164 ?_
        refine lv_iload_n hx hb d_M_mark_167 rfl (lv_at hl 1 rfl) ?_
        obtain ⟨y38, h39, e40, hf⟩ := gLd_e hf
        refine va_iald hx hb hK hP 4 0 gm_4 rfl h39 d_M_mark_168 ?_
        rw [← e40]
        refine lv_dup2_11 hx hb d_M_mark_169 rfl rfl ?_
        obtain ⟨y41, h42, e43, hf⟩ := gLd_e hf
        refine va_iald hx hb hK hP 20 0 gm_20 rfl h42 d_M_mark_170 ?_
        rw [← e43]
        refine lv_iconst (v := 1) hx hb d_M_mark_171 (by decide) ?_
        refine lv_iadd hx hb d_M_mark_172 ?_
        obtain ⟨σ44, h45, e46, hf⟩ := gSt_e hf
        refine va_iast hx hb hK hP hD hS 20 0 gm_20 rfl h45 d_M_mark_173 (fun H locs hP hD hS => ?_)
        rw [sm_20, ← e46] at hP hD
        exact ih8 (x2) σ44 _ _ _ hf hP hD hS (lv_sub hl [0, 1] rfl)
      · intro x2 σ0 H locs ls hf hP hD hS hl
        have hf : B_M_mark_8 (R_M_mark t) x2 σ0 = some (r, σ') := hf
        unfold B_M_mark_8 at hf
        refine lv_iinc (k := 1) (v := (x2 + 1)) hx hb d_M_mark_174 hl rfl (by rw [show Int32.ofInt (1) = (1 : Int32) by decide]) (by decide) rfl (fun ls hl => ?_)
        refine lv_goto (tgt := 124) hx hb d_M_mark_177 rfl ?_
        exact ih7 ((x2 + 1)) σ0 _ _ _ hf hP hD hS (lv_sub hl [1, 0] rfl)
  exact (key gFuel).1 q1 σ _ _ _ hf hP hD hS hl

def B_M_shared_0 (rec : Nat → List Int32 → gS → Option (Int32 × gS)) (x1 : Int32) (σ0 : gS) : Option (Int32 × gS) := gBd (f_M_object σ0 x1) (fun y1 σ2 => if y1 = 0 then (some ((-1), σ2)) else (gBd (f_M_mark σ2 x1) (fun _ σ6 => rec 1 [0, 0] σ6)))
def B_M_shared_1 (rec : Nat → List Int32 → gS → Option (Int32 × gS)) (x2 : Int32) (x3 : Int32) (σ0 : gS) : Option (Int32 × gS) := if 16 ≤ x3 then (some (x2, σ0)) else (gLd σ0 20 16 x3 (fun y9 => if y9 < 2 then (rec 2 [x2, x3] σ0) else (rec 2 [(x2 + 1), x3] σ0)))
def B_M_shared_2 (rec : Nat → List Int32 → gS → Option (Int32 × gS)) (x2 : Int32) (x3 : Int32) (σ0 : gS) : Option (Int32 × gS) := rec 1 [x2, (x3 + 1)] σ0
def S_M_shared (rec : Nat → List Int32 → gS → Option (Int32 × gS)) (k : Nat) (l : List Int32) (σ0 : gS) : Option (Int32 × gS) := match k, l with
  | 0, [x1] => B_M_shared_0 rec x1 σ0
  | 1, [x2, x3] => B_M_shared_1 rec x2 x3 σ0
  | 2, [x2, x3] => B_M_shared_2 rec x2 x3 σ0
  | _, _ => none
def R_M_shared : Nat → Nat → List Int32 → gS → Option (Int32 × gS)
  | 0 => fun _ _ _ => none
  | t + 1 => fun k l σ0 => S_M_shared (R_M_shared t) k l σ0
def f_M_shared (σ : gS) (x1 : Int32) : Option (Int32 × gS) := R_M_shared gFuel 0 [x1] σ
set_option maxHeartbeats 4000000 in
set_option maxRecDepth 100000 in
theorem m_M_shared {l : Launch} {X : va_G} {cI cC cZ : ClassId} {aK aV : Nat → Nat} {b : Nat → Nat} {σ σ' : gS} {r : Int32} {q1 : Int32} (hf : f_M_shared σ q1 = some (r, σ')) {sz : Nat} : Met l y_M_shared w_M_shared { frames := 4, cells := 0, slots := 0, locals := 88 } (gPc X vwCl (gT cI cC cZ) aK aV (mW cI cC cZ b σ) sz [.ref (b 0), .int q1]) (gQi X vwCl (mW cI cC cZ b σ) sz (fun r' (_ : Unit) => r' = r) (fun _ => mW cI cC cZ b σ')) 0 0 (va_A (mW cI cC cZ b σ) sz) := by
  refine g_met (cc := b_M_shared) (maxL := 4) (ret := (some .int)) (by decide) rfl (Nat.le_of_ble_eq_true rfl) ?_
  intro p e s m below meth c A ls hx hb hr hml hown hts hlocks hnm hsz hAe hA hP hK hD hS hl hE
  have hown : s.vm.findClass R_M = some m.cls := hown
  have u_0 : ∀ w ∈ u_ws R_M T_M 35, w ∈ w_M_shared := fun w h => List.mem_cons_of_mem _ (tu_M w h)
  have k_0 := hts (.fieldLink R_M 69 "GraphPagesModel" "refs" "[I") (List.mem_cons_of_mem _ tb_407)
  unfold f_M_shared at hf
  have key : ∀ t : Nat, (∀ (x1 : Int32) (σ0 : gS) (H : Heap) (locs : List Loc) (ls : Array Slot), R_M_shared t 0 [x1] σ0 = some (r, σ') → va_P X vwCl (mW cI cC cZ b σ0) H → va_D A (mW cI cC cZ b σ0) → va_S A s.heap H locs → lv_has ls 4 [(0, .ref (b 0)), (1, .int x1)] → W p l e (headSpec w_M_shared { frames := 4, cells := 0, slots := 0, locals := 88 }).room s m [.ref (b 0), .int q1].toArray below meth c H locs 0 0 (MQ below (gQi X vwCl (mW cI cC cZ b σ) sz (fun r' (_ : Unit) => r' = r) (fun _ => mW cI cC cZ b σ')) [.ref (b 0), .int q1].toArray s 0 0 (va_A (mW cI cC cZ b σ) sz)) (F0 m 0 ls [])) ∧ (∀ (x2 : Int32) (x3 : Int32) (σ0 : gS) (H : Heap) (locs : List Loc) (ls : Array Slot), R_M_shared t 1 [x2, x3] σ0 = some (r, σ') → va_P X vwCl (mW cI cC cZ b σ0) H → va_D A (mW cI cC cZ b σ0) → va_S A s.heap H locs → lv_has ls 4 [(0, .ref (b 0)), (2, .int x2), (3, .int x3)] → W p l e (headSpec w_M_shared { frames := 4, cells := 0, slots := 0, locals := 88 }).room s m [.ref (b 0), .int q1].toArray below meth c H locs 0 0 (MQ below (gQi X vwCl (mW cI cC cZ b σ) sz (fun r' (_ : Unit) => r' = r) (fun _ => mW cI cC cZ b σ')) [.ref (b 0), .int q1].toArray s 0 0 (va_A (mW cI cC cZ b σ) sz)) (F0 m 19 ls [])) ∧ (∀ (x2 : Int32) (x3 : Int32) (σ0 : gS) (H : Heap) (locs : List Loc) (ls : Array Slot), R_M_shared t 2 [x2, x3] σ0 = some (r, σ') → va_P X vwCl (mW cI cC cZ b σ0) H → va_D A (mW cI cC cZ b σ0) → va_S A s.heap H locs → lv_has ls 4 [(0, .ref (b 0)), (2, .int x2), (3, .int x3)] → W p l e (headSpec w_M_shared { frames := 4, cells := 0, slots := 0, locals := 88 }).room s m [.ref (b 0), .int q1].toArray below meth c H locs 0 0 (MQ below (gQi X vwCl (mW cI cC cZ b σ) sz (fun r' (_ : Unit) => r' = r) (fun _ => mW cI cC cZ b σ')) [.ref (b 0), .int q1].toArray s 0 0 (va_A (mW cI cC cZ b σ) sz)) (F0 m 38 ls [])) := by
    intro t
    induction t with
    | zero => exact ⟨fun _ _ _ _ _ hf => (by have hf : (none : Option (Int32 × gS)) = some (r, σ') := hf; cases hf), fun _ _ _ _ _ _ hf => (by have hf : (none : Option (Int32 × gS)) = some (r, σ') := hf; cases hf), fun _ _ _ _ _ _ hf => (by have hf : (none : Option (Int32 × gS)) = some (r, σ') := hf; cases hf)⟩
    | succ t ih =>
      obtain ⟨ih0, ih1, ih2⟩ := ih
      refine ⟨?_, ?_, ?_⟩
      · intro x1 σ0 H locs ls hf hP hD hS hl
        have hf : B_M_shared_0 (R_M_shared t) x1 σ0 = some (r, σ') := hf
        unfold B_M_shared_0 at hf
        refine lv_aload_n hx hb d_M_shared_0 rfl (lv_at hl 0 rfl) ?_
        refine lv_iload_n hx hb d_M_shared_1 rfl (lv_at hl 1 rfl) ?_
        obtain ⟨y1, σ2, e3, hf⟩ := gBd_e hf
        refine g_wi (va_runV ⟨hx, hb, hml, hown, hts⟩ (m_M_object e3) (cwV 1 hts (gG4 (fun _ h => List.mem_cons_of_mem _ h) tb_389 tb_390 tb_391 tb_392 tc_M_object) rfl rfl rfl (by decide +kernel) ⟨Nat.le_of_ble_eq_true rfl, Nat.le_of_ble_eq_true rfl⟩) (g_preVW (q0 := 0) hE hK hP hD hS hA gm_0 rfl) rfl rfl hl.1 rfl (lv_room (Nat.le_of_ble_eq_true rfl)) d_M_shared_2 ⟨Nat.zero_le _, Nat.zero_le _⟩) hD hS hA (fun _ => mW_fst) (fun y1 _ H locs hu hP hD hS => ?_)
        subst hu
        refine lv_if_ne (tgt := 10) hx hb d_M_shared_5 rfl (fun c4 => ?_) (fun c4 => ?_)
        · skip
          rw [if_neg c4] at hf
          refine lv_aload_n hx hb d_M_shared_10 rfl (lv_at hl 0 rfl) ?_
          refine lv_iload_n hx hb d_M_shared_11 rfl (lv_at hl 1 rfl) ?_
          obtain ⟨y5, σ6, e7, hf⟩ := gBd_e hf
          refine g_wv (va_runV ⟨hx, hb, hml, hown, hts⟩ (m_M_mark e7) (cwV 1 hts (gG4 (fun _ h => List.mem_cons_of_mem _ h) tb_409 tb_410 tb_411 tb_392 tc_M_mark) rfl rfl rfl (by decide +kernel) ⟨Nat.le_of_ble_eq_true rfl, Nat.le_of_ble_eq_true rfl⟩) (g_preVW (q0 := 0) hE hK hP hD hS hA gm_0 rfl) rfl rfl hl.1 rfl (lv_room (Nat.le_of_ble_eq_true rfl)) d_M_shared_12 ⟨Nat.zero_le _, Nat.zero_le _⟩) hD hS hA (fun _ => mW_fst) (fun _ H locs _ hP hD hS => ?_)
          refine lv_iconst (v := 0) hx hb d_M_shared_15 (by decide) ?_
          refine lv_istore_n hx hb d_M_shared_16 rfl hl (by decide) rfl (fun ls hl => ?_)
          refine lv_iconst (v := 0) hx hb d_M_shared_17 (by decide) ?_
          refine lv_istore_n hx hb d_M_shared_18 rfl hl (by decide) rfl (fun ls hl => ?_)
          exact ih1 (0) (0) σ6 _ _ _ hf hP hD hS (lv_sub hl [2, 1, 0] rfl)
        rw [if_pos c4] at hf
        refine lv_iconst (v := (-1)) hx hb d_M_shared_8 (by decide) ?_
        obtain ⟨rfl, rfl⟩ := gRt_e hf
        exact g_zret hx hb hr hlocks rfl hAe hS () rfl hP d_M_shared_9
      · intro x2 x3 σ0 H locs ls hf hP hD hS hl
        have hf : B_M_shared_1 (R_M_shared t) x2 x3 σ0 = some (r, σ') := hf
        unfold B_M_shared_1 at hf
        refine lv_iload_n hx hb d_M_shared_19 rfl (lv_at hl 2 rfl) ?_
        refine lv_bipush (v := 16) hx hb d_M_shared_20 (by decide) ?_
        refine lv_icmp_ge (tgt := 44) hx hb d_M_shared_22 rfl (fun c8 => ?_) (fun c8 => ?_)
        · skip
          rw [if_pos c8] at hf
          refine lv_iload_n hx hb d_M_shared_44 rfl (lv_at hl 1 rfl) ?_
          obtain ⟨rfl, rfl⟩ := gRt_e hf
          exact g_zret hx hb hr hlocks rfl hAe hS () rfl hP d_M_shared_45
        rw [if_neg c8] at hf
        refine lv_aload_n hx hb d_M_shared_25 rfl (lv_at hl 0 rfl) ?_
        refine va_get (D := X) (ci := 9) (C := R_M) (T := T_M) (N := 35) hx hb hts u_0 hown hK hP 0 gm_0 rfl 27 (by decide) k_0 (fun _ h9 => h9) rfl d_M_shared_26 ?_
        refine lv_iload_n hx hb d_M_shared_29 rfl (lv_at hl 2 rfl) ?_
        obtain ⟨y9, h10, e11, hf⟩ := gLd_e hf
        refine va_iald hx hb hK hP 20 0 gm_20 rfl h10 d_M_shared_30 ?_
        rw [← e11]
        refine lv_iconst (v := 2) hx hb d_M_shared_31 (by decide) ?_
        refine lv_icmp_lt (tgt := 38) hx hb d_M_shared_32 rfl (fun c12 => ?_) (fun c12 => ?_)
        · skip
          rw [if_pos c12] at hf
          exact ih2 (x2) (x3) σ0 _ _ _ hf hP hD hS (lv_sub hl [0, 1, 2] rfl)
        rw [if_neg c12] at hf
        refine lv_iinc (k := 1) (v := (x2 + 1)) hx hb d_M_shared_35 hl rfl (by rw [show Int32.ofInt (1) = (1 : Int32) by decide]) (by decide) rfl (fun ls hl => ?_)
        exact ih2 ((x2 + 1)) (x3) σ0 _ _ _ hf hP hD hS (lv_sub hl [1, 0, 2] rfl)
      · intro x2 x3 σ0 H locs ls hf hP hD hS hl
        have hf : B_M_shared_2 (R_M_shared t) x2 x3 σ0 = some (r, σ') := hf
        unfold B_M_shared_2 at hf
        refine lv_iinc (k := 2) (v := (x3 + 1)) hx hb d_M_shared_38 hl rfl (by rw [show Int32.ofInt (1) = (1 : Int32) by decide]) (by decide) rfl (fun ls hl => ?_)
        refine lv_goto (tgt := 19) hx hb d_M_shared_41 rfl ?_
        exact ih1 (x2) ((x3 + 1)) σ0 _ _ _ hf hP hD hS (lv_sub hl [1, 2, 0] rfl)
  exact (key gFuel).1 q1 σ _ _ _ hf hP hD hS hl
