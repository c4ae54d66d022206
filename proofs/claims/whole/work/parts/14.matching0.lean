def B_A_match_0 (rec : Nat → List Int32 → gS → Option (Int32 × gS)) (x1 : Int32) (x2 : Int32) (σ0 : gS) : Option (Int32 × gS) := gLd σ0 14 16 x1 (fun y1 => if y1 = (-1) then (gLd σ0 15 16 x2 (fun y5 => if y5 = (-1) then (gSt σ0 14 16 x1 x2 (fun σ9 => gSt σ9 15 16 x2 x1 (fun σ12 => gSt σ12 16 16 (σ12.1 3) x1 (fun σ15 => gPut σ15 3 ((σ15.1 3) + 1) (fun σ18 => some (1, σ18)))))) else (rec 1 [x1, x2] σ0))) else (rec 1 [x1, x2] σ0))
def B_A_match_1 (rec : Nat → List Int32 → gS → Option (Int32 × gS)) (x1 : Int32) (x2 : Int32) (σ0 : gS) : Option (Int32 × gS) := gLd σ0 14 16 x1 (fun y20 => if y20 = x2 then (some (1, σ0)) else (some (0, σ0)))
def S_A_match (rec : Nat → List Int32 → gS → Option (Int32 × gS)) (k : Nat) (l : List Int32) (σ0 : gS) : Option (Int32 × gS) := match k, l with
  | 0, [x1, x2] => B_A_match_0 rec x1 x2 σ0
  | 1, [x1, x2] => B_A_match_1 rec x1 x2 σ0
  | _, _ => none
def R_A_match : Nat → Nat → List Int32 → gS → Option (Int32 × gS)
  | 0 => fun _ _ _ => none
  | t + 1 => fun k l σ0 => S_A_match (R_A_match t) k l σ0
def f_A_match (σ : gS) (x1 : Int32) (x2 : Int32) : Option (Int32 × gS) := R_A_match gFuel 0 [x1, x2] σ
set_option maxHeartbeats 4000000 in
set_option maxRecDepth 100000 in
theorem m_A_match {l : Launch} {X : va_G} {cI cC cZ : ClassId} {aK aV : Nat → Nat} {a : Nat → Nat} {σ σ' : gS} {r : Int32} {q1 : Int32} {q2 : Int32} (hf : f_A_match σ q1 q2 = some (r, σ')) {sz : Nat} : Met l y_A_match w_A_match { frames := 0, cells := 0, slots := 0, locals := 0 } (gPc X vwCl (gT cI cC cZ) aK aV (cW cI cC cZ a σ) sz [.ref (a 13), .int q1, .int q2]) (gQi X vwCl (cW cI cC cZ a σ) sz (fun r' (_ : Unit) => r' = r) (fun _ => cW cI cC cZ a σ')) 0 0 (va_A (cW cI cC cZ a σ) sz) := by
  refine g_met (cc := b_A_match) (maxL := 3) (ret := (some .boolean)) (by decide) rfl (Nat.le_of_ble_eq_true rfl) ?_
  intro p e s m below meth c A ls hx hb hr hml hown hts hlocks hnm hsz hAe hA hP hK hD hS hl hE
  have hown : s.vm.findClass R_A = some m.cls := hown
  have u_0 : ∀ w ∈ u_ws R_A T_A 5, w ∈ w_A_match := fun w h => List.mem_cons_of_mem _ (tu_A w h)
  have k_0 := hts (.fieldLink R_A 9 "GraphPages$Matching" "partners" "[I") (List.mem_cons_of_mem _ tb_226)
  have k_1 := hts (.fieldLink R_A 15 "GraphPages$Matching" "partnersBack" "[I") (List.mem_cons_of_mem _ tb_227)
  have k_2 := hts (.fieldLink R_A 18 "GraphPages$Matching" "order" "[I") (List.mem_cons_of_mem _ tb_228)
  have k_3 := hts (.fieldLink R_A 31 "GraphPages$Matching" "count" "I") (List.mem_cons_of_mem _ tb_229)
  unfold f_A_match at hf
  have key : ∀ t : Nat, (∀ (x1 : Int32) (x2 : Int32) (σ0 : gS) (H : Heap) (locs : List Loc) (ls : Array Slot), R_A_match t 0 [x1, x2] σ0 = some (r, σ') → va_P X vwCl (cW cI cC cZ a σ0) H → va_D A (cW cI cC cZ a σ0) → va_S A s.heap H locs → lv_has ls 3 [(0, .ref (a 13)), (1, .int x1), (2, .int x2)] → W p l e (headSpec w_A_match { frames := 0, cells := 0, slots := 0, locals := 0 }).room s m [.ref (a 13), .int q1, .int q2].toArray below meth c H locs 0 0 (MQ below (gQi X vwCl (cW cI cC cZ a σ) sz (fun r' (_ : Unit) => r' = r) (fun _ => cW cI cC cZ a σ')) [.ref (a 13), .int q1, .int q2].toArray s 0 0 (va_A (cW cI cC cZ a σ) sz)) (F0 m 0 ls [])) ∧ (∀ (x1 : Int32) (x2 : Int32) (σ0 : gS) (H : Heap) (locs : List Loc) (ls : Array Slot), R_A_match t 1 [x1, x2] σ0 = some (r, σ') → va_P X vwCl (cW cI cC cZ a σ0) H → va_D A (cW cI cC cZ a σ0) → va_S A s.heap H locs → lv_has ls 3 [(0, .ref (a 13)), (1, .int x1), (2, .int x2)] → W p l e (headSpec w_A_match { frames := 0, cells := 0, slots := 0, locals := 0 }).room s m [.ref (a 13), .int q1, .int q2].toArray below meth c H locs 0 0 (MQ below (gQi X vwCl (cW cI cC cZ a σ) sz (fun r' (_ : Unit) => r' = r) (fun _ => cW cI cC cZ a σ')) [.ref (a 13), .int q1, .int q2].toArray s 0 0 (va_A (cW cI cC cZ a σ) sz)) (F0 m 56 ls [])) := by
    intro t
    induction t with
    | zero => exact ⟨fun _ _ _ _ _ _ hf => (by have hf : (none : Option (Int32 × gS)) = some (r, σ') := hf; cases hf), fun _ _ _ _ _ _ hf => (by have hf : (none : Option (Int32 × gS)) = some (r, σ') := hf; cases hf)⟩
    | succ t ih =>
      obtain ⟨ih0, ih1⟩ := ih
      refine ⟨?_, ?_⟩
      · intro x1 x2 σ0 H locs ls hf hP hD hS hl
        have hf : B_A_match_0 (R_A_match t) x1 x2 σ0 = some (r, σ') := hf
        unfold B_A_match_0 at hf
        refine lv_aload_n hx hb d_A_match_0 rfl (lv_at hl 0 rfl) ?_
        refine va_get (D := X) (ci := 4) (C := R_A) (T := T_A) (N := 5) hx hb hts u_0 hown hK hP 13 gc_13 rfl 1 (by decide) k_0 (fun _ h9 => h9) rfl d_A_match_1 ?_
        refine lv_iload_n hx hb d_A_match_4 rfl (lv_at hl 1 rfl) ?_
        obtain ⟨y1, h2, e3, hf⟩ := gLd_e hf
        refine va_iald hx hb hK hP 14 0 gc_14 rfl h2 d_A_match_5 ?_
        rw [← e3]
        refine lv_iconst (v := (-1)) hx hb d_A_match_6 (by decide) ?_
        refine lv_icmp_ne (tgt := 56) hx hb d_A_match_7 rfl (fun c4 => ?_) (fun c4 => ?_)
        · skip
          rw [if_neg c4] at hf
          exact ih1 (x1) (x2) σ0 _ _ _ hf hP hD hS (lv_sub hl [0, 1, 2] rfl)
        rw [if_pos c4] at hf
        refine lv_aload_n hx hb d_A_match_10 rfl (lv_at hl 0 rfl) ?_
        refine va_get (D := X) (ci := 4) (C := R_A) (T := T_A) (N := 5) hx hb hts u_0 hown hK hP 13 gc_13 rfl 2 (by decide) k_1 (fun _ h9 => h9) rfl d_A_match_11 ?_
        refine lv_iload_n hx hb d_A_match_14 rfl (lv_at hl 2 rfl) ?_
        obtain ⟨y5, h6, e7, hf⟩ := gLd_e hf
        refine va_iald hx hb hK hP 15 0 gc_15 rfl h6 d_A_match_15 ?_
        rw [← e7]
        refine lv_iconst (v := (-1)) hx hb d_A_match_16 (by decide) ?_
        refine lv_icmp_ne (tgt := 56) hx hb d_A_match_17 rfl (fun c8 => ?_) (fun c8 => ?_)
        · skip
          rw [if_neg c8] at hf
          exact ih1 (x1) (x2) σ0 _ _ _ hf hP hD hS (lv_sub hl [0, 1, 2] rfl)
        rw [if_pos c8] at hf
        refine lv_aload_n hx hb d_A_match_20 rfl (lv_at hl 0 rfl) ?_
        refine va_get (D := X) (ci := 4) (C := R_A) (T := T_A) (N := 5) hx hb hts u_0 hown hK hP 13 gc_13 rfl 1 (by decide) k_0 (fun _ h9 => h9) rfl d_A_match_21 ?_
        refine lv_iload_n hx hb d_A_match_24 rfl (lv_at hl 1 rfl) ?_
        refine lv_iload_n hx hb d_A_match_25 rfl (lv_at hl 2 rfl) ?_
        obtain ⟨σ9, h10, e11, hf⟩ := gSt_e hf
        refine va_iast hx hb hK hP hD hS 14 0 gc_14 rfl h10 d_A_match_26 (fun H locs hP hD hS => ?_)
        rw [sc_14, ← e11] at hP hD
        refine lv_aload_n hx hb d_A_match_27 rfl (lv_at hl 0 rfl) ?_
        refine va_get (D := X) (ci := 4) (C := R_A) (T := T_A) (N := 5) hx hb hts u_0 hown hK hP 13 gc_13 rfl 2 (by decide) k_1 (fun _ h9 => h9) rfl d_A_match_28 ?_
        refine lv_iload_n hx hb d_A_match_31 rfl (lv_at hl 2 rfl) ?_
        refine lv_iload_n hx hb d_A_match_32 rfl (lv_at hl 1 rfl) ?_
        obtain ⟨σ12, h13, e14, hf⟩ := gSt_e hf
        refine va_iast hx hb hK hP hD hS 15 0 gc_15 rfl h13 d_A_match_33 (fun H locs hP hD hS => ?_)
        rw [sc_15, ← e14] at hP hD
        refine lv_aload_n hx hb d_A_match_34 rfl (lv_at hl 0 rfl) ?_
        refine va_get (D := X) (ci := 4) (C := R_A) (T := T_A) (N := 5) hx hb hts u_0 hown hK hP 13 gc_13 rfl 3 (by decide) k_2 (fun _ h9 => h9) rfl d_A_match_35 ?_
        refine lv_aload_n hx hb d_A_match_38 rfl (lv_at hl 0 rfl) ?_
        refine va_get (D := X) (ci := 4) (C := R_A) (T := T_A) (N := 5) hx hb hts u_0 hown hK hP 13 gc_13 rfl 4 (by decide) k_3 (fun _ h9 => h9) rfl d_A_match_39 ?_
        refine lv_iload_n hx hb d_A_match_42 rfl (lv_at hl 1 rfl) ?_
        obtain ⟨σ15, h16, e17, hf⟩ := gSt_e hf
        refine va_iast hx hb hK hP hD hS 16 0 gc_16 rfl h16 d_A_match_43 (fun H locs hP hD hS => ?_)
        rw [sc_16, ← e17] at hP hD
        refine lv_aload_n hx hb d_A_match_44 rfl (lv_at hl 0 rfl) ?_
        refine lv_dup hx hb d_A_match_45 rfl ?_
        refine va_get (D := X) (ci := 4) (C := R_A) (T := T_A) (N := 5) hx hb hts u_0 hown hK hP 13 gc_13 rfl 4 (by decide) k_3 (fun _ h9 => h9) rfl d_A_match_46 ?_
        refine lv_iconst (v := 1) hx hb d_A_match_49 (by decide) ?_
        refine lv_iadd hx hb d_A_match_50 ?_
        obtain ⟨σ18, e19, hf⟩ := gPut_e hf
        refine va_put (D := X) (ci := 4) (ty := .int) (C := R_A) (T := T_A) (N := 5) hx hb hts u_0 t_A t_A_ok n_A hown hK hP hD hS 13 gc_13 rfl 4 (by decide) k_3 (fun _ h9 => h9) rfl (by decide +kernel) rfl rfl (Nat.le_of_ble_eq_true rfl) d_A_match_51 (fun H locs hP hD hS => ?_)
        rw [sc_13_4, ← e19] at hP hD
        refine lv_iconst (v := 1) hx hb d_A_match_54 (by decide) ?_
        obtain ⟨rfl, rfl⟩ := gRt_e hf
        exact g_zret hx hb hr hlocks rfl hAe hS () rfl hP d_A_match_55
      · intro x1 x2 σ0 H locs ls hf hP hD hS hl
        have hf : B_A_match_1 (R_A_match t) x1 x2 σ0 = some (r, σ') := hf
        unfold B_A_match_1 at hf
        refine lv_aload_n hx hb d_A_match_56 rfl (lv_at hl 0 rfl) ?_
        refine va_get (D := X) (ci := 4) (C := R_A) (T := T_A) (N := 5) hx hb hts u_0 hown hK hP 13 gc_13 rfl 1 (by decide) k_0 (fun _ h9 => h9) rfl d_A_match_57 ?_
        refine lv_iload_n hx hb d_A_match_60 rfl (lv_at hl 1 rfl) ?_
        obtain ⟨y20, h21, e22, hf⟩ := gLd_e hf
        refine va_iald hx hb hK hP 14 0 gc_14 rfl h21 d_A_match_61 ?_
        rw [← e22]
        refine lv_iload_n hx hb d_A_match_62 rfl (lv_at hl 2 rfl) ?_
        refine lv_icmp_ne (tgt := 70) hx hb d_A_match_63 rfl (fun c23 => ?_) (fun c23 => ?_)
        · skip
          rw [if_neg c23] at hf
          refine lv_iconst (v := 0) hx hb d_A_match_70 (by decide) ?_
          obtain ⟨rfl, rfl⟩ := gRt_e hf
          exact g_zret hx hb hr hlocks rfl hAe hS () rfl hP d_A_match_71
        rw [if_pos c23] at hf
        refine lv_iconst (v := 1) hx hb d_A_match_66 (by decide) ?_
        refine lv_goto (tgt := 71) hx hb d_A_match_67 rfl ?_
        obtain ⟨rfl, rfl⟩ := gRt_e hf
        exact g_zret hx hb hr hlocks rfl hAe hS () rfl hP d_A_match_71
  exact (key gFuel).1 q1 q2 σ _ _ _ hf hP hD hS hl

def B_A_haveSameCharacters_0 (rec : Nat → List Int32 → gS → Option (Int32 × gS)) (x1 : Int32) (x2 : Int32) (σ0 : gS) : Option (Int32 × gS) := rec 1 [x1, x2, 0] σ0
def B_A_haveSameCharacters_1 (rec : Nat → List Int32 → gS → Option (Int32 × gS)) (x1 : Int32) (x2 : Int32) (x3 : Int32) (σ0 : gS) : Option (Int32 × gS) := if 6 ≤ x3 then (some (1, σ0)) else (gLd σ0 3 16 x1 (fun y2 => if y2 ≤ x3 then (some (1, σ0)) else (gBd (f_G_characterOf σ0 x1 x3) (fun y6 σ7 => gBd (f_G_characterOf σ7 x2 x3) (fun y9 σ10 => if y6 = y9 then (rec 1 [x1, x2, (x3 + 1)] σ10) else (some (0, σ10)))))))
def S_A_haveSameCharacters (rec : Nat → List Int32 → gS → Option (Int32 × gS)) (k : Nat) (l : List Int32) (σ0 : gS) : Option (Int32 × gS) := match k, l with
  | 0, [x1, x2] => B_A_haveSameCharacters_0 rec x1 x2 σ0
  | 1, [x1, x2, x3] => B_A_haveSameCharacters_1 rec x1 x2 x3 σ0
  | _, _ => none
def R_A_haveSameCharacters : Nat → Nat → List Int32 → gS → Option (Int32 × gS)
  | 0 => fun _ _ _ => none
  | t + 1 => fun k l σ0 => S_A_haveSameCharacters (R_A_haveSameCharacters t) k l σ0
def f_A_haveSameCharacters (σ : gS) (x1 : Int32) (x2 : Int32) : Option (Int32 × gS) := R_A_haveSameCharacters gFuel 0 [x1, x2] σ
set_option maxHeartbeats 4000000 in
set_option maxRecDepth 100000 in
theorem m_A_haveSameCharacters {l : Launch} {X : va_G} {cI cC cZ : ClassId} {aK aV : Nat → Nat} {a : Nat → Nat} {σ σ' : gS} {r : Int32} {q1 : Int32} {q2 : Int32} (hf : f_A_haveSameCharacters σ q1 q2 = some (r, σ')) {sz : Nat} : Met l y_A_haveSameCharacters w_A_haveSameCharacters { frames := 1, cells := 0, slots := 0, locals := 22 } (gPc X vwCl (gT cI cC cZ) aK aV (cW cI cC cZ a σ) sz [.ref (a 13), .int q1, .int q2]) (gQi X vwCl (cW cI cC cZ a σ) sz (fun r' (_ : Unit) => r' = r) (fun _ => cW cI cC cZ a σ')) 0 0 (va_A (cW cI cC cZ a σ) sz) := by
  refine g_met (cc := b_A_haveSameCharacters) (maxL := 4) (ret := (some .boolean)) (by decide) rfl (Nat.le_of_ble_eq_true rfl) ?_
  intro p e s m below meth c A ls hx hb hr hml hown hts hlocks hnm hsz hAe hA hP hK hD hS hl hE
  have hown : s.vm.findClass R_A = some m.cls := hown
  have u_0 : ∀ w ∈ u_ws R_A T_A 5, w ∈ w_A_haveSameCharacters := fun w h => List.mem_cons_of_mem _ (tu_A w h)
  have u_1 : ∀ w ∈ u_ws R_G T_G 6, w ∈ w_A_haveSameCharacters := fun w h => List.mem_cons_of_mem _ (tu_G w h)
  have k_0 := hts (.fieldLink R_A 21 "GraphPages$Matching" "graph" "LGraphPages$Graph;") (List.mem_cons_of_mem _ tb_233)
  have k_1 := hts (.fieldLink R_A 47 "GraphPages$Graph" "sizes" "[I") (List.mem_cons_of_mem _ tb_234)
  unfold f_A_haveSameCharacters at hf
  have key : ∀ t : Nat, (∀ (x1 : Int32) (x2 : Int32) (σ0 : gS) (H : Heap) (locs : List Loc) (ls : Array Slot), R_A_haveSameCharacters t 0 [x1, x2] σ0 = some (r, σ') → va_P X vwCl (cW cI cC cZ a σ0) H → va_D A (cW cI cC cZ a σ0) → va_S A s.heap H locs → lv_has ls 4 [(0, .ref (a 13)), (1, .int x1), (2, .int x2)] → W p l e (headSpec w_A_haveSameCharacters { frames := 1, cells := 0, slots := 0, locals := 22 }).room s m [.ref (a 13), .int q1, .int q2].toArray below meth c H locs 0 0 (MQ below (gQi X vwCl (cW cI cC cZ a σ) sz (fun r' (_ : Unit) => r' = r) (fun _ => cW cI cC cZ a σ')) [.ref (a 13), .int q1, .int q2].toArray s 0 0 (va_A (cW cI cC cZ a σ) sz)) (F0 m 0 ls [])) ∧ (∀ (x1 : Int32) (x2 : Int32) (x3 : Int32) (σ0 : gS) (H : Heap) (locs : List Loc) (ls : Array Slot), R_A_haveSameCharacters t 1 [x1, x2, x3] σ0 = some (r, σ') → va_P X vwCl (cW cI cC cZ a σ0) H → va_D A (cW cI cC cZ a σ0) → va_S A s.heap H locs → lv_has ls 4 [(0, .ref (a 13)), (1, .int x1), (2, .int x2), (3, .int x3)] → W p l e (headSpec w_A_haveSameCharacters { frames := 1, cells := 0, slots := 0, locals := 22 }).room s m [.ref (a 13), .int q1, .int q2].toArray below meth c H locs 0 0 (MQ below (gQi X vwCl (cW cI cC cZ a σ) sz (fun r' (_ : Unit) => r' = r) (fun _ => cW cI cC cZ a σ')) [.ref (a 13), .int q1, .int q2].toArray s 0 0 (va_A (cW cI cC cZ a σ) sz)) (F0 m 2 ls [])) := by
    intro t
    induction t with
    | zero => exact ⟨fun _ _ _ _ _ _ hf => (by have hf : (none : Option (Int32 × gS)) = some (r, σ') := hf; cases hf), fun _ _ _ _ _ _ _ hf => (by have hf : (none : Option (Int32 × gS)) = some (r, σ') := hf; cases hf)⟩
    | succ t ih =>
      obtain ⟨ih0, ih1⟩ := ih
      refine ⟨?_, ?_⟩
      · intro x1 x2 σ0 H locs ls hf hP hD hS hl
        have hf : B_A_haveSameCharacters_0 (R_A_haveSameCharacters t) x1 x2 σ0 = some (r, σ') := hf
        unfold B_A_haveSameCharacters_0 at hf
        refine lv_iconst (v := 0) hx hb d_A_haveSameCharacters_0 (by decide) ?_
        refine lv_istore_n hx hb d_A_haveSameCharacters_1 rfl hl (by decide) rfl (fun ls hl => ?_)
        exact ih1 (x1) (x2) (0) σ0 _ _ _ hf hP hD hS (lv_sub hl [1, 2, 3, 0] rfl)
      · intro x1 x2 x3 σ0 H locs ls hf hP hD hS hl
        have hf : B_A_haveSameCharacters_1 (R_A_haveSameCharacters t) x1 x2 x3 σ0 = some (r, σ') := hf
        unfold B_A_haveSameCharacters_1 at hf
        refine lv_iload_n hx hb d_A_haveSameCharacters_2 rfl (lv_at hl 3 rfl) ?_
        refine lv_bipush (v := 6) hx hb d_A_haveSameCharacters_3 (by decide) ?_
        refine lv_icmp_ge (tgt := 50) hx hb d_A_haveSameCharacters_5 rfl (fun c1 => ?_) (fun c1 => ?_)
        · skip
          rw [if_pos c1] at hf
          refine lv_iconst (v := 1) hx hb d_A_haveSameCharacters_50 (by decide) ?_
          obtain ⟨rfl, rfl⟩ := gRt_e hf
          exact g_zret hx hb hr hlocks rfl hAe hS () rfl hP d_A_haveSameCharacters_51
        rw [if_neg c1] at hf
        refine lv_iload_n hx hb d_A_haveSameCharacters_8 rfl (lv_at hl 3 rfl) ?_
        refine lv_aload_n hx hb d_A_haveSameCharacters_9 rfl (lv_at hl 0 rfl) ?_
        refine va_get (D := X) (ci := 4) (C := R_A) (T := T_A) (N := 5) hx hb hts u_0 hown hK hP 13 gc_13 rfl 0 (by decide) k_0 (fun _ h9 => h9) rfl d_A_haveSameCharacters_10 ?_
        refine va_get (D := X) (ci := 2) (C := R_G) (T := T_G) (N := 6) hx hb hts u_1 hown hK hP 1 gc_1 rfl 2 (by decide) k_1 (fun _ h9 => h9) rfl d_A_haveSameCharacters_13 ?_
        refine lv_iload_n hx hb d_A_haveSameCharacters_16 rfl (lv_at hl 1 rfl) ?_
        obtain ⟨y2, h3, e4, hf⟩ := gLd_e hf
        refine va_iald hx hb hK hP 3 0 gc_3 rfl h3 d_A_haveSameCharacters_17 ?_
        rw [← e4]
        refine lv_icmp_ge (tgt := 50) hx hb d_A_haveSameCharacters_18 rfl (fun c5 => ?_) (fun c5 => ?_)
        · skip
          rw [if_pos c5] at hf
          refine lv_iconst (v := 1) hx hb d_A_haveSameCharacters_50 (by decide) ?_
          obtain ⟨rfl, rfl⟩ := gRt_e hf
          exact g_zret hx hb hr hlocks rfl hAe hS () rfl hP d_A_haveSameCharacters_51
        rw [if_neg c5] at hf
        refine lv_aload_n hx hb d_A_haveSameCharacters_21 rfl (lv_at hl 0 rfl) ?_
        refine va_get (D := X) (ci := 4) (C := R_A) (T := T_A) (N := 5) hx hb hts u_0 hown hK hP 13 gc_13 rfl 0 (by decide) k_0 (fun _ h9 => h9) rfl d_A_haveSameCharacters_22 ?_
        refine lv_iload_n hx hb d_A_haveSameCharacters_25 rfl (lv_at hl 1 rfl) ?_
        refine lv_iload_n hx hb d_A_haveSameCharacters_26 rfl (lv_at hl 3 rfl) ?_
        obtain ⟨y6, σ7, e8, hf⟩ := gBd_e hf
        refine g_wi (va_runV ⟨hx, hb, hml, hown, hts⟩ (m_G_characterOf e8) (cwV 2 hts (gG4 (fun _ h => List.mem_cons_of_mem _ h) tb_230 tb_231 tb_232 tb_116 tc_G_characterOf) rfl rfl rfl (by decide +kernel) ⟨Nat.le_of_ble_eq_true rfl, Nat.le_of_ble_eq_true rfl⟩) (g_preVW (q0 := 1) hE hK hP hD hS hA gc_1 rfl) rfl rfl hl.1 rfl (lv_room (Nat.le_of_ble_eq_true rfl)) d_A_haveSameCharacters_27 ⟨Nat.zero_le _, Nat.zero_le _⟩) hD hS hA (fun _ => cW_fst) (fun y6 _ H locs hu hP hD hS => ?_)
        subst hu
        refine lv_aload_n hx hb d_A_haveSameCharacters_30 rfl (lv_at hl 0 rfl) ?_
        refine va_get (D := X) (ci := 4) (C := R_A) (T := T_A) (N := 5) hx hb hts u_0 hown hK hP 13 gc_13 rfl 0 (by decide) k_0 (fun _ h9 => h9) rfl d_A_haveSameCharacters_31 ?_
        refine lv_iload_n hx hb d_A_haveSameCharacters_34 rfl (lv_at hl 2 rfl) ?_
        refine lv_iload_n hx hb d_A_haveSameCharacters_35 rfl (lv_at hl 3 rfl) ?_
        obtain ⟨y9, σ10, e11, hf⟩ := gBd_e hf
        refine g_wi (va_runV ⟨hx, hb, hml, hown, hts⟩ (m_G_characterOf e11) (cwV 2 hts (gG4 (fun _ h => List.mem_cons_of_mem _ h) tb_230 tb_231 tb_232 tb_116 tc_G_characterOf) rfl rfl rfl (by decide +kernel) ⟨Nat.le_of_ble_eq_true rfl, Nat.le_of_ble_eq_true rfl⟩) (g_preVW (q0 := 1) hE hK hP hD hS hA gc_1 rfl) rfl rfl hl.1 rfl (lv_room (Nat.le_of_ble_eq_true rfl)) d_A_haveSameCharacters_36 ⟨Nat.zero_le _, Nat.zero_le _⟩) hD hS hA (fun _ => cW_fst) (fun y9 _ H locs hu hP hD hS => ?_)
        subst hu
        refine lv_icmp_eq (tgt := 44) hx hb d_A_haveSameCharacters_39 rfl (fun c12 => ?_) (fun c12 => ?_)
        · skip
          rw [if_pos c12] at hf
          refine lv_iinc (k := 3) (v := (x3 + 1)) hx hb d_A_haveSameCharacters_44 hl rfl (by rw [show Int32.ofInt (1) = (1 : Int32) by decide]) (by decide) rfl (fun ls hl => ?_)
          refine lv_goto (tgt := 2) hx hb d_A_haveSameCharacters_47 rfl ?_
          exact ih1 (x1) (x2) ((x3 + 1)) σ10 _ _ _ hf hP hD hS (lv_sub hl [1, 2, 3, 0] rfl)
        rw [if_neg c12] at hf
        refine lv_iconst (v := 0) hx hb d_A_haveSameCharacters_42 (by decide) ?_
        obtain ⟨rfl, rfl⟩ := gRt_e hf
        exact g_zret hx hb hr hlocks rfl hAe hS () rfl hP d_A_haveSameCharacters_43
  exact (key gFuel).1 q1 q2 σ _ _ _ hf hP hD hS hl

def f_A_haveSameSlot (σ : gS) (x1 : Int32) (x2 : Int32) (x3 : Int32) : Option (Int32 × gS) := gBd (f_G_contentOf σ x1 x3) (fun y1 σ2 => gBd (f_G_contentOf σ2 x2 x3) (fun y4 σ5 => if y1 = y4 then (gBd (f_G_contentOf σ5 x1 x3) (fun y8 σ9 => if y8 = 2 then (gBd (f_G_valueOf σ9 x1 x3) (fun y19 σ20 => gBd (f_G_valueOf σ20 x2 x3) (fun y22 σ23 => gBd (f_A_match σ23 y19 y22) (fun y25 σ26 => gNr .boolean y25 (some (y25, σ26)))))) else (gBd (f_G_valueOf σ9 x1 x3) (fun y12 σ13 => gBd (f_G_valueOf σ13 x2 x3) (fun y15 σ16 => if y12 = y15 then (some (1, σ16)) else (some (0, σ16))))))) else (some (0, σ5))))
set_option maxHeartbeats 4000000 in
set_option maxRecDepth 100000 in
theorem m_A_haveSameSlot {l : Launch} {X : va_G} {cI cC cZ : ClassId} {aK aV : Nat → Nat} {a : Nat → Nat} {σ σ' : gS} {r : Int32} {x1 : Int32} {x2 : Int32} {x3 : Int32} (hf : f_A_haveSameSlot σ x1 x2 x3 = some (r, σ')) {sz : Nat} : Met l y_A_haveSameSlot w_A_haveSameSlot { frames := 1, cells := 0, slots := 0, locals := 22 } (gPc X vwCl (gT cI cC cZ) aK aV (cW cI cC cZ a σ) sz [.ref (a 13), .int x1, .int x2, .int x3]) (gQi X vwCl (cW cI cC cZ a σ) sz (fun r' (_ : Unit) => r' = r) (fun _ => cW cI cC cZ a σ')) 0 0 (va_A (cW cI cC cZ a σ) sz) := by
  refine g_met (cc := b_A_haveSameSlot) (maxL := 4) (ret := (some .boolean)) (by decide) rfl (Nat.le_of_ble_eq_true rfl) ?_
  intro p e s m below meth c A ls hx hb hr hml hown hts hlocks hnm hsz hAe hA hP hK hD hS hl hE
  have hown : s.vm.findClass R_A = some m.cls := hown
  have u_0 : ∀ w ∈ u_ws R_A T_A 5, w ∈ w_A_haveSameSlot := fun w h => List.mem_cons_of_mem _ (tu_A w h)
  have k_0 := hts (.fieldLink R_A 21 "GraphPages$Matching" "graph" "LGraphPages$Graph;") (List.mem_cons_of_mem _ tb_233)
  unfold f_A_haveSameSlot at hf
  refine lv_aload_n hx hb d_A_haveSameSlot_0 rfl (lv_at hl 0 rfl) ?_
  refine va_get (D := X) (ci := 4) (C := R_A) (T := T_A) (N := 5) hx hb hts u_0 hown hK hP 13 gc_13 rfl 0 (by decide) k_0 (fun _ h9 => h9) rfl d_A_haveSameSlot_1 ?_
  refine lv_iload_n hx hb d_A_haveSameSlot_4 rfl (lv_at hl 1 rfl) ?_
  refine lv_iload_n hx hb d_A_haveSameSlot_5 rfl (lv_at hl 3 rfl) ?_
  obtain ⟨y1, σ2, e3, hf⟩ := gBd_e hf
  refine g_wi (va_runV ⟨hx, hb, hml, hown, hts⟩ (m_G_contentOf e3) (cwV 2 hts (gG4 (fun _ h => List.mem_cons_of_mem _ h) tb_235 tb_236 tb_237 tb_116 tc_G_contentOf) rfl rfl rfl (by decide +kernel) ⟨Nat.le_of_ble_eq_true rfl, Nat.le_of_ble_eq_true rfl⟩) (g_preVW (q0 := 1) hE hK hP hD hS hA gc_1 rfl) rfl rfl hl.1 rfl (lv_room (Nat.le_of_ble_eq_true rfl)) d_A_haveSameSlot_6 ⟨Nat.zero_le _, Nat.zero_le _⟩) hD hS hA (fun _ => cW_fst) (fun y1 _ H locs hu hP hD hS => ?_)
  subst hu
  refine lv_aload_n hx hb d_A_haveSameSlot_9 rfl (lv_at hl 0 rfl) ?_
  refine va_get (D := X) (ci := 4) (C := R_A) (T := T_A) (N := 5) hx hb hts u_0 hown hK hP 13 gc_13 rfl 0 (by decide) k_0 (fun _ h9 => h9) rfl d_A_haveSameSlot_10 ?_
  refine lv_iload_n hx hb d_A_haveSameSlot_13 rfl (lv_at hl 2 rfl) ?_
  refine lv_iload_n hx hb d_A_haveSameSlot_14 rfl (lv_at hl 3 rfl) ?_
  obtain ⟨y4, σ5, e6, hf⟩ := gBd_e hf
  refine g_wi (va_runV ⟨hx, hb, hml, hown, hts⟩ (m_G_contentOf e6) (cwV 2 hts (gG4 (fun _ h => List.mem_cons_of_mem _ h) tb_235 tb_236 tb_237 tb_116 tc_G_contentOf) rfl rfl rfl (by decide +kernel) ⟨Nat.le_of_ble_eq_true rfl, Nat.le_of_ble_eq_true rfl⟩) (g_preVW (q0 := 1) hE hK hP hD hS hA gc_1 rfl) rfl rfl hl.1 rfl (lv_room (Nat.le_of_ble_eq_true rfl)) d_A_haveSameSlot_15 ⟨Nat.zero_le _, Nat.zero_le _⟩) hD hS hA (fun _ => cW_fst) (fun y4 _ H locs hu hP hD hS => ?_)
  subst hu
  refine lv_icmp_eq (tgt := 23) hx hb d_A_haveSameSlot_18 rfl (fun c7 => ?_) (fun c7 => ?_)
  · skip
    rw [if_pos c7] at hf
    refine lv_aload_n hx hb d_A_haveSameSlot_23 rfl (lv_at hl 0 rfl) ?_
    refine va_get (D := X) (ci := 4) (C := R_A) (T := T_A) (N := 5) hx hb hts u_0 hown hK hP 13 gc_13 rfl 0 (by decide) k_0 (fun _ h9 => h9) rfl d_A_haveSameSlot_24 ?_
    refine lv_iload_n hx hb d_A_haveSameSlot_27 rfl (lv_at hl 1 rfl) ?_
    refine lv_iload_n hx hb d_A_haveSameSlot_28 rfl (lv_at hl 3 rfl) ?_
    obtain ⟨y8, σ9, e10, hf⟩ := gBd_e hf
    refine g_wi (va_runV ⟨hx, hb, hml, hown, hts⟩ (m_G_contentOf e10) (cwV 2 hts (gG4 (fun _ h => List.mem_cons_of_mem _ h) tb_235 tb_236 tb_237 tb_116 tc_G_contentOf) rfl rfl rfl (by decide +kernel) ⟨Nat.le_of_ble_eq_true rfl, Nat.le_of_ble_eq_true rfl⟩) (g_preVW (q0 := 1) hE hK hP hD hS hA gc_1 rfl) rfl rfl hl.1 rfl (lv_room (Nat.le_of_ble_eq_true rfl)) d_A_haveSameSlot_29 ⟨Nat.zero_le _, Nat.zero_le _⟩) hD hS hA (fun _ => cW_fst) (fun y8 _ H locs hu hP hD hS => ?_)
    subst hu
    refine lv_iconst (v := 2) hx hb d_A_haveSameSlot_32 (by decide) ?_
    refine lv_icmp_ne (tgt := 59) hx hb d_A_haveSameSlot_33 rfl (fun c11 => ?_) (fun c11 => ?_)
    · skip
      rw [if_neg c11] at hf
      refine lv_aload_n hx hb d_A_haveSameSlot_59 rfl (lv_at hl 0 rfl) ?_
      refine va_get (D := X) (ci := 4) (C := R_A) (T := T_A) (N := 5) hx hb hts u_0 hown hK hP 13 gc_13 rfl 0 (by decide) k_0 (fun _ h9 => h9) rfl d_A_haveSameSlot_60 ?_
      refine lv_iload_n hx hb d_A_haveSameSlot_63 rfl (lv_at hl 1 rfl) ?_
      refine lv_iload_n hx hb d_A_haveSameSlot_64 rfl (lv_at hl 3 rfl) ?_
      obtain ⟨y12, σ13, e14, hf⟩ := gBd_e hf
      refine g_wi (va_runV ⟨hx, hb, hml, hown, hts⟩ (m_G_valueOf e14) (cwV 2 hts (gG4 (fun _ h => List.mem_cons_of_mem _ h) tb_238 tb_239 tb_240 tb_116 tc_G_valueOf) rfl rfl rfl (by decide +kernel) ⟨Nat.le_of_ble_eq_true rfl, Nat.le_of_ble_eq_true rfl⟩) (g_preVW (q0 := 1) hE hK hP hD hS hA gc_1 rfl) rfl rfl hl.1 rfl (lv_room (Nat.le_of_ble_eq_true rfl)) d_A_haveSameSlot_65 ⟨Nat.zero_le _, Nat.zero_le _⟩) hD hS hA (fun _ => cW_fst) (fun y12 _ H locs hu hP hD hS => ?_)
      subst hu
      refine lv_aload_n hx hb d_A_haveSameSlot_68 rfl (lv_at hl 0 rfl) ?_
      refine va_get (D := X) (ci := 4) (C := R_A) (T := T_A) (N := 5) hx hb hts u_0 hown hK hP 13 gc_13 rfl 0 (by decide) k_0 (fun _ h9 => h9) rfl d_A_haveSameSlot_69 ?_
      refine lv_iload_n hx hb d_A_haveSameSlot_72 rfl (lv_at hl 2 rfl) ?_
      refine lv_iload_n hx hb d_A_haveSameSlot_73 rfl (lv_at hl 3 rfl) ?_
      obtain ⟨y15, σ16, e17, hf⟩ := gBd_e hf
      refine g_wi (va_runV ⟨hx, hb, hml, hown, hts⟩ (m_G_valueOf e17) (cwV 2 hts (gG4 (fun _ h => List.mem_cons_of_mem _ h) tb_238 tb_239 tb_240 tb_116 tc_G_valueOf) rfl rfl rfl (by decide +kernel) ⟨Nat.le_of_ble_eq_true rfl, Nat.le_of_ble_eq_true rfl⟩) (g_preVW (q0 := 1) hE hK hP hD hS hA gc_1 rfl) rfl rfl hl.1 rfl (lv_room (Nat.le_of_ble_eq_true rfl)) d_A_haveSameSlot_74 ⟨Nat.zero_le _, Nat.zero_le _⟩) hD hS hA (fun _ => cW_fst) (fun y15 _ H locs hu hP hD hS => ?_)
      subst hu
      refine lv_icmp_ne (tgt := 84) hx hb d_A_haveSameSlot_77 rfl (fun c18 => ?_) (fun c18 => ?_)
      · skip
        rw [if_neg c18] at hf
        refine lv_iconst (v := 0) hx hb d_A_haveSameSlot_84 (by decide) ?_
        obtain ⟨rfl, rfl⟩ := gRt_e hf
        exact g_zret hx hb hr hlocks rfl hAe hS () rfl hP d_A_haveSameSlot_85
      rw [if_pos c18] at hf
      refine lv_iconst (v := 1) hx hb d_A_haveSameSlot_80 (by decide) ?_
      refine lv_goto (tgt := 85) hx hb d_A_haveSameSlot_81 rfl ?_
      obtain ⟨rfl, rfl⟩ := gRt_e hf
      exact g_zret hx hb hr hlocks rfl hAe hS () rfl hP d_A_haveSameSlot_85
    rw [if_pos c11] at hf
    refine lv_aload_n hx hb d_A_haveSameSlot_36 rfl (lv_at hl 0 rfl) ?_
    refine lv_aload_n hx hb d_A_haveSameSlot_37 rfl (lv_at hl 0 rfl) ?_
    refine va_get (D := X) (ci := 4) (C := R_A) (T := T_A) (N := 5) hx hb hts u_0 hown hK hP 13 gc_13 rfl 0 (by decide) k_0 (fun _ h9 => h9) rfl d_A_haveSameSlot_38 ?_
    refine lv_iload_n hx hb d_A_haveSameSlot_41 rfl (lv_at hl 1 rfl) ?_
    refine lv_iload_n hx hb d_A_haveSameSlot_42 rfl (lv_at hl 3 rfl) ?_
    obtain ⟨y19, σ20, e21, hf⟩ := gBd_e hf
    refine g_wi (va_runV ⟨hx, hb, hml, hown, hts⟩ (m_G_valueOf e21) (cwV 2 hts (gG4 (fun _ h => List.mem_cons_of_mem _ h) tb_238 tb_239 tb_240 tb_116 tc_G_valueOf) rfl rfl rfl (by decide +kernel) ⟨Nat.le_of_ble_eq_true rfl, Nat.le_of_ble_eq_true rfl⟩) (g_preVW (q0 := 1) hE hK hP hD hS hA gc_1 rfl) rfl rfl hl.1 rfl (lv_room (Nat.le_of_ble_eq_true rfl)) d_A_haveSameSlot_43 ⟨Nat.zero_le _, Nat.zero_le _⟩) hD hS hA (fun _ => cW_fst) (fun y19 _ H locs hu hP hD hS => ?_)
    subst hu
    refine lv_aload_n hx hb d_A_haveSameSlot_46 rfl (lv_at hl 0 rfl) ?_
    refine va_get (D := X) (ci := 4) (C := R_A) (T := T_A) (N := 5) hx hb hts u_0 hown hK hP 13 gc_13 rfl 0 (by decide) k_0 (fun _ h9 => h9) rfl d_A_haveSameSlot_47 ?_
    refine lv_iload_n hx hb d_A_haveSameSlot_50 rfl (lv_at hl 2 rfl) ?_
    refine lv_iload_n hx hb d_A_haveSameSlot_51 rfl (lv_at hl 3 rfl) ?_
    obtain ⟨y22, σ23, e24, hf⟩ := gBd_e hf
    refine g_wi (va_runV ⟨hx, hb, hml, hown, hts⟩ (m_G_valueOf e24) (cwV 2 hts (gG4 (fun _ h => List.mem_cons_of_mem _ h) tb_238 tb_239 tb_240 tb_116 tc_G_valueOf) rfl rfl rfl (by decide +kernel) ⟨Nat.le_of_ble_eq_true rfl, Nat.le_of_ble_eq_true rfl⟩) (g_preVW (q0 := 1) hE hK hP hD hS hA gc_1 rfl) rfl rfl hl.1 rfl (lv_room (Nat.le_of_ble_eq_true rfl)) d_A_haveSameSlot_52 ⟨Nat.zero_le _, Nat.zero_le _⟩) hD hS hA (fun _ => cW_fst) (fun y22 _ H locs hu hP hD hS => ?_)
    subst hu
    obtain ⟨y25, σ26, e27, hf⟩ := gBd_e hf
    refine g_wi (va_runV ⟨hx, hb, hml, hown, hts⟩ (m_A_match e27) (cwV 2 hts (gG4 (fun _ h => List.mem_cons_of_mem _ h) tb_241 tb_242 tb_243 tb_244 tc_A_match) rfl rfl rfl (by decide +kernel) ⟨Nat.le_of_ble_eq_true rfl, Nat.le_of_ble_eq_true rfl⟩) (g_preVW (q0 := 13) hE hK hP hD hS hA gc_13 rfl) rfl rfl hl.1 rfl (lv_room (Nat.le_of_ble_eq_true rfl)) d_A_haveSameSlot_55 ⟨Nat.zero_le _, Nat.zero_le _⟩) hD hS hA (fun _ => cW_fst) (fun y25 _ H locs hu hP hD hS => ?_)
    subst hu
    obtain ⟨h28, hf⟩ := gNr_e hf
    obtain ⟨rfl, rfl⟩ := gRt_e hf
    exact g_zret hx hb hr hlocks h28 hAe hS () rfl hP d_A_haveSameSlot_58
  rw [if_neg c7] at hf
  refine lv_iconst (v := 0) hx hb d_A_haveSameSlot_21 (by decide) ?_
  obtain ⟨rfl, rfl⟩ := gRt_e hf
  exact g_zret hx hb hr hlocks rfl hAe hS () rfl hP d_A_haveSameSlot_22

def B_A_haveSameSlots_0 (rec : Nat → List Int32 → gS → Option (Int32 × gS)) (x1 : Int32) (x2 : Int32) (σ0 : gS) : Option (Int32 × gS) := rec 1 [x1, x2, 0] σ0
def B_A_haveSameSlots_1 (rec : Nat → List Int32 → gS → Option (Int32 × gS)) (x1 : Int32) (x2 : Int32) (x3 : Int32) (σ0 : gS) : Option (Int32 × gS) := if 4 ≤ x3 then (some (1, σ0)) else (gLd σ0 3 16 x1 (fun y2 => if y2 ≤ x3 then (some (1, σ0)) else (gBd (f_A_haveSameSlot σ0 x1 x2 x3) (fun y6 σ7 => if y6 = 0 then (some (0, σ7)) else (rec 1 [x1, x2, (x3 + 1)] σ7)))))
def S_A_haveSameSlots (rec : Nat → List Int32 → gS → Option (Int32 × gS)) (k : Nat) (l : List Int32) (σ0 : gS) : Option (Int32 × gS) := match k, l with
  | 0, [x1, x2] => B_A_haveSameSlots_0 rec x1 x2 σ0
  | 1, [x1, x2, x3] => B_A_haveSameSlots_1 rec x1 x2 x3 σ0
  | _, _ => none
def R_A_haveSameSlots : Nat → Nat → List Int32 → gS → Option (Int32 × gS)
  | 0 => fun _ _ _ => none
  | t + 1 => fun k l σ0 => S_A_haveSameSlots (R_A_haveSameSlots t) k l σ0
def f_A_haveSameSlots (σ : gS) (x1 : Int32) (x2 : Int32) : Option (Int32 × gS) := R_A_haveSameSlots gFuel 0 [x1, x2] σ
set_option maxHeartbeats 4000000 in
set_option maxRecDepth 100000 in
theorem m_A_haveSameSlots {l : Launch} {X : va_G} {cI cC cZ : ClassId} {aK aV : Nat → Nat} {a : Nat → Nat} {σ σ' : gS} {r : Int32} {q1 : Int32} {q2 : Int32} (hf : f_A_haveSameSlots σ q1 q2 = some (r, σ')) {sz : Nat} : Met l y_A_haveSameSlots w_A_haveSameSlots { frames := 2, cells := 0, slots := 0, locals := 45 } (gPc X vwCl (gT cI cC cZ) aK aV (cW cI cC cZ a σ) sz [.ref (a 13), .int q1, .int q2]) (gQi X vwCl (cW cI cC cZ a σ) sz (fun r' (_ : Unit) => r' = r) (fun _ => cW cI cC cZ a σ')) 0 0 (va_A (cW cI cC cZ a σ) sz) := by
  refine g_met (cc := b_A_haveSameSlots) (maxL := 4) (ret := (some .boolean)) (by decide) rfl (Nat.le_of_ble_eq_true rfl) ?_
  intro p e s m below meth c A ls hx hb hr hml hown hts hlocks hnm hsz hAe hA hP hK hD hS hl hE
  have hown : s.vm.findClass R_A = some m.cls := hown
  have u_0 : ∀ w ∈ u_ws R_A T_A 5, w ∈ w_A_haveSameSlots := fun w h => List.mem_cons_of_mem _ (tu_A w h)
  have u_1 : ∀ w ∈ u_ws R_G T_G 6, w ∈ w_A_haveSameSlots := fun w h => List.mem_cons_of_mem _ (tu_G w h)
  have k_0 := hts (.fieldLink R_A 21 "GraphPages$Matching" "graph" "LGraphPages$Graph;") (List.mem_cons_of_mem _ tb_233)
  have k_1 := hts (.fieldLink R_A 47 "GraphPages$Graph" "sizes" "[I") (List.mem_cons_of_mem _ tb_234)
  unfold f_A_haveSameSlots at hf
  have key : ∀ t : Nat, (∀ (x1 : Int32) (x2 : Int32) (σ0 : gS) (H : Heap) (locs : List Loc) (ls : Array Slot), R_A_haveSameSlots t 0 [x1, x2] σ0 = some (r, σ') → va_P X vwCl (cW cI cC cZ a σ0) H → va_D A (cW cI cC cZ a σ0) → va_S A s.heap H locs → lv_has ls 4 [(0, .ref (a 13)), (1, .int x1), (2, .int x2)] → W p l e (headSpec w_A_haveSameSlots { frames := 2, cells := 0, slots := 0, locals := 45 }).room s m [.ref (a 13), .int q1, .int q2].toArray below meth c H locs 0 0 (MQ below (gQi X vwCl (cW cI cC cZ a σ) sz (fun r' (_ : Unit) => r' = r) (fun _ => cW cI cC cZ a σ')) [.ref (a 13), .int q1, .int q2].toArray s 0 0 (va_A (cW cI cC cZ a σ) sz)) (F0 m 0 ls [])) ∧ (∀ (x1 : Int32) (x2 : Int32) (x3 : Int32) (σ0 : gS) (H : Heap) (locs : List Loc) (ls : Array Slot), R_A_haveSameSlots t 1 [x1, x2, x3] σ0 = some (r, σ') → va_P X vwCl (cW cI cC cZ a σ0) H → va_D A (cW cI cC cZ a σ0) → va_S A s.heap H locs → lv_has ls 4 [(0, .ref (a 13)), (1, .int x1), (2, .int x2), (3, .int x3)] → W p l e (headSpec w_A_haveSameSlots { frames := 2, cells := 0, slots := 0, locals := 45 }).room s m [.ref (a 13), .int q1, .int q2].toArray below meth c H locs 0 0 (MQ below (gQi X vwCl (cW cI cC cZ a σ) sz (fun r' (_ : Unit) => r' = r) (fun _ => cW cI cC cZ a σ')) [.ref (a 13), .int q1, .int q2].toArray s 0 0 (va_A (cW cI cC cZ a σ) sz)) (F0 m 2 ls [])) := by
    intro t
    induction t with
    | zero => exact ⟨fun _ _ _ _ _ _ hf => (by have hf : (none : Option (Int32 × gS)) = some (r, σ') := hf; cases hf), fun _ _ _ _ _ _ _ hf => (by have hf : (none : Option (Int32 × gS)) = some (r, σ') := hf; cases hf)⟩
    | succ t ih =>
      obtain ⟨ih0, ih1⟩ := ih
      refine ⟨?_, ?_⟩
      · intro x1 x2 σ0 H locs ls hf hP hD hS hl
        have hf : B_A_haveSameSlots_0 (R_A_haveSameSlots t) x1 x2 σ0 = some (r, σ') := hf
        unfold B_A_haveSameSlots_0 at hf
        refine lv_iconst (v := 0) hx hb d_A_haveSameSlots_0 (by decide) ?_
        refine lv_istore_n hx hb d_A_haveSameSlots_1 rfl hl (by decide) rfl (fun ls hl => ?_)
        exact ih1 (x1) (x2) (0) σ0 _ _ _ hf hP hD hS (lv_sub hl [1, 2, 3, 0] rfl)
      · intro x1 x2 x3 σ0 H locs ls hf hP hD hS hl
        have hf : B_A_haveSameSlots_1 (R_A_haveSameSlots t) x1 x2 x3 σ0 = some (r, σ') := hf
        unfold B_A_haveSameSlots_1 at hf
        refine lv_iload_n hx hb d_A_haveSameSlots_2 rfl (lv_at hl 3 rfl) ?_
        refine lv_iconst (v := 4) hx hb d_A_haveSameSlots_3 (by decide) ?_
        refine lv_icmp_ge (tgt := 38) hx hb d_A_haveSameSlots_4 rfl (fun c1 => ?_) (fun c1 => ?_)
        · skip
          rw [if_pos c1] at hf
          refine lv_iconst (v := 1) hx hb d_A_haveSameSlots_38 (by decide) ?_
          obtain ⟨rfl, rfl⟩ := gRt_e hf
          exact g_zret hx hb hr hlocks rfl hAe hS () rfl hP d_A_haveSameSlots_39
        rw [if_neg c1] at hf
        refine lv_iload_n hx hb d_A_haveSameSlots_7 rfl (lv_at hl 3 rfl) ?_
        refine lv_aload_n hx hb d_A_haveSameSlots_8 rfl (lv_at hl 0 rfl) ?_
        refine va_get (D := X) (ci := 4) (C := R_A) (T := T_A) (N := 5) hx hb hts u_0 hown hK hP 13 gc_13 rfl 0 (by decide) k_0 (fun _ h9 => h9) rfl d_A_haveSameSlots_9 ?_
        refine va_get (D := X) (ci := 2) (C := R_G) (T := T_G) (N := 6) hx hb hts u_1 hown hK hP 1 gc_1 rfl 2 (by decide) k_1 (fun _ h9 => h9) rfl d_A_haveSameSlots_12 ?_
        refine lv_iload_n hx hb d_A_haveSameSlots_15 rfl (lv_at hl 1 rfl) ?_
        obtain ⟨y2, h3, e4, hf⟩ := gLd_e hf
        refine va_iald hx hb hK hP 3 0 gc_3 rfl h3 d_A_haveSameSlots_16 ?_
        rw [← e4]
        refine lv_icmp_ge (tgt := 38) hx hb d_A_haveSameSlots_17 rfl (fun c5 => ?_) (fun c5 => ?_)
        · skip
          rw [if_pos c5] at hf
          refine lv_iconst (v := 1) hx hb d_A_haveSameSlots_38 (by decide) ?_
          obtain ⟨rfl, rfl⟩ := gRt_e hf
          exact g_zret hx hb hr hlocks rfl hAe hS () rfl hP d_A_haveSameSlots_39
        rw [if_neg c5] at hf
        refine lv_aload_n hx hb d_A_haveSameSlots_20 rfl (lv_at hl 0 rfl) ?_
        refine lv_iload_n hx hb d_A_haveSameSlots_21 rfl (lv_at hl 1 rfl) ?_
        refine lv_iload_n hx hb d_A_haveSameSlots_22 rfl (lv_at hl 2 rfl) ?_
        refine lv_iload_n hx hb d_A_haveSameSlots_23 rfl (lv_at hl 3 rfl) ?_
        obtain ⟨y6, σ7, e8, hf⟩ := gBd_e hf
        refine g_wi (va_runV ⟨hx, hb, hml, hown, hts⟩ (m_A_haveSameSlot e8) (cwV 3 hts (gG4 (fun _ h => List.mem_cons_of_mem _ h) tb_245 tb_246 tb_247 tb_244 tc_A_haveSameSlot) rfl rfl rfl (by decide +kernel) ⟨Nat.le_of_ble_eq_true rfl, Nat.le_of_ble_eq_true rfl⟩) (g_preVW (q0 := 13) hE hK hP hD hS hA gc_13 rfl) rfl rfl hl.1 rfl (lv_room (Nat.le_of_ble_eq_true rfl)) d_A_haveSameSlots_24 ⟨Nat.zero_le _, Nat.zero_le _⟩) hD hS hA (fun _ => cW_fst) (fun y6 _ H locs hu hP hD hS => ?_)
        subst hu
        refine lv_if_ne (tgt := 32) hx hb d_A_haveSameSlots_27 rfl (fun c9 => ?_) (fun c9 => ?_)
        · skip
          rw [if_neg c9] at hf
          refine lv_iinc (k := 3) (v := (x3 + 1)) hx hb d_A_haveSameSlots_32 hl rfl (by rw [show Int32.ofInt (1) = (1 : Int32) by decide]) (by decide) rfl (fun ls hl => ?_)
          refine lv_goto (tgt := 2) hx hb d_A_haveSameSlots_35 rfl ?_
          exact ih1 (x1) (x2) ((x3 + 1)) σ7 _ _ _ hf hP hD hS (lv_sub hl [1, 2, 3, 0] rfl)
        rw [if_pos c9] at hf
        refine lv_iconst (v := 0) hx hb d_A_haveSameSlots_30 (by decide) ?_
        obtain ⟨rfl, rfl⟩ := gRt_e hf
        exact g_zret hx hb hr hlocks rfl hAe hS () rfl hP d_A_haveSameSlots_31
  exact (key gFuel).1 q1 q2 σ _ _ _ hf hP hD hS hl

def f_A_haveSameInside (σ : gS) (x1 : Int32) (x2 : Int32) : Option (Int32 × gS) := gLd σ 2 16 x1 (fun y1 => gLd σ 2 16 x2 (fun y4 => if y1 = y4 then (gLd σ 3 16 x1 (fun y8 => gLd σ 3 16 x2 (fun y11 => if y8 = y11 then (gBd (f_G_isText σ x1) (fun y15 σ16 => if y15 = 0 then (gBd (f_A_haveSameSlots σ16 x1 x2) (fun y19 σ20 => gNr .boolean y19 (some (y19, σ20)))) else (gBd (f_A_haveSameCharacters σ16 x1 x2) (fun y23 σ24 => gNr .boolean y23 (some (y23, σ24)))))) else (some (0, σ))))) else (some (0, σ))))
set_option maxHeartbeats 4000000 in
set_option maxRecDepth 100000 in
theorem m_A_haveSameInside {l : Launch} {X : va_G} {cI cC cZ : ClassId} {aK aV : Nat → Nat} {a : Nat → Nat} {σ σ' : gS} {r : Int32} {x1 : Int32} {x2 : Int32} (hf : f_A_haveSameInside σ x1 x2 = some (r, σ')) {sz : Nat} : Met l y_A_haveSameInside w_A_haveSameInside { frames := 3, cells := 0, slots := 0, locals := 68 } (gPc X vwCl (gT cI cC cZ) aK aV (cW cI cC cZ a σ) sz [.ref (a 13), .int x1, .int x2]) (gQi X vwCl (cW cI cC cZ a σ) sz (fun r' (_ : Unit) => r' = r) (fun _ => cW cI cC cZ a σ')) 0 0 (va_A (cW cI cC cZ a σ) sz) := by
  refine g_met (cc := b_A_haveSameInside) (maxL := 3) (ret := (some .boolean)) (by decide) rfl (Nat.le_of_ble_eq_true rfl) ?_
  intro p e s m below meth c A ls hx hb hr hml hown hts hlocks hnm hsz hAe hA hP hK hD hS hl hE
  have hown : s.vm.findClass R_A = some m.cls := hown
  have u_0 : ∀ w ∈ u_ws R_A T_A 5, w ∈ w_A_haveSameInside := fun w h => List.mem_cons_of_mem _ (tu_A w h)
  have u_1 : ∀ w ∈ u_ws R_G T_G 6, w ∈ w_A_haveSameInside := fun w h => List.mem_cons_of_mem _ (tu_G w h)
  have k_0 := hts (.fieldLink R_A 21 "GraphPages$Matching" "graph" "LGraphPages$Graph;") (List.mem_cons_of_mem _ tb_233)
  have k_1 := hts (.fieldLink R_A 42 "GraphPages$Graph" "kinds" "[I") (List.mem_cons_of_mem _ tb_257)
  have k_2 := hts (.fieldLink R_A 47 "GraphPages$Graph" "sizes" "[I") (List.mem_cons_of_mem _ tb_234)
  unfold f_A_haveSameInside at hf
  refine lv_aload_n hx hb d_A_haveSameInside_0 rfl (lv_at hl 0 rfl) ?_
  refine va_get (D := X) (ci := 4) (C := R_A) (T := T_A) (N := 5) hx hb hts u_0 hown hK hP 13 gc_13 rfl 0 (by decide) k_0 (fun _ h9 => h9) rfl d_A_haveSameInside_1 ?_
  refine va_get (D := X) (ci := 2) (C := R_G) (T := T_G) (N := 6) hx hb hts u_1 hown hK hP 1 gc_1 rfl 1 (by decide) k_1 (fun _ h9 => h9) rfl d_A_haveSameInside_4 ?_
  refine lv_iload_n hx hb d_A_haveSameInside_7 rfl (lv_at hl 1 rfl) ?_
  obtain ⟨y1, h2, e3, hf⟩ := gLd_e hf
  refine va_iald hx hb hK hP 2 0 gc_2 rfl h2 d_A_haveSameInside_8 ?_
  rw [← e3]
  refine lv_aload_n hx hb d_A_haveSameInside_9 rfl (lv_at hl 0 rfl) ?_
  refine va_get (D := X) (ci := 4) (C := R_A) (T := T_A) (N := 5) hx hb hts u_0 hown hK hP 13 gc_13 rfl 0 (by decide) k_0 (fun _ h9 => h9) rfl d_A_haveSameInside_10 ?_
  refine va_get (D := X) (ci := 2) (C := R_G) (T := T_G) (N := 6) hx hb hts u_1 hown hK hP 1 gc_1 rfl 1 (by decide) k_1 (fun _ h9 => h9) rfl d_A_haveSameInside_13 ?_
  refine lv_iload_n hx hb d_A_haveSameInside_16 rfl (lv_at hl 2 rfl) ?_
  obtain ⟨y4, h5, e6, hf⟩ := gLd_e hf
  refine va_iald hx hb hK hP 2 0 gc_2 rfl h5 d_A_haveSameInside_17 ?_
  rw [← e6]
  refine lv_icmp_ne (tgt := 42) hx hb d_A_haveSameInside_18 rfl (fun c7 => ?_) (fun c7 => ?_)
  · skip
    rw [if_neg c7] at hf
    refine lv_iconst (v := 0) hx hb d_A_haveSameInside_42 (by decide) ?_
    obtain ⟨rfl, rfl⟩ := gRt_e hf
    exact g_zret hx hb hr hlocks rfl hAe hS () rfl hP d_A_haveSameInside_43
  rw [if_pos c7] at hf
  refine lv_aload_n hx hb d_A_haveSameInside_21 rfl (lv_at hl 0 rfl) ?_
  refine va_get (D := X) (ci := 4) (C := R_A) (T := T_A) (N := 5) hx hb hts u_0 hown hK hP 13 gc_13 rfl 0 (by decide) k_0 (fun _ h9 => h9) rfl d_A_haveSameInside_22 ?_
  refine va_get (D := X) (ci := 2) (C := R_G) (T := T_G) (N := 6) hx hb hts u_1 hown hK hP 1 gc_1 rfl 2 (by decide) k_2 (fun _ h9 => h9) rfl d_A_haveSameInside_25 ?_
  refine lv_iload_n hx hb d_A_haveSameInside_28 rfl (lv_at hl 1 rfl) ?_
  obtain ⟨y8, h9, e10, hf⟩ := gLd_e hf
  refine va_iald hx hb hK hP 3 0 gc_3 rfl h9 d_A_haveSameInside_29 ?_
  rw [← e10]
  refine lv_aload_n hx hb d_A_haveSameInside_30 rfl (lv_at hl 0 rfl) ?_
  refine va_get (D := X) (ci := 4) (C := R_A) (T := T_A) (N := 5) hx hb hts u_0 hown hK hP 13 gc_13 rfl 0 (by decide) k_0 (fun _ h9 => h9) rfl d_A_haveSameInside_31 ?_
  refine va_get (D := X) (ci := 2) (C := R_G) (T := T_G) (N := 6) hx hb hts u_1 hown hK hP 1 gc_1 rfl 2 (by decide) k_2 (fun _ h9 => h9) rfl d_A_haveSameInside_34 ?_
  refine lv_iload_n hx hb d_A_haveSameInside_37 rfl (lv_at hl 2 rfl) ?_
  obtain ⟨y11, h12, e13, hf⟩ := gLd_e hf
  refine va_iald hx hb hK hP 3 0 gc_3 rfl h12 d_A_haveSameInside_38 ?_
  rw [← e13]
  refine lv_icmp_eq (tgt := 44) hx hb d_A_haveSameInside_39 rfl (fun c14 => ?_) (fun c14 => ?_)
  · skip
    rw [if_pos c14] at hf
    refine lv_aload_n hx hb d_A_haveSameInside_44 rfl (lv_at hl 0 rfl) ?_
    refine va_get (D := X) (ci := 4) (C := R_A) (T := T_A) (N := 5) hx hb hts u_0 hown hK hP 13 gc_13 rfl 0 (by decide) k_0 (fun _ h9 => h9) rfl d_A_haveSameInside_45 ?_
    refine lv_iload_n hx hb d_A_haveSameInside_48 rfl (lv_at hl 1 rfl) ?_
    obtain ⟨y15, σ16, e17, hf⟩ := gBd_e hf
    refine g_wi (va_runV ⟨hx, hb, hml, hown, hts⟩ (m_G_isText e17) (cwV 1 hts (gG4 (fun _ h => List.mem_cons_of_mem _ h) tb_248 tb_249 tb_250 tb_116 tc_G_isText) rfl rfl rfl (by decide +kernel) ⟨Nat.le_of_ble_eq_true rfl, Nat.le_of_ble_eq_true rfl⟩) (g_preVW (q0 := 1) hE hK hP hD hS hA gc_1 rfl) rfl rfl hl.1 rfl (lv_room (Nat.le_of_ble_eq_true rfl)) d_A_haveSameInside_49 ⟨Nat.zero_le _, Nat.zero_le _⟩) hD hS hA (fun _ => cW_fst) (fun y15 _ H locs hu hP hD hS => ?_)
    subst hu
    refine lv_if_eq (tgt := 64) hx hb d_A_haveSameInside_52 rfl (fun c18 => ?_) (fun c18 => ?_)
    · skip
      rw [if_pos c18] at hf
      refine lv_aload_n hx hb d_A_haveSameInside_64 rfl (lv_at hl 0 rfl) ?_
      refine lv_iload_n hx hb d_A_haveSameInside_65 rfl (lv_at hl 1 rfl) ?_
      refine lv_iload_n hx hb d_A_haveSameInside_66 rfl (lv_at hl 2 rfl) ?_
      obtain ⟨y19, σ20, e21, hf⟩ := gBd_e hf
      refine g_wi (va_runV ⟨hx, hb, hml, hown, hts⟩ (m_A_haveSameSlots e21) (cwV 2 hts (gG4 (fun _ h => List.mem_cons_of_mem _ h) tb_251 tb_252 tb_253 tb_244 tc_A_haveSameSlots) rfl rfl rfl (by decide +kernel) ⟨Nat.le_of_ble_eq_true rfl, Nat.le_of_ble_eq_true rfl⟩) (g_preVW (q0 := 13) hE hK hP hD hS hA gc_13 rfl) rfl rfl hl.1 rfl (lv_room (Nat.le_of_ble_eq_true rfl)) d_A_haveSameInside_67 ⟨Nat.zero_le _, Nat.zero_le _⟩) hD hS hA (fun _ => cW_fst) (fun y19 _ H locs hu hP hD hS => ?_)
      subst hu
      obtain ⟨h22, hf⟩ := gNr_e hf
      obtain ⟨rfl, rfl⟩ := gRt_e hf
      exact g_zret hx hb hr hlocks h22 hAe hS () rfl hP d_A_haveSameInside_70
    rw [if_neg c18] at hf
    refine lv_aload_n hx hb d_A_haveSameInside_55 rfl (lv_at hl 0 rfl) ?_
    refine lv_iload_n hx hb d_A_haveSameInside_56 rfl (lv_at hl 1 rfl) ?_
    refine lv_iload_n hx hb d_A_haveSameInside_57 rfl (lv_at hl 2 rfl) ?_
    obtain ⟨y23, σ24, e25, hf⟩ := gBd_e hf
    refine g_wi (va_runV ⟨hx, hb, hml, hown, hts⟩ (m_A_haveSameCharacters e25) (cwV 2 hts (gG4 (fun _ h => List.mem_cons_of_mem _ h) tb_254 tb_255 tb_256 tb_244 tc_A_haveSameCharacters) rfl rfl rfl (by decide +kernel) ⟨Nat.le_of_ble_eq_true rfl, Nat.le_of_ble_eq_true rfl⟩) (g_preVW (q0 := 13) hE hK hP hD hS hA gc_13 rfl) rfl rfl hl.1 rfl (lv_room (Nat.le_of_ble_eq_true rfl)) d_A_haveSameInside_58 ⟨Nat.zero_le _, Nat.zero_le _⟩) hD hS hA (fun _ => cW_fst) (fun y23 _ H locs hu hP hD hS => ?_)
    subst hu
    refine lv_goto (tgt := 70) hx hb d_A_haveSameInside_61 rfl ?_
    obtain ⟨h26, hf⟩ := gNr_e hf
    obtain ⟨rfl, rfl⟩ := gRt_e hf
    exact g_zret hx hb hr hlocks h26 hAe hS () rfl hP d_A_haveSameInside_70
  rw [if_neg c14] at hf
  refine lv_iconst (v := 0) hx hb d_A_haveSameInside_42 (by decide) ?_
  obtain ⟨rfl, rfl⟩ := gRt_e hf
  exact g_zret hx hb hr hlocks rfl hAe hS () rfl hP d_A_haveSameInside_43

def B_A_exists_0 (rec : Nat → List Int32 → gS → Option (Int32 × gS)) (x1 : Int32) (x2 : Int32) (σ0 : gS) : Option (Int32 × gS) := gBd (f_J_fill_MP σ0 (-1)) (fun _ σ2 => gBd (f_J_fill_MB σ2 (-1)) (fun _ σ5 => gPut σ5 3 0 (fun σ7 => gBd (f_A_match σ7 x1 x2) (fun y9 σ10 => rec 1 [y9, 0] σ10))))
def B_A_exists_1 (rec : Nat → List Int32 → gS → Option (Int32 × gS)) (x3 : Int32) (x4 : Int32) (σ0 : gS) : Option (Int32 × gS) := if 16 ≤ x4 then (gNr .boolean x3 (some (x3, σ0))) else (if (σ0.1 3) ≤ x4 then (gNr .boolean x3 (some (x3, σ0))) else (if x3 = 0 then (gNr .boolean x3 (some (x3, σ0))) else (gLd σ0 16 16 x4 (fun y18 => gLd σ0 16 16 x4 (fun y21 => gLd σ0 14 16 y21 (fun y24 => gBd (f_A_haveSameInside σ0 y18 y24) (fun y27 σ28 => rec 1 [y27, (x4 + 1)] σ28)))))))
def S_A_exists (rec : Nat → List Int32 → gS → Option (Int32 × gS)) (k : Nat) (l : List Int32) (σ0 : gS) : Option (Int32 × gS) := match k, l with
  | 0, [x1, x2] => B_A_exists_0 rec x1 x2 σ0
  | 1, [x3, x4] => B_A_exists_1 rec x3 x4 σ0
  | _, _ => none
def R_A_exists : Nat → Nat → List Int32 → gS → Option (Int32 × gS)
  | 0 => fun _ _ _ => none
  | t + 1 => fun k l σ0 => S_A_exists (R_A_exists t) k l σ0
def f_A_exists (σ : gS) (x1 : Int32) (x2 : Int32) : Option (Int32 × gS) := R_A_exists gFuel 0 [x1, x2] σ
set_option maxHeartbeats 4000000 in
set_option maxRecDepth 100000 in
theorem m_A_exists {l : Launch} {X : va_G} {cI cC cZ : ClassId} {aK aV : Nat → Nat} {a : Nat → Nat} {σ σ' : gS} {r : Int32} {q1 : Int32} {q2 : Int32} (hf : f_A_exists σ q1 q2 = some (r, σ')) {sz : Nat} : Met l y_A_exists w_A_exists { frames := 4, cells := 0, slots := 0, locals := 90 } (gPc X vwCl (gT cI cC cZ) aK aV (cW cI cC cZ a σ) sz [.ref (a 13), .int q1, .int q2]) (gQi X vwCl (cW cI cC cZ a σ) sz (fun r' (_ : Unit) => r' = r) (fun _ => cW cI cC cZ a σ')) 0 0 (va_A (cW cI cC cZ a σ) sz) := by
  refine g_met (cc := b_A_exists) (maxL := 5) (ret := (some .boolean)) (by decide) rfl (Nat.le_of_ble_eq_true rfl) ?_
  intro p e s m below meth c A ls hx hb hr hml hown hts hlocks hnm hsz hAe hA hP hK hD hS hl hE
  have hown : s.vm.findClass R_A = some m.cls := hown
  have u_0 : ∀ w ∈ u_ws R_A T_A 5, w ∈ w_A_exists := fun w h => List.mem_cons_of_mem _ (tu_A w h)
  have k_0 := hts (.fieldLink R_A 9 "GraphPages$Matching" "partners" "[I") (List.mem_cons_of_mem _ tb_226)
  have k_1 := hts (.initialized R_J) (List.mem_cons_of_mem _ tb_222)
  have k_2 := hts (.methodLink R_A 25 y_J_fill) (List.mem_cons_of_mem _ tb_261)
  have k_3 := hts (.static y_J_fill) (List.mem_cons_of_mem _ tb_224)
  have k_4 := hts (.fieldLink R_A 15 "GraphPages$Matching" "partnersBack" "[I") (List.mem_cons_of_mem _ tb_227)
  have k_5 := hts (.fieldLink R_A 31 "GraphPages$Matching" "count" "I") (List.mem_cons_of_mem _ tb_229)
  have k_6 := hts (.fieldLink R_A 18 "GraphPages$Matching" "order" "[I") (List.mem_cons_of_mem _ tb_228)
  unfold f_A_exists at hf
  have key : ∀ t : Nat, (∀ (x1 : Int32) (x2 : Int32) (σ0 : gS) (H : Heap) (locs : List Loc) (ls : Array Slot), R_A_exists t 0 [x1, x2] σ0 = some (r, σ') → va_P X vwCl (cW cI cC cZ a σ0) H → va_D A (cW cI cC cZ a σ0) → va_S A s.heap H locs → lv_has ls 5 [(0, .ref (a 13)), (1, .int x1), (2, .int x2)] → W p l e (headSpec w_A_exists { frames := 4, cells := 0, slots := 0, locals := 90 }).room s m [.ref (a 13), .int q1, .int q2].toArray below meth c H locs 0 0 (MQ below (gQi X vwCl (cW cI cC cZ a σ) sz (fun r' (_ : Unit) => r' = r) (fun _ => cW cI cC cZ a σ')) [.ref (a 13), .int q1, .int q2].toArray s 0 0 (va_A (cW cI cC cZ a σ) sz)) (F0 m 0 ls [])) ∧ (∀ (x3 : Int32) (x4 : Int32) (σ0 : gS) (H : Heap) (locs : List Loc) (ls : Array Slot), R_A_exists t 1 [x3, x4] σ0 = some (r, σ') → va_P X vwCl (cW cI cC cZ a σ0) H → va_D A (cW cI cC cZ a σ0) → va_S A s.heap H locs → lv_has ls 5 [(0, .ref (a 13)), (3, .int x3), (4, .int x4)] → W p l e (headSpec w_A_exists { frames := 4, cells := 0, slots := 0, locals := 90 }).room s m [.ref (a 13), .int q1, .int q2].toArray below meth c H locs 0 0 (MQ below (gQi X vwCl (cW cI cC cZ a σ) sz (fun r' (_ : Unit) => r' = r) (fun _ => cW cI cC cZ a σ')) [.ref (a 13), .int q1, .int q2].toArray s 0 0 (va_A (cW cI cC cZ a σ) sz)) (F0 m 31 ls [])) := by
    intro t
    induction t with
    | zero => exact ⟨fun _ _ _ _ _ _ hf => (by have hf : (none : Option (Int32 × gS)) = some (r, σ') := hf; cases hf), fun _ _ _ _ _ _ hf => (by have hf : (none : Option (Int32 × gS)) = some (r, σ') := hf; cases hf)⟩
    | succ t ih =>
      obtain ⟨ih0, ih1⟩ := ih
      refine ⟨?_, ?_⟩
      · intro x1 x2 σ0 H locs ls hf hP hD hS hl
        have hf : B_A_exists_0 (R_A_exists t) x1 x2 σ0 = some (r, σ') := hf
        unfold B_A_exists_0 at hf
        refine lv_aload_n hx hb d_A_exists_0 rfl (lv_at hl 0 rfl) ?_
        refine va_get (D := X) (ci := 4) (C := R_A) (T := T_A) (N := 5) hx hb hts u_0 hown hK hP 13 gc_13 rfl 1 (by decide) k_0 (fun _ h9 => h9) rfl d_A_exists_1 ?_
        refine lv_iconst (v := (-1)) hx hb d_A_exists_4 (by decide) ?_
        obtain ⟨y1, σ2, e3, hf⟩ := gBd_e hf
        refine g_wv (va_runS ⟨hx, hb, hml, hown, hts⟩ (m_J_fill_MP e3) ⟨callB_of 2 hts (gG (fun _ h => List.mem_cons_of_mem _ h) tc_J_fill) rfl rfl rfl k_1 k_2 (by decide +kernel) ⟨Nat.le_of_ble_eq_true rfl, Nat.le_of_ble_eq_true rfl⟩, k_3⟩ (g_preSW hE hK hP hD hS hA) rfl rfl hl.1 rfl (lv_room (Nat.le_of_ble_eq_true rfl)) d_A_exists_5 ⟨Nat.zero_le _, Nat.zero_le _⟩) hD hS hA (fun _ => cW_fst) (fun _ H locs _ hP hD hS => ?_)
        refine lv_aload_n hx hb d_A_exists_8 rfl (lv_at hl 0 rfl) ?_
        refine va_get (D := X) (ci := 4) (C := R_A) (T := T_A) (N := 5) hx hb hts u_0 hown hK hP 13 gc_13 rfl 2 (by decide) k_4 (fun _ h9 => h9) rfl d_A_exists_9 ?_
        refine lv_iconst (v := (-1)) hx hb d_A_exists_12 (by decide) ?_
        obtain ⟨y4, σ5, e6, hf⟩ := gBd_e hf
        refine g_wv (va_runS ⟨hx, hb, hml, hown, hts⟩ (m_J_fill_MB e6) ⟨callB_of 2 hts (gG (fun _ h => List.mem_cons_of_mem _ h) tc_J_fill) rfl rfl rfl k_1 k_2 (by decide +kernel) ⟨Nat.le_of_ble_eq_true rfl, Nat.le_of_ble_eq_true rfl⟩, k_3⟩ (g_preSW hE hK hP hD hS hA) rfl rfl hl.1 rfl (lv_room (Nat.le_of_ble_eq_true rfl)) d_A_exists_13 ⟨Nat.zero_le _, Nat.zero_le _⟩) hD hS hA (fun _ => cW_fst) (fun _ H locs _ hP hD hS => ?_)
        refine lv_aload_n hx hb d_A_exists_16 rfl (lv_at hl 0 rfl) ?_
        refine lv_iconst (v := 0) hx hb d_A_exists_17 (by decide) ?_
        obtain ⟨σ7, e8, hf⟩ := gPut_e hf
        refine va_put (D := X) (ci := 4) (ty := .int) (C := R_A) (T := T_A) (N := 5) hx hb hts u_0 t_A t_A_ok n_A hown hK hP hD hS 13 gc_13 rfl 4 (by decide) k_5 (fun _ h9 => h9) rfl (by decide +kernel) rfl rfl (Nat.le_of_ble_eq_true rfl) d_A_exists_18 (fun H locs hP hD hS => ?_)
        rw [sc_13_4, ← e8] at hP hD
        refine lv_aload_n hx hb d_A_exists_21 rfl (lv_at hl 0 rfl) ?_
        refine lv_iload_n hx hb d_A_exists_22 rfl (lv_at hl 1 rfl) ?_
        refine lv_iload_n hx hb d_A_exists_23 rfl (lv_at hl 2 rfl) ?_
        obtain ⟨y9, σ10, e11, hf⟩ := gBd_e hf
        refine g_wi (va_runV ⟨hx, hb, hml, hown, hts⟩ (m_A_match e11) (cwV 2 hts (gG4 (fun _ h => List.mem_cons_of_mem _ h) tb_241 tb_242 tb_243 tb_244 tc_A_match) rfl rfl rfl (by decide +kernel) ⟨Nat.le_of_ble_eq_true rfl, Nat.le_of_ble_eq_true rfl⟩) (g_preVW (q0 := 13) hE hK hP hD hS hA gc_13 rfl) rfl rfl hl.1 rfl (lv_room (Nat.le_of_ble_eq_true rfl)) d_A_exists_24 ⟨Nat.zero_le _, Nat.zero_le _⟩) hD hS hA (fun _ => cW_fst) (fun y9 _ H locs hu hP hD hS => ?_)
        subst hu
        refine lv_istore_n hx hb d_A_exists_27 rfl hl (by decide) rfl (fun ls hl => ?_)
        refine lv_iconst (v := 0) hx hb d_A_exists_28 (by decide) ?_
        refine lv_istore hx hb d_A_exists_29 hl (by decide) rfl (fun ls hl => ?_)
        exact ih1 (y9) (0) σ10 _ _ _ hf hP hD hS (lv_sub hl [2, 1, 0] rfl)
      · intro x3 x4 σ0 H locs ls hf hP hD hS hl
        have hf : B_A_exists_1 (R_A_exists t) x3 x4 σ0 = some (r, σ') := hf
        unfold B_A_exists_1 at hf
        refine lv_iload hx hb d_A_exists_31 (lv_at hl 2 rfl) ?_
        refine lv_bipush (v := 16) hx hb d_A_exists_33 (by decide) ?_
        refine lv_icmp_ge (tgt := 81) hx hb d_A_exists_35 rfl (fun c12 => ?_) (fun c12 => ?_)
        · skip
          rw [if_pos c12] at hf
          refine lv_iload_n hx hb d_A_exists_81 rfl (lv_at hl 1 rfl) ?_
          obtain ⟨h13, hf⟩ := gNr_e hf
          obtain ⟨rfl, rfl⟩ := gRt_e hf
          exact g_zret hx hb hr hlocks h13 hAe hS () rfl hP d_A_exists_82
        rw [if_neg c12] at hf
        refine lv_iload hx hb d_A_exists_38 (lv_at hl 2 rfl) ?_
        refine lv_aload_n hx hb d_A_exists_40 rfl (lv_at hl 0 rfl) ?_
        refine va_get (D := X) (ci := 4) (C := R_A) (T := T_A) (N := 5) hx hb hts u_0 hown hK hP 13 gc_13 rfl 4 (by decide) k_5 (fun _ h9 => h9) rfl d_A_exists_41 ?_
        refine lv_icmp_ge (tgt := 81) hx hb d_A_exists_44 rfl (fun c14 => ?_) (fun c14 => ?_)
        · skip
          rw [if_pos c14] at hf
          refine lv_iload_n hx hb d_A_exists_81 rfl (lv_at hl 1 rfl) ?_
          obtain ⟨h15, hf⟩ := gNr_e hf
          obtain ⟨rfl, rfl⟩ := gRt_e hf
          exact g_zret hx hb hr hlocks h15 hAe hS () rfl hP d_A_exists_82
        rw [if_neg c14] at hf
        refine lv_iload_n hx hb d_A_exists_47 rfl (lv_at hl 1 rfl) ?_
        refine lv_if_eq (tgt := 81) hx hb d_A_exists_48 rfl (fun c16 => ?_) (fun c16 => ?_)
        · skip
          rw [if_pos c16] at hf
          refine lv_iload_n hx hb d_A_exists_81 rfl (lv_at hl 1 rfl) ?_
          obtain ⟨h17, hf⟩ := gNr_e hf
          obtain ⟨rfl, rfl⟩ := gRt_e hf
          exact g_zret hx hb hr hlocks h17 hAe hS () rfl hP d_A_exists_82
        rw [if_neg c16] at hf
        refine lv_aload_n hx hb d_A_exists_51 rfl (lv_at hl 0 rfl) ?_
        refine lv_aload_n hx hb d_A_exists_52 rfl (lv_at hl 0 rfl) ?_
        refine va_get (D := X) (ci := 4) (C := R_A) (T := T_A) (N := 5) hx hb hts u_0 hown hK hP 13 gc_13 rfl 3 (by decide) k_6 (fun _ h9 => h9) rfl d_A_exists_53 ?_
        refine lv_iload hx hb d_A_exists_56 (lv_at hl 2 rfl) ?_
        obtain ⟨y18, h19, e20, hf⟩ := gLd_e hf
        refine va_iald hx hb hK hP 16 0 gc_16 rfl h19 d_A_exists_58 ?_
        rw [← e20]
        refine lv_aload_n hx hb d_A_exists_59 rfl (lv_at hl 0 rfl) ?_
        refine va_get (D := X) (ci := 4) (C := R_A) (T := T_A) (N := 5) hx hb hts u_0 hown hK hP 13 gc_13 rfl 1 (by decide) k_0 (fun _ h9 => h9) rfl d_A_exists_60 ?_
        refine lv_aload_n hx hb d_A_exists_63 rfl (lv_at hl 0 rfl) ?_
        refine va_get (D := X) (ci := 4) (C := R_A) (T := T_A) (N := 5) hx hb hts u_0 hown hK hP 13 gc_13 rfl 3 (by decide) k_6 (fun _ h9 => h9) rfl d_A_exists_64 ?_
        refine lv_iload hx hb d_A_exists_67 (lv_at hl 2 rfl) ?_
        obtain ⟨y21, h22, e23, hf⟩ := gLd_e hf
        refine va_iald hx hb hK hP 16 0 gc_16 rfl h22 d_A_exists_69 ?_
        rw [← e23]
        obtain ⟨y24, h25, e26, hf⟩ := gLd_e hf
        refine va_iald hx hb hK hP 14 0 gc_14 rfl h25 d_A_exists_70 ?_
        rw [← e26]
        obtain ⟨y27, σ28, e29, hf⟩ := gBd_e hf
        refine g_wi (va_runV ⟨hx, hb, hml, hown, hts⟩ (m_A_haveSameInside e29) (cwV 2 hts (gG4 (fun _ h => List.mem_cons_of_mem _ h) tb_258 tb_259 tb_260 tb_244 tc_A_haveSameInside) rfl rfl rfl (by decide +kernel) ⟨Nat.le_of_ble_eq_true rfl, Nat.le_of_ble_eq_true rfl⟩) (g_preVW (q0 := 13) hE hK hP hD hS hA gc_13 rfl) rfl rfl hl.1 rfl (lv_room (Nat.le_of_ble_eq_true rfl)) d_A_exists_71 ⟨Nat.zero_le _, Nat.zero_le _⟩) hD hS hA (fun _ => cW_fst) (fun y27 _ H locs hu hP hD hS => ?_)
        subst hu
        refine lv_istore_n hx hb d_A_exists_74 rfl hl (by decide) rfl (fun ls hl => ?_)
        refine lv_iinc (k := 2) (v := (x4 + 1)) hx hb d_A_exists_75 hl rfl (by rw [show Int32.ofInt (1) = (1 : Int32) by decide]) (by decide) rfl (fun ls hl => ?_)
        refine lv_goto (tgt := 31) hx hb d_A_exists_78 rfl ?_
        exact ih1 (y27) ((x4 + 1)) σ28 _ _ _ hf hP hD hS (lv_sub hl [2, 1, 0] rfl)
  exact (key gFuel).1 q1 q2 σ _ _ _ hf hP hD hS hl
