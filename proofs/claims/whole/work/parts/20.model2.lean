def B_M_attr_0 (rec : Nat → List Int32 → gS → Option (Int32 × gS)) (x1 : Int32) (x2 : Int32) (σ0 : gS) : Option (Int32 × gS) := rec 1 [x1, x2, 0] σ0
def B_M_attr_1 (rec : Nat → List Int32 → gS → Option (Int32 × gS)) (x1 : Int32) (x2 : Int32) (x3 : Int32) (σ0 : gS) : Option (Int32 × gS) := gLd σ0 11 420 x1 (fun y1 => if y1 ≤ x3 then (some ((-1), σ0)) else (gLd σ0 10 420 x1 (fun y5 => gLd σ0 16 320 (y5 + x3) (fun y8 => if y8 = x2 then (gLd σ0 10 420 x1 (fun y12 => some ((y12 + x3), σ0))) else (rec 1 [x1, x2, (x3 + 1)] σ0)))))
def S_M_attr (rec : Nat → List Int32 → gS → Option (Int32 × gS)) (k : Nat) (l : List Int32) (σ0 : gS) : Option (Int32 × gS) := match k, l with
  | 0, [x1, x2] => B_M_attr_0 rec x1 x2 σ0
  | 1, [x1, x2, x3] => B_M_attr_1 rec x1 x2 x3 σ0
  | _, _ => none
def R_M_attr : Nat → Nat → List Int32 → gS → Option (Int32 × gS)
  | 0 => fun _ _ _ => none
  | t + 1 => fun k l σ0 => S_M_attr (R_M_attr t) k l σ0
def f_M_attr (σ : gS) (x1 : Int32) (x2 : Int32) : Option (Int32 × gS) := R_M_attr gFuel 0 [x1, x2] σ
set_option maxHeartbeats 4000000 in
set_option maxRecDepth 100000 in
theorem m_M_attr {l : Launch} {X : va_G} {cI cC cZ : ClassId} {aK aV : Nat → Nat} {b : Nat → Nat} {σ σ' : gS} {r : Int32} {q1 : Int32} {q2 : Int32} (hf : f_M_attr σ q1 q2 = some (r, σ')) {sz : Nat} : Met l y_M_attr w_M_attr { frames := 0, cells := 0, slots := 0, locals := 0 } (gPc X vwCl (gT cI cC cZ) aK aV (mW cI cC cZ b σ) sz [.ref (b 0), .int q1, .int q2]) (gQi X vwCl (mW cI cC cZ b σ) sz (fun r' (_ : Unit) => r' = r) (fun _ => mW cI cC cZ b σ')) 0 0 (va_A (mW cI cC cZ b σ) sz) := by
  refine g_met (cc := b_M_attr) (maxL := 4) (ret := (some .int)) (by decide) rfl (Nat.le_of_ble_eq_true rfl) ?_
  intro p e s m below meth c A ls hx hb hr hml hown hts hlocks hnm hsz hAe hA hP hK hD hS hl hE
  have hown : s.vm.findClass R_M = some m.cls := hown
  have u_0 : ∀ w ∈ u_ws R_M T_M 35, w ∈ w_M_attr := fun w h => List.mem_cons_of_mem _ (tu_M w h)
  have k_0 := hts (.fieldLink R_M 42 "GraphPagesModel" "attrCount" "[I") (List.mem_cons_of_mem _ tb_453)
  have k_1 := hts (.fieldLink R_M 57 "GraphPagesModel" "attrName" "[I") (List.mem_cons_of_mem _ tb_454)
  have k_2 := hts (.fieldLink R_M 39 "GraphPagesModel" "firstAttr" "[I") (List.mem_cons_of_mem _ tb_455)
  unfold f_M_attr at hf
  have key : ∀ t : Nat, (∀ (x1 : Int32) (x2 : Int32) (σ0 : gS) (H : Heap) (locs : List Loc) (ls : Array Slot), R_M_attr t 0 [x1, x2] σ0 = some (r, σ') → va_P X vwCl (mW cI cC cZ b σ0) H → va_D A (mW cI cC cZ b σ0) → va_S A s.heap H locs → lv_has ls 4 [(0, .ref (b 0)), (1, .int x1), (2, .int x2)] → W p l e (headSpec w_M_attr { frames := 0, cells := 0, slots := 0, locals := 0 }).room s m [.ref (b 0), .int q1, .int q2].toArray below meth c H locs 0 0 (MQ below (gQi X vwCl (mW cI cC cZ b σ) sz (fun r' (_ : Unit) => r' = r) (fun _ => mW cI cC cZ b σ')) [.ref (b 0), .int q1, .int q2].toArray s 0 0 (va_A (mW cI cC cZ b σ) sz)) (F0 m 0 ls [])) ∧ (∀ (x1 : Int32) (x2 : Int32) (x3 : Int32) (σ0 : gS) (H : Heap) (locs : List Loc) (ls : Array Slot), R_M_attr t 1 [x1, x2, x3] σ0 = some (r, σ') → va_P X vwCl (mW cI cC cZ b σ0) H → va_D A (mW cI cC cZ b σ0) → va_S A s.heap H locs → lv_has ls 4 [(0, .ref (b 0)), (1, .int x1), (2, .int x2), (3, .int x3)] → W p l e (headSpec w_M_attr { frames := 0, cells := 0, slots := 0, locals := 0 }).room s m [.ref (b 0), .int q1, .int q2].toArray below meth c H locs 0 0 (MQ below (gQi X vwCl (mW cI cC cZ b σ) sz (fun r' (_ : Unit) => r' = r) (fun _ => mW cI cC cZ b σ')) [.ref (b 0), .int q1, .int q2].toArray s 0 0 (va_A (mW cI cC cZ b σ) sz)) (F0 m 2 ls [])) := by
    intro t
    induction t with
    | zero => exact ⟨fun _ _ _ _ _ _ hf => (by have hf : (none : Option (Int32 × gS)) = some (r, σ') := hf; cases hf), fun _ _ _ _ _ _ _ hf => (by have hf : (none : Option (Int32 × gS)) = some (r, σ') := hf; cases hf)⟩
    | succ t ih =>
      obtain ⟨ih0, ih1⟩ := ih
      refine ⟨?_, ?_⟩
      · intro x1 x2 σ0 H locs ls hf hP hD hS hl
        have hf : B_M_attr_0 (R_M_attr t) x1 x2 σ0 = some (r, σ') := hf
        unfold B_M_attr_0 at hf
        refine lv_iconst (v := 0) hx hb d_M_attr_0 (by decide) ?_
        refine lv_istore_n hx hb d_M_attr_1 rfl hl (by decide) rfl (fun ls hl => ?_)
        exact ih1 (x1) (x2) (0) σ0 _ _ _ hf hP hD hS (lv_sub hl [1, 2, 3, 0] rfl)
      · intro x1 x2 x3 σ0 H locs ls hf hP hD hS hl
        have hf : B_M_attr_1 (R_M_attr t) x1 x2 x3 σ0 = some (r, σ') := hf
        unfold B_M_attr_1 at hf
        refine lv_iload_n hx hb d_M_attr_2 rfl (lv_at hl 3 rfl) ?_
        refine lv_aload_n hx hb d_M_attr_3 rfl (lv_at hl 0 rfl) ?_
        refine va_get (D := X) (ci := 9) (C := R_M) (T := T_M) (N := 35) hx hb hts u_0 hown hK hP 0 gm_0 rfl 13 (by decide) k_0 (fun _ h9 => h9) rfl d_M_attr_4 ?_
        refine lv_iload_n hx hb d_M_attr_7 rfl (lv_at hl 1 rfl) ?_
        obtain ⟨y1, h2, e3, hf⟩ := gLd_e hf
        refine va_iald hx hb hK hP 11 0 gm_11 rfl h2 d_M_attr_8 ?_
        rw [← e3]
        refine lv_icmp_ge (tgt := 44) hx hb d_M_attr_9 rfl (fun c4 => ?_) (fun c4 => ?_)
        · skip
          rw [if_pos c4] at hf
          refine lv_iconst (v := (-1)) hx hb d_M_attr_44 (by decide) ?_
          obtain ⟨rfl, rfl⟩ := gRt_e hf
          exact g_zret hx hb hr hlocks rfl hAe hS () rfl hP d_M_attr_45
        rw [if_neg c4] at hf
        refine lv_aload_n hx hb d_M_attr_12 rfl (lv_at hl 0 rfl) ?_
        refine va_get (D := X) (ci := 9) (C := R_M) (T := T_M) (N := 35) hx hb hts u_0 hown hK hP 0 gm_0 rfl 19 (by decide) k_1 (fun _ h9 => h9) rfl d_M_attr_13 ?_
        refine lv_aload_n hx hb d_M_attr_16 rfl (lv_at hl 0 rfl) ?_
        refine va_get (D := X) (ci := 9) (C := R_M) (T := T_M) (N := 35) hx hb hts u_0 hown hK hP 0 gm_0 rfl 12 (by decide) k_2 (fun _ h9 => h9) rfl d_M_attr_17 ?_
        refine lv_iload_n hx hb d_M_attr_20 rfl (lv_at hl 1 rfl) ?_
        obtain ⟨y5, h6, e7, hf⟩ := gLd_e hf
        refine va_iald hx hb hK hP 10 0 gm_10 rfl h6 d_M_attr_21 ?_
        rw [← e7]
        refine lv_iload_n hx hb d_M_attr_22 rfl (lv_at hl 3 rfl) ?_
        refine lv_iadd hx hb d_M_attr_23 ?_
        obtain ⟨y8, h9, e10, hf⟩ := gLd_e hf
        refine va_iald hx hb hK hP 16 0 gm_16 rfl h9 d_M_attr_24 ?_
        rw [← e10]
        refine lv_iload_n hx hb d_M_attr_25 rfl (lv_at hl 2 rfl) ?_
        refine lv_icmp_ne (tgt := 38) hx hb d_M_attr_26 rfl (fun c11 => ?_) (fun c11 => ?_)
        · skip
          rw [if_neg c11] at hf
          refine lv_iinc (k := 3) (v := (x3 + 1)) hx hb d_M_attr_38 hl rfl (by rw [show Int32.ofInt (1) = (1 : Int32) by decide]) (by decide) rfl (fun ls hl => ?_)
          refine lv_goto (tgt := 2) hx hb d_M_attr_41 rfl ?_
          exact ih1 (x1) (x2) ((x3 + 1)) σ0 _ _ _ hf hP hD hS (lv_sub hl [1, 2, 3, 0] rfl)
        rw [if_pos c11] at hf
        refine lv_aload_n hx hb d_M_attr_29 rfl (lv_at hl 0 rfl) ?_
        refine va_get (D := X) (ci := 9) (C := R_M) (T := T_M) (N := 35) hx hb hts u_0 hown hK hP 0 gm_0 rfl 12 (by decide) k_2 (fun _ h9 => h9) rfl d_M_attr_30 ?_
        refine lv_iload_n hx hb d_M_attr_33 rfl (lv_at hl 1 rfl) ?_
        obtain ⟨y12, h13, e14, hf⟩ := gLd_e hf
        refine va_iald hx hb hK hP 10 0 gm_10 rfl h13 d_M_attr_34 ?_
        rw [← e14]
        refine lv_iload_n hx hb d_M_attr_35 rfl (lv_at hl 3 rfl) ?_
        refine lv_iadd hx hb d_M_attr_36 ?_
        obtain ⟨rfl, rfl⟩ := gRt_e hf
        exact g_zret hx hb hr hlocks rfl hAe hS () rfl hP d_M_attr_37
  exact (key gFuel).1 q1 q2 σ _ _ _ hf hP hD hS hl

def B_M_attributeAt_0 (rec : Nat → List Int32 → gS → Option (Int32 × gS)) (x1 : Int32) (x2 : Int32) (σ0 : gS) : Option (Int32 × gS) := gBd (f_M_nameAt σ0 x2) (fun y1 σ2 => if y1 < 0 then (some ((-1), σ2)) else (gBd (f_M_charOr0 σ2 (σ2.1 7)) (fun y5 σ6 => if y5 = 61 then (gBd (f_M_charOr0 σ6 ((σ6.1 7) + 1)) (fun y9 σ10 => if y9 = 34 then (gBd (f_M_attr σ10 x1 y1) (fun y13 σ14 => if y13 < 0 then (rec 1 [x1, y1, ((σ2.1 7) + 2), ((σ2.1 7) + 2)] σ14) else (some ((-1), σ14)))) else (some ((-1), σ10)))) else (some ((-1), σ6)))))
def B_M_attributeAt_1 (rec : Nat → List Int32 → gS → Option (Int32 × gS)) (x1 : Int32) (x3 : Int32) (x4 : Int32) (x5 : Int32) (σ0 : gS) : Option (Int32 × gS) := if (σ0.1 1) ≤ x5 then (rec 2 [x1, x3, x4, x5] σ0) else (gLd σ0 7 1600 x5 (fun y18 => if y18 = 34 then (rec 2 [x1, x3, x4, x5] σ0) else (gLd σ0 7 1600 x5 (fun y22 => if y22 = 60 then (rec 2 [x1, x3, x4, x5] σ0) else (gLd σ0 7 1600 x5 (fun y26 => if y26 = 38 then (rec 2 [x1, x3, x4, x5] σ0) else (rec 1 [x1, x3, x4, (x5 + 1)] σ0)))))))
def B_M_attributeAt_2 (rec : Nat → List Int32 → gS → Option (Int32 × gS)) (x1 : Int32) (x3 : Int32) (x4 : Int32) (x5 : Int32) (σ0 : gS) : Option (Int32 × gS) := gBd (f_M_charOr0 σ0 x5) (fun y30 σ31 => if y30 = 34 then (gSt σ31 16 320 (σ31.1 3) x3 (fun σ34 => gSt σ34 17 320 (σ34.1 3) x4 (fun σ37 => gSt σ37 18 320 (σ37.1 3) x5 (fun σ40 => gPut σ40 3 ((σ40.1 3) + 1) (fun σ43 => gLd σ43 11 420 x1 (fun y45 => gSt σ43 11 420 x1 (y45 + 1) (fun σ48 => some ((x5 + 1), σ48)))))))) else (some ((-1), σ31)))
def S_M_attributeAt (rec : Nat → List Int32 → gS → Option (Int32 × gS)) (k : Nat) (l : List Int32) (σ0 : gS) : Option (Int32 × gS) := match k, l with
  | 0, [x1, x2] => B_M_attributeAt_0 rec x1 x2 σ0
  | 1, [x1, x3, x4, x5] => B_M_attributeAt_1 rec x1 x3 x4 x5 σ0
  | 2, [x1, x3, x4, x5] => B_M_attributeAt_2 rec x1 x3 x4 x5 σ0
  | _, _ => none
def R_M_attributeAt : Nat → Nat → List Int32 → gS → Option (Int32 × gS)
  | 0 => fun _ _ _ => none
  | t + 1 => fun k l σ0 => S_M_attributeAt (R_M_attributeAt t) k l σ0
def f_M_attributeAt (σ : gS) (x1 : Int32) (x2 : Int32) : Option (Int32 × gS) := R_M_attributeAt gFuel 0 [x1, x2] σ
set_option maxHeartbeats 4000000 in
set_option maxRecDepth 100000 in
theorem m_M_attributeAt {l : Launch} {X : va_G} {cI cC cZ : ClassId} {aK aV : Nat → Nat} {b : Nat → Nat} {σ σ' : gS} {r : Int32} {q1 : Int32} {q2 : Int32} (hf : f_M_attributeAt σ q1 q2 = some (r, σ')) {sz : Nat} : Met l y_M_attributeAt w_M_attributeAt { frames := 2, cells := 0, slots := 0, locals := 44 } (gPc X vwCl (gT cI cC cZ) aK aV (mW cI cC cZ b σ) sz [.ref (b 0), .int q1, .int q2]) (gQi X vwCl (mW cI cC cZ b σ) sz (fun r' (_ : Unit) => r' = r) (fun _ => mW cI cC cZ b σ')) 0 0 (va_A (mW cI cC cZ b σ) sz) := by
  refine g_met (cc := b_M_attributeAt) (maxL := 6) (ret := (some .int)) (by decide) rfl (Nat.le_of_ble_eq_true rfl) ?_
  intro p e s m below meth c A ls hx hb hr hml hown hts hlocks hnm hsz hAe hA hP hK hD hS hl hE
  have hown : s.vm.findClass R_M = some m.cls := hown
  have u_0 : ∀ w ∈ u_ws R_M T_M 35, w ∈ w_M_attributeAt := fun w h => List.mem_cons_of_mem _ (tu_M w h)
  have k_0 := hts (.fieldLink R_M 151 "GraphPagesModel" "nameEnd" "I") (List.mem_cons_of_mem _ tb_444)
  have k_1 := hts (.fieldLink R_M 110 "GraphPagesModel" "used" "I") (List.mem_cons_of_mem _ tb_413)
  have k_2 := hts (.fieldLink R_M 29 "GraphPagesModel" "page" "[C") (List.mem_cons_of_mem _ tb_412)
  have k_3 := hts (.fieldLink R_M 57 "GraphPagesModel" "attrName" "[I") (List.mem_cons_of_mem _ tb_454)
  have k_4 := hts (.fieldLink R_M 166 "GraphPagesModel" "attrs" "I") (List.mem_cons_of_mem _ tb_459)
  have k_5 := hts (.fieldLink R_M 60 "GraphPagesModel" "attrFrom" "[I") (List.mem_cons_of_mem _ tb_460)
  have k_6 := hts (.fieldLink R_M 63 "GraphPagesModel" "attrTo" "[I") (List.mem_cons_of_mem _ tb_461)
  have k_7 := hts (.fieldLink R_M 42 "GraphPagesModel" "attrCount" "[I") (List.mem_cons_of_mem _ tb_453)
  unfold f_M_attributeAt at hf
  have key : ∀ t : Nat, (∀ (x1 : Int32) (x2 : Int32) (σ0 : gS) (H : Heap) (locs : List Loc) (ls : Array Slot), R_M_attributeAt t 0 [x1, x2] σ0 = some (r, σ') → va_P X vwCl (mW cI cC cZ b σ0) H → va_D A (mW cI cC cZ b σ0) → va_S A s.heap H locs → lv_has ls 6 [(0, .ref (b 0)), (1, .int x1), (2, .int x2)] → W p l e (headSpec w_M_attributeAt { frames := 2, cells := 0, slots := 0, locals := 44 }).room s m [.ref (b 0), .int q1, .int q2].toArray below meth c H locs 0 0 (MQ below (gQi X vwCl (mW cI cC cZ b σ) sz (fun r' (_ : Unit) => r' = r) (fun _ => mW cI cC cZ b σ')) [.ref (b 0), .int q1, .int q2].toArray s 0 0 (va_A (mW cI cC cZ b σ) sz)) (F0 m 0 ls [])) ∧ (∀ (x1 : Int32) (x3 : Int32) (x4 : Int32) (x5 : Int32) (σ0 : gS) (H : Heap) (locs : List Loc) (ls : Array Slot), R_M_attributeAt t 1 [x1, x3, x4, x5] σ0 = some (r, σ') → va_P X vwCl (mW cI cC cZ b σ0) H → va_D A (mW cI cC cZ b σ0) → va_S A s.heap H locs → lv_has ls 6 [(0, .ref (b 0)), (1, .int x1), (3, .int x3), (4, .int x4), (5, .int x5)] → W p l e (headSpec w_M_attributeAt { frames := 2, cells := 0, slots := 0, locals := 44 }).room s m [.ref (b 0), .int q1, .int q2].toArray below meth c H locs 0 0 (MQ below (gQi X vwCl (mW cI cC cZ b σ) sz (fun r' (_ : Unit) => r' = r) (fun _ => mW cI cC cZ b σ')) [.ref (b 0), .int q1, .int q2].toArray s 0 0 (va_A (mW cI cC cZ b σ) sz)) (F0 m 61 ls [])) ∧ (∀ (x1 : Int32) (x3 : Int32) (x4 : Int32) (x5 : Int32) (σ0 : gS) (H : Heap) (locs : List Loc) (ls : Array Slot), R_M_attributeAt t 2 [x1, x3, x4, x5] σ0 = some (r, σ') → va_P X vwCl (mW cI cC cZ b σ0) H → va_D A (mW cI cC cZ b σ0) → va_S A s.heap H locs → lv_has ls 6 [(0, .ref (b 0)), (1, .int x1), (3, .int x3), (4, .int x4), (5, .int x5)] → W p l e (headSpec w_M_attributeAt { frames := 2, cells := 0, slots := 0, locals := 44 }).room s m [.ref (b 0), .int q1, .int q2].toArray below meth c H locs 0 0 (MQ below (gQi X vwCl (mW cI cC cZ b σ) sz (fun r' (_ : Unit) => r' = r) (fun _ => mW cI cC cZ b σ')) [.ref (b 0), .int q1, .int q2].toArray s 0 0 (va_A (mW cI cC cZ b σ) sz)) (F0 m 112 ls [])) := by
    intro t
    induction t with
    | zero => exact ⟨fun _ _ _ _ _ _ hf => (by have hf : (none : Option (Int32 × gS)) = some (r, σ') := hf; cases hf), fun _ _ _ _ _ _ _ _ hf => (by have hf : (none : Option (Int32 × gS)) = some (r, σ') := hf; cases hf), fun _ _ _ _ _ _ _ _ hf => (by have hf : (none : Option (Int32 × gS)) = some (r, σ') := hf; cases hf)⟩
    | succ t ih =>
      obtain ⟨ih0, ih1, ih2⟩ := ih
      refine ⟨?_, ?_, ?_⟩
      · intro x1 x2 σ0 H locs ls hf hP hD hS hl
        have hf : B_M_attributeAt_0 (R_M_attributeAt t) x1 x2 σ0 = some (r, σ') := hf
        unfold B_M_attributeAt_0 at hf
        refine lv_aload_n hx hb d_M_attributeAt_0 rfl (lv_at hl 0 rfl) ?_
        refine lv_iload_n hx hb d_M_attributeAt_1 rfl (lv_at hl 2 rfl) ?_
        obtain ⟨y1, σ2, e3, hf⟩ := gBd_e hf
        refine g_wi (va_runV ⟨hx, hb, hml, hown, hts⟩ (m_M_nameAt e3) (cwV 1 hts (gG4 (fun _ h => List.mem_cons_of_mem _ h) tb_445 tb_446 tb_447 tb_392 tc_M_nameAt) rfl rfl rfl (by decide +kernel) ⟨Nat.le_of_ble_eq_true rfl, Nat.le_of_ble_eq_true rfl⟩) (g_preVW (q0 := 0) hE hK hP hD hS hA gm_0 rfl) rfl rfl hl.1 rfl (lv_room (Nat.le_of_ble_eq_true rfl)) d_M_attributeAt_2 ⟨Nat.zero_le _, Nat.zero_le _⟩) hD hS hA (fun _ => mW_fst) (fun y1 _ H locs hu hP hD hS => ?_)
        subst hu
        refine lv_istore_n hx hb d_M_attributeAt_5 rfl hl (by decide) rfl (fun ls hl => ?_)
        refine lv_aload_n hx hb d_M_attributeAt_6 rfl (lv_at hl 1 rfl) ?_
        refine va_get (D := X) (ci := 9) (C := R_M) (T := T_M) (N := 35) hx hb hts u_0 hown hK hP 0 gm_0 rfl 25 (by decide) k_0 (fun _ h9 => h9) rfl d_M_attributeAt_7 ?_
        refine lv_iconst (v := 2) hx hb d_M_attributeAt_10 (by decide) ?_
        refine lv_iadd hx hb d_M_attributeAt_11 ?_
        refine lv_istore hx hb d_M_attributeAt_12 hl (by decide) rfl (fun ls hl => ?_)
        refine lv_iload_n hx hb d_M_attributeAt_14 rfl (lv_at hl 1 rfl) ?_
        refine lv_if_lt (tgt := 55) hx hb d_M_attributeAt_15 rfl (fun c4 => ?_) (fun c4 => ?_)
        · skip
          rw [if_pos c4] at hf
          refine lv_iconst (v := (-1)) hx hb d_M_attributeAt_55 (by decide) ?_
          obtain ⟨rfl, rfl⟩ := gRt_e hf
          exact g_zret hx hb hr hlocks rfl hAe hS () rfl hP d_M_attributeAt_56
        rw [if_neg c4] at hf
        refine lv_aload_n hx hb d_M_attributeAt_18 rfl (lv_at hl 2 rfl) ?_
        refine lv_aload_n hx hb d_M_attributeAt_19 rfl (lv_at hl 2 rfl) ?_
        refine va_get (D := X) (ci := 9) (C := R_M) (T := T_M) (N := 35) hx hb hts u_0 hown hK hP 0 gm_0 rfl 25 (by decide) k_0 (fun _ h9 => h9) rfl d_M_attributeAt_20 ?_
        obtain ⟨y5, σ6, e7, hf⟩ := gBd_e hf
        refine g_wi (va_runV ⟨hx, hb, hml, hown, hts⟩ (m_M_charOr0 e7) (cwV 1 hts (gG4 (fun _ h => List.mem_cons_of_mem _ h) tb_441 tb_442 tb_443 tb_392 tc_M_charOr0) rfl rfl rfl (by decide +kernel) ⟨Nat.le_of_ble_eq_true rfl, Nat.le_of_ble_eq_true rfl⟩) (g_preVW (q0 := 0) hE hK hP hD hS hA gm_0 rfl) rfl rfl hl.1 rfl (lv_room (Nat.le_of_ble_eq_true rfl)) d_M_attributeAt_23 ⟨Nat.zero_le _, Nat.zero_le _⟩) hD hS hA (fun _ => mW_fst) (fun y5 _ H locs hu hP hD hS => ?_)
        subst hu
        refine lv_bipush (v := 61) hx hb d_M_attributeAt_26 (by decide) ?_
        refine lv_icmp_ne (tgt := 55) hx hb d_M_attributeAt_28 rfl (fun c8 => ?_) (fun c8 => ?_)
        · skip
          rw [if_neg c8] at hf
          refine lv_iconst (v := (-1)) hx hb d_M_attributeAt_55 (by decide) ?_
          obtain ⟨rfl, rfl⟩ := gRt_e hf
          exact g_zret hx hb hr hlocks rfl hAe hS () rfl hP d_M_attributeAt_56
        rw [if_pos c8] at hf
        refine lv_aload_n hx hb d_M_attributeAt_31 rfl (lv_at hl 2 rfl) ?_
        refine lv_aload_n hx hb d_M_attributeAt_32 rfl (lv_at hl 2 rfl) ?_
        refine va_get (D := X) (ci := 9) (C := R_M) (T := T_M) (N := 35) hx hb hts u_0 hown hK hP 0 gm_0 rfl 25 (by decide) k_0 (fun _ h9 => h9) rfl d_M_attributeAt_33 ?_
        refine lv_iconst (v := 1) hx hb d_M_attributeAt_36 (by decide) ?_
        refine lv_iadd hx hb d_M_attributeAt_37 ?_
        obtain ⟨y9, σ10, e11, hf⟩ := gBd_e hf
        refine g_wi (va_runV ⟨hx, hb, hml, hown, hts⟩ (m_M_charOr0 e11) (cwV 1 hts (gG4 (fun _ h => List.mem_cons_of_mem _ h) tb_441 tb_442 tb_443 tb_392 tc_M_charOr0) rfl rfl rfl (by decide +kernel) ⟨Nat.le_of_ble_eq_true rfl, Nat.le_of_ble_eq_true rfl⟩) (g_preVW (q0 := 0) hE hK hP hD hS hA gm_0 rfl) rfl rfl hl.1 rfl (lv_room (Nat.le_of_ble_eq_true rfl)) d_M_attributeAt_38 ⟨Nat.zero_le _, Nat.zero_le _⟩) hD hS hA (fun _ => mW_fst) (fun y9 _ H locs hu hP hD hS => ?_)
        subst hu
        refine lv_bipush (v := 34) hx hb d_M_attributeAt_41 (by decide) ?_
        refine lv_icmp_ne (tgt := 55) hx hb d_M_attributeAt_43 rfl (fun c12 => ?_) (fun c12 => ?_)
        · skip
          rw [if_neg c12] at hf
          refine lv_iconst (v := (-1)) hx hb d_M_attributeAt_55 (by decide) ?_
          obtain ⟨rfl, rfl⟩ := gRt_e hf
          exact g_zret hx hb hr hlocks rfl hAe hS () rfl hP d_M_attributeAt_56
        rw [if_pos c12] at hf
        refine lv_aload_n hx hb d_M_attributeAt_46 rfl (lv_at hl 2 rfl) ?_
        refine lv_iload_n hx hb d_M_attributeAt_47 rfl (lv_at hl 3 rfl) ?_
        refine lv_iload_n hx hb d_M_attributeAt_48 rfl (lv_at hl 1 rfl) ?_
        obtain ⟨y13, σ14, e15, hf⟩ := gBd_e hf
        refine g_wi (va_runV ⟨hx, hb, hml, hown, hts⟩ (m_M_attr e15) (cwV 2 hts (gG4 (fun _ h => List.mem_cons_of_mem _ h) tb_456 tb_457 tb_458 tb_392 tc_M_attr) rfl rfl rfl (by decide +kernel) ⟨Nat.le_of_ble_eq_true rfl, Nat.le_of_ble_eq_true rfl⟩) (g_preVW (q0 := 0) hE hK hP hD hS hA gm_0 rfl) rfl rfl hl.1 rfl (lv_room (Nat.le_of_ble_eq_true rfl)) d_M_attributeAt_49 ⟨Nat.zero_le _, Nat.zero_le _⟩) hD hS hA (fun _ => mW_fst) (fun y13 _ H locs hu hP hD hS => ?_)
        subst hu
        refine lv_if_lt (tgt := 57) hx hb d_M_attributeAt_52 rfl (fun c16 => ?_) (fun c16 => ?_)
        · skip
          rw [if_pos c16] at hf
          refine lv_iload hx hb d_M_attributeAt_57 (lv_at hl 0 rfl) ?_
          refine lv_istore hx hb d_M_attributeAt_59 hl (by decide) rfl (fun ls hl => ?_)
          exact ih1 (x1) (y1) (((σ2.1 7) + 2)) (((σ2.1 7) + 2)) σ14 _ _ _ hf hP hD hS (lv_sub hl [3, 4, 2, 1, 0] rfl)
        rw [if_neg c16] at hf
        refine lv_iconst (v := (-1)) hx hb d_M_attributeAt_55 (by decide) ?_
        obtain ⟨rfl, rfl⟩ := gRt_e hf
        exact g_zret hx hb hr hlocks rfl hAe hS () rfl hP d_M_attributeAt_56
      · intro x1 x3 x4 x5 σ0 H locs ls hf hP hD hS hl
        have hf : B_M_attributeAt_1 (R_M_attributeAt t) x1 x3 x4 x5 σ0 = some (r, σ') := hf
        unfold B_M_attributeAt_1 at hf
        refine lv_iload hx hb d_M_attributeAt_61 (lv_at hl 4 rfl) ?_
        refine lv_aload_n hx hb d_M_attributeAt_63 rfl (lv_at hl 0 rfl) ?_
        refine va_get (D := X) (ci := 9) (C := R_M) (T := T_M) (N := 35) hx hb hts u_0 hown hK hP 0 gm_0 rfl 7 (by decide) k_1 (fun _ h9 => h9) rfl d_M_attributeAt_64 ?_
        refine lv_icmp_ge (tgt := 112) hx hb d_M_attributeAt_67 rfl (fun c17 => ?_) (fun c17 => ?_)
        · skip
          rw [if_pos c17] at hf
          exact ih2 (x1) (x3) (x4) (x5) σ0 _ _ _ hf hP hD hS (lv_sub hl [0, 1, 2, 3, 4] rfl)
        rw [if_neg c17] at hf
        refine lv_aload_n hx hb d_M_attributeAt_70 rfl (lv_at hl 0 rfl) ?_
        refine va_get (D := X) (ci := 9) (C := R_M) (T := T_M) (N := 35) hx hb hts u_0 hown hK hP 0 gm_0 rfl 8 (by decide) k_2 (fun _ h9 => h9) rfl d_M_attributeAt_71 ?_
        refine lv_iload hx hb d_M_attributeAt_74 (lv_at hl 4 rfl) ?_
        obtain ⟨y18, h19, e20, hf⟩ := gLd_e hf
        refine va_cald hx hb hK hP 7 1 gm_7 rfl h19 d_M_attributeAt_76 ?_
        rw [← e20]
        refine lv_bipush (v := 34) hx hb d_M_attributeAt_77 (by decide) ?_
        refine lv_icmp_eq (tgt := 112) hx hb d_M_attributeAt_79 rfl (fun c21 => ?_) (fun c21 => ?_)
        · skip
          rw [if_pos c21] at hf
          exact ih2 (x1) (x3) (x4) (x5) σ0 _ _ _ hf hP hD hS (lv_sub hl [0, 1, 2, 3, 4] rfl)
        rw [if_neg c21] at hf
        refine lv_aload_n hx hb d_M_attributeAt_82 rfl (lv_at hl 0 rfl) ?_
        refine va_get (D := X) (ci := 9) (C := R_M) (T := T_M) (N := 35) hx hb hts u_0 hown hK hP 0 gm_0 rfl 8 (by decide) k_2 (fun _ h9 => h9) rfl d_M_attributeAt_83 ?_
        refine lv_iload hx hb d_M_attributeAt_86 (lv_at hl 4 rfl) ?_
        obtain ⟨y22, h23, e24, hf⟩ := gLd_e hf
        refine va_cald hx hb hK hP 7 1 gm_7 rfl h23 d_M_attributeAt_88 ?_
        rw [← e24]
        refine lv_bipush (v := 60) hx hb d_M_attributeAt_89 (by decide) ?_
        refine lv_icmp_eq (tgt := 112) hx hb d_M_attributeAt_91 rfl (fun c25 => ?_) (fun c25 => ?_)
        · skip
          rw [if_pos c25] at hf
          exact ih2 (x1) (x3) (x4) (x5) σ0 _ _ _ hf hP hD hS (lv_sub hl [0, 1, 2, 3, 4] rfl)
        rw [if_neg c25] at hf
        refine lv_aload_n hx hb d_M_attributeAt_94 rfl (lv_at hl 0 rfl) ?_
        refine va_get (D := X) (ci := 9) (C := R_M) (T := T_M) (N := 35) hx hb hts u_0 hown hK hP 0 gm_0 rfl 8 (by decide) k_2 (fun _ h9 => h9) rfl d_M_attributeAt_95 ?_
        refine lv_iload hx hb d_M_attributeAt_98 (lv_at hl 4 rfl) ?_
        obtain ⟨y26, h27, e28, hf⟩ := gLd_e hf
        refine va_cald hx hb hK hP 7 1 gm_7 rfl h27 d_M_attributeAt_100 ?_
        rw [← e28]
        refine lv_bipush (v := 38) hx hb d_M_attributeAt_101 (by decide) ?_
        refine lv_icmp_eq (tgt := 112) hx hb d_M_attributeAt_103 rfl (fun c29 => ?_) (fun c29 => ?_)
        · skip
          rw [if_pos c29] at hf
          exact ih2 (x1) (x3) (x4) (x5) σ0 _ _ _ hf hP hD hS (lv_sub hl [0, 1, 2, 3, 4] rfl)
        rw [if_neg c29] at hf
        refine lv_iinc (k := 4) (v := (x5 + 1)) hx hb d_M_attributeAt_106 hl rfl (by rw [show Int32.ofInt (1) = (1 : Int32) by decide]) (by decide) rfl (fun ls hl => ?_)
        refine lv_goto (tgt := 61) hx hb d_M_attributeAt_109 rfl ?_
        exact ih1 (x1) (x3) (x4) ((x5 + 1)) σ0 _ _ _ hf hP hD hS (lv_sub hl [1, 2, 3, 4, 0] rfl)
      · intro x1 x3 x4 x5 σ0 H locs ls hf hP hD hS hl
        have hf : B_M_attributeAt_2 (R_M_attributeAt t) x1 x3 x4 x5 σ0 = some (r, σ') := hf
        unfold B_M_attributeAt_2 at hf
        refine lv_aload_n hx hb d_M_attributeAt_112 rfl (lv_at hl 0 rfl) ?_
        refine lv_iload hx hb d_M_attributeAt_113 (lv_at hl 4 rfl) ?_
        obtain ⟨y30, σ31, e32, hf⟩ := gBd_e hf
        refine g_wi (va_runV ⟨hx, hb, hml, hown, hts⟩ (m_M_charOr0 e32) (cwV 1 hts (gG4 (fun _ h => List.mem_cons_of_mem _ h) tb_441 tb_442 tb_443 tb_392 tc_M_charOr0) rfl rfl rfl (by decide +kernel) ⟨Nat.le_of_ble_eq_true rfl, Nat.le_of_ble_eq_true rfl⟩) (g_preVW (q0 := 0) hE hK hP hD hS hA gm_0 rfl) rfl rfl hl.1 rfl (lv_room (Nat.le_of_ble_eq_true rfl)) d_M_attributeAt_115 ⟨Nat.zero_le _, Nat.zero_le _⟩) hD hS hA (fun _ => mW_fst) (fun y30 _ H locs hu hP hD hS => ?_)
        subst hu
        refine lv_bipush (v := 34) hx hb d_M_attributeAt_118 (by decide) ?_
        refine lv_icmp_eq (tgt := 125) hx hb d_M_attributeAt_120 rfl (fun c33 => ?_) (fun c33 => ?_)
        · skip
          rw [if_pos c33] at hf
          refine lv_aload_n hx hb d_M_attributeAt_125 rfl (lv_at hl 0 rfl) ?_
          refine va_get (D := X) (ci := 9) (C := R_M) (T := T_M) (N := 35) hx hb hts u_0 hown hK hP 0 gm_0 rfl 19 (by decide) k_3 (fun _ h9 => h9) rfl d_M_attributeAt_126 ?_
          refine lv_aload_n hx hb d_M_attributeAt_129 rfl (lv_at hl 0 rfl) ?_
          refine va_get (D := X) (ci := 9) (C := R_M) (T := T_M) (N := 35) hx hb hts u_0 hown hK hP 0 gm_0 rfl 18 (by decide) k_4 (fun _ h9 => h9) rfl d_M_attributeAt_130 ?_
          refine lv_iload_n hx hb d_M_attributeAt_133 rfl (lv_at hl 2 rfl) ?_
          obtain ⟨σ34, h35, e36, hf⟩ := gSt_e hf
          refine va_iast hx hb hK hP hD hS 16 0 gm_16 rfl h35 d_M_attributeAt_134 (fun H locs hP hD hS => ?_)
          rw [sm_16, ← e36] at hP hD
          refine lv_aload_n hx hb d_M_attributeAt_135 rfl (lv_at hl 0 rfl) ?_
          refine va_get (D := X) (ci := 9) (C := R_M) (T := T_M) (N := 35) hx hb hts u_0 hown hK hP 0 gm_0 rfl 20 (by decide) k_5 (fun _ h9 => h9) rfl d_M_attributeAt_136 ?_
          refine lv_aload_n hx hb d_M_attributeAt_139 rfl (lv_at hl 0 rfl) ?_
          refine va_get (D := X) (ci := 9) (C := R_M) (T := T_M) (N := 35) hx hb hts u_0 hown hK hP 0 gm_0 rfl 18 (by decide) k_4 (fun _ h9 => h9) rfl d_M_attributeAt_140 ?_
          refine lv_iload hx hb d_M_attributeAt_143 (lv_at hl 3 rfl) ?_
          obtain ⟨σ37, h38, e39, hf⟩ := gSt_e hf
          refine va_iast hx hb hK hP hD hS 17 0 gm_17 rfl h38 d_M_attributeAt_145 (fun H locs hP hD hS => ?_)
          rw [sm_17, ← e39] at hP hD
          refine lv_aload_n hx hb d_M_attributeAt_146 rfl (lv_at hl 0 rfl) ?_
          refine va_get (D := X) (ci := 9) (C := R_M) (T := T_M) (N := 35) hx hb hts u_0 hown hK hP 0 gm_0 rfl 21 (by decide) k_6 (fun _ h9 => h9) rfl d_M_attributeAt_147 ?_
          refine lv_aload_n hx hb d_M_attributeAt_150 rfl (lv_at hl 0 rfl) ?_
          refine va_get (D := X) (ci := 9) (C := R_M) (T := T_M) (N := 35) hx hb hts u_0 hown hK hP 0 gm_0 rfl 18 (by decide) k_4 (fun _ h9 => h9) rfl d_M_attributeAt_151 ?_
          refine lv_iload hx hb d_M_attributeAt_154 (lv_at hl 4 rfl) ?_
          obtain ⟨σ40, h41, e42, hf⟩ := gSt_e hf
          refine va_iast hx hb hK hP hD hS 18 0 gm_18 rfl h41 d_M_attributeAt_156 (fun H locs hP hD hS => ?_)
          rw [sm_18, ← e42] at hP hD
          refine lv_aload_n hx hb d_M_attributeAt_157 rfl (lv_at hl 0 rfl) ?_
          refine lv_dup hx hb d_M_attributeAt_158 rfl ?_
          refine va_get (D := X) (ci := 9) (C := R_M) (T := T_M) (N := 35) hx hb hts u_0 hown hK hP 0 gm_0 rfl 18 (by decide) k_4 (fun _ h9 => h9) rfl d_M_attributeAt_159 ?_
          refine lv_iconst (v := 1) hx hb d_M_attributeAt_162 (by decide) ?_
          refine lv_iadd hx hb d_M_attributeAt_163 ?_
          obtain ⟨σ43, e44, hf⟩ := gPut_e hf
          refine va_put (D := X) (ci := 9) (ty := .int) (C := R_M) (T := T_M) (N := 35) hx hb hts u_0 t_M t_M_ok n_M hown hK hP hD hS 0 gm_0 rfl 18 (by decide) k_4 (fun _ h9 => h9) rfl (by decide +kernel) rfl rfl (Nat.le_of_ble_eq_true rfl) d_M_attributeAt_164 (fun H locs hP hD hS => ?_)
          rw [sm_0_18, ← e44] at hP hD
          refine lv_aload_n hx hb d_M_attributeAt_167 rfl (lv_at hl 0 rfl) ?_
          refine va_get (D := X) (ci := 9) (C := R_M) (T := T_M) (N := 35) hx hb hts u_0 hown hK hP 0 gm_0 rfl 13 (by decide) k_7 (fun _ h9 => h9) rfl d_M_attributeAt_168 ?_
          refine lv_iload_n hx hb d_M_attributeAt_171 rfl (lv_at hl 1 rfl) ?_
          refine lv_dup2_11 hx hb d_M_attributeAt_172 rfl rfl ?_
          obtain ⟨y45, h46, e47, hf⟩ := gLd_e hf
          refine va_iald hx hb hK hP 11 0 gm_11 rfl h46 d_M_attributeAt_173 ?_
          rw [← e47]
          refine lv_iconst (v := 1) hx hb d_M_attributeAt_174 (by decide) ?_
          refine lv_iadd hx hb d_M_attributeAt_175 ?_
          obtain ⟨σ48, h49, e50, hf⟩ := gSt_e hf
          refine va_iast hx hb hK hP hD hS 11 0 gm_11 rfl h49 d_M_attributeAt_176 (fun H locs hP hD hS => ?_)
          rw [sm_11, ← e50] at hP hD
          refine lv_iload hx hb d_M_attributeAt_177 (lv_at hl 4 rfl) ?_
          refine lv_iconst (v := 1) hx hb d_M_attributeAt_179 (by decide) ?_
          refine lv_iadd hx hb d_M_attributeAt_180 ?_
          obtain ⟨rfl, rfl⟩ := gRt_e hf
          exact g_zret hx hb hr hlocks rfl hAe hS () rfl hP d_M_attributeAt_181
        rw [if_neg c33] at hf
        refine lv_iconst (v := (-1)) hx hb d_M_attributeAt_123 (by decide) ?_
        obtain ⟨rfl, rfl⟩ := gRt_e hf
        exact g_zret hx hb hr hlocks rfl hAe hS () rfl hP d_M_attributeAt_124
  exact (key gFuel).1 q1 q2 σ _ _ _ hf hP hD hS hl

def B_M_start_0 (rec : Nat → List Int32 → gS → Option (Int32 × gS)) (σ0 : gS) : Option (Int32 × gS) := gBd (f_M_nameAt σ0 ((σ0.1 4) + 1)) (fun y1 σ2 => if y1 < 0 then (some (0, σ2)) else (if (σ2.1 6) = 20 then (some (0, σ2)) else (gSt σ2 8 420 (σ2.1 2) y1 (fun σ6 => gSt σ6 9 420 (σ2.1 2) (σ6.1 5) (fun σ9 => gSt σ9 10 420 (σ2.1 2) (σ9.1 3) (fun σ12 => gSt σ12 11 420 (σ2.1 2) 0 (fun σ15 => gSt σ15 12 420 (σ2.1 2) 0 (fun σ18 => rec 1 [(σ2.1 2), (σ2.1 7), 0] σ18))))))))
def B_M_start_1 (rec : Nat → List Int32 → gS → Option (Int32 × gS)) (x2 : Int32) (x3 : Int32) (x4 : Int32) (σ0 : gS) : Option (Int32 × gS) := if 7 < x4 then (some (0, σ0)) else (rec 2 [x2, x3, x4, x3] σ0)
def B_M_start_2 (rec : Nat → List Int32 → gS → Option (Int32 × gS)) (x2 : Int32) (x3 : Int32) (x4 : Int32) (x5 : Int32) (σ0 : gS) : Option (Int32 × gS) := gBd (f_M_charOr0 σ0 x3) (fun y22 σ23 => if y22 = 32 then (rec 2 [x2, (x3 + 1), x4, x5] σ23) else (gBd (f_M_charOr0 σ23 x3) (fun y26 σ27 => if y26 = 47 then (gBd (f_M_charOr0 σ27 (x3 + 1)) (fun y30 σ31 => if y30 = 62 then (rec 4 [x2, x3, x4, x5, 1] σ31) else (rec 3 [x2, x3, x4, x5] σ31))) else (rec 3 [x2, x3, x4, x5] σ27))))
def B_M_start_3 (rec : Nat → List Int32 → gS → Option (Int32 × gS)) (x2 : Int32) (x3 : Int32) (x4 : Int32) (x5 : Int32) (σ0 : gS) : Option (Int32 × gS) := rec 4 [x2, x3, x4, x5, 0] σ0
def B_M_start_4 (rec : Nat → List Int32 → gS → Option (Int32 × gS)) (x2 : Int32) (x3 : Int32) (x4 : Int32) (x5 : Int32) (z0 : Int32) (σ0 : gS) : Option (Int32 × gS) := if z0 = 0 then (gBd (f_M_charOr0 σ0 x3) (fun y35 σ36 => if y35 = 62 then (rec 5 [x2, x3, z0] σ36) else (if x5 = x3 then (rec 9 [x2, x4] σ36) else (gLd σ36 11 420 x2 (fun y40 => if y40 = 6 then (rec 9 [x2, x4] σ36) else (gBd (f_M_attributeAt σ36 x2 x3) (fun y44 σ45 => rec 10 [x2, x4, y44] σ45))))))) else (rec 5 [x2, x3, z0] σ0)
def B_M_start_5 (rec : Nat → List Int32 → gS → Option (Int32 × gS)) (x2 : Int32) (x3 : Int32) (x6 : Int32) (σ0 : gS) : Option (Int32 × gS) := if x6 = 0 then (rec 6 [x2, x6, (x3 + 1)] σ0) else (rec 6 [x2, x6, (x3 + 2)] σ0)
def B_M_start_6 (rec : Nat → List Int32 → gS → Option (Int32 × gS)) (x2 : Int32) (x6 : Int32) (z1 : Int32) (σ0 : gS) : Option (Int32 × gS) := gPut σ0 4 z1 (fun σ48 => if x6 = 0 then (rec 7 [x2, x6, x2] σ48) else (rec 7 [x2, x6, (σ48.1 5)] σ48))
def B_M_start_7 (rec : Nat → List Int32 → gS → Option (Int32 × gS)) (x2 : Int32) (x6 : Int32) (z1 : Int32) (σ0 : gS) : Option (Int32 × gS) := gPut σ0 5 z1 (fun σ51 => if x6 = 0 then (rec 8 [x2, ((σ51.1 6) + 1)] σ51) else (rec 8 [x2, (σ51.1 6)] σ51))
def B_M_start_8 (rec : Nat → List Int32 → gS → Option (Int32 × gS)) (x2 : Int32) (z1 : Int32) (σ0 : gS) : Option (Int32 × gS) := gPut σ0 6 z1 (fun σ54 => gPut σ54 2 (x2 + 1) (fun σ56 => some (1, σ56)))
def B_M_start_9 (rec : Nat → List Int32 → gS → Option (Int32 × gS)) (x2 : Int32) (x4 : Int32) (σ0 : gS) : Option (Int32 × gS) := rec 10 [x2, x4, (-1)] σ0
def B_M_start_10 (rec : Nat → List Int32 → gS → Option (Int32 × gS)) (x2 : Int32) (x4 : Int32) (z0 : Int32) (σ0 : gS) : Option (Int32 × gS) := if 0 ≤ z0 then (rec 1 [x2, z0, (x4 + 1)] σ0) else (some (0, σ0))
def S_M_start (rec : Nat → List Int32 → gS → Option (Int32 × gS)) (k : Nat) (l : List Int32) (σ0 : gS) : Option (Int32 × gS) := match k, l with
  | 0, [] => B_M_start_0 rec  σ0
  | 1, [x2, x3, x4] => B_M_start_1 rec x2 x3 x4 σ0
  | 2, [x2, x3, x4, x5] => B_M_start_2 rec x2 x3 x4 x5 σ0
  | 3, [x2, x3, x4, x5] => B_M_start_3 rec x2 x3 x4 x5 σ0
  | 4, [x2, x3, x4, x5, z0] => B_M_start_4 rec x2 x3 x4 x5 z0 σ0
  | 5, [x2, x3, x6] => B_M_start_5 rec x2 x3 x6 σ0
  | 6, [x2, x6, z1] => B_M_start_6 rec x2 x6 z1 σ0
  | 7, [x2, x6, z1] => B_M_start_7 rec x2 x6 z1 σ0
  | 8, [x2, z1] => B_M_start_8 rec x2 z1 σ0
  | 9, [x2, x4] => B_M_start_9 rec x2 x4 σ0
  | 10, [x2, x4, z0] => B_M_start_10 rec x2 x4 z0 σ0
  | _, _ => none
def R_M_start : Nat → Nat → List Int32 → gS → Option (Int32 × gS)
  | 0 => fun _ _ _ => none
  | t + 1 => fun k l σ0 => S_M_start (R_M_start t) k l σ0
def f_M_start (σ : gS) : Option (Int32 × gS) := R_M_start gFuel 0 [] σ
set_option maxHeartbeats 4000000 in
set_option maxRecDepth 100000 in
theorem m_M_start {l : Launch} {X : va_G} {cI cC cZ : ClassId} {aK aV : Nat → Nat} {b : Nat → Nat} {σ σ' : gS} {r : Int32} (hf : f_M_start σ = some (r, σ')) {sz : Nat} : Met l y_M_start w_M_start { frames := 3, cells := 0, slots := 0, locals := 69 } (gPc X vwCl (gT cI cC cZ) aK aV (mW cI cC cZ b σ) sz [.ref (b 0)]) (gQi X vwCl (mW cI cC cZ b σ) sz (fun r' (_ : Unit) => r' = r) (fun _ => mW cI cC cZ b σ')) 0 0 (va_A (mW cI cC cZ b σ) sz) := by
  refine g_met (cc := b_M_start) (maxL := 7) (ret := (some .boolean)) (by decide) rfl (Nat.le_of_ble_eq_true rfl) ?_
  intro p e s m below meth c A ls hx hb hr hml hown hts hlocks hnm hsz hAe hA hP hK hD hS hl hE
  have hown : s.vm.findClass R_M = some m.cls := hown
  have u_0 : ∀ w ∈ u_ws R_M T_M 35, w ∈ w_M_start := fun w h => List.mem_cons_of_mem _ (tu_M w h)
  have k_0 := hts (.fieldLink R_M 154 "GraphPagesModel" "at" "I") (List.mem_cons_of_mem _ tb_449)
  have k_1 := hts (.fieldLink R_M 160 "GraphPagesModel" "depth" "I") (List.mem_cons_of_mem _ tb_452)
  have k_2 := hts (.fieldLink R_M 163 "GraphPagesModel" "elements" "I") (List.mem_cons_of_mem _ tb_465)
  have k_3 := hts (.fieldLink R_M 151 "GraphPagesModel" "nameEnd" "I") (List.mem_cons_of_mem _ tb_444)
  have k_4 := hts (.fieldLink R_M 33 "GraphPagesModel" "name" "[I") (List.mem_cons_of_mem _ tb_450)
  have k_5 := hts (.fieldLink R_M 36 "GraphPagesModel" "parent" "[I") (List.mem_cons_of_mem _ tb_451)
  have k_6 := hts (.fieldLink R_M 157 "GraphPagesModel" "open" "I") (List.mem_cons_of_mem _ tb_448)
  have k_7 := hts (.fieldLink R_M 39 "GraphPagesModel" "firstAttr" "[I") (List.mem_cons_of_mem _ tb_455)
  have k_8 := hts (.fieldLink R_M 166 "GraphPagesModel" "attrs" "I") (List.mem_cons_of_mem _ tb_459)
  have k_9 := hts (.fieldLink R_M 42 "GraphPagesModel" "attrCount" "[I") (List.mem_cons_of_mem _ tb_453)
  have k_10 := hts (.fieldLink R_M 45 "GraphPagesModel" "textLength" "[I") (List.mem_cons_of_mem _ tb_466)
  unfold f_M_start at hf
  have key : ∀ t : Nat, (∀ (σ0 : gS) (H : Heap) (locs : List Loc) (ls : Array Slot), R_M_start t 0 [] σ0 = some (r, σ') → va_P X vwCl (mW cI cC cZ b σ0) H → va_D A (mW cI cC cZ b σ0) → va_S A s.heap H locs → lv_has ls 7 [(0, .ref (b 0))] → W p l e (headSpec w_M_start { frames := 3, cells := 0, slots := 0, locals := 69 }).room s m [.ref (b 0)].toArray below meth c H locs 0 0 (MQ below (gQi X vwCl (mW cI cC cZ b σ) sz (fun r' (_ : Unit) => r' = r) (fun _ => mW cI cC cZ b σ')) [.ref (b 0)].toArray s 0 0 (va_A (mW cI cC cZ b σ) sz)) (F0 m 0 ls [])) ∧ (∀ (x2 : Int32) (x3 : Int32) (x4 : Int32) (σ0 : gS) (H : Heap) (locs : List Loc) (ls : Array Slot), R_M_start t 1 [x2, x3, x4] σ0 = some (r, σ') → va_P X vwCl (mW cI cC cZ b σ0) H → va_D A (mW cI cC cZ b σ0) → va_S A s.heap H locs → lv_has ls 7 [(0, .ref (b 0)), (2, .int x2), (3, .int x3), (4, .int x4)] → W p l e (headSpec w_M_start { frames := 3, cells := 0, slots := 0, locals := 69 }).room s m [.ref (b 0)].toArray below meth c H locs 0 0 (MQ below (gQi X vwCl (mW cI cC cZ b σ) sz (fun r' (_ : Unit) => r' = r) (fun _ => mW cI cC cZ b σ')) [.ref (b 0)].toArray s 0 0 (va_A (mW cI cC cZ b σ) sz)) (F0 m 80 ls [])) ∧ (∀ (x2 : Int32) (x3 : Int32) (x4 : Int32) (x5 : Int32) (σ0 : gS) (H : Heap) (locs : List Loc) (ls : Array Slot), R_M_start t 2 [x2, x3, x4, x5] σ0 = some (r, σ') → va_P X vwCl (mW cI cC cZ b σ0) H → va_D A (mW cI cC cZ b σ0) → va_S A s.heap H locs → lv_has ls 7 [(0, .ref (b 0)), (2, .int x2), (3, .int x3), (4, .int x4), (5, .int x5)] → W p l e (headSpec w_M_start { frames := 3, cells := 0, slots := 0, locals := 69 }).room s m [.ref (b 0)].toArray below meth c H locs 0 0 (MQ below (gQi X vwCl (mW cI cC cZ b σ) sz (fun r' (_ : Unit) => r' = r) (fun _ => mW cI cC cZ b σ')) [.ref (b 0)].toArray s 0 0 (va_A (mW cI cC cZ b σ) sz)) (F0 m 90 ls [])) ∧ (∀ (x2 : Int32) (x3 : Int32) (x4 : Int32) (x5 : Int32) (σ0 : gS) (H : Heap) (locs : List Loc) (ls : Array Slot), R_M_start t 3 [x2, x3, x4, x5] σ0 = some (r, σ') → va_P X vwCl (mW cI cC cZ b σ0) H → va_D A (mW cI cC cZ b σ0) → va_S A s.heap H locs → lv_has ls 7 [(0, .ref (b 0)), (2, .int x2), (3, .int x3), (4, .int x4), (5, .int x5)] → W p l e (headSpec w_M_start { frames := 3, cells := 0, slots := 0, locals := 69 }).room s m [.ref (b 0)].toArray below meth c H locs 0 0 (MQ below (gQi X vwCl (mW cI cC cZ b σ) sz (fun r' (_ : Unit) => r' = r) (fun _ => mW cI cC cZ b σ')) [.ref (b 0)].toArray s 0 0 (va_A (mW cI cC cZ b σ) sz)) (F0 m 132 ls [])) ∧ (∀ (x2 : Int32) (x3 : Int32) (x4 : Int32) (x5 : Int32) (z0 : Int32) (σ0 : gS) (H : Heap) (locs : List Loc) (ls : Array Slot), R_M_start t 4 [x2, x3, x4, x5, z0] σ0 = some (r, σ') → va_P X vwCl (mW cI cC cZ b σ0) H → va_D A (mW cI cC cZ b σ0) → va_S A s.heap H locs → lv_has ls 7 [(0, .ref (b 0)), (2, .int x2), (3, .int x3), (4, .int x4), (5, .int x5)] → W p l e (headSpec w_M_start { frames := 3, cells := 0, slots := 0, locals := 69 }).room s m [.ref (b 0)].toArray below meth c H locs 0 0 (MQ below (gQi X vwCl (mW cI cC cZ b σ) sz (fun r' (_ : Unit) => r' = r) (fun _ => mW cI cC cZ b σ')) [.ref (b 0)].toArray s 0 0 (va_A (mW cI cC cZ b σ) sz)) (F0 m 133 ls [.int z0])) ∧ (∀ (x2 : Int32) (x3 : Int32) (x6 : Int32) (σ0 : gS) (H : Heap) (locs : List Loc) (ls : Array Slot), R_M_start t 5 [x2, x3, x6] σ0 = some (r, σ') → va_P X vwCl (mW cI cC cZ b σ0) H → va_D A (mW cI cC cZ b σ0) → va_S A s.heap H locs → lv_has ls 7 [(0, .ref (b 0)), (2, .int x2), (3, .int x3), (6, .int x6)] → W p l e (headSpec w_M_start { frames := 3, cells := 0, slots := 0, locals := 69 }).room s m [.ref (b 0)].toArray below meth c H locs 0 0 (MQ below (gQi X vwCl (mW cI cC cZ b σ) sz (fun r' (_ : Unit) => r' = r) (fun _ => mW cI cC cZ b σ')) [.ref (b 0)].toArray s 0 0 (va_A (mW cI cC cZ b σ) sz)) (F0 m 150 ls [])) ∧ (∀ (x2 : Int32) (x6 : Int32) (z1 : Int32) (σ0 : gS) (H : Heap) (locs : List Loc) (ls : Array Slot), R_M_start t 6 [x2, x6, z1] σ0 = some (r, σ') → va_P X vwCl (mW cI cC cZ b σ0) H → va_D A (mW cI cC cZ b σ0) → va_S A s.heap H locs → lv_has ls 7 [(0, .ref (b 0)), (2, .int x2), (6, .int x6)] → W p l e (headSpec w_M_start { frames := 3, cells := 0, slots := 0, locals := 69 }).room s m [.ref (b 0)].toArray below meth c H locs 0 0 (MQ below (gQi X vwCl (mW cI cC cZ b σ) sz (fun r' (_ : Unit) => r' = r) (fun _ => mW cI cC cZ b σ')) [.ref (b 0)].toArray s 0 0 (va_A (mW cI cC cZ b σ) sz)) (F0 m 165 ls [.int z1, .ref (b 0)])) ∧ (∀ (x2 : Int32) (x6 : Int32) (z1 : Int32) (σ0 : gS) (H : Heap) (locs : List Loc) (ls : Array Slot), R_M_start t 7 [x2, x6, z1] σ0 = some (r, σ') → va_P X vwCl (mW cI cC cZ b σ0) H → va_D A (mW cI cC cZ b σ0) → va_S A s.heap H locs → lv_has ls 7 [(0, .ref (b 0)), (2, .int x2), (6, .int x6)] → W p l e (headSpec w_M_start { frames := 3, cells := 0, slots := 0, locals := 69 }).room s m [.ref (b 0)].toArray below meth c H locs 0 0 (MQ below (gQi X vwCl (mW cI cC cZ b σ) sz (fun r' (_ : Unit) => r' = r) (fun _ => mW cI cC cZ b σ')) [.ref (b 0)].toArray s 0 0 (va_A (mW cI cC cZ b σ) sz)) (F0 m 182 ls [.int z1, .ref (b 0)])) ∧ (∀ (x2 : Int32) (z1 : Int32) (σ0 : gS) (H : Heap) (locs : List Loc) (ls : Array Slot), R_M_start t 8 [x2, z1] σ0 = some (r, σ') → va_P X vwCl (mW cI cC cZ b σ0) H → va_D A (mW cI cC cZ b σ0) → va_S A s.heap H locs → lv_has ls 7 [(0, .ref (b 0)), (2, .int x2)] → W p l e (headSpec w_M_start { frames := 3, cells := 0, slots := 0, locals := 69 }).room s m [.ref (b 0)].toArray below meth c H locs 0 0 (MQ below (gQi X vwCl (mW cI cC cZ b σ) sz (fun r' (_ : Unit) => r' = r) (fun _ => mW cI cC cZ b σ')) [.ref (b 0)].toArray s 0 0 (va_A (mW cI cC cZ b σ) sz)) (F0 m 204 ls [.int z1, .ref (b 0)])) ∧ (∀ (x2 : Int32) (x4 : Int32) (σ0 : gS) (H : Heap) (locs : List Loc) (ls : Array Slot), R_M_start t 9 [x2, x4] σ0 = some (r, σ') → va_P X vwCl (mW cI cC cZ b σ0) H → va_D A (mW cI cC cZ b σ0) → va_S A s.heap H locs → lv_has ls 7 [(0, .ref (b 0)), (2, .int x2), (4, .int x4)] → W p l e (headSpec w_M_start { frames := 3, cells := 0, slots := 0, locals := 69 }).room s m [.ref (b 0)].toArray below meth c H locs 0 0 (MQ below (gQi X vwCl (mW cI cC cZ b σ) sz (fun r' (_ : Unit) => r' = r) (fun _ => mW cI cC cZ b σ')) [.ref (b 0)].toArray s 0 0 (va_A (mW cI cC cZ b σ) sz)) (F0 m 233 ls [])) ∧ (∀ (x2 : Int32) (x4 : Int32) (z0 : Int32) (σ0 : gS) (H : Heap) (locs : List Loc) (ls : Array Slot), R_M_start t 10 [x2, x4, z0] σ0 = some (r, σ') → va_P X vwCl (mW cI cC cZ b σ0) H → va_D A (mW cI cC cZ b σ0) → va_S A s.heap H locs → lv_has ls 7 [(0, .ref (b 0)), (2, .int x2), (4, .int x4)] → W p l e (headSpec w_M_start { frames := 3, cells := 0, slots := 0, locals := 69 }).room s m [.ref (b 0)].toArray below meth c H locs 0 0 (MQ below (gQi X vwCl (mW cI cC cZ b σ) sz (fun r' (_ : Unit) => r' = r) (fun _ => mW cI cC cZ b σ')) [.ref (b 0)].toArray s 0 0 (va_A (mW cI cC cZ b σ) sz)) (F0 m 243 ls [.int z0])) := by
    intro t
    induction t with
    | zero => exact ⟨fun  _ _ _ _ hf => (by have hf : (none : Option (Int32 × gS)) = some (r, σ') := hf; cases hf), fun _ _ _ _ _ _ _ hf => (by have hf : (none : Option (Int32 × gS)) = some (r, σ') := hf; cases hf), fun _ _ _ _ _ _ _ _ hf => (by have hf : (none : Option (Int32 × gS)) = some (r, σ') := hf; cases hf), fun _ _ _ _ _ _ _ _ hf => (by have hf : (none : Option (Int32 × gS)) = some (r, σ') := hf; cases hf), fun _ _ _ _ _ _ _ _ _ hf => (by have hf : (none : Option (Int32 × gS)) = some (r, σ') := hf; cases hf), fun _ _ _ _ _ _ _ hf => (by have hf : (none : Option (Int32 × gS)) = some (r, σ') := hf; cases hf), fun _ _ _ _ _ _ _ hf => (by have hf : (none : Option (Int32 × gS)) = some (r, σ') := hf; cases hf), fun _ _ _ _ _ _ _ hf => (by have hf : (none : Option (Int32 × gS)) = some (r, σ') := hf; cases hf), fun _ _ _ _ _ _ hf => (by have hf : (none : Option (Int32 × gS)) = some (r, σ') := hf; cases hf), fun _ _ _ _ _ _ hf => (by have hf : (none : Option (Int32 × gS)) = some (r, σ') := hf; cases hf), fun _ _ _ _ _ _ _ hf => (by have hf : (none : Option (Int32 × gS)) = some (r, σ') := hf; cases hf)⟩
    | succ t ih =>
      obtain ⟨ih0, ih1, ih2, ih3, ih4, ih5, ih6, ih7, ih8, ih9, ih10⟩ := ih
      refine ⟨?_, ?_, ?_, ?_, ?_, ?_, ?_, ?_, ?_, ?_, ?_⟩
      · intro  σ0 H locs ls hf hP hD hS hl
        have hf : B_M_start_0 (R_M_start t)  σ0 = some (r, σ') := hf
        unfold B_M_start_0 at hf
        refine lv_aload_n hx hb d_M_start_0 rfl (lv_at hl 0 rfl) ?_
        refine lv_aload_n hx hb d_M_start_1 rfl (lv_at hl 0 rfl) ?_
        refine va_get (D := X) (ci := 9) (C := R_M) (T := T_M) (N := 35) hx hb hts u_0 hown hK hP 0 gm_0 rfl 22 (by decide) k_0 (fun _ h9 => h9) rfl d_M_start_2 ?_
        refine lv_iconst (v := 1) hx hb d_M_start_5 (by decide) ?_
        refine lv_iadd hx hb d_M_start_6 ?_
        obtain ⟨y1, σ2, e3, hf⟩ := gBd_e hf
        refine g_wi (va_runV ⟨hx, hb, hml, hown, hts⟩ (m_M_nameAt e3) (cwV 1 hts (gG4 (fun _ h => List.mem_cons_of_mem _ h) tb_445 tb_446 tb_447 tb_392 tc_M_nameAt) rfl rfl rfl (by decide +kernel) ⟨Nat.le_of_ble_eq_true rfl, Nat.le_of_ble_eq_true rfl⟩) (g_preVW (q0 := 0) hE hK hP hD hS hA gm_0 rfl) rfl rfl hl.1 rfl (lv_room (Nat.le_of_ble_eq_true rfl)) d_M_start_7 ⟨Nat.zero_le _, Nat.zero_le _⟩) hD hS hA (fun _ => mW_fst) (fun y1 _ H locs hu hP hD hS => ?_)
        subst hu
        refine lv_istore_n hx hb d_M_start_10 rfl hl (by decide) rfl (fun ls hl => ?_)
        refine lv_iload_n hx hb d_M_start_11 rfl (lv_at hl 0 rfl) ?_
        refine lv_if_lt (tgt := 24) hx hb d_M_start_12 rfl (fun c4 => ?_) (fun c4 => ?_)
        · skip
          rw [if_pos c4] at hf
          refine lv_iconst (v := 0) hx hb d_M_start_24 (by decide) ?_
          obtain ⟨rfl, rfl⟩ := gRt_e hf
          exact g_zret hx hb hr hlocks rfl hAe hS () rfl hP d_M_start_25
        rw [if_neg c4] at hf
        refine lv_aload_n hx hb d_M_start_15 rfl (lv_at hl 1 rfl) ?_
        refine va_get (D := X) (ci := 9) (C := R_M) (T := T_M) (N := 35) hx hb hts u_0 hown hK hP 0 gm_0 rfl 24 (by decide) k_1 (fun _ h9 => h9) rfl d_M_start_16 ?_
        refine lv_bipush (v := 20) hx hb d_M_start_19 (by decide) ?_
        refine lv_icmp_ne (tgt := 26) hx hb d_M_start_21 rfl (fun c5 => ?_) (fun c5 => ?_)
        · skip
          rw [if_neg c5] at hf
          refine lv_aload_n hx hb d_M_start_26 rfl (lv_at hl 1 rfl) ?_
          refine va_get (D := X) (ci := 9) (C := R_M) (T := T_M) (N := 35) hx hb hts u_0 hown hK hP 0 gm_0 rfl 9 (by decide) k_2 (fun _ h9 => h9) rfl d_M_start_27 ?_
          refine lv_istore_n hx hb d_M_start_30 rfl hl (by decide) rfl (fun ls hl => ?_)
          refine lv_aload_n hx hb d_M_start_31 rfl (lv_at hl 2 rfl) ?_
          refine va_get (D := X) (ci := 9) (C := R_M) (T := T_M) (N := 35) hx hb hts u_0 hown hK hP 0 gm_0 rfl 25 (by decide) k_3 (fun _ h9 => h9) rfl d_M_start_32 ?_
          refine lv_istore_n hx hb d_M_start_35 rfl hl (by decide) rfl (fun ls hl => ?_)
          refine lv_aload_n hx hb d_M_start_36 rfl (lv_at hl 3 rfl) ?_
          refine va_get (D := X) (ci := 9) (C := R_M) (T := T_M) (N := 35) hx hb hts u_0 hown hK hP 0 gm_0 rfl 10 (by decide) k_4 (fun _ h9 => h9) rfl d_M_start_37 ?_
          refine lv_iload_n hx hb d_M_start_40 rfl (lv_at hl 1 rfl) ?_
          refine lv_iload_n hx hb d_M_start_41 rfl (lv_at hl 2 rfl) ?_
          obtain ⟨σ6, h7, e8, hf⟩ := gSt_e hf
          refine va_iast hx hb hK hP hD hS 8 0 gm_8 rfl h7 d_M_start_42 (fun H locs hP hD hS => ?_)
          rw [sm_8, ← e8] at hP hD
          refine lv_aload_n hx hb d_M_start_43 rfl (lv_at hl 3 rfl) ?_
          refine va_get (D := X) (ci := 9) (C := R_M) (T := T_M) (N := 35) hx hb hts u_0 hown hK hP 0 gm_0 rfl 11 (by decide) k_5 (fun _ h9 => h9) rfl d_M_start_44 ?_
          refine lv_iload_n hx hb d_M_start_47 rfl (lv_at hl 1 rfl) ?_
          refine lv_aload_n hx hb d_M_start_48 rfl (lv_at hl 3 rfl) ?_
          refine va_get (D := X) (ci := 9) (C := R_M) (T := T_M) (N := 35) hx hb hts u_0 hown hK hP 0 gm_0 rfl 23 (by decide) k_6 (fun _ h9 => h9) rfl d_M_start_49 ?_
          obtain ⟨σ9, h10, e11, hf⟩ := gSt_e hf
          refine va_iast hx hb hK hP hD hS 9 0 gm_9 rfl h10 d_M_start_52 (fun H locs hP hD hS => ?_)
          rw [sm_9, ← e11] at hP hD
          refine lv_aload_n hx hb d_M_start_53 rfl (lv_at hl 3 rfl) ?_
          refine va_get (D := X) (ci := 9) (C := R_M) (T := T_M) (N := 35) hx hb hts u_0 hown hK hP 0 gm_0 rfl 12 (by decide) k_7 (fun _ h9 => h9) rfl d_M_start_54 ?_
          refine lv_iload_n hx hb d_M_start_57 rfl (lv_at hl 1 rfl) ?_
          refine lv_aload_n hx hb d_M_start_58 rfl (lv_at hl 3 rfl) ?_
          refine va_get (D := X) (ci := 9) (C := R_M) (T := T_M) (N := 35) hx hb hts u_0 hown hK hP 0 gm_0 rfl 18 (by decide) k_8 (fun _ h9 => h9) rfl d_M_start_59 ?_
          obtain ⟨σ12, h13, e14, hf⟩ := gSt_e hf
          refine va_iast hx hb hK hP hD hS 10 0 gm_10 rfl h13 d_M_start_62 (fun H locs hP hD hS => ?_)
          rw [sm_10, ← e14] at hP hD
          refine lv_aload_n hx hb d_M_start_63 rfl (lv_at hl 3 rfl) ?_
          refine va_get (D := X) (ci := 9) (C := R_M) (T := T_M) (N := 35) hx hb hts u_0 hown hK hP 0 gm_0 rfl 13 (by decide) k_9 (fun _ h9 => h9) rfl d_M_start_64 ?_
          refine lv_iload_n hx hb d_M_start_67 rfl (lv_at hl 1 rfl) ?_
          refine lv_iconst (v := 0) hx hb d_M_start_68 (by decide) ?_
          obtain ⟨σ15, h16, e17, hf⟩ := gSt_e hf
          refine va_iast hx hb hK hP hD hS 11 0 gm_11 rfl h16 d_M_start_69 (fun H locs hP hD hS => ?_)
          rw [sm_11, ← e17] at hP hD
          refine lv_aload_n hx hb d_M_start_70 rfl (lv_at hl 3 rfl) ?_
          refine va_get (D := X) (ci := 9) (C := R_M) (T := T_M) (N := 35) hx hb hts u_0 hown hK hP 0 gm_0 rfl 14 (by decide) k_10 (fun _ h9 => h9) rfl d_M_start_71 ?_
          refine lv_iload_n hx hb d_M_start_74 rfl (lv_at hl 1 rfl) ?_
          refine lv_iconst (v := 0) hx hb d_M_start_75 (by decide) ?_
          obtain ⟨σ18, h19, e20, hf⟩ := gSt_e hf
          refine va_iast hx hb hK hP hD hS 12 0 gm_12 rfl h19 d_M_start_76 (fun H locs hP hD hS => ?_)
          rw [sm_12, ← e20] at hP hD
          refine lv_iconst (v := 0) hx hb d_M_start_77 (by decide) ?_
          refine lv_istore hx hb d_M_start_78 hl (by decide) rfl (fun ls hl => ?_)
          exact ih1 ((σ2.1 2)) ((σ2.1 7)) (0) σ18 _ _ _ hf hP hD hS (lv_sub hl [4, 2, 1, 0] rfl)
        rw [if_pos c5] at hf
        refine lv_iconst (v := 0) hx hb d_M_start_24 (by decide) ?_
        obtain ⟨rfl, rfl⟩ := gRt_e hf
        exact g_zret hx hb hr hlocks rfl hAe hS () rfl hP d_M_start_25
      · intro x2 x3 x4 σ0 H locs ls hf hP hD hS hl
        have hf : B_M_start_1 (R_M_start t) x2 x3 x4 σ0 = some (r, σ') := hf
        unfold B_M_start_1 at hf
        refine lv_iload hx hb d_M_start_80 (lv_at hl 3 rfl) ?_
        refine lv_bipush (v := 7) hx hb d_M_start_82 (by decide) ?_
        refine lv_icmp_gt (tgt := 256) hx hb d_M_start_84 rfl (fun c21 => ?_) (fun c21 => ?_)
        · skip
          rw [if_pos c21] at hf
          refine lv_iconst (v := 0) hx hb d_M_start_256 (by decide) ?_
          obtain ⟨rfl, rfl⟩ := gRt_e hf
          exact g_zret hx hb hr hlocks rfl hAe hS () rfl hP d_M_start_257
        rw [if_neg c21] at hf
        refine lv_iload_n hx hb d_M_start_87 rfl (lv_at hl 2 rfl) ?_
        refine lv_istore hx hb d_M_start_88 hl (by decide) rfl (fun ls hl => ?_)
        exact ih2 (x2) (x3) (x4) (x3) σ0 _ _ _ hf hP hD hS (lv_sub hl [1, 2, 3, 4, 0] rfl)
      · intro x2 x3 x4 x5 σ0 H locs ls hf hP hD hS hl
        have hf : B_M_start_2 (R_M_start t) x2 x3 x4 x5 σ0 = some (r, σ') := hf
        unfold B_M_start_2 at hf
        refine lv_aload_n hx hb d_M_start_90 rfl (lv_at hl 0 rfl) ?_
        refine lv_iload_n hx hb d_M_start_91 rfl (lv_at hl 2 rfl) ?_
        obtain ⟨y22, σ23, e24, hf⟩ := gBd_e hf
        refine g_wi (va_runV ⟨hx, hb, hml, hown, hts⟩ (m_M_charOr0 e24) (cwV 1 hts (gG4 (fun _ h => List.mem_cons_of_mem _ h) tb_441 tb_442 tb_443 tb_392 tc_M_charOr0) rfl rfl rfl (by decide +kernel) ⟨Nat.le_of_ble_eq_true rfl, Nat.le_of_ble_eq_true rfl⟩) (g_preVW (q0 := 0) hE hK hP hD hS hA gm_0 rfl) rfl rfl hl.1 rfl (lv_room (Nat.le_of_ble_eq_true rfl)) d_M_start_92 ⟨Nat.zero_le _, Nat.zero_le _⟩) hD hS hA (fun _ => mW_fst) (fun y22 _ H locs hu hP hD hS => ?_)
        subst hu
        refine lv_bipush (v := 32) hx hb d_M_start_95 (by decide) ?_
        refine lv_icmp_ne (tgt := 106) hx hb d_M_start_97 rfl (fun c25 => ?_) (fun c25 => ?_)
        · skip
          rw [if_neg c25] at hf
          refine lv_aload_n hx hb d_M_start_106 rfl (lv_at hl 0 rfl) ?_
          refine lv_iload_n hx hb d_M_start_107 rfl (lv_at hl 2 rfl) ?_
          obtain ⟨y26, σ27, e28, hf⟩ := gBd_e hf
          refine g_wi (va_runV ⟨hx, hb, hml, hown, hts⟩ (m_M_charOr0 e28) (cwV 1 hts (gG4 (fun _ h => List.mem_cons_of_mem _ h) tb_441 tb_442 tb_443 tb_392 tc_M_charOr0) rfl rfl rfl (by decide +kernel) ⟨Nat.le_of_ble_eq_true rfl, Nat.le_of_ble_eq_true rfl⟩) (g_preVW (q0 := 0) hE hK hP hD hS hA gm_0 rfl) rfl rfl hl.1 rfl (lv_room (Nat.le_of_ble_eq_true rfl)) d_M_start_108 ⟨Nat.zero_le _, Nat.zero_le _⟩) hD hS hA (fun _ => mW_fst) (fun y26 _ H locs hu hP hD hS => ?_)
          subst hu
          refine lv_bipush (v := 47) hx hb d_M_start_111 (by decide) ?_
          refine lv_icmp_ne (tgt := 132) hx hb d_M_start_113 rfl (fun c29 => ?_) (fun c29 => ?_)
          · skip
            rw [if_neg c29] at hf
            exact ih3 (x2) (x3) (x4) (x5) σ27 _ _ _ hf hP hD hS (lv_sub hl [0, 1, 2, 3, 4] rfl)
          rw [if_pos c29] at hf
          refine lv_aload_n hx hb d_M_start_116 rfl (lv_at hl 0 rfl) ?_
          refine lv_iload_n hx hb d_M_start_117 rfl (lv_at hl 2 rfl) ?_
          refine lv_iconst (v := 1) hx hb d_M_start_118 (by decide) ?_
          refine lv_iadd hx hb d_M_start_119 ?_
          obtain ⟨y30, σ31, e32, hf⟩ := gBd_e hf
          refine g_wi (va_runV ⟨hx, hb, hml, hown, hts⟩ (m_M_charOr0 e32) (cwV 1 hts (gG4 (fun _ h => List.mem_cons_of_mem _ h) tb_441 tb_442 tb_443 tb_392 tc_M_charOr0) rfl rfl rfl (by decide +kernel) ⟨Nat.le_of_ble_eq_true rfl, Nat.le_of_ble_eq_true rfl⟩) (g_preVW (q0 := 0) hE hK hP hD hS hA gm_0 rfl) rfl rfl hl.1 rfl (lv_room (Nat.le_of_ble_eq_true rfl)) d_M_start_120 ⟨Nat.zero_le _, Nat.zero_le _⟩) hD hS hA (fun _ => mW_fst) (fun y30 _ H locs hu hP hD hS => ?_)
          subst hu
          refine lv_bipush (v := 62) hx hb d_M_start_123 (by decide) ?_
          refine lv_icmp_ne (tgt := 132) hx hb d_M_start_125 rfl (fun c33 => ?_) (fun c33 => ?_)
          · skip
            rw [if_neg c33] at hf
            exact ih3 (x2) (x3) (x4) (x5) σ31 _ _ _ hf hP hD hS (lv_sub hl [0, 1, 2, 3, 4] rfl)
          rw [if_pos c33] at hf
          refine lv_iconst (v := 1) hx hb d_M_start_128 (by decide) ?_
          refine lv_goto (tgt := 133) hx hb d_M_start_129 rfl ?_
          exact ih4 (x2) (x3) (x4) (x5) (1) σ31 _ _ _ hf hP hD hS (lv_sub hl [0, 1, 2, 3, 4] rfl)
        rw [if_pos c25] at hf
        refine lv_iinc (k := 2) (v := (x3 + 1)) hx hb d_M_start_100 hl rfl (by rw [show Int32.ofInt (1) = (1 : Int32) by decide]) (by decide) rfl (fun ls hl => ?_)
        refine lv_goto (tgt := 90) hx hb d_M_start_103 rfl ?_
        exact ih2 (x2) ((x3 + 1)) (x4) (x5) σ23 _ _ _ hf hP hD hS (lv_sub hl [1, 2, 0, 3, 4] rfl)
      · intro x2 x3 x4 x5 σ0 H locs ls hf hP hD hS hl
        have hf : B_M_start_3 (R_M_start t) x2 x3 x4 x5 σ0 = some (r, σ') := hf
        unfold B_M_start_3 at hf
        refine lv_iconst (v := 0) hx hb d_M_start_132 (by decide) ?_
        exact ih4 (x2) (x3) (x4) (x5) (0) σ0 _ _ _ hf hP hD hS (lv_sub hl [0, 1, 2, 3, 4] rfl)
      · intro x2 x3 x4 x5 z0 σ0 H locs ls hf hP hD hS hl
        have hf : B_M_start_4 (R_M_start t) x2 x3 x4 x5 z0 σ0 = some (r, σ') := hf
        unfold B_M_start_4 at hf
        refine lv_istore hx hb d_M_start_133 hl (by decide) rfl (fun ls hl => ?_)
        refine lv_iload hx hb d_M_start_135 (lv_at hl 0 rfl) ?_
        refine lv_if_ne (tgt := 150) hx hb d_M_start_137 rfl (fun c34 => ?_) (fun c34 => ?_)
        · skip
          rw [if_neg c34] at hf
          exact ih5 (x2) (x3) (z0) σ0 _ _ _ hf hP hD hS (lv_sub hl [1, 2, 3, 0] rfl)
        rw [if_pos c34] at hf
        refine lv_aload_n hx hb d_M_start_140 rfl (lv_at hl 1 rfl) ?_
        refine lv_iload_n hx hb d_M_start_141 rfl (lv_at hl 3 rfl) ?_
        obtain ⟨y35, σ36, e37, hf⟩ := gBd_e hf
        refine g_wi (va_runV ⟨hx, hb, hml, hown, hts⟩ (m_M_charOr0 e37) (cwV 1 hts (gG4 (fun _ h => List.mem_cons_of_mem _ h) tb_441 tb_442 tb_443 tb_392 tc_M_charOr0) rfl rfl rfl (by decide +kernel) ⟨Nat.le_of_ble_eq_true rfl, Nat.le_of_ble_eq_true rfl⟩) (g_preVW (q0 := 0) hE hK hP hD hS hA gm_0 rfl) rfl rfl hl.1 rfl (lv_room (Nat.le_of_ble_eq_true rfl)) d_M_start_142 ⟨Nat.zero_le _, Nat.zero_le _⟩) hD hS hA (fun _ => mW_fst) (fun y35 _ H locs hu hP hD hS => ?_)
        subst hu
        refine lv_bipush (v := 62) hx hb d_M_start_145 (by decide) ?_
        refine lv_icmp_ne (tgt := 216) hx hb d_M_start_147 rfl (fun c38 => ?_) (fun c38 => ?_)
        · skip
          rw [if_neg c38] at hf
          refine lv_iload hx hb d_M_start_216 (lv_at hl 5 rfl) ?_
          refine lv_iload_n hx hb d_M_start_218 rfl (lv_at hl 3 rfl) ?_
          refine lv_icmp_eq (tgt := 233) hx hb d_M_start_219 rfl (fun c39 => ?_) (fun c39 => ?_)
          · skip
            rw [if_pos c39] at hf
            exact ih9 (x2) (x4) σ36 _ _ _ hf hP hD hS (lv_sub hl [1, 2, 4] rfl)
          rw [if_neg c39] at hf
          refine lv_aload_n hx hb d_M_start_222 rfl (lv_at hl 1 rfl) ?_
          refine va_get (D := X) (ci := 9) (C := R_M) (T := T_M) (N := 35) hx hb hts u_0 hown hK hP 0 gm_0 rfl 13 (by decide) k_9 (fun _ h9 => h9) rfl d_M_start_223 ?_
          refine lv_iload_n hx hb d_M_start_226 rfl (lv_at hl 2 rfl) ?_
          obtain ⟨y40, h41, e42, hf⟩ := gLd_e hf
          refine va_iald hx hb hK hP 11 0 gm_11 rfl h41 d_M_start_227 ?_
          rw [← e42]
          refine lv_bipush (v := 6) hx hb d_M_start_228 (by decide) ?_
          refine lv_icmp_ne (tgt := 237) hx hb d_M_start_230 rfl (fun c43 => ?_) (fun c43 => ?_)
          · skip
            rw [if_neg c43] at hf
            refine lv_aload_n hx hb d_M_start_237 rfl (lv_at hl 1 rfl) ?_
            refine lv_iload_n hx hb d_M_start_238 rfl (lv_at hl 2 rfl) ?_
            refine lv_iload_n hx hb d_M_start_239 rfl (lv_at hl 3 rfl) ?_
            obtain ⟨y44, σ45, e46, hf⟩ := gBd_e hf
            refine g_wi (va_runV ⟨hx, hb, hml, hown, hts⟩ (m_M_attributeAt e46) (cwV 2 hts (gG4 (fun _ h => List.mem_cons_of_mem _ h) tb_462 tb_463 tb_464 tb_392 tc_M_attributeAt) rfl rfl rfl (by decide +kernel) ⟨Nat.le_of_ble_eq_true rfl, Nat.le_of_ble_eq_true rfl⟩) (g_preVW (q0 := 0) hE hK hP hD hS hA gm_0 rfl) rfl rfl hl.1 rfl (lv_room (Nat.le_of_ble_eq_true rfl)) d_M_start_240 ⟨Nat.zero_le _, Nat.zero_le _⟩) hD hS hA (fun _ => mW_fst) (fun y44 _ H locs hu hP hD hS => ?_)
            subst hu
            exact ih10 (x2) (x4) (y44) σ45 _ _ _ hf hP hD hS (lv_sub hl [1, 2, 4] rfl)
          rw [if_pos c43] at hf
          exact ih9 (x2) (x4) σ36 _ _ _ hf hP hD hS (lv_sub hl [1, 2, 4] rfl)
        rw [if_pos c38] at hf
        exact ih5 (x2) (x3) (z0) σ36 _ _ _ hf hP hD hS (lv_sub hl [1, 2, 3, 0] rfl)
      · intro x2 x3 x6 σ0 H locs ls hf hP hD hS hl
        have hf : B_M_start_5 (R_M_start t) x2 x3 x6 σ0 = some (r, σ') := hf
        unfold B_M_start_5 at hf
        refine lv_aload_n hx hb d_M_start_150 rfl (lv_at hl 0 rfl) ?_
        refine lv_iload hx hb d_M_start_151 (lv_at hl 3 rfl) ?_
        refine lv_if_eq (tgt := 162) hx hb d_M_start_153 rfl (fun c47 => ?_) (fun c47 => ?_)
        · skip
          rw [if_pos c47] at hf
          refine lv_iload_n hx hb d_M_start_162 rfl (lv_at hl 2 rfl) ?_
          refine lv_iconst (v := 1) hx hb d_M_start_163 (by decide) ?_
          refine lv_iadd hx hb d_M_start_164 ?_
          exact ih6 (x2) (x6) ((x3 + 1)) σ0 _ _ _ hf hP hD hS (lv_sub hl [0, 1, 3] rfl)
        rw [if_neg c47] at hf
        refine lv_iload_n hx hb d_M_start_156 rfl (lv_at hl 2 rfl) ?_
        refine lv_iconst (v := 2) hx hb d_M_start_157 (by decide) ?_
        refine lv_iadd hx hb d_M_start_158 ?_
        refine lv_goto (tgt := 165) hx hb d_M_start_159 rfl ?_
        exact ih6 (x2) (x6) ((x3 + 2)) σ0 _ _ _ hf hP hD hS (lv_sub hl [0, 1, 3] rfl)
      · intro x2 x6 z1 σ0 H locs ls hf hP hD hS hl
        have hf : B_M_start_6 (R_M_start t) x2 x6 z1 σ0 = some (r, σ') := hf
        unfold B_M_start_6 at hf
        obtain ⟨σ48, e49, hf⟩ := gPut_e hf
        refine va_put (D := X) (ci := 9) (ty := .int) (C := R_M) (T := T_M) (N := 35) hx hb hts u_0 t_M t_M_ok n_M hown hK hP hD hS 0 gm_0 rfl 22 (by decide) k_0 (fun _ h9 => h9) rfl (by decide +kernel) rfl rfl (Nat.le_of_ble_eq_true rfl) d_M_start_165 (fun H locs hP hD hS => ?_)
        rw [sm_0_22, ← e49] at hP hD
        refine lv_aload_n hx hb d_M_start_168 rfl (lv_at hl 0 rfl) ?_
        refine lv_iload hx hb d_M_start_169 (lv_at hl 2 rfl) ?_
        refine lv_if_eq (tgt := 181) hx hb d_M_start_171 rfl (fun c50 => ?_) (fun c50 => ?_)
        · skip
          rw [if_pos c50] at hf
          refine lv_iload_n hx hb d_M_start_181 rfl (lv_at hl 1 rfl) ?_
          exact ih7 (x2) (x6) (x2) σ48 _ _ _ hf hP hD hS (lv_sub hl [0, 1, 2] rfl)
        rw [if_neg c50] at hf
        refine lv_aload_n hx hb d_M_start_174 rfl (lv_at hl 0 rfl) ?_
        refine va_get (D := X) (ci := 9) (C := R_M) (T := T_M) (N := 35) hx hb hts u_0 hown hK hP 0 gm_0 rfl 23 (by decide) k_6 (fun _ h9 => h9) rfl d_M_start_175 ?_
        refine lv_goto (tgt := 182) hx hb d_M_start_178 rfl ?_
        exact ih7 (x2) (x6) ((σ48.1 5)) σ48 _ _ _ hf hP hD hS (lv_sub hl [0, 1, 2] rfl)
      · intro x2 x6 z1 σ0 H locs ls hf hP hD hS hl
        have hf : B_M_start_7 (R_M_start t) x2 x6 z1 σ0 = some (r, σ') := hf
        unfold B_M_start_7 at hf
        obtain ⟨σ51, e52, hf⟩ := gPut_e hf
        refine va_put (D := X) (ci := 9) (ty := .int) (C := R_M) (T := T_M) (N := 35) hx hb hts u_0 t_M t_M_ok n_M hown hK hP hD hS 0 gm_0 rfl 23 (by decide) k_6 (fun _ h9 => h9) rfl (by decide +kernel) rfl rfl (Nat.le_of_ble_eq_true rfl) d_M_start_182 (fun H locs hP hD hS => ?_)
        rw [sm_0_23, ← e52] at hP hD
        refine lv_aload_n hx hb d_M_start_185 rfl (lv_at hl 0 rfl) ?_
        refine lv_iload hx hb d_M_start_186 (lv_at hl 2 rfl) ?_
        refine lv_if_eq (tgt := 198) hx hb d_M_start_188 rfl (fun c53 => ?_) (fun c53 => ?_)
        · skip
          rw [if_pos c53] at hf
          refine lv_aload_n hx hb d_M_start_198 rfl (lv_at hl 0 rfl) ?_
          refine va_get (D := X) (ci := 9) (C := R_M) (T := T_M) (N := 35) hx hb hts u_0 hown hK hP 0 gm_0 rfl 24 (by decide) k_1 (fun _ h9 => h9) rfl d_M_start_199 ?_
          refine lv_iconst (v := 1) hx hb d_M_start_202 (by decide) ?_
          refine lv_iadd hx hb d_M_start_203 ?_
          exact ih8 (x2) (((σ51.1 6) + 1)) σ51 _ _ _ hf hP hD hS (lv_sub hl [0, 1] rfl)
        rw [if_neg c53] at hf
        refine lv_aload_n hx hb d_M_start_191 rfl (lv_at hl 0 rfl) ?_
        refine va_get (D := X) (ci := 9) (C := R_M) (T := T_M) (N := 35) hx hb hts u_0 hown hK hP 0 gm_0 rfl 24 (by decide) k_1 (fun _ h9 => h9) rfl d_M_start_192 ?_
        refine lv_goto (tgt := 204) hx hb d_M_start_195 rfl ?_
        exact ih8 (x2) ((σ51.1 6)) σ51 _ _ _ hf hP hD hS (lv_sub hl [0, 1] rfl)
      · intro x2 z1 σ0 H locs ls hf hP hD hS hl
        have hf : B_M_start_8 (R_M_start t) x2 z1 σ0 = some (r, σ') := hf
        unfold B_M_start_8 at hf
        obtain ⟨σ54, e55, hf⟩ := gPut_e hf
        refine va_put (D := X) (ci := 9) (ty := .int) (C := R_M) (T := T_M) (N := 35) hx hb hts u_0 t_M t_M_ok n_M hown hK hP hD hS 0 gm_0 rfl 24 (by decide) k_1 (fun _ h9 => h9) rfl (by decide +kernel) rfl rfl (Nat.le_of_ble_eq_true rfl) d_M_start_204 (fun H locs hP hD hS => ?_)
        rw [sm_0_24, ← e55] at hP hD
        refine lv_aload_n hx hb d_M_start_207 rfl (lv_at hl 0 rfl) ?_
        refine lv_iload_n hx hb d_M_start_208 rfl (lv_at hl 1 rfl) ?_
        refine lv_iconst (v := 1) hx hb d_M_start_209 (by decide) ?_
        refine lv_iadd hx hb d_M_start_210 ?_
        obtain ⟨σ56, e57, hf⟩ := gPut_e hf
        refine va_put (D := X) (ci := 9) (ty := .int) (C := R_M) (T := T_M) (N := 35) hx hb hts u_0 t_M t_M_ok n_M hown hK hP hD hS 0 gm_0 rfl 9 (by decide) k_2 (fun _ h9 => h9) rfl (by decide +kernel) rfl rfl (Nat.le_of_ble_eq_true rfl) d_M_start_211 (fun H locs hP hD hS => ?_)
        rw [sm_0_9, ← e57] at hP hD
        refine lv_iconst (v := 1) hx hb d_M_start_214 (by decide) ?_
        obtain ⟨rfl, rfl⟩ := gRt_e hf
        exact g_zret hx hb hr hlocks rfl hAe hS () rfl hP d_M_start_215
      · intro x2 x4 σ0 H locs ls hf hP hD hS hl
        have hf : B_M_start_9 (R_M_start t) x2 x4 σ0 = some (r, σ') := hf
        unfold B_M_start_9 at hf
        refine lv_iconst (v := (-1)) hx hb d_M_start_233 (by decide) ?_
        refine lv_goto (tgt := 243) hx hb d_M_start_234 rfl ?_
        exact ih10 (x2) (x4) ((-1)) σ0 _ _ _ hf hP hD hS (lv_sub hl [0, 1, 2] rfl)
      · intro x2 x4 z0 σ0 H locs ls hf hP hD hS hl
        have hf : B_M_start_10 (R_M_start t) x2 x4 z0 σ0 = some (r, σ') := hf
        unfold B_M_start_10 at hf
        refine lv_istore_n hx hb d_M_start_243 rfl hl (by decide) rfl (fun ls hl => ?_)
        refine lv_iload_n hx hb d_M_start_244 rfl (lv_at hl 0 rfl) ?_
        refine lv_if_ge (tgt := 250) hx hb d_M_start_245 rfl (fun c58 => ?_) (fun c58 => ?_)
        · skip
          rw [if_pos c58] at hf
          refine lv_iinc (k := 3) (v := (x4 + 1)) hx hb d_M_start_250 hl rfl (by rw [show Int32.ofInt (1) = (1 : Int32) by decide]) (by decide) rfl (fun ls hl => ?_)
          refine lv_goto (tgt := 80) hx hb d_M_start_253 rfl ?_
          exact ih1 (x2) (z0) ((x4 + 1)) σ0 _ _ _ hf hP hD hS (lv_sub hl [2, 3, 1, 0] rfl)
        rw [if_neg c58] at hf
        refine lv_iconst (v := 0) hx hb d_M_start_248 (by decide) ?_
        obtain ⟨rfl, rfl⟩ := gRt_e hf
        exact g_zret hx hb hr hlocks rfl hAe hS () rfl hP d_M_start_249
  exact (key gFuel).1  σ _ _ _ hf hP hD hS hl

def B_M_content_0 (rec : Nat → List Int32 → gS → Option (Int32 × gS)) (σ0 : gS) : Option (Int32 × gS) := gLd σ0 7 1600 (σ0.1 4) (fun y1 => if y1 = 38 then (gBd (f_M_charOr0 σ0 (((σ0.1 4) + 1) + 1)) (fun y5 σ6 => gBd (f_M_charOr0 σ6 ((σ0.1 4) + 1)) (fun y8 σ9 => if y8 = 35 then (rec 1 [0, (((σ0.1 4) + 1) + 1)] σ9) else (gBd (f_M_charOr0 σ9 ((σ0.1 4) + 1)) (fun y12 σ13 => if y12 = 108 then (if y5 = 116 then (rec 6 [((σ0.1 4) + 1)] σ13) else (rec 5 [(-1), ((σ0.1 4) + 1), y5] σ13)) else (rec 5 [(-1), ((σ0.1 4) + 1), y5] σ13)))))) else (rec 11 [y1, ((σ0.1 4) + 1)] σ0))
def B_M_content_1 (rec : Nat → List Int32 → gS → Option (Int32 × gS)) (x1 : Int32) (x2 : Int32) (σ0 : gS) : Option (Int32 × gS) := if 5 ≤ (x2 - (σ0.1 4)) then (rec 2 [x1, x2] σ0) else (gBd (f_M_charOr0 σ0 x2) (fun y18 σ19 => if y18 < 48 then (rec 2 [x1, x2] σ19) else (gBd (f_M_charOr0 σ19 x2) (fun y22 σ23 => if 57 < y22 then (rec 2 [x1, x2] σ23) else (gBd (f_M_charOr0 σ23 x2) (fun y26 σ27 => rec 1 [(((10 * x1) + y26) - 48), (x2 + 1)] σ27))))))
def B_M_content_2 (rec : Nat → List Int32 → gS → Option (Int32 × gS)) (x1 : Int32) (x2 : Int32) (σ0 : gS) : Option (Int32 × gS) := if x1 < 32 then (rec 3 [x2] σ0) else (if x1 ≤ 126 then (rec 4 [x2, x1] σ0) else (rec 3 [x2] σ0))
def B_M_content_3 (rec : Nat → List Int32 → gS → Option (Int32 × gS)) (x2 : Int32) (σ0 : gS) : Option (Int32 × gS) := rec 4 [x2, (-1)] σ0
def B_M_content_4 (rec : Nat → List Int32 → gS → Option (Int32 × gS)) (x2 : Int32) (z0 : Int32) (σ0 : gS) : Option (Int32 × gS) := rec 10 [z0, x2] σ0
def B_M_content_5 (rec : Nat → List Int32 → gS → Option (Int32 × gS)) (x1 : Int32) (x2 : Int32) (x3 : Int32) (σ0 : gS) : Option (Int32 × gS) := gBd (f_M_charOr0 σ0 x2) (fun y31 σ32 => if y31 = 103 then (if x3 = 116 then (rec 6 [x2] σ32) else (rec 8 [x1, x2, x3] σ32)) else (rec 8 [x1, x2, x3] σ32))
def B_M_content_6 (rec : Nat → List Int32 → gS → Option (Int32 × gS)) (x2 : Int32) (σ0 : gS) : Option (Int32 × gS) := gBd (f_M_charOr0 σ0 x2) (fun y36 σ37 => if y36 = 108 then (rec 7 [x2, 60] σ37) else (rec 7 [x2, 62] σ37))
def B_M_content_7 (rec : Nat → List Int32 → gS → Option (Int32 × gS)) (x2 : Int32) (z0 : Int32) (σ0 : gS) : Option (Int32 × gS) := rec 10 [z0, (x2 + 2)] σ0
def B_M_content_8 (rec : Nat → List Int32 → gS → Option (Int32 × gS)) (x1 : Int32) (x2 : Int32) (x3 : Int32) (σ0 : gS) : Option (Int32 × gS) := gBd (f_M_charOr0 σ0 x2) (fun y40 σ41 => if y40 = 97 then (if x3 = 109 then (gBd (f_M_charOr0 σ41 (x2 + 2)) (fun y45 σ46 => if y45 = 112 then (rec 10 [38, (x2 + 3)] σ46) else (rec 9 [x1, x2, x3] σ46))) else (rec 9 [x1, x2, x3] σ41)) else (rec 9 [x1, x2, x3] σ41))
def B_M_content_9 (rec : Nat → List Int32 → gS → Option (Int32 × gS)) (x1 : Int32) (x2 : Int32) (x3 : Int32) (σ0 : gS) : Option (Int32 × gS) := gBd (f_M_charOr0 σ0 x2) (fun y49 σ50 => if y49 = 113 then (if x3 = 117 then (gBd (f_M_charOr0 σ50 (x2 + 2)) (fun y54 σ55 => if y54 = 111 then (gBd (f_M_charOr0 σ55 (x2 + 3)) (fun y58 σ59 => if y58 = 116 then (rec 10 [34, (x2 + 4)] σ59) else (rec 10 [x1, x2] σ59))) else (rec 10 [x1, x2] σ55))) else (rec 10 [x1, x2] σ50)) else (rec 10 [x1, x2] σ50))
def B_M_content_10 (rec : Nat → List Int32 → gS → Option (Int32 × gS)) (x1 : Int32) (x2 : Int32) (σ0 : gS) : Option (Int32 × gS) := if x1 < 0 then (some (0, σ0)) else (gBd (f_M_charOr0 σ0 x2) (fun y63 σ64 => if y63 = 59 then (rec 11 [x1, (x2 + 1)] σ64) else (some (0, σ64))))
def B_M_content_11 (rec : Nat → List Int32 → gS → Option (Int32 × gS)) (x1 : Int32) (x2 : Int32) (σ0 : gS) : Option (Int32 × gS) := gLd σ0 12 420 (σ0.1 5) (fun y67 => if 12 ≤ y67 then (rec 12 [x2] σ0) else (gLd σ0 12 420 (σ0.1 5) (fun y71 => gSt σ0 13 5040 ((12 * (σ0.1 5)) + y71) (vp_nar .char (x1.toUInt32 % 65536).toInt32) (fun σ74 => rec 12 [x2] σ74))))
def B_M_content_12 (rec : Nat → List Int32 → gS → Option (Int32 × gS)) (x2 : Int32) (σ0 : gS) : Option (Int32 × gS) := gLd σ0 12 420 (σ0.1 5) (fun y77 => gSt σ0 12 420 (σ0.1 5) (y77 + 1) (fun σ80 => gPut σ80 4 x2 (fun σ83 => some (1, σ83))))
def S_M_content (rec : Nat → List Int32 → gS → Option (Int32 × gS)) (k : Nat) (l : List Int32) (σ0 : gS) : Option (Int32 × gS) := match k, l with
  | 0, [] => B_M_content_0 rec  σ0
  | 1, [x1, x2] => B_M_content_1 rec x1 x2 σ0
  | 2, [x1, x2] => B_M_content_2 rec x1 x2 σ0
  | 3, [x2] => B_M_content_3 rec x2 σ0
  | 4, [x2, z0] => B_M_content_4 rec x2 z0 σ0
  | 5, [x1, x2, x3] => B_M_content_5 rec x1 x2 x3 σ0
  | 6, [x2] => B_M_content_6 rec x2 σ0
  | 7, [x2, z0] => B_M_content_7 rec x2 z0 σ0
  | 8, [x1, x2, x3] => B_M_content_8 rec x1 x2 x3 σ0
  | 9, [x1, x2, x3] => B_M_content_9 rec x1 x2 x3 σ0
  | 10, [x1, x2] => B_M_content_10 rec x1 x2 σ0
  | 11, [x1, x2] => B_M_content_11 rec x1 x2 σ0
  | 12, [x2] => B_M_content_12 rec x2 σ0
  | _, _ => none
def R_M_content : Nat → Nat → List Int32 → gS → Option (Int32 × gS)
  | 0 => fun _ _ _ => none
  | t + 1 => fun k l σ0 => S_M_content (R_M_content t) k l σ0
def f_M_content (σ : gS) : Option (Int32 × gS) := R_M_content gFuel 0 [] σ
set_option maxHeartbeats 4000000 in
set_option maxRecDepth 100000 in
theorem m_M_content {l : Launch} {X : va_G} {cI cC cZ : ClassId} {aK aV : Nat → Nat} {b : Nat → Nat} {σ σ' : gS} {r : Int32} (hf : f_M_content σ = some (r, σ')) {sz : Nat} : Met l y_M_content w_M_content { frames := 1, cells := 0, slots := 0, locals := 21 } (gPc X vwCl (gT cI cC cZ) aK aV (mW cI cC cZ b σ) sz [.ref (b 0)]) (gQi X vwCl (mW cI cC cZ b σ) sz (fun r' (_ : Unit) => r' = r) (fun _ => mW cI cC cZ b σ')) 0 0 (va_A (mW cI cC cZ b σ) sz) := by
  refine g_met (cc := b_M_content) (maxL := 4) (ret := (some .boolean)) (by decide) rfl (Nat.le_of_ble_eq_true rfl) ?_
  intro p e s m below meth c A ls hx hb hr hml hown hts hlocks hnm hsz hAe hA hP hK hD hS hl hE
  have hown : s.vm.findClass R_M = some m.cls := hown
  have u_0 : ∀ w ∈ u_ws R_M T_M 35, w ∈ w_M_content := fun w h => List.mem_cons_of_mem _ (tu_M w h)
  have k_0 := hts (.fieldLink R_M 29 "GraphPagesModel" "page" "[C") (List.mem_cons_of_mem _ tb_412)
  have k_1 := hts (.fieldLink R_M 154 "GraphPagesModel" "at" "I") (List.mem_cons_of_mem _ tb_449)
  have k_2 := hts (.fieldLink R_M 45 "GraphPagesModel" "textLength" "[I") (List.mem_cons_of_mem _ tb_466)
  have k_3 := hts (.fieldLink R_M 157 "GraphPagesModel" "open" "I") (List.mem_cons_of_mem _ tb_448)
  have k_4 := hts (.fieldLink R_M 48 "GraphPagesModel" "text" "[C") (List.mem_cons_of_mem _ tb_467)
  unfold f_M_content at hf
  have key : ∀ t : Nat, (∀ (σ0 : gS) (H : Heap) (locs : List Loc) (ls : Array Slot), R_M_content t 0 [] σ0 = some (r, σ') → va_P X vwCl (mW cI cC cZ b σ0) H → va_D A (mW cI cC cZ b σ0) → va_S A s.heap H locs → lv_has ls 4 [(0, .ref (b 0))] → W p l e (headSpec w_M_content { frames := 1, cells := 0, slots := 0, locals := 21 }).room s m [.ref (b 0)].toArray below meth c H locs 0 0 (MQ below (gQi X vwCl (mW cI cC cZ b σ) sz (fun r' (_ : Unit) => r' = r) (fun _ => mW cI cC cZ b σ')) [.ref (b 0)].toArray s 0 0 (va_A (mW cI cC cZ b σ) sz)) (F0 m 0 ls [])) ∧ (∀ (x1 : Int32) (x2 : Int32) (σ0 : gS) (H : Heap) (locs : List Loc) (ls : Array Slot), R_M_content t 1 [x1, x2] σ0 = some (r, σ') → va_P X vwCl (mW cI cC cZ b σ0) H → va_D A (mW cI cC cZ b σ0) → va_S A s.heap H locs → lv_has ls 4 [(0, .ref (b 0)), (1, .int x1), (2, .int x2)] → W p l e (headSpec w_M_content { frames := 1, cells := 0, slots := 0, locals := 21 }).room s m [.ref (b 0)].toArray below meth c H locs 0 0 (MQ below (gQi X vwCl (mW cI cC cZ b σ) sz (fun r' (_ : Unit) => r' = r) (fun _ => mW cI cC cZ b σ')) [.ref (b 0)].toArray s 0 0 (va_A (mW cI cC cZ b σ) sz)) (F0 m 48 ls [])) ∧ (∀ (x1 : Int32) (x2 : Int32) (σ0 : gS) (H : Heap) (locs : List Loc) (ls : Array Slot), R_M_content t 2 [x1, x2] σ0 = some (r, σ') → va_P X vwCl (mW cI cC cZ b σ0) H → va_D A (mW cI cC cZ b σ0) → va_S A s.heap H locs → lv_has ls 4 [(0, .ref (b 0)), (1, .int x1), (2, .int x2)] → W p l e (headSpec w_M_content { frames := 1, cells := 0, slots := 0, locals := 21 }).room s m [.ref (b 0)].toArray below meth c H locs 0 0 (MQ below (gQi X vwCl (mW cI cC cZ b σ) sz (fun r' (_ : Unit) => r' = r) (fun _ => mW cI cC cZ b σ')) [.ref (b 0)].toArray s 0 0 (va_A (mW cI cC cZ b σ) sz)) (F0 m 98 ls [])) ∧ (∀ (x2 : Int32) (σ0 : gS) (H : Heap) (locs : List Loc) (ls : Array Slot), R_M_content t 3 [x2] σ0 = some (r, σ') → va_P X vwCl (mW cI cC cZ b σ0) H → va_D A (mW cI cC cZ b σ0) → va_S A s.heap H locs → lv_has ls 4 [(0, .ref (b 0)), (2, .int x2)] → W p l e (headSpec w_M_content { frames := 1, cells := 0, slots := 0, locals := 21 }).room s m [.ref (b 0)].toArray below meth c H locs 0 0 (MQ below (gQi X vwCl (mW cI cC cZ b σ) sz (fun r' (_ : Unit) => r' = r) (fun _ => mW cI cC cZ b σ')) [.ref (b 0)].toArray s 0 0 (va_A (mW cI cC cZ b σ) sz)) (F0 m 110 ls [])) ∧ (∀ (x2 : Int32) (z0 : Int32) (σ0 : gS) (H : Heap) (locs : List Loc) (ls : Array Slot), R_M_content t 4 [x2, z0] σ0 = some (r, σ') → va_P X vwCl (mW cI cC cZ b σ0) H → va_D A (mW cI cC cZ b σ0) → va_S A s.heap H locs → lv_has ls 4 [(0, .ref (b 0)), (2, .int x2)] → W p l e (headSpec w_M_content { frames := 1, cells := 0, slots := 0, locals := 21 }).room s m [.ref (b 0)].toArray below meth c H locs 0 0 (MQ below (gQi X vwCl (mW cI cC cZ b σ) sz (fun r' (_ : Unit) => r' = r) (fun _ => mW cI cC cZ b σ')) [.ref (b 0)].toArray s 0 0 (va_A (mW cI cC cZ b σ) sz)) (F0 m 115 ls [.int z0])) ∧ (∀ (x1 : Int32) (x2 : Int32) (x3 : Int32) (σ0 : gS) (H : Heap) (locs : List Loc) (ls : Array Slot), R_M_content t 5 [x1, x2, x3] σ0 = some (r, σ') → va_P X vwCl (mW cI cC cZ b σ0) H → va_D A (mW cI cC cZ b σ0) → va_S A s.heap H locs → lv_has ls 4 [(0, .ref (b 0)), (1, .int x1), (2, .int x2), (3, .int x3)] → W p l e (headSpec w_M_content { frames := 1, cells := 0, slots := 0, locals := 21 }).room s m [.ref (b 0)].toArray below meth c H locs 0 0 (MQ below (gQi X vwCl (mW cI cC cZ b σ) sz (fun r' (_ : Unit) => r' = r) (fun _ => mW cI cC cZ b σ')) [.ref (b 0)].toArray s 0 0 (va_A (mW cI cC cZ b σ) sz)) (F0 m 135 ls [])) ∧ (∀ (x2 : Int32) (σ0 : gS) (H : Heap) (locs : List Loc) (ls : Array Slot), R_M_content t 6 [x2] σ0 = some (r, σ') → va_P X vwCl (mW cI cC cZ b σ0) H → va_D A (mW cI cC cZ b σ0) → va_S A s.heap H locs → lv_has ls 4 [(0, .ref (b 0)), (2, .int x2)] → W p l e (headSpec w_M_content { frames := 1, cells := 0, slots := 0, locals := 21 }).room s m [.ref (b 0)].toArray below meth c H locs 0 0 (MQ below (gQi X vwCl (mW cI cC cZ b σ) sz (fun r' (_ : Unit) => r' = r) (fun _ => mW cI cC cZ b σ')) [.ref (b 0)].toArray s 0 0 (va_A (mW cI cC cZ b σ) sz)) (F0 m 151 ls [])) ∧ (∀ (x2 : Int32) (z0 : Int32) (σ0 : gS) (H : Heap) (locs : List Loc) (ls : Array Slot), R_M_content t 7 [x2, z0] σ0 = some (r, σ') → va_P X vwCl (mW cI cC cZ b σ0) H → va_D A (mW cI cC cZ b σ0) → va_S A s.heap H locs → lv_has ls 4 [(0, .ref (b 0)), (2, .int x2)] → W p l e (headSpec w_M_content { frames := 1, cells := 0, slots := 0, locals := 21 }).room s m [.ref (b 0)].toArray below meth c H locs 0 0 (MQ below (gQi X vwCl (mW cI cC cZ b σ) sz (fun r' (_ : Unit) => r' = r) (fun _ => mW cI cC cZ b σ')) [.ref (b 0)].toArray s 0 0 (va_A (mW cI cC cZ b σ) sz)) (F0 m 168 ls [.int z0])) ∧ (∀ (x1 : Int32) (x2 : Int32) (x3 : Int32) (σ0 : gS) (H : Heap) (locs : List Loc) (ls : Array Slot), R_M_content t 8 [x1, x2, x3] σ0 = some (r, σ') → va_P X vwCl (mW cI cC cZ b σ0) H → va_D A (mW cI cC cZ b σ0) → va_S A s.heap H locs → lv_has ls 4 [(0, .ref (b 0)), (1, .int x1), (2, .int x2), (3, .int x3)] → W p l e (headSpec w_M_content { frames := 1, cells := 0, slots := 0, locals := 21 }).room s m [.ref (b 0)].toArray below meth c H locs 0 0 (MQ below (gQi X vwCl (mW cI cC cZ b σ) sz (fun r' (_ : Unit) => r' = r) (fun _ => mW cI cC cZ b σ')) [.ref (b 0)].toArray s 0 0 (va_A (mW cI cC cZ b σ) sz)) (F0 m 175 ls [])) ∧ (∀ (x1 : Int32) (x2 : Int32) (x3 : Int32) (σ0 : gS) (H : Heap) (locs : List Loc) (ls : Array Slot), R_M_content t 9 [x1, x2, x3] σ0 = some (r, σ') → va_P X vwCl (mW cI cC cZ b σ0) H → va_D A (mW cI cC cZ b σ0) → va_S A s.heap H locs → lv_has ls 4 [(0, .ref (b 0)), (1, .int x1), (2, .int x2), (3, .int x3)] → W p l e (headSpec w_M_content { frames := 1, cells := 0, slots := 0, locals := 21 }).room s m [.ref (b 0)].toArray below meth c H locs 0 0 (MQ below (gQi X vwCl (mW cI cC cZ b σ) sz (fun r' (_ : Unit) => r' = r) (fun _ => mW cI cC cZ b σ')) [.ref (b 0)].toArray s 0 0 (va_A (mW cI cC cZ b σ) sz)) (F0 m 212 ls [])) ∧ (∀ (x1 : Int32) (x2 : Int32) (σ0 : gS) (H : Heap) (locs : List Loc) (ls : Array Slot), R_M_content t 10 [x1, x2] σ0 = some (r, σ') → va_P X vwCl (mW cI cC cZ b σ0) H → va_D A (mW cI cC cZ b σ0) → va_S A s.heap H locs → lv_has ls 4 [(0, .ref (b 0)), (1, .int x1), (2, .int x2)] → W p l e (headSpec w_M_content { frames := 1, cells := 0, slots := 0, locals := 21 }).room s m [.ref (b 0)].toArray below meth c H locs 0 0 (MQ below (gQi X vwCl (mW cI cC cZ b σ) sz (fun r' (_ : Unit) => r' = r) (fun _ => mW cI cC cZ b σ')) [.ref (b 0)].toArray s 0 0 (va_A (mW cI cC cZ b σ) sz)) (F0 m 258 ls [])) ∧ (∀ (x1 : Int32) (x2 : Int32) (σ0 : gS) (H : Heap) (locs : List Loc) (ls : Array Slot), R_M_content t 11 [x1, x2] σ0 = some (r, σ') → va_P X vwCl (mW cI cC cZ b σ0) H → va_D A (mW cI cC cZ b σ0) → va_S A s.heap H locs → lv_has ls 4 [(0, .ref (b 0)), (1, .int x1), (2, .int x2)] → W p l e (headSpec w_M_content { frames := 1, cells := 0, slots := 0, locals := 21 }).room s m [.ref (b 0)].toArray below meth c H locs 0 0 (MQ below (gQi X vwCl (mW cI cC cZ b σ) sz (fun r' (_ : Unit) => r' = r) (fun _ => mW cI cC cZ b σ')) [.ref (b 0)].toArray s 0 0 (va_A (mW cI cC cZ b σ) sz)) (F0 m 277 ls [])) ∧ (∀ (x2 : Int32) (σ0 : gS) (H : Heap) (locs : List Loc) (ls : Array Slot), R_M_content t 12 [x2] σ0 = some (r, σ') → va_P X vwCl (mW cI cC cZ b σ0) H → va_D A (mW cI cC cZ b σ0) → va_S A s.heap H locs → lv_has ls 4 [(0, .ref (b 0)), (2, .int x2)] → W p l e (headSpec w_M_content { frames := 1, cells := 0, slots := 0, locals := 21 }).room s m [.ref (b 0)].toArray below meth c H locs 0 0 (MQ below (gQi X vwCl (mW cI cC cZ b σ) sz (fun r' (_ : Unit) => r' = r) (fun _ => mW cI cC cZ b σ')) [.ref (b 0)].toArray s 0 0 (va_A (mW cI cC cZ b σ) sz)) (F0 m 315 ls [])) := by
    intro t
    induction t with
    | zero => exact ⟨fun  _ _ _ _ hf => (by have hf : (none : Option (Int32 × gS)) = some (r, σ') := hf; cases hf), fun _ _ _ _ _ _ hf => (by have hf : (none : Option (Int32 × gS)) = some (r, σ') := hf; cases hf), fun _ _ _ _ _ _ hf => (by have hf : (none : Option (Int32 × gS)) = some (r, σ') := hf; cases hf), fun _ _ _ _ _ hf => (by have hf : (none : Option (Int32 × gS)) = some (r, σ') := hf; cases hf), fun _ _ _ _ _ _ hf => (by have hf : (none : Option (Int32 × gS)) = some (r, σ') := hf; cases hf), fun _ _ _ _ _ _ _ hf => (by have hf : (none : Option (Int32 × gS)) = some (r, σ') := hf; cases hf), fun _ _ _ _ _ hf => (by have hf : (none : Option (Int32 × gS)) = some (r, σ') := hf; cases hf), fun _ _ _ _ _ _ hf => (by have hf : (none : Option (Int32 × gS)) = some (r, σ') := hf; cases hf), fun _ _ _ _ _ _ _ hf => (by have hf : (none : Option (Int32 × gS)) = some (r, σ') := hf; cases hf), fun _ _ _ _ _ _ _ hf => (by have hf : (none : Option (Int32 × gS)) = some (r, σ') := hf; cases hf), fun _ _ _ _ _ _ hf => (by have hf : (none : Option (Int32 × gS)) = some (r, σ') := hf; cases hf), fun _ _ _ _ _ _ hf => (by have hf : (none : Option (Int32 × gS)) = some (r, σ') := hf; cases hf), fun _ _ _ _ _ hf => (by have hf : (none : Option (Int32 × gS)) = some (r, σ') := hf; cases hf)⟩
    | succ t ih =>
      obtain ⟨ih0, ih1, ih2, ih3, ih4, ih5, ih6, ih7, ih8, ih9, ih10, ih11, ih12⟩ := ih
      refine ⟨?_, ?_, ?_, ?_, ?_, ?_, ?_, ?_, ?_, ?_, ?_, ?_, ?_⟩
      · intro  σ0 H locs ls hf hP hD hS hl
        have hf : B_M_content_0 (R_M_content t)  σ0 = some (r, σ') := hf
        unfold B_M_content_0 at hf
        refine lv_aload_n hx hb d_M_content_0 rfl (lv_at hl 0 rfl) ?_
        refine va_get (D := X) (ci := 9) (C := R_M) (T := T_M) (N := 35) hx hb hts u_0 hown hK hP 0 gm_0 rfl 8 (by decide) k_0 (fun _ h9 => h9) rfl d_M_content_1 ?_
        refine lv_aload_n hx hb d_M_content_4 rfl (lv_at hl 0 rfl) ?_
        refine va_get (D := X) (ci := 9) (C := R_M) (T := T_M) (N := 35) hx hb hts u_0 hown hK hP 0 gm_0 rfl 22 (by decide) k_1 (fun _ h9 => h9) rfl d_M_content_5 ?_
        obtain ⟨y1, h2, e3, hf⟩ := gLd_e hf
        refine va_cald hx hb hK hP 7 1 gm_7 rfl h2 d_M_content_8 ?_
        rw [← e3]
        refine lv_istore_n hx hb d_M_content_9 rfl hl (by decide) rfl (fun ls hl => ?_)
        refine lv_aload_n hx hb d_M_content_10 rfl (lv_at hl 1 rfl) ?_
        refine va_get (D := X) (ci := 9) (C := R_M) (T := T_M) (N := 35) hx hb hts u_0 hown hK hP 0 gm_0 rfl 22 (by decide) k_1 (fun _ h9 => h9) rfl d_M_content_11 ?_
        refine lv_iconst (v := 1) hx hb d_M_content_14 (by decide) ?_
        refine lv_iadd hx hb d_M_content_15 ?_
        refine lv_istore_n hx hb d_M_content_16 rfl hl (by decide) rfl (fun ls hl => ?_)
        refine lv_iload_n hx hb d_M_content_17 rfl (lv_at hl 1 rfl) ?_
        refine lv_bipush (v := 38) hx hb d_M_content_18 (by decide) ?_
        refine lv_icmp_ne (tgt := 277) hx hb d_M_content_20 rfl (fun c4 => ?_) (fun c4 => ?_)
        · skip
          rw [if_neg c4] at hf
          exact ih11 (y1) (((σ0.1 4) + 1)) σ0 _ _ _ hf hP hD hS (lv_sub hl [2, 1, 0] rfl)
        rw [if_pos c4] at hf
        refine lv_iconst (v := (-1)) hx hb d_M_content_23 (by decide) ?_
        refine lv_istore_n hx hb d_M_content_24 rfl hl (by decide) rfl (fun ls hl => ?_)
        refine lv_aload_n hx hb d_M_content_25 rfl (lv_at hl 2 rfl) ?_
        refine lv_iload_n hx hb d_M_content_26 rfl (lv_at hl 1 rfl) ?_
        refine lv_iconst (v := 1) hx hb d_M_content_27 (by decide) ?_
        refine lv_iadd hx hb d_M_content_28 ?_
        obtain ⟨y5, σ6, e7, hf⟩ := gBd_e hf
        refine g_wi (va_runV ⟨hx, hb, hml, hown, hts⟩ (m_M_charOr0 e7) (cwV 1 hts (gG4 (fun _ h => List.mem_cons_of_mem _ h) tb_441 tb_442 tb_443 tb_392 tc_M_charOr0) rfl rfl rfl (by decide +kernel) ⟨Nat.le_of_ble_eq_true rfl, Nat.le_of_ble_eq_true rfl⟩) (g_preVW (q0 := 0) hE hK hP hD hS hA gm_0 rfl) rfl rfl hl.1 rfl (lv_room (Nat.le_of_ble_eq_true rfl)) d_M_content_29 ⟨Nat.zero_le _, Nat.zero_le _⟩) hD hS hA (fun _ => mW_fst) (fun y5 _ H locs hu hP hD hS => ?_)
        subst hu
        refine lv_istore_n hx hb d_M_content_32 rfl hl (by decide) rfl (fun ls hl => ?_)
        refine lv_aload_n hx hb d_M_content_33 rfl (lv_at hl 3 rfl) ?_
        refine lv_iload_n hx hb d_M_content_34 rfl (lv_at hl 2 rfl) ?_
        obtain ⟨y8, σ9, e10, hf⟩ := gBd_e hf
        refine g_wi (va_runV ⟨hx, hb, hml, hown, hts⟩ (m_M_charOr0 e10) (cwV 1 hts (gG4 (fun _ h => List.mem_cons_of_mem _ h) tb_441 tb_442 tb_443 tb_392 tc_M_charOr0) rfl rfl rfl (by decide +kernel) ⟨Nat.le_of_ble_eq_true rfl, Nat.le_of_ble_eq_true rfl⟩) (g_preVW (q0 := 0) hE hK hP hD hS hA gm_0 rfl) rfl rfl hl.1 rfl (lv_room (Nat.le_of_ble_eq_true rfl)) d_M_content_35 ⟨Nat.zero_le _, Nat.zero_le _⟩) hD hS hA (fun _ => mW_fst) (fun y8 _ H locs hu hP hD hS => ?_)
        subst hu
        refine lv_bipush (v := 35) hx hb d_M_content_38 (by decide) ?_
        refine lv_icmp_ne (tgt := 119) hx hb d_M_content_40 rfl (fun c11 => ?_) (fun c11 => ?_)
        · skip
          rw [if_neg c11] at hf
          refine lv_aload_n hx hb d_M_content_119 rfl (lv_at hl 3 rfl) ?_
          refine lv_iload_n hx hb d_M_content_120 rfl (lv_at hl 2 rfl) ?_
          obtain ⟨y12, σ13, e14, hf⟩ := gBd_e hf
          refine g_wi (va_runV ⟨hx, hb, hml, hown, hts⟩ (m_M_charOr0 e14) (cwV 1 hts (gG4 (fun _ h => List.mem_cons_of_mem _ h) tb_441 tb_442 tb_443 tb_392 tc_M_charOr0) rfl rfl rfl (by decide +kernel) ⟨Nat.le_of_ble_eq_true rfl, Nat.le_of_ble_eq_true rfl⟩) (g_preVW (q0 := 0) hE hK hP hD hS hA gm_0 rfl) rfl rfl hl.1 rfl (lv_room (Nat.le_of_ble_eq_true rfl)) d_M_content_121 ⟨Nat.zero_le _, Nat.zero_le _⟩) hD hS hA (fun _ => mW_fst) (fun y12 _ H locs hu hP hD hS => ?_)
          subst hu
          refine lv_bipush (v := 108) hx hb d_M_content_124 (by decide) ?_
          refine lv_icmp_ne (tgt := 135) hx hb d_M_content_126 rfl (fun c15 => ?_) (fun c15 => ?_)
          · skip
            rw [if_neg c15] at hf
            exact ih5 ((-1)) (((σ0.1 4) + 1)) (y5) σ13 _ _ _ hf hP hD hS (lv_sub hl [3, 1, 2, 0] rfl)
          rw [if_pos c15] at hf
          refine lv_iload_n hx hb d_M_content_129 rfl (lv_at hl 0 rfl) ?_
          refine lv_bipush (v := 116) hx hb d_M_content_130 (by decide) ?_
          refine lv_icmp_eq (tgt := 151) hx hb d_M_content_132 rfl (fun c16 => ?_) (fun c16 => ?_)
          · skip
            rw [if_pos c16] at hf
            exact ih6 (((σ0.1 4) + 1)) σ13 _ _ _ hf hP hD hS (lv_sub hl [3, 2] rfl)
          rw [if_neg c16] at hf
          exact ih5 ((-1)) (((σ0.1 4) + 1)) (y5) σ13 _ _ _ hf hP hD hS (lv_sub hl [3, 1, 2, 0] rfl)
        rw [if_pos c11] at hf
        refine lv_iconst (v := 0) hx hb d_M_content_43 (by decide) ?_
        refine lv_istore_n hx hb d_M_content_44 rfl hl (by decide) rfl (fun ls hl => ?_)
        refine lv_iinc (k := 2) (v := (((σ0.1 4) + 1) + 1)) hx hb d_M_content_45 hl rfl (by rw [show Int32.ofInt (1) = (1 : Int32) by decide]) (by decide) rfl (fun ls hl => ?_)
        exact ih1 (0) ((((σ0.1 4) + 1) + 1)) σ9 _ _ _ hf hP hD hS (lv_sub hl [3, 1, 0] rfl)
      · intro x1 x2 σ0 H locs ls hf hP hD hS hl
        have hf : B_M_content_1 (R_M_content t) x1 x2 σ0 = some (r, σ') := hf
        unfold B_M_content_1 at hf
        refine lv_iload_n hx hb d_M_content_48 rfl (lv_at hl 2 rfl) ?_
        refine lv_aload_n hx hb d_M_content_49 rfl (lv_at hl 0 rfl) ?_
        refine va_get (D := X) (ci := 9) (C := R_M) (T := T_M) (N := 35) hx hb hts u_0 hown hK hP 0 gm_0 rfl 22 (by decide) k_1 (fun _ h9 => h9) rfl d_M_content_50 ?_
        refine lv_isub hx hb d_M_content_53 ?_
        refine lv_iconst (v := 5) hx hb d_M_content_54 (by decide) ?_
        refine lv_icmp_ge (tgt := 98) hx hb d_M_content_55 rfl (fun c17 => ?_) (fun c17 => ?_)
        · skip
          rw [if_pos c17] at hf
          exact ih2 (x1) (x2) σ0 _ _ _ hf hP hD hS (lv_sub hl [0, 1, 2] rfl)
        rw [if_neg c17] at hf
        refine lv_aload_n hx hb d_M_content_58 rfl (lv_at hl 0 rfl) ?_
        refine lv_iload_n hx hb d_M_content_59 rfl (lv_at hl 2 rfl) ?_
        obtain ⟨y18, σ19, e20, hf⟩ := gBd_e hf
        refine g_wi (va_runV ⟨hx, hb, hml, hown, hts⟩ (m_M_charOr0 e20) (cwV 1 hts (gG4 (fun _ h => List.mem_cons_of_mem _ h) tb_441 tb_442 tb_443 tb_392 tc_M_charOr0) rfl rfl rfl (by decide +kernel) ⟨Nat.le_of_ble_eq_true rfl, Nat.le_of_ble_eq_true rfl⟩) (g_preVW (q0 := 0) hE hK hP hD hS hA gm_0 rfl) rfl rfl hl.1 rfl (lv_room (Nat.le_of_ble_eq_true rfl)) d_M_content_60 ⟨Nat.zero_le _, Nat.zero_le _⟩) hD hS hA (fun _ => mW_fst) (fun y18 _ H locs hu hP hD hS => ?_)
        subst hu
        refine lv_bipush (v := 48) hx hb d_M_content_63 (by decide) ?_
        refine lv_icmp_lt (tgt := 98) hx hb d_M_content_65 rfl (fun c21 => ?_) (fun c21 => ?_)
        · skip
          rw [if_pos c21] at hf
          exact ih2 (x1) (x2) σ19 _ _ _ hf hP hD hS (lv_sub hl [0, 1, 2] rfl)
        rw [if_neg c21] at hf
        refine lv_aload_n hx hb d_M_content_68 rfl (lv_at hl 0 rfl) ?_
        refine lv_iload_n hx hb d_M_content_69 rfl (lv_at hl 2 rfl) ?_
        obtain ⟨y22, σ23, e24, hf⟩ := gBd_e hf
        refine g_wi (va_runV ⟨hx, hb, hml, hown, hts⟩ (m_M_charOr0 e24) (cwV 1 hts (gG4 (fun _ h => List.mem_cons_of_mem _ h) tb_441 tb_442 tb_443 tb_392 tc_M_charOr0) rfl rfl rfl (by decide +kernel) ⟨Nat.le_of_ble_eq_true rfl, Nat.le_of_ble_eq_true rfl⟩) (g_preVW (q0 := 0) hE hK hP hD hS hA gm_0 rfl) rfl rfl hl.1 rfl (lv_room (Nat.le_of_ble_eq_true rfl)) d_M_content_70 ⟨Nat.zero_le _, Nat.zero_le _⟩) hD hS hA (fun _ => mW_fst) (fun y22 _ H locs hu hP hD hS => ?_)
        subst hu
        refine lv_bipush (v := 57) hx hb d_M_content_73 (by decide) ?_
        refine lv_icmp_gt (tgt := 98) hx hb d_M_content_75 rfl (fun c25 => ?_) (fun c25 => ?_)
        · skip
          rw [if_pos c25] at hf
          exact ih2 (x1) (x2) σ23 _ _ _ hf hP hD hS (lv_sub hl [0, 1, 2] rfl)
        rw [if_neg c25] at hf
        refine lv_bipush (v := 10) hx hb d_M_content_78 (by decide) ?_
        refine lv_iload_n hx hb d_M_content_80 rfl (lv_at hl 1 rfl) ?_
        refine lv_imul hx hb d_M_content_81 ?_
        refine lv_aload_n hx hb d_M_content_82 rfl (lv_at hl 0 rfl) ?_
        refine lv_iload_n hx hb d_M_content_83 rfl (lv_at hl 2 rfl) ?_
        obtain ⟨y26, σ27, e28, hf⟩ := gBd_e hf
        refine g_wi (va_runV ⟨hx, hb, hml, hown, hts⟩ (m_M_charOr0 e28) (cwV 1 hts (gG4 (fun _ h => List.mem_cons_of_mem _ h) tb_441 tb_442 tb_443 tb_392 tc_M_charOr0) rfl rfl rfl (by decide +kernel) ⟨Nat.le_of_ble_eq_true rfl, Nat.le_of_ble_eq_true rfl⟩) (g_preVW (q0 := 0) hE hK hP hD hS hA gm_0 rfl) rfl rfl hl.1 rfl (lv_room (Nat.le_of_ble_eq_true rfl)) d_M_content_84 ⟨Nat.zero_le _, Nat.zero_le _⟩) hD hS hA (fun _ => mW_fst) (fun y26 _ H locs hu hP hD hS => ?_)
        subst hu
        refine lv_iadd hx hb d_M_content_87 ?_
        refine lv_bipush (v := 48) hx hb d_M_content_88 (by decide) ?_
        refine lv_isub hx hb d_M_content_90 ?_
        refine lv_istore_n hx hb d_M_content_91 rfl hl (by decide) rfl (fun ls hl => ?_)
        refine lv_iinc (k := 2) (v := (x2 + 1)) hx hb d_M_content_92 hl rfl (by rw [show Int32.ofInt (1) = (1 : Int32) by decide]) (by decide) rfl (fun ls hl => ?_)
        refine lv_goto (tgt := 48) hx hb d_M_content_95 rfl ?_
        exact ih1 ((((10 * x1) + y26) - 48)) ((x2 + 1)) σ27 _ _ _ hf hP hD hS (lv_sub hl [2, 1, 0] rfl)
      · intro x1 x2 σ0 H locs ls hf hP hD hS hl
        have hf : B_M_content_2 (R_M_content t) x1 x2 σ0 = some (r, σ') := hf
        unfold B_M_content_2 at hf
        refine lv_iload_n hx hb d_M_content_98 rfl (lv_at hl 1 rfl) ?_
        refine lv_bipush (v := 32) hx hb d_M_content_99 (by decide) ?_
        refine lv_icmp_lt (tgt := 110) hx hb d_M_content_101 rfl (fun c29 => ?_) (fun c29 => ?_)
        · skip
          rw [if_pos c29] at hf
          exact ih3 (x2) σ0 _ _ _ hf hP hD hS (lv_sub hl [0, 2] rfl)
        rw [if_neg c29] at hf
        refine lv_iload_n hx hb d_M_content_104 rfl (lv_at hl 1 rfl) ?_
        refine lv_bipush (v := 126) hx hb d_M_content_105 (by decide) ?_
        refine lv_icmp_le (tgt := 114) hx hb d_M_content_107 rfl (fun c30 => ?_) (fun c30 => ?_)
        · skip
          rw [if_pos c30] at hf
          refine lv_iload_n hx hb d_M_content_114 rfl (lv_at hl 1 rfl) ?_
          exact ih4 (x2) (x1) σ0 _ _ _ hf hP hD hS (lv_sub hl [0, 2] rfl)
        rw [if_neg c30] at hf
        exact ih3 (x2) σ0 _ _ _ hf hP hD hS (lv_sub hl [0, 2] rfl)
      · intro x2 σ0 H locs ls hf hP hD hS hl
        have hf : B_M_content_3 (R_M_content t) x2 σ0 = some (r, σ') := hf
        unfold B_M_content_3 at hf
        refine lv_iconst (v := (-1)) hx hb d_M_content_110 (by decide) ?_
        refine lv_goto (tgt := 115) hx hb d_M_content_111 rfl ?_
        exact ih4 (x2) ((-1)) σ0 _ _ _ hf hP hD hS (lv_sub hl [0, 1] rfl)
      · intro x2 z0 σ0 H locs ls hf hP hD hS hl
        have hf : B_M_content_4 (R_M_content t) x2 z0 σ0 = some (r, σ') := hf
        unfold B_M_content_4 at hf
        refine lv_istore_n hx hb d_M_content_115 rfl hl (by decide) rfl (fun ls hl => ?_)
        refine lv_goto (tgt := 258) hx hb d_M_content_116 rfl ?_
        exact ih10 (z0) (x2) σ0 _ _ _ hf hP hD hS (lv_sub hl [1, 0, 2] rfl)
      · intro x1 x2 x3 σ0 H locs ls hf hP hD hS hl
        have hf : B_M_content_5 (R_M_content t) x1 x2 x3 σ0 = some (r, σ') := hf
        unfold B_M_content_5 at hf
        refine lv_aload_n hx hb d_M_content_135 rfl (lv_at hl 0 rfl) ?_
        refine lv_iload_n hx hb d_M_content_136 rfl (lv_at hl 2 rfl) ?_
        obtain ⟨y31, σ32, e33, hf⟩ := gBd_e hf
        refine g_wi (va_runV ⟨hx, hb, hml, hown, hts⟩ (m_M_charOr0 e33) (cwV 1 hts (gG4 (fun _ h => List.mem_cons_of_mem _ h) tb_441 tb_442 tb_443 tb_392 tc_M_charOr0) rfl rfl rfl (by decide +kernel) ⟨Nat.le_of_ble_eq_true rfl, Nat.le_of_ble_eq_true rfl⟩) (g_preVW (q0 := 0) hE hK hP hD hS hA gm_0 rfl) rfl rfl hl.1 rfl (lv_room (Nat.le_of_ble_eq_true rfl)) d_M_content_137 ⟨Nat.zero_le _, Nat.zero_le _⟩) hD hS hA (fun _ => mW_fst) (fun y31 _ H locs hu hP hD hS => ?_)
        subst hu
        refine lv_bipush (v := 103) hx hb d_M_content_140 (by decide) ?_
        refine lv_icmp_ne (tgt := 175) hx hb d_M_content_142 rfl (fun c34 => ?_) (fun c34 => ?_)
        · skip
          rw [if_neg c34] at hf
          exact ih8 (x1) (x2) (x3) σ32 _ _ _ hf hP hD hS (lv_sub hl [0, 1, 2, 3] rfl)
        rw [if_pos c34] at hf
        refine lv_iload_n hx hb d_M_content_145 rfl (lv_at hl 3 rfl) ?_
        refine lv_bipush (v := 116) hx hb d_M_content_146 (by decide) ?_
        refine lv_icmp_ne (tgt := 175) hx hb d_M_content_148 rfl (fun c35 => ?_) (fun c35 => ?_)
        · skip
          rw [if_neg c35] at hf
          exact ih8 (x1) (x2) (x3) σ32 _ _ _ hf hP hD hS (lv_sub hl [0, 1, 2, 3] rfl)
        rw [if_pos c35] at hf
        exact ih6 (x2) σ32 _ _ _ hf hP hD hS (lv_sub hl [0, 2] rfl)
      · intro x2 σ0 H locs ls hf hP hD hS hl
        have hf : B_M_content_6 (R_M_content t) x2 σ0 = some (r, σ') := hf
        unfold B_M_content_6 at hf
        refine lv_aload_n hx hb d_M_content_151 rfl (lv_at hl 0 rfl) ?_
        refine lv_iload_n hx hb d_M_content_152 rfl (lv_at hl 1 rfl) ?_
        obtain ⟨y36, σ37, e38, hf⟩ := gBd_e hf
        refine g_wi (va_runV ⟨hx, hb, hml, hown, hts⟩ (m_M_charOr0 e38) (cwV 1 hts (gG4 (fun _ h => List.mem_cons_of_mem _ h) tb_441 tb_442 tb_443 tb_392 tc_M_charOr0) rfl rfl rfl (by decide +kernel) ⟨Nat.le_of_ble_eq_true rfl, Nat.le_of_ble_eq_true rfl⟩) (g_preVW (q0 := 0) hE hK hP hD hS hA gm_0 rfl) rfl rfl hl.1 rfl (lv_room (Nat.le_of_ble_eq_true rfl)) d_M_content_153 ⟨Nat.zero_le _, Nat.zero_le _⟩) hD hS hA (fun _ => mW_fst) (fun y36 _ H locs hu hP hD hS => ?_)
        subst hu
        refine lv_bipush (v := 108) hx hb d_M_content_156 (by decide) ?_
        refine lv_icmp_ne (tgt := 166) hx hb d_M_content_158 rfl (fun c39 => ?_) (fun c39 => ?_)
        · skip
          rw [if_neg c39] at hf
          refine lv_bipush (v := 62) hx hb d_M_content_166 (by decide) ?_
          exact ih7 (x2) (62) σ37 _ _ _ hf hP hD hS (lv_sub hl [0, 1] rfl)
        rw [if_pos c39] at hf
        refine lv_bipush (v := 60) hx hb d_M_content_161 (by decide) ?_
        refine lv_goto (tgt := 168) hx hb d_M_content_163 rfl ?_
        exact ih7 (x2) (60) σ37 _ _ _ hf hP hD hS (lv_sub hl [0, 1] rfl)
      · intro x2 z0 σ0 H locs ls hf hP hD hS hl
        have hf : B_M_content_7 (R_M_content t) x2 z0 σ0 = some (r, σ') := hf
        unfold B_M_content_7 at hf
        refine lv_istore_n hx hb d_M_content_168 rfl hl (by decide) rfl (fun ls hl => ?_)
        refine lv_iinc (k := 2) (v := (x2 + 2)) hx hb d_M_content_169 hl rfl (by rw [show Int32.ofInt (2) = (2 : Int32) by decide]) (by decide) rfl (fun ls hl => ?_)
        refine lv_goto (tgt := 258) hx hb d_M_content_172 rfl ?_
        exact ih10 (z0) ((x2 + 2)) σ0 _ _ _ hf hP hD hS (lv_sub hl [2, 1, 0] rfl)
      · intro x1 x2 x3 σ0 H locs ls hf hP hD hS hl
        have hf : B_M_content_8 (R_M_content t) x1 x2 x3 σ0 = some (r, σ') := hf
        unfold B_M_content_8 at hf
        refine lv_aload_n hx hb d_M_content_175 rfl (lv_at hl 0 rfl) ?_
        refine lv_iload_n hx hb d_M_content_176 rfl (lv_at hl 2 rfl) ?_
        obtain ⟨y40, σ41, e42, hf⟩ := gBd_e hf
        refine g_wi (va_runV ⟨hx, hb, hml, hown, hts⟩ (m_M_charOr0 e42) (cwV 1 hts (gG4 (fun _ h => List.mem_cons_of_mem _ h) tb_441 tb_442 tb_443 tb_392 tc_M_charOr0) rfl rfl rfl (by decide +kernel) ⟨Nat.le_of_ble_eq_true rfl, Nat.le_of_ble_eq_true rfl⟩) (g_preVW (q0 := 0) hE hK hP hD hS hA gm_0 rfl) rfl rfl hl.1 rfl (lv_room (Nat.le_of_ble_eq_true rfl)) d_M_content_177 ⟨Nat.zero_le _, Nat.zero_le _⟩) hD hS hA (fun _ => mW_fst) (fun y40 _ H locs hu hP hD hS => ?_)
        subst hu
        refine lv_bipush (v := 97) hx hb d_M_content_180 (by decide) ?_
        refine lv_icmp_ne (tgt := 212) hx hb d_M_content_182 rfl (fun c43 => ?_) (fun c43 => ?_)
        · skip
          rw [if_neg c43] at hf
          exact ih9 (x1) (x2) (x3) σ41 _ _ _ hf hP hD hS (lv_sub hl [0, 1, 2, 3] rfl)
        rw [if_pos c43] at hf
        refine lv_iload_n hx hb d_M_content_185 rfl (lv_at hl 3 rfl) ?_
        refine lv_bipush (v := 109) hx hb d_M_content_186 (by decide) ?_
        refine lv_icmp_ne (tgt := 212) hx hb d_M_content_188 rfl (fun c44 => ?_) (fun c44 => ?_)
        · skip
          rw [if_neg c44] at hf
          exact ih9 (x1) (x2) (x3) σ41 _ _ _ hf hP hD hS (lv_sub hl [0, 1, 2, 3] rfl)
        rw [if_pos c44] at hf
        refine lv_aload_n hx hb d_M_content_191 rfl (lv_at hl 0 rfl) ?_
        refine lv_iload_n hx hb d_M_content_192 rfl (lv_at hl 2 rfl) ?_
        refine lv_iconst (v := 2) hx hb d_M_content_193 (by decide) ?_
        refine lv_iadd hx hb d_M_content_194 ?_
        obtain ⟨y45, σ46, e47, hf⟩ := gBd_e hf
        refine g_wi (va_runV ⟨hx, hb, hml, hown, hts⟩ (m_M_charOr0 e47) (cwV 1 hts (gG4 (fun _ h => List.mem_cons_of_mem _ h) tb_441 tb_442 tb_443 tb_392 tc_M_charOr0) rfl rfl rfl (by decide +kernel) ⟨Nat.le_of_ble_eq_true rfl, Nat.le_of_ble_eq_true rfl⟩) (g_preVW (q0 := 0) hE hK hP hD hS hA gm_0 rfl) rfl rfl hl.1 rfl (lv_room (Nat.le_of_ble_eq_true rfl)) d_M_content_195 ⟨Nat.zero_le _, Nat.zero_le _⟩) hD hS hA (fun _ => mW_fst) (fun y45 _ H locs hu hP hD hS => ?_)
        subst hu
        refine lv_bipush (v := 112) hx hb d_M_content_198 (by decide) ?_
        refine lv_icmp_ne (tgt := 212) hx hb d_M_content_200 rfl (fun c48 => ?_) (fun c48 => ?_)
        · skip
          rw [if_neg c48] at hf
          exact ih9 (x1) (x2) (x3) σ46 _ _ _ hf hP hD hS (lv_sub hl [0, 1, 2, 3] rfl)
        rw [if_pos c48] at hf
        refine lv_bipush (v := 38) hx hb d_M_content_203 (by decide) ?_
        refine lv_istore_n hx hb d_M_content_205 rfl hl (by decide) rfl (fun ls hl => ?_)
        refine lv_iinc (k := 2) (v := (x2 + 3)) hx hb d_M_content_206 hl rfl (by rw [show Int32.ofInt (3) = (3 : Int32) by decide]) (by decide) rfl (fun ls hl => ?_)
        refine lv_goto (tgt := 258) hx hb d_M_content_209 rfl ?_
        exact ih10 (38) ((x2 + 3)) σ46 _ _ _ hf hP hD hS (lv_sub hl [2, 1, 0] rfl)
      · intro x1 x2 x3 σ0 H locs ls hf hP hD hS hl
        have hf : B_M_content_9 (R_M_content t) x1 x2 x3 σ0 = some (r, σ') := hf
        unfold B_M_content_9 at hf
        refine lv_aload_n hx hb d_M_content_212 rfl (lv_at hl 0 rfl) ?_
        refine lv_iload_n hx hb d_M_content_213 rfl (lv_at hl 2 rfl) ?_
        obtain ⟨y49, σ50, e51, hf⟩ := gBd_e hf
        refine g_wi (va_runV ⟨hx, hb, hml, hown, hts⟩ (m_M_charOr0 e51) (cwV 1 hts (gG4 (fun _ h => List.mem_cons_of_mem _ h) tb_441 tb_442 tb_443 tb_392 tc_M_charOr0) rfl rfl rfl (by decide +kernel) ⟨Nat.le_of_ble_eq_true rfl, Nat.le_of_ble_eq_true rfl⟩) (g_preVW (q0 := 0) hE hK hP hD hS hA gm_0 rfl) rfl rfl hl.1 rfl (lv_room (Nat.le_of_ble_eq_true rfl)) d_M_content_214 ⟨Nat.zero_le _, Nat.zero_le _⟩) hD hS hA (fun _ => mW_fst) (fun y49 _ H locs hu hP hD hS => ?_)
        subst hu
        refine lv_bipush (v := 113) hx hb d_M_content_217 (by decide) ?_
        refine lv_icmp_ne (tgt := 258) hx hb d_M_content_219 rfl (fun c52 => ?_) (fun c52 => ?_)
        · skip
          rw [if_neg c52] at hf
          exact ih10 (x1) (x2) σ50 _ _ _ hf hP hD hS (lv_sub hl [0, 1, 2] rfl)
        rw [if_pos c52] at hf
        refine lv_iload_n hx hb d_M_content_222 rfl (lv_at hl 3 rfl) ?_
        refine lv_bipush (v := 117) hx hb d_M_content_223 (by decide) ?_
        refine lv_icmp_ne (tgt := 258) hx hb d_M_content_225 rfl (fun c53 => ?_) (fun c53 => ?_)
        · skip
          rw [if_neg c53] at hf
          exact ih10 (x1) (x2) σ50 _ _ _ hf hP hD hS (lv_sub hl [0, 1, 2] rfl)
        rw [if_pos c53] at hf
        refine lv_aload_n hx hb d_M_content_228 rfl (lv_at hl 0 rfl) ?_
        refine lv_iload_n hx hb d_M_content_229 rfl (lv_at hl 2 rfl) ?_
        refine lv_iconst (v := 2) hx hb d_M_content_230 (by decide) ?_
        refine lv_iadd hx hb d_M_content_231 ?_
        obtain ⟨y54, σ55, e56, hf⟩ := gBd_e hf
        refine g_wi (va_runV ⟨hx, hb, hml, hown, hts⟩ (m_M_charOr0 e56) (cwV 1 hts (gG4 (fun _ h => List.mem_cons_of_mem _ h) tb_441 tb_442 tb_443 tb_392 tc_M_charOr0) rfl rfl rfl (by decide +kernel) ⟨Nat.le_of_ble_eq_true rfl, Nat.le_of_ble_eq_true rfl⟩) (g_preVW (q0 := 0) hE hK hP hD hS hA gm_0 rfl) rfl rfl hl.1 rfl (lv_room (Nat.le_of_ble_eq_true rfl)) d_M_content_232 ⟨Nat.zero_le _, Nat.zero_le _⟩) hD hS hA (fun _ => mW_fst) (fun y54 _ H locs hu hP hD hS => ?_)
        subst hu
        refine lv_bipush (v := 111) hx hb d_M_content_235 (by decide) ?_
        refine lv_icmp_ne (tgt := 258) hx hb d_M_content_237 rfl (fun c57 => ?_) (fun c57 => ?_)
        · skip
          rw [if_neg c57] at hf
          exact ih10 (x1) (x2) σ55 _ _ _ hf hP hD hS (lv_sub hl [0, 1, 2] rfl)
        rw [if_pos c57] at hf
        refine lv_aload_n hx hb d_M_content_240 rfl (lv_at hl 0 rfl) ?_
        refine lv_iload_n hx hb d_M_content_241 rfl (lv_at hl 2 rfl) ?_
        refine lv_iconst (v := 3) hx hb d_M_content_242 (by decide) ?_
        refine lv_iadd hx hb d_M_content_243 ?_
        obtain ⟨y58, σ59, e60, hf⟩ := gBd_e hf
        refine g_wi (va_runV ⟨hx, hb, hml, hown, hts⟩ (m_M_charOr0 e60) (cwV 1 hts (gG4 (fun _ h => List.mem_cons_of_mem _ h) tb_441 tb_442 tb_443 tb_392 tc_M_charOr0) rfl rfl rfl (by decide +kernel) ⟨Nat.le_of_ble_eq_true rfl, Nat.le_of_ble_eq_true rfl⟩) (g_preVW (q0 := 0) hE hK hP hD hS hA gm_0 rfl) rfl rfl hl.1 rfl (lv_room (Nat.le_of_ble_eq_true rfl)) d_M_content_244 ⟨Nat.zero_le _, Nat.zero_le _⟩) hD hS hA (fun _ => mW_fst) (fun y58 _ H locs hu hP hD hS => ?_)
        subst hu
        refine lv_bipush (v := 116) hx hb d_M_content_247 (by decide) ?_
        refine lv_icmp_ne (tgt := 258) hx hb d_M_content_249 rfl (fun c61 => ?_) (fun c61 => ?_)
        · skip
          rw [if_neg c61] at hf
          exact ih10 (x1) (x2) σ59 _ _ _ hf hP hD hS (lv_sub hl [0, 1, 2] rfl)
        rw [if_pos c61] at hf
        refine lv_bipush (v := 34) hx hb d_M_content_252 (by decide) ?_
        refine lv_istore_n hx hb d_M_content_254 rfl hl (by decide) rfl (fun ls hl => ?_)
        refine lv_iinc (k := 2) (v := (x2 + 4)) hx hb d_M_content_255 hl rfl (by rw [show Int32.ofInt (4) = (4 : Int32) by decide]) (by decide) rfl (fun ls hl => ?_)
        exact ih10 (34) ((x2 + 4)) σ59 _ _ _ hf hP hD hS (lv_sub hl [2, 1, 0] rfl)
      · intro x1 x2 σ0 H locs ls hf hP hD hS hl
        have hf : B_M_content_10 (R_M_content t) x1 x2 σ0 = some (r, σ') := hf
        unfold B_M_content_10 at hf
        refine lv_iload_n hx hb d_M_content_258 rfl (lv_at hl 1 rfl) ?_
        refine lv_if_lt (tgt := 272) hx hb d_M_content_259 rfl (fun c62 => ?_) (fun c62 => ?_)
        · skip
          rw [if_pos c62] at hf
          refine lv_iconst (v := 0) hx hb d_M_content_272 (by decide) ?_
          obtain ⟨rfl, rfl⟩ := gRt_e hf
          exact g_zret hx hb hr hlocks rfl hAe hS () rfl hP d_M_content_273
        rw [if_neg c62] at hf
        refine lv_aload_n hx hb d_M_content_262 rfl (lv_at hl 0 rfl) ?_
        refine lv_iload_n hx hb d_M_content_263 rfl (lv_at hl 2 rfl) ?_
        obtain ⟨y63, σ64, e65, hf⟩ := gBd_e hf
        refine g_wi (va_runV ⟨hx, hb, hml, hown, hts⟩ (m_M_charOr0 e65) (cwV 1 hts (gG4 (fun _ h => List.mem_cons_of_mem _ h) tb_441 tb_442 tb_443 tb_392 tc_M_charOr0) rfl rfl rfl (by decide +kernel) ⟨Nat.le_of_ble_eq_true rfl, Nat.le_of_ble_eq_true rfl⟩) (g_preVW (q0 := 0) hE hK hP hD hS hA gm_0 rfl) rfl rfl hl.1 rfl (lv_room (Nat.le_of_ble_eq_true rfl)) d_M_content_264 ⟨Nat.zero_le _, Nat.zero_le _⟩) hD hS hA (fun _ => mW_fst) (fun y63 _ H locs hu hP hD hS => ?_)
        subst hu
        refine lv_bipush (v := 59) hx hb d_M_content_267 (by decide) ?_
        refine lv_icmp_eq (tgt := 274) hx hb d_M_content_269 rfl (fun c66 => ?_) (fun c66 => ?_)
        · skip
          rw [if_pos c66] at hf
          refine lv_iinc (k := 2) (v := (x2 + 1)) hx hb d_M_content_274 hl rfl (by rw [show Int32.ofInt (1) = (1 : Int32) by decide]) (by decide) rfl (fun ls hl => ?_)
          exact ih11 (x1) ((x2 + 1)) σ64 _ _ _ hf hP hD hS (lv_sub hl [1, 2, 0] rfl)
        rw [if_neg c66] at hf
        refine lv_iconst (v := 0) hx hb d_M_content_272 (by decide) ?_
        obtain ⟨rfl, rfl⟩ := gRt_e hf
        exact g_zret hx hb hr hlocks rfl hAe hS () rfl hP d_M_content_273
      · intro x1 x2 σ0 H locs ls hf hP hD hS hl
        have hf : B_M_content_11 (R_M_content t) x1 x2 σ0 = some (r, σ') := hf
        unfold B_M_content_11 at hf
        refine lv_aload_n hx hb d_M_content_277 rfl (lv_at hl 0 rfl) ?_
        refine va_get (D := X) (ci := 9) (C := R_M) (T := T_M) (N := 35) hx hb hts u_0 hown hK hP 0 gm_0 rfl 14 (by decide) k_2 (fun _ h9 => h9) rfl d_M_content_278 ?_
        refine lv_aload_n hx hb d_M_content_281 rfl (lv_at hl 0 rfl) ?_
        refine va_get (D := X) (ci := 9) (C := R_M) (T := T_M) (N := 35) hx hb hts u_0 hown hK hP 0 gm_0 rfl 23 (by decide) k_3 (fun _ h9 => h9) rfl d_M_content_282 ?_
        obtain ⟨y67, h68, e69, hf⟩ := gLd_e hf
        refine va_iald hx hb hK hP 12 0 gm_12 rfl h68 d_M_content_285 ?_
        rw [← e69]
        refine lv_bipush (v := 12) hx hb d_M_content_286 (by decide) ?_
        refine lv_icmp_ge (tgt := 315) hx hb d_M_content_288 rfl (fun c70 => ?_) (fun c70 => ?_)
        · skip
          rw [if_pos c70] at hf
          exact ih12 (x2) σ0 _ _ _ hf hP hD hS (lv_sub hl [0, 2] rfl)
        rw [if_neg c70] at hf
        refine lv_aload_n hx hb d_M_content_291 rfl (lv_at hl 0 rfl) ?_
        refine va_get (D := X) (ci := 9) (C := R_M) (T := T_M) (N := 35) hx hb hts u_0 hown hK hP 0 gm_0 rfl 15 (by decide) k_4 (fun _ h9 => h9) rfl d_M_content_292 ?_
        refine lv_bipush (v := 12) hx hb d_M_content_295 (by decide) ?_
        refine lv_aload_n hx hb d_M_content_297 rfl (lv_at hl 0 rfl) ?_
        refine va_get (D := X) (ci := 9) (C := R_M) (T := T_M) (N := 35) hx hb hts u_0 hown hK hP 0 gm_0 rfl 23 (by decide) k_3 (fun _ h9 => h9) rfl d_M_content_298 ?_
        refine lv_imul hx hb d_M_content_301 ?_
        refine lv_aload_n hx hb d_M_content_302 rfl (lv_at hl 0 rfl) ?_
        refine va_get (D := X) (ci := 9) (C := R_M) (T := T_M) (N := 35) hx hb hts u_0 hown hK hP 0 gm_0 rfl 14 (by decide) k_2 (fun _ h9 => h9) rfl d_M_content_303 ?_
        refine lv_aload_n hx hb d_M_content_306 rfl (lv_at hl 0 rfl) ?_
        refine va_get (D := X) (ci := 9) (C := R_M) (T := T_M) (N := 35) hx hb hts u_0 hown hK hP 0 gm_0 rfl 23 (by decide) k_3 (fun _ h9 => h9) rfl d_M_content_307 ?_
        obtain ⟨y71, h72, e73, hf⟩ := gLd_e hf
        refine va_iald hx hb hK hP 12 0 gm_12 rfl h72 d_M_content_310 ?_
        rw [← e73]
        refine lv_iadd hx hb d_M_content_311 ?_
        refine lv_iload_n hx hb d_M_content_312 rfl (lv_at hl 1 rfl) ?_
        refine lv_i2c hx hb d_M_content_313 rfl ?_
        obtain ⟨σ74, h75, e76, hf⟩ := gSt_e hf
        refine va_cast hx hb hK hP hD hS 13 1 gm_13 rfl h75 d_M_content_314 (fun H locs hP hD hS => ?_)
        rw [sm_13, ← e76] at hP hD
        exact ih12 (x2) σ74 _ _ _ hf hP hD hS (lv_sub hl [0, 2] rfl)
      · intro x2 σ0 H locs ls hf hP hD hS hl
        have hf : B_M_content_12 (R_M_content t) x2 σ0 = some (r, σ') := hf
        unfold B_M_content_12 at hf
        refine lv_aload_n hx hb d_M_content_315 rfl (lv_at hl 0 rfl) ?_
        refine va_get (D := X) (ci := 9) (C := R_M) (T := T_M) (N := 35) hx hb hts u_0 hown hK hP 0 gm_0 rfl 14 (by decide) k_2 (fun _ h9 => h9) rfl d_M_content_316 ?_
        refine lv_aload_n hx hb d_M_content_319 rfl (lv_at hl 0 rfl) ?_
        refine va_get (D := X) (ci := 9) (C := R_M) (T := T_M) (N := 35) hx hb hts u_0 hown hK hP 0 gm_0 rfl 23 (by decide) k_3 (fun _ h9 => h9) rfl d_M_content_320 ?_
        refine lv_dup2_11 hx hb d_M_content_323 rfl rfl ?_
        obtain ⟨y77, h78, e79, hf⟩ := gLd_e hf
        refine va_iald hx hb hK hP 12 0 gm_12 rfl h78 d_M_content_324 ?_
        rw [← e79]
        refine lv_iconst (v := 1) hx hb d_M_content_325 (by decide) ?_
        refine lv_iadd hx hb d_M_content_326 ?_
        obtain ⟨σ80, h81, e82, hf⟩ := gSt_e hf
        refine va_iast hx hb hK hP hD hS 12 0 gm_12 rfl h81 d_M_content_327 (fun H locs hP hD hS => ?_)
        rw [sm_12, ← e82] at hP hD
        refine lv_aload_n hx hb d_M_content_328 rfl (lv_at hl 0 rfl) ?_
        refine lv_iload_n hx hb d_M_content_329 rfl (lv_at hl 1 rfl) ?_
        obtain ⟨σ83, e84, hf⟩ := gPut_e hf
        refine va_put (D := X) (ci := 9) (ty := .int) (C := R_M) (T := T_M) (N := 35) hx hb hts u_0 t_M t_M_ok n_M hown hK hP hD hS 0 gm_0 rfl 22 (by decide) k_1 (fun _ h9 => h9) rfl (by decide +kernel) rfl rfl (Nat.le_of_ble_eq_true rfl) d_M_content_330 (fun H locs hP hD hS => ?_)
        rw [sm_0_22, ← e84] at hP hD
        refine lv_iconst (v := 1) hx hb d_M_content_333 (by decide) ?_
        obtain ⟨rfl, rfl⟩ := gRt_e hf
        exact g_zret hx hb hr hlocks rfl hAe hS () rfl hP d_M_content_334
  exact (key gFuel).1  σ _ _ _ hf hP hD hS hl

def B_M_wellFormed_0 (rec : Nat → List Int32 → gS → Option (Int32 × gS)) (σ0 : gS) : Option (Int32 × gS) := gPut σ0 4 0 (fun σ1 => gPut σ1 5 (-1) (fun σ3 => gPut σ3 6 0 (fun σ5 => gPut σ5 2 0 (fun σ7 => gPut σ7 3 0 (fun σ9 => rec 1 [] σ9)))))
def B_M_wellFormed_1 (rec : Nat → List Int32 → gS → Option (Int32 × gS)) (σ0 : gS) : Option (Int32 × gS) := if (σ0.1 1) ≤ (σ0.1 4) then (if (σ0.1 2) ≤ 0 then (some (0, σ0)) else (if 0 ≤ (σ0.1 5) then (some (0, σ0)) else (some (1, σ0)))) else (if (σ0.1 2) ≤ 0 then (rec 2 [] σ0) else (if 0 ≤ (σ0.1 5) then (rec 2 [] σ0) else (some (0, σ0))))
def B_M_wellFormed_2 (rec : Nat → List Int32 → gS → Option (Int32 × gS)) (σ0 : gS) : Option (Int32 × gS) := gLd σ0 7 1600 (σ0.1 4) (fun y16 => if y16 = 60 then (rec 3 [1] σ0) else (rec 3 [0] σ0))
def B_M_wellFormed_3 (rec : Nat → List Int32 → gS → Option (Int32 × gS)) (z0 : Int32) (σ0 : gS) : Option (Int32 × gS) := if z0 = 0 then (rec 4 [z0] σ0) else (gBd (f_M_charOr0 σ0 ((σ0.1 4) + 1)) (fun y21 σ22 => if y21 = 47 then (gBd (f_M_end σ22) (fun y25 σ26 => rec 6 [y25] σ26)) else (rec 4 [z0] σ22)))
def B_M_wellFormed_4 (rec : Nat → List Int32 → gS → Option (Int32 × gS)) (x1 : Int32) (σ0 : gS) : Option (Int32 × gS) := if x1 = 0 then (if (σ0.1 5) < 0 then (rec 5 [] σ0) else (gBd (f_M_content σ0) (fun y30 σ31 => if y30 = 0 then (rec 5 [] σ31) else (rec 6 [1] σ31)))) else (gBd (f_M_start σ0) (fun y34 σ35 => rec 6 [y34] σ35))
def B_M_wellFormed_5 (rec : Nat → List Int32 → gS → Option (Int32 × gS)) (σ0 : gS) : Option (Int32 × gS) := rec 6 [0] σ0
def B_M_wellFormed_6 (rec : Nat → List Int32 → gS → Option (Int32 × gS)) (z0 : Int32) (σ0 : gS) : Option (Int32 × gS) := if z0 = 0 then (some (0, σ0)) else (rec 1 [] σ0)
def S_M_wellFormed (rec : Nat → List Int32 → gS → Option (Int32 × gS)) (k : Nat) (l : List Int32) (σ0 : gS) : Option (Int32 × gS) := match k, l with
  | 0, [] => B_M_wellFormed_0 rec  σ0
  | 1, [] => B_M_wellFormed_1 rec  σ0
  | 2, [] => B_M_wellFormed_2 rec  σ0
  | 3, [z0] => B_M_wellFormed_3 rec z0 σ0
  | 4, [x1] => B_M_wellFormed_4 rec x1 σ0
  | 5, [] => B_M_wellFormed_5 rec  σ0
  | 6, [z0] => B_M_wellFormed_6 rec z0 σ0
  | _, _ => none
def R_M_wellFormed : Nat → Nat → List Int32 → gS → Option (Int32 × gS)
  | 0 => fun _ _ _ => none
  | t + 1 => fun k l σ0 => S_M_wellFormed (R_M_wellFormed t) k l σ0
def f_M_wellFormed (σ : gS) : Option (Int32 × gS) := R_M_wellFormed gFuel 0 [] σ
set_option maxHeartbeats 4000000 in
set_option maxRecDepth 100000 in
theorem m_M_wellFormed {l : Launch} {X : va_G} {cI cC cZ : ClassId} {aK aV : Nat → Nat} {b : Nat → Nat} {σ σ' : gS} {r : Int32} (hf : f_M_wellFormed σ = some (r, σ')) {sz : Nat} : Met l y_M_wellFormed w_M_wellFormed { frames := 4, cells := 0, slots := 0, locals := 95 } (gPc X vwCl (gT cI cC cZ) aK aV (mW cI cC cZ b σ) sz [.ref (b 0)]) (gQi X vwCl (mW cI cC cZ b σ) sz (fun r' (_ : Unit) => r' = r) (fun _ => mW cI cC cZ b σ')) 0 0 (va_A (mW cI cC cZ b σ) sz) := by
  refine g_met (cc := b_M_wellFormed) (maxL := 3) (ret := (some .boolean)) (by decide) rfl (Nat.le_of_ble_eq_true rfl) ?_
  intro p e s m below meth c A ls hx hb hr hml hown hts hlocks hnm hsz hAe hA hP hK hD hS hl hE
  have hown : s.vm.findClass R_M = some m.cls := hown
  have u_0 : ∀ w ∈ u_ws R_M T_M 35, w ∈ w_M_wellFormed := fun w h => List.mem_cons_of_mem _ (tu_M w h)
  have k_0 := hts (.fieldLink R_M 154 "GraphPagesModel" "at" "I") (List.mem_cons_of_mem _ tb_449)
  have k_1 := hts (.fieldLink R_M 157 "GraphPagesModel" "open" "I") (List.mem_cons_of_mem _ tb_448)
  have k_2 := hts (.fieldLink R_M 160 "GraphPagesModel" "depth" "I") (List.mem_cons_of_mem _ tb_452)
  have k_3 := hts (.fieldLink R_M 163 "GraphPagesModel" "elements" "I") (List.mem_cons_of_mem _ tb_465)
  have k_4 := hts (.fieldLink R_M 166 "GraphPagesModel" "attrs" "I") (List.mem_cons_of_mem _ tb_459)
  have k_5 := hts (.fieldLink R_M 110 "GraphPagesModel" "used" "I") (List.mem_cons_of_mem _ tb_413)
  have k_6 := hts (.fieldLink R_M 29 "GraphPagesModel" "page" "[C") (List.mem_cons_of_mem _ tb_412)
  unfold f_M_wellFormed at hf
  have key : ∀ t : Nat, (∀ (σ0 : gS) (H : Heap) (locs : List Loc) (ls : Array Slot), R_M_wellFormed t 0 [] σ0 = some (r, σ') → va_P X vwCl (mW cI cC cZ b σ0) H → va_D A (mW cI cC cZ b σ0) → va_S A s.heap H locs → lv_has ls 3 [(0, .ref (b 0))] → W p l e (headSpec w_M_wellFormed { frames := 4, cells := 0, slots := 0, locals := 95 }).room s m [.ref (b 0)].toArray below meth c H locs 0 0 (MQ below (gQi X vwCl (mW cI cC cZ b σ) sz (fun r' (_ : Unit) => r' = r) (fun _ => mW cI cC cZ b σ')) [.ref (b 0)].toArray s 0 0 (va_A (mW cI cC cZ b σ) sz)) (F0 m 0 ls [])) ∧ (∀ (σ0 : gS) (H : Heap) (locs : List Loc) (ls : Array Slot), R_M_wellFormed t 1 [] σ0 = some (r, σ') → va_P X vwCl (mW cI cC cZ b σ0) H → va_D A (mW cI cC cZ b σ0) → va_S A s.heap H locs → lv_has ls 3 [(0, .ref (b 0))] → W p l e (headSpec w_M_wellFormed { frames := 4, cells := 0, slots := 0, locals := 95 }).room s m [.ref (b 0)].toArray below meth c H locs 0 0 (MQ below (gQi X vwCl (mW cI cC cZ b σ) sz (fun r' (_ : Unit) => r' = r) (fun _ => mW cI cC cZ b σ')) [.ref (b 0)].toArray s 0 0 (va_A (mW cI cC cZ b σ) sz)) (F0 m 25 ls [])) ∧ (∀ (σ0 : gS) (H : Heap) (locs : List Loc) (ls : Array Slot), R_M_wellFormed t 2 [] σ0 = some (r, σ') → va_P X vwCl (mW cI cC cZ b σ0) H → va_D A (mW cI cC cZ b σ0) → va_S A s.heap H locs → lv_has ls 3 [(0, .ref (b 0))] → W p l e (headSpec w_M_wellFormed { frames := 4, cells := 0, slots := 0, locals := 95 }).room s m [.ref (b 0)].toArray below meth c H locs 0 0 (MQ below (gQi X vwCl (mW cI cC cZ b σ) sz (fun r' (_ : Unit) => r' = r) (fun _ => mW cI cC cZ b σ')) [.ref (b 0)].toArray s 0 0 (va_A (mW cI cC cZ b σ) sz)) (F0 m 52 ls [])) ∧ (∀ (z0 : Int32) (σ0 : gS) (H : Heap) (locs : List Loc) (ls : Array Slot), R_M_wellFormed t 3 [z0] σ0 = some (r, σ') → va_P X vwCl (mW cI cC cZ b σ0) H → va_D A (mW cI cC cZ b σ0) → va_S A s.heap H locs → lv_has ls 3 [(0, .ref (b 0))] → W p l e (headSpec w_M_wellFormed { frames := 4, cells := 0, slots := 0, locals := 95 }).room s m [.ref (b 0)].toArray below meth c H locs 0 0 (MQ below (gQi X vwCl (mW cI cC cZ b σ) sz (fun r' (_ : Unit) => r' = r) (fun _ => mW cI cC cZ b σ')) [.ref (b 0)].toArray s 0 0 (va_A (mW cI cC cZ b σ) sz)) (F0 m 71 ls [.int z0])) ∧ (∀ (x1 : Int32) (σ0 : gS) (H : Heap) (locs : List Loc) (ls : Array Slot), R_M_wellFormed t 4 [x1] σ0 = some (r, σ') → va_P X vwCl (mW cI cC cZ b σ0) H → va_D A (mW cI cC cZ b σ0) → va_S A s.heap H locs → lv_has ls 3 [(0, .ref (b 0)), (1, .int x1)] → W p l e (headSpec w_M_wellFormed { frames := 4, cells := 0, slots := 0, locals := 95 }).room s m [.ref (b 0)].toArray below meth c H locs 0 0 (MQ below (gQi X vwCl (mW cI cC cZ b σ) sz (fun r' (_ : Unit) => r' = r) (fun _ => mW cI cC cZ b σ')) [.ref (b 0)].toArray s 0 0 (va_A (mW cI cC cZ b σ) sz)) (F0 m 98 ls [])) ∧ (∀ (σ0 : gS) (H : Heap) (locs : List Loc) (ls : Array Slot), R_M_wellFormed t 5 [] σ0 = some (r, σ') → va_P X vwCl (mW cI cC cZ b σ0) H → va_D A (mW cI cC cZ b σ0) → va_S A s.heap H locs → lv_has ls 3 [(0, .ref (b 0))] → W p l e (headSpec w_M_wellFormed { frames := 4, cells := 0, slots := 0, locals := 95 }).room s m [.ref (b 0)].toArray below meth c H locs 0 0 (MQ below (gQi X vwCl (mW cI cC cZ b σ) sz (fun r' (_ : Unit) => r' = r) (fun _ => mW cI cC cZ b σ')) [.ref (b 0)].toArray s 0 0 (va_A (mW cI cC cZ b σ) sz)) (F0 m 127 ls [])) ∧ (∀ (z0 : Int32) (σ0 : gS) (H : Heap) (locs : List Loc) (ls : Array Slot), R_M_wellFormed t 6 [z0] σ0 = some (r, σ') → va_P X vwCl (mW cI cC cZ b σ0) H → va_D A (mW cI cC cZ b σ0) → va_S A s.heap H locs → lv_has ls 3 [(0, .ref (b 0))] → W p l e (headSpec w_M_wellFormed { frames := 4, cells := 0, slots := 0, locals := 95 }).room s m [.ref (b 0)].toArray below meth c H locs 0 0 (MQ below (gQi X vwCl (mW cI cC cZ b σ) sz (fun r' (_ : Unit) => r' = r) (fun _ => mW cI cC cZ b σ')) [.ref (b 0)].toArray s 0 0 (va_A (mW cI cC cZ b σ) sz)) (F0 m 128 ls [.int z0])) := by
    intro t
    induction t with
    | zero => exact ⟨fun  _ _ _ _ hf => (by have hf : (none : Option (Int32 × gS)) = some (r, σ') := hf; cases hf), fun  _ _ _ _ hf => (by have hf : (none : Option (Int32 × gS)) = some (r, σ') := hf; cases hf), fun  _ _ _ _ hf => (by have hf : (none : Option (Int32 × gS)) = some (r, σ') := hf; cases hf), fun _ _ _ _ _ hf => (by have hf : (none : Option (Int32 × gS)) = some (r, σ') := hf; cases hf), fun _ _ _ _ _ hf => (by have hf : (none : Option (Int32 × gS)) = some (r, σ') := hf; cases hf), fun  _ _ _ _ hf => (by have hf : (none : Option (Int32 × gS)) = some (r, σ') := hf; cases hf), fun _ _ _ _ _ hf => (by have hf : (none : Option (Int32 × gS)) = some (r, σ') := hf; cases hf)⟩
    | succ t ih =>
      obtain ⟨ih0, ih1, ih2, ih3, ih4, ih5, ih6⟩ := ih
      refine ⟨?_, ?_, ?_, ?_, ?_, ?_, ?_⟩
      · intro  σ0 H locs ls hf hP hD hS hl
        have hf : B_M_wellFormed_0 (R_M_wellFormed t)  σ0 = some (r, σ') := hf
        unfold B_M_wellFormed_0 at hf
        refine lv_aload_n hx hb d_M_wellFormed_0 rfl (lv_at hl 0 rfl) ?_
        refine lv_iconst (v := 0) hx hb d_M_wellFormed_1 (by decide) ?_
        obtain ⟨σ1, e2, hf⟩ := gPut_e hf
        refine va_put (D := X) (ci := 9) (ty := .int) (C := R_M) (T := T_M) (N := 35) hx hb hts u_0 t_M t_M_ok n_M hown hK hP hD hS 0 gm_0 rfl 22 (by decide) k_0 (fun _ h9 => h9) rfl (by decide +kernel) rfl rfl (Nat.le_of_ble_eq_true rfl) d_M_wellFormed_2 (fun H locs hP hD hS => ?_)
        rw [sm_0_22, ← e2] at hP hD
        refine lv_aload_n hx hb d_M_wellFormed_5 rfl (lv_at hl 0 rfl) ?_
        refine lv_iconst (v := (-1)) hx hb d_M_wellFormed_6 (by decide) ?_
        obtain ⟨σ3, e4, hf⟩ := gPut_e hf
        refine va_put (D := X) (ci := 9) (ty := .int) (C := R_M) (T := T_M) (N := 35) hx hb hts u_0 t_M t_M_ok n_M hown hK hP hD hS 0 gm_0 rfl 23 (by decide) k_1 (fun _ h9 => h9) rfl (by decide +kernel) rfl rfl (Nat.le_of_ble_eq_true rfl) d_M_wellFormed_7 (fun H locs hP hD hS => ?_)
        rw [sm_0_23, ← e4] at hP hD
        refine lv_aload_n hx hb d_M_wellFormed_10 rfl (lv_at hl 0 rfl) ?_
        refine lv_iconst (v := 0) hx hb d_M_wellFormed_11 (by decide) ?_
        obtain ⟨σ5, e6, hf⟩ := gPut_e hf
        refine va_put (D := X) (ci := 9) (ty := .int) (C := R_M) (T := T_M) (N := 35) hx hb hts u_0 t_M t_M_ok n_M hown hK hP hD hS 0 gm_0 rfl 24 (by decide) k_2 (fun _ h9 => h9) rfl (by decide +kernel) rfl rfl (Nat.le_of_ble_eq_true rfl) d_M_wellFormed_12 (fun H locs hP hD hS => ?_)
        rw [sm_0_24, ← e6] at hP hD
        refine lv_aload_n hx hb d_M_wellFormed_15 rfl (lv_at hl 0 rfl) ?_
        refine lv_iconst (v := 0) hx hb d_M_wellFormed_16 (by decide) ?_
        obtain ⟨σ7, e8, hf⟩ := gPut_e hf
        refine va_put (D := X) (ci := 9) (ty := .int) (C := R_M) (T := T_M) (N := 35) hx hb hts u_0 t_M t_M_ok n_M hown hK hP hD hS 0 gm_0 rfl 9 (by decide) k_3 (fun _ h9 => h9) rfl (by decide +kernel) rfl rfl (Nat.le_of_ble_eq_true rfl) d_M_wellFormed_17 (fun H locs hP hD hS => ?_)
        rw [sm_0_9, ← e8] at hP hD
        refine lv_aload_n hx hb d_M_wellFormed_20 rfl (lv_at hl 0 rfl) ?_
        refine lv_iconst (v := 0) hx hb d_M_wellFormed_21 (by decide) ?_
        obtain ⟨σ9, e10, hf⟩ := gPut_e hf
        refine va_put (D := X) (ci := 9) (ty := .int) (C := R_M) (T := T_M) (N := 35) hx hb hts u_0 t_M t_M_ok n_M hown hK hP hD hS 0 gm_0 rfl 18 (by decide) k_4 (fun _ h9 => h9) rfl (by decide +kernel) rfl rfl (Nat.le_of_ble_eq_true rfl) d_M_wellFormed_22 (fun H locs hP hD hS => ?_)
        rw [sm_0_18, ← e10] at hP hD
        exact ih1 σ9 _ _ _ hf hP hD hS (lv_sub hl [0] rfl)
      · intro  σ0 H locs ls hf hP hD hS hl
        have hf : B_M_wellFormed_1 (R_M_wellFormed t)  σ0 = some (r, σ') := hf
        unfold B_M_wellFormed_1 at hf
        refine lv_aload_n hx hb d_M_wellFormed_25 rfl (lv_at hl 0 rfl) ?_
        refine va_get (D := X) (ci := 9) (C := R_M) (T := T_M) (N := 35) hx hb hts u_0 hown hK hP 0 gm_0 rfl 22 (by decide) k_0 (fun _ h9 => h9) rfl d_M_wellFormed_26 ?_
        refine lv_aload_n hx hb d_M_wellFormed_29 rfl (lv_at hl 0 rfl) ?_
        refine va_get (D := X) (ci := 9) (C := R_M) (T := T_M) (N := 35) hx hb hts u_0 hown hK hP 0 gm_0 rfl 7 (by decide) k_5 (fun _ h9 => h9) rfl d_M_wellFormed_30 ?_
        refine lv_icmp_ge (tgt := 138) hx hb d_M_wellFormed_33 rfl (fun c11 => ?_) (fun c11 => ?_)
        · skip
          rw [if_pos c11] at hf
          refine lv_aload_n hx hb d_M_wellFormed_138 rfl (lv_at hl 0 rfl) ?_
          refine va_get (D := X) (ci := 9) (C := R_M) (T := T_M) (N := 35) hx hb hts u_0 hown hK hP 0 gm_0 rfl 9 (by decide) k_3 (fun _ h9 => h9) rfl d_M_wellFormed_139 ?_
          refine lv_if_le (tgt := 156) hx hb d_M_wellFormed_142 rfl (fun c12 => ?_) (fun c12 => ?_)
          · skip
            rw [if_pos c12] at hf
            refine lv_iconst (v := 0) hx hb d_M_wellFormed_156 (by decide) ?_
            obtain ⟨rfl, rfl⟩ := gRt_e hf
            exact g_zret hx hb hr hlocks rfl hAe hS () rfl hP d_M_wellFormed_157
          rw [if_neg c12] at hf
          refine lv_aload_n hx hb d_M_wellFormed_145 rfl (lv_at hl 0 rfl) ?_
          refine va_get (D := X) (ci := 9) (C := R_M) (T := T_M) (N := 35) hx hb hts u_0 hown hK hP 0 gm_0 rfl 23 (by decide) k_1 (fun _ h9 => h9) rfl d_M_wellFormed_146 ?_
          refine lv_if_ge (tgt := 156) hx hb d_M_wellFormed_149 rfl (fun c13 => ?_) (fun c13 => ?_)
          · skip
            rw [if_pos c13] at hf
            refine lv_iconst (v := 0) hx hb d_M_wellFormed_156 (by decide) ?_
            obtain ⟨rfl, rfl⟩ := gRt_e hf
            exact g_zret hx hb hr hlocks rfl hAe hS () rfl hP d_M_wellFormed_157
          rw [if_neg c13] at hf
          refine lv_iconst (v := 1) hx hb d_M_wellFormed_152 (by decide) ?_
          refine lv_goto (tgt := 157) hx hb d_M_wellFormed_153 rfl ?_
          obtain ⟨rfl, rfl⟩ := gRt_e hf
          exact g_zret hx hb hr hlocks rfl hAe hS () rfl hP d_M_wellFormed_157
        rw [if_neg c11] at hf
        refine lv_aload_n hx hb d_M_wellFormed_36 rfl (lv_at hl 0 rfl) ?_
        refine va_get (D := X) (ci := 9) (C := R_M) (T := T_M) (N := 35) hx hb hts u_0 hown hK hP 0 gm_0 rfl 9 (by decide) k_3 (fun _ h9 => h9) rfl d_M_wellFormed_37 ?_
        refine lv_if_le (tgt := 52) hx hb d_M_wellFormed_40 rfl (fun c14 => ?_) (fun c14 => ?_)
        · skip
          rw [if_pos c14] at hf
          exact ih2 σ0 _ _ _ hf hP hD hS (lv_sub hl [0] rfl)
        rw [if_neg c14] at hf
        refine lv_aload_n hx hb d_M_wellFormed_43 rfl (lv_at hl 0 rfl) ?_
        refine va_get (D := X) (ci := 9) (C := R_M) (T := T_M) (N := 35) hx hb hts u_0 hown hK hP 0 gm_0 rfl 23 (by decide) k_1 (fun _ h9 => h9) rfl d_M_wellFormed_44 ?_
        refine lv_if_ge (tgt := 52) hx hb d_M_wellFormed_47 rfl (fun c15 => ?_) (fun c15 => ?_)
        · skip
          rw [if_pos c15] at hf
          exact ih2 σ0 _ _ _ hf hP hD hS (lv_sub hl [0] rfl)
        rw [if_neg c15] at hf
        refine lv_iconst (v := 0) hx hb d_M_wellFormed_50 (by decide) ?_
        obtain ⟨rfl, rfl⟩ := gRt_e hf
        exact g_zret hx hb hr hlocks rfl hAe hS () rfl hP d_M_wellFormed_51
      · intro  σ0 H locs ls hf hP hD hS hl
        have hf : B_M_wellFormed_2 (R_M_wellFormed t)  σ0 = some (r, σ') := hf
        unfold B_M_wellFormed_2 at hf
        refine lv_aload_n hx hb d_M_wellFormed_52 rfl (lv_at hl 0 rfl) ?_
        refine va_get (D := X) (ci := 9) (C := R_M) (T := T_M) (N := 35) hx hb hts u_0 hown hK hP 0 gm_0 rfl 8 (by decide) k_6 (fun _ h9 => h9) rfl d_M_wellFormed_53 ?_
        refine lv_aload_n hx hb d_M_wellFormed_56 rfl (lv_at hl 0 rfl) ?_
        refine va_get (D := X) (ci := 9) (C := R_M) (T := T_M) (N := 35) hx hb hts u_0 hown hK hP 0 gm_0 rfl 22 (by decide) k_0 (fun _ h9 => h9) rfl d_M_wellFormed_57 ?_
        obtain ⟨y16, h17, e18, hf⟩ := gLd_e hf
        refine va_cald hx hb hK hP 7 1 gm_7 rfl h17 d_M_wellFormed_60 ?_
        rw [← e18]
        refine lv_bipush (v := 60) hx hb d_M_wellFormed_61 (by decide) ?_
        refine lv_icmp_ne (tgt := 70) hx hb d_M_wellFormed_63 rfl (fun c19 => ?_) (fun c19 => ?_)
        · skip
          rw [if_neg c19] at hf
          refine lv_iconst (v := 0) hx hb d_M_wellFormed_70 (by decide) ?_
          exact ih3 (0) σ0 _ _ _ hf hP hD hS (lv_sub hl [0] rfl)
        rw [if_pos c19] at hf
        refine lv_iconst (v := 1) hx hb d_M_wellFormed_66 (by decide) ?_
        refine lv_goto (tgt := 71) hx hb d_M_wellFormed_67 rfl ?_
        exact ih3 (1) σ0 _ _ _ hf hP hD hS (lv_sub hl [0] rfl)
      · intro z0 σ0 H locs ls hf hP hD hS hl
        have hf : B_M_wellFormed_3 (R_M_wellFormed t) z0 σ0 = some (r, σ') := hf
        unfold B_M_wellFormed_3 at hf
        refine lv_istore_n hx hb d_M_wellFormed_71 rfl hl (by decide) rfl (fun ls hl => ?_)
        refine lv_iload_n hx hb d_M_wellFormed_72 rfl (lv_at hl 0 rfl) ?_
        refine lv_if_eq (tgt := 98) hx hb d_M_wellFormed_73 rfl (fun c20 => ?_) (fun c20 => ?_)
        · skip
          rw [if_pos c20] at hf
          exact ih4 (z0) σ0 _ _ _ hf hP hD hS (lv_sub hl [1, 0] rfl)
        rw [if_neg c20] at hf
        refine lv_aload_n hx hb d_M_wellFormed_76 rfl (lv_at hl 1 rfl) ?_
        refine lv_aload_n hx hb d_M_wellFormed_77 rfl (lv_at hl 1 rfl) ?_
        refine va_get (D := X) (ci := 9) (C := R_M) (T := T_M) (N := 35) hx hb hts u_0 hown hK hP 0 gm_0 rfl 22 (by decide) k_0 (fun _ h9 => h9) rfl d_M_wellFormed_78 ?_
        refine lv_iconst (v := 1) hx hb d_M_wellFormed_81 (by decide) ?_
        refine lv_iadd hx hb d_M_wellFormed_82 ?_
        obtain ⟨y21, σ22, e23, hf⟩ := gBd_e hf
        refine g_wi (va_runV ⟨hx, hb, hml, hown, hts⟩ (m_M_charOr0 e23) (cwV 1 hts (gG4 (fun _ h => List.mem_cons_of_mem _ h) tb_441 tb_442 tb_443 tb_392 tc_M_charOr0) rfl rfl rfl (by decide +kernel) ⟨Nat.le_of_ble_eq_true rfl, Nat.le_of_ble_eq_true rfl⟩) (g_preVW (q0 := 0) hE hK hP hD hS hA gm_0 rfl) rfl rfl hl.1 rfl (lv_room (Nat.le_of_ble_eq_true rfl)) d_M_wellFormed_83 ⟨Nat.zero_le _, Nat.zero_le _⟩) hD hS hA (fun _ => mW_fst) (fun y21 _ H locs hu hP hD hS => ?_)
        subst hu
        refine lv_bipush (v := 47) hx hb d_M_wellFormed_86 (by decide) ?_
        refine lv_icmp_ne (tgt := 98) hx hb d_M_wellFormed_88 rfl (fun c24 => ?_) (fun c24 => ?_)
        · skip
          rw [if_neg c24] at hf
          exact ih4 (z0) σ22 _ _ _ hf hP hD hS (lv_sub hl [1, 0] rfl)
        rw [if_pos c24] at hf
        refine lv_aload_n hx hb d_M_wellFormed_91 rfl (lv_at hl 1 rfl) ?_
        obtain ⟨y25, σ26, e27, hf⟩ := gBd_e hf
        refine g_wi (va_runV ⟨hx, hb, hml, hown, hts⟩ (m_M_end e27) (cwV 0 hts (gG4 (fun _ h => List.mem_cons_of_mem _ h) tb_468 tb_469 tb_470 tb_392 tc_M_end) rfl rfl rfl (by decide +kernel) ⟨Nat.le_of_ble_eq_true rfl, Nat.le_of_ble_eq_true rfl⟩) (g_preVW (q0 := 0) hE hK hP hD hS hA gm_0 rfl) rfl rfl hl.1 rfl (lv_room (Nat.le_of_ble_eq_true rfl)) d_M_wellFormed_92 ⟨Nat.zero_le _, Nat.zero_le _⟩) hD hS hA (fun _ => mW_fst) (fun y25 _ H locs hu hP hD hS => ?_)
        subst hu
        refine lv_goto (tgt := 128) hx hb d_M_wellFormed_95 rfl ?_
        exact ih6 (y25) σ26 _ _ _ hf hP hD hS (lv_sub hl [1] rfl)
      · intro x1 σ0 H locs ls hf hP hD hS hl
        have hf : B_M_wellFormed_4 (R_M_wellFormed t) x1 σ0 = some (r, σ') := hf
        unfold B_M_wellFormed_4 at hf
        refine lv_iload_n hx hb d_M_wellFormed_98 rfl (lv_at hl 1 rfl) ?_
        refine lv_if_eq (tgt := 109) hx hb d_M_wellFormed_99 rfl (fun c28 => ?_) (fun c28 => ?_)
        · skip
          rw [if_pos c28] at hf
          refine lv_aload_n hx hb d_M_wellFormed_109 rfl (lv_at hl 0 rfl) ?_
          refine va_get (D := X) (ci := 9) (C := R_M) (T := T_M) (N := 35) hx hb hts u_0 hown hK hP 0 gm_0 rfl 23 (by decide) k_1 (fun _ h9 => h9) rfl d_M_wellFormed_110 ?_
          refine lv_if_lt (tgt := 127) hx hb d_M_wellFormed_113 rfl (fun c29 => ?_) (fun c29 => ?_)
          · skip
            rw [if_pos c29] at hf
            exact ih5 σ0 _ _ _ hf hP hD hS (lv_sub hl [0] rfl)
          rw [if_neg c29] at hf
          refine lv_aload_n hx hb d_M_wellFormed_116 rfl (lv_at hl 0 rfl) ?_
          obtain ⟨y30, σ31, e32, hf⟩ := gBd_e hf
          refine g_wi (va_runV ⟨hx, hb, hml, hown, hts⟩ (m_M_content e32) (cwV 0 hts (gG4 (fun _ h => List.mem_cons_of_mem _ h) tb_471 tb_472 tb_473 tb_392 tc_M_content) rfl rfl rfl (by decide +kernel) ⟨Nat.le_of_ble_eq_true rfl, Nat.le_of_ble_eq_true rfl⟩) (g_preVW (q0 := 0) hE hK hP hD hS hA gm_0 rfl) rfl rfl hl.1 rfl (lv_room (Nat.le_of_ble_eq_true rfl)) d_M_wellFormed_117 ⟨Nat.zero_le _, Nat.zero_le _⟩) hD hS hA (fun _ => mW_fst) (fun y30 _ H locs hu hP hD hS => ?_)
          subst hu
          refine lv_if_eq (tgt := 127) hx hb d_M_wellFormed_120 rfl (fun c33 => ?_) (fun c33 => ?_)
          · skip
            rw [if_pos c33] at hf
            exact ih5 σ31 _ _ _ hf hP hD hS (lv_sub hl [0] rfl)
          rw [if_neg c33] at hf
          refine lv_iconst (v := 1) hx hb d_M_wellFormed_123 (by decide) ?_
          refine lv_goto (tgt := 128) hx hb d_M_wellFormed_124 rfl ?_
          exact ih6 (1) σ31 _ _ _ hf hP hD hS (lv_sub hl [0] rfl)
        rw [if_neg c28] at hf
        refine lv_aload_n hx hb d_M_wellFormed_102 rfl (lv_at hl 0 rfl) ?_
        obtain ⟨y34, σ35, e36, hf⟩ := gBd_e hf
        refine g_wi (va_runV ⟨hx, hb, hml, hown, hts⟩ (m_M_start e36) (cwV 0 hts (gG4 (fun _ h => List.mem_cons_of_mem _ h) tb_474 tb_475 tb_476 tb_392 tc_M_start) rfl rfl rfl (by decide +kernel) ⟨Nat.le_of_ble_eq_true rfl, Nat.le_of_ble_eq_true rfl⟩) (g_preVW (q0 := 0) hE hK hP hD hS hA gm_0 rfl) rfl rfl hl.1 rfl (lv_room (Nat.le_of_ble_eq_true rfl)) d_M_wellFormed_103 ⟨Nat.zero_le _, Nat.zero_le _⟩) hD hS hA (fun _ => mW_fst) (fun y34 _ H locs hu hP hD hS => ?_)
        subst hu
        refine lv_goto (tgt := 128) hx hb d_M_wellFormed_106 rfl ?_
        exact ih6 (y34) σ35 _ _ _ hf hP hD hS (lv_sub hl [0] rfl)
      · intro  σ0 H locs ls hf hP hD hS hl
        have hf : B_M_wellFormed_5 (R_M_wellFormed t)  σ0 = some (r, σ') := hf
        unfold B_M_wellFormed_5 at hf
        refine lv_iconst (v := 0) hx hb d_M_wellFormed_127 (by decide) ?_
        exact ih6 (0) σ0 _ _ _ hf hP hD hS (lv_sub hl [0] rfl)
      · intro z0 σ0 H locs ls hf hP hD hS hl
        have hf : B_M_wellFormed_6 (R_M_wellFormed t) z0 σ0 = some (r, σ') := hf
        unfold B_M_wellFormed_6 at hf
        refine lv_istore_n hx hb d_M_wellFormed_128 rfl hl (by decide) rfl (fun ls hl => ?_)
        refine lv_iload_n hx hb d_M_wellFormed_129 rfl (lv_at hl 0 rfl) ?_
        refine lv_if_ne (tgt := 135) hx hb d_M_wellFormed_130 rfl (fun c37 => ?_) (fun c37 => ?_)
        · skip
          rw [if_neg c37] at hf
          refine lv_goto (tgt := 25) hx hb d_M_wellFormed_135 rfl ?_
          exact ih1 σ0 _ _ _ hf hP hD hS (lv_sub hl [1] rfl)
        rw [if_pos c37] at hf
        refine lv_iconst (v := 0) hx hb d_M_wellFormed_133 (by decide) ?_
        obtain ⟨rfl, rfl⟩ := gRt_e hf
        exact g_zret hx hb hr hlocks rfl hAe hS () rfl hP d_M_wellFormed_134
  exact (key gFuel).1  σ _ _ _ hf hP hD hS hl

def f_M_isOne (σ : gS) (x1 : Int32) (x2 : Int32) : Option (Int32 × gS) := gBd (f_M_attr σ x1 x2) (fun y1 σ2 => if y1 < 0 then (some (0, σ2)) else (gLd σ2 18 320 y1 (fun y5 => gLd σ2 17 320 y1 (fun y8 => if (y5 - y8) = 1 then (gLd σ2 17 320 y1 (fun y12 => gLd σ2 7 1600 y12 (fun y15 => if y15 = 49 then (some (1, σ2)) else (some (0, σ2))))) else (some (0, σ2))))))
set_option maxHeartbeats 4000000 in
set_option maxRecDepth 100000 in
theorem m_M_isOne {l : Launch} {X : va_G} {cI cC cZ : ClassId} {aK aV : Nat → Nat} {b : Nat → Nat} {σ σ' : gS} {r : Int32} {x1 : Int32} {x2 : Int32} (hf : f_M_isOne σ x1 x2 = some (r, σ')) {sz : Nat} : Met l y_M_isOne w_M_isOne { frames := 1, cells := 0, slots := 0, locals := 23 } (gPc X vwCl (gT cI cC cZ) aK aV (mW cI cC cZ b σ) sz [.ref (b 0), .int x1, .int x2]) (gQi X vwCl (mW cI cC cZ b σ) sz (fun r' (_ : Unit) => r' = r) (fun _ => mW cI cC cZ b σ')) 0 0 (va_A (mW cI cC cZ b σ) sz) := by
  refine g_met (cc := b_M_isOne) (maxL := 4) (ret := (some .boolean)) (by decide) rfl (Nat.le_of_ble_eq_true rfl) ?_
  intro p e s m below meth c A ls hx hb hr hml hown hts hlocks hnm hsz hAe hA hP hK hD hS hl hE
  have hown : s.vm.findClass R_M = some m.cls := hown
  have u_0 : ∀ w ∈ u_ws R_M T_M 35, w ∈ w_M_isOne := fun w h => List.mem_cons_of_mem _ (tu_M w h)
  have k_0 := hts (.fieldLink R_M 63 "GraphPagesModel" "attrTo" "[I") (List.mem_cons_of_mem _ tb_461)
  have k_1 := hts (.fieldLink R_M 60 "GraphPagesModel" "attrFrom" "[I") (List.mem_cons_of_mem _ tb_460)
  have k_2 := hts (.fieldLink R_M 29 "GraphPagesModel" "page" "[C") (List.mem_cons_of_mem _ tb_412)
  unfold f_M_isOne at hf
  refine lv_aload_n hx hb d_M_isOne_0 rfl (lv_at hl 0 rfl) ?_
  refine lv_iload_n hx hb d_M_isOne_1 rfl (lv_at hl 1 rfl) ?_
  refine lv_iload_n hx hb d_M_isOne_2 rfl (lv_at hl 2 rfl) ?_
  obtain ⟨y1, σ2, e3, hf⟩ := gBd_e hf
  refine g_wi (va_runV ⟨hx, hb, hml, hown, hts⟩ (m_M_attr e3) (cwV 2 hts (gG4 (fun _ h => List.mem_cons_of_mem _ h) tb_456 tb_457 tb_458 tb_392 tc_M_attr) rfl rfl rfl (by decide +kernel) ⟨Nat.le_of_ble_eq_true rfl, Nat.le_of_ble_eq_true rfl⟩) (g_preVW (q0 := 0) hE hK hP hD hS hA gm_0 rfl) rfl rfl hl.1 rfl (lv_room (Nat.le_of_ble_eq_true rfl)) d_M_isOne_3 ⟨Nat.zero_le _, Nat.zero_le _⟩) hD hS hA (fun _ => mW_fst) (fun y1 _ H locs hu hP hD hS => ?_)
  subst hu
  refine lv_istore_n hx hb d_M_isOne_6 rfl hl (by decide) rfl (fun ls hl => ?_)
  refine lv_iload_n hx hb d_M_isOne_7 rfl (lv_at hl 0 rfl) ?_
  refine lv_if_lt (tgt := 48) hx hb d_M_isOne_8 rfl (fun c4 => ?_) (fun c4 => ?_)
  · skip
    rw [if_pos c4] at hf
    refine lv_iconst (v := 0) hx hb d_M_isOne_48 (by decide) ?_
    obtain ⟨rfl, rfl⟩ := gRt_e hf
    exact g_zret hx hb hr hlocks rfl hAe hS () rfl hP d_M_isOne_49
  rw [if_neg c4] at hf
  refine lv_aload_n hx hb d_M_isOne_11 rfl (lv_at hl 1 rfl) ?_
  refine va_get (D := X) (ci := 9) (C := R_M) (T := T_M) (N := 35) hx hb hts u_0 hown hK hP 0 gm_0 rfl 21 (by decide) k_0 (fun _ h9 => h9) rfl d_M_isOne_12 ?_
  refine lv_iload_n hx hb d_M_isOne_15 rfl (lv_at hl 0 rfl) ?_
  obtain ⟨y5, h6, e7, hf⟩ := gLd_e hf
  refine va_iald hx hb hK hP 18 0 gm_18 rfl h6 d_M_isOne_16 ?_
  rw [← e7]
  refine lv_aload_n hx hb d_M_isOne_17 rfl (lv_at hl 1 rfl) ?_
  refine va_get (D := X) (ci := 9) (C := R_M) (T := T_M) (N := 35) hx hb hts u_0 hown hK hP 0 gm_0 rfl 20 (by decide) k_1 (fun _ h9 => h9) rfl d_M_isOne_18 ?_
  refine lv_iload_n hx hb d_M_isOne_21 rfl (lv_at hl 0 rfl) ?_
  obtain ⟨y8, h9, e10, hf⟩ := gLd_e hf
  refine va_iald hx hb hK hP 17 0 gm_17 rfl h9 d_M_isOne_22 ?_
  rw [← e10]
  refine lv_isub hx hb d_M_isOne_23 ?_
  refine lv_iconst (v := 1) hx hb d_M_isOne_24 (by decide) ?_
  refine lv_icmp_ne (tgt := 48) hx hb d_M_isOne_25 rfl (fun c11 => ?_) (fun c11 => ?_)
  · skip
    rw [if_neg c11] at hf
    refine lv_iconst (v := 0) hx hb d_M_isOne_48 (by decide) ?_
    obtain ⟨rfl, rfl⟩ := gRt_e hf
    exact g_zret hx hb hr hlocks rfl hAe hS () rfl hP d_M_isOne_49
  rw [if_pos c11] at hf
  refine lv_aload_n hx hb d_M_isOne_28 rfl (lv_at hl 1 rfl) ?_
  refine va_get (D := X) (ci := 9) (C := R_M) (T := T_M) (N := 35) hx hb hts u_0 hown hK hP 0 gm_0 rfl 8 (by decide) k_2 (fun _ h9 => h9) rfl d_M_isOne_29 ?_
  refine lv_aload_n hx hb d_M_isOne_32 rfl (lv_at hl 1 rfl) ?_
  refine va_get (D := X) (ci := 9) (C := R_M) (T := T_M) (N := 35) hx hb hts u_0 hown hK hP 0 gm_0 rfl 20 (by decide) k_1 (fun _ h9 => h9) rfl d_M_isOne_33 ?_
  refine lv_iload_n hx hb d_M_isOne_36 rfl (lv_at hl 0 rfl) ?_
  obtain ⟨y12, h13, e14, hf⟩ := gLd_e hf
  refine va_iald hx hb hK hP 17 0 gm_17 rfl h13 d_M_isOne_37 ?_
  rw [← e14]
  obtain ⟨y15, h16, e17, hf⟩ := gLd_e hf
  refine va_cald hx hb hK hP 7 1 gm_7 rfl h16 d_M_isOne_38 ?_
  rw [← e17]
  refine lv_bipush (v := 49) hx hb d_M_isOne_39 (by decide) ?_
  refine lv_icmp_ne (tgt := 48) hx hb d_M_isOne_41 rfl (fun c18 => ?_) (fun c18 => ?_)
  · skip
    rw [if_neg c18] at hf
    refine lv_iconst (v := 0) hx hb d_M_isOne_48 (by decide) ?_
    obtain ⟨rfl, rfl⟩ := gRt_e hf
    exact g_zret hx hb hr hlocks rfl hAe hS () rfl hP d_M_isOne_49
  rw [if_pos c18] at hf
  refine lv_iconst (v := 1) hx hb d_M_isOne_44 (by decide) ?_
  refine lv_goto (tgt := 49) hx hb d_M_isOne_45 rfl ?_
  obtain ⟨rfl, rfl⟩ := gRt_e hf
  exact g_zret hx hb hr hlocks rfl hAe hS () rfl hP d_M_isOne_49

def B_M_countOf_0 (rec : Nat → List Int32 → gS → Option (Int32 × gS)) (x1 : Int32) (σ0 : gS) : Option (Int32 × gS) := if 0 ≤ x1 then (gLd σ0 18 320 x1 (fun y2 => gLd σ0 17 320 x1 (fun y5 => if (y2 - y5) < 1 then (some ((-1), σ0)) else (if (y2 - y5) ≤ 2 then (gLd σ0 17 320 x1 (fun y10 => rec 1 [x1, 0, y10] σ0)) else (some ((-1), σ0)))))) else (some ((-1), σ0))
def B_M_countOf_1 (rec : Nat → List Int32 → gS → Option (Int32 × gS)) (x1 : Int32) (x3 : Int32) (x4 : Int32) (σ0 : gS) : Option (Int32 × gS) := gLd σ0 18 320 x1 (fun y13 => if y13 ≤ x4 then (some (x3, σ0)) else (gLd σ0 7 1600 x4 (fun y17 => if y17 < 48 then (some ((-1), σ0)) else (gLd σ0 7 1600 x4 (fun y21 => if y21 ≤ 57 then (gLd σ0 7 1600 x4 (fun y25 => rec 1 [x1, (((10 * x3) + y25) - 48), (x4 + 1)] σ0)) else (some ((-1), σ0)))))))
def S_M_countOf (rec : Nat → List Int32 → gS → Option (Int32 × gS)) (k : Nat) (l : List Int32) (σ0 : gS) : Option (Int32 × gS) := match k, l with
  | 0, [x1] => B_M_countOf_0 rec x1 σ0
  | 1, [x1, x3, x4] => B_M_countOf_1 rec x1 x3 x4 σ0
  | _, _ => none
def R_M_countOf : Nat → Nat → List Int32 → gS → Option (Int32 × gS)
  | 0 => fun _ _ _ => none
  | t + 1 => fun k l σ0 => S_M_countOf (R_M_countOf t) k l σ0
def f_M_countOf (σ : gS) (x1 : Int32) : Option (Int32 × gS) := R_M_countOf gFuel 0 [x1] σ
set_option maxHeartbeats 4000000 in
set_option maxRecDepth 100000 in
theorem m_M_countOf {l : Launch} {X : va_G} {cI cC cZ : ClassId} {aK aV : Nat → Nat} {b : Nat → Nat} {σ σ' : gS} {r : Int32} {q1 : Int32} (hf : f_M_countOf σ q1 = some (r, σ')) {sz : Nat} : Met l y_M_countOf w_M_countOf { frames := 0, cells := 0, slots := 0, locals := 0 } (gPc X vwCl (gT cI cC cZ) aK aV (mW cI cC cZ b σ) sz [.ref (b 0), .int q1]) (gQi X vwCl (mW cI cC cZ b σ) sz (fun r' (_ : Unit) => r' = r) (fun _ => mW cI cC cZ b σ')) 0 0 (va_A (mW cI cC cZ b σ) sz) := by
  refine g_met (cc := b_M_countOf) (maxL := 5) (ret := (some .int)) (by decide) rfl (Nat.le_of_ble_eq_true rfl) ?_
  intro p e s m below meth c A ls hx hb hr hml hown hts hlocks hnm hsz hAe hA hP hK hD hS hl hE
  have hown : s.vm.findClass R_M = some m.cls := hown
  have u_0 : ∀ w ∈ u_ws R_M T_M 35, w ∈ w_M_countOf := fun w h => List.mem_cons_of_mem _ (tu_M w h)
  have k_0 := hts (.fieldLink R_M 63 "GraphPagesModel" "attrTo" "[I") (List.mem_cons_of_mem _ tb_461)
  have k_1 := hts (.fieldLink R_M 60 "GraphPagesModel" "attrFrom" "[I") (List.mem_cons_of_mem _ tb_460)
  have k_2 := hts (.fieldLink R_M 29 "GraphPagesModel" "page" "[C") (List.mem_cons_of_mem _ tb_412)
  unfold f_M_countOf at hf
  have key : ∀ t : Nat, (∀ (x1 : Int32) (σ0 : gS) (H : Heap) (locs : List Loc) (ls : Array Slot), R_M_countOf t 0 [x1] σ0 = some (r, σ') → va_P X vwCl (mW cI cC cZ b σ0) H → va_D A (mW cI cC cZ b σ0) → va_S A s.heap H locs → lv_has ls 5 [(0, .ref (b 0)), (1, .int x1)] → W p l e (headSpec w_M_countOf { frames := 0, cells := 0, slots := 0, locals := 0 }).room s m [.ref (b 0), .int q1].toArray below meth c H locs 0 0 (MQ below (gQi X vwCl (mW cI cC cZ b σ) sz (fun r' (_ : Unit) => r' = r) (fun _ => mW cI cC cZ b σ')) [.ref (b 0), .int q1].toArray s 0 0 (va_A (mW cI cC cZ b σ) sz)) (F0 m 0 ls [])) ∧ (∀ (x1 : Int32) (x3 : Int32) (x4 : Int32) (σ0 : gS) (H : Heap) (locs : List Loc) (ls : Array Slot), R_M_countOf t 1 [x1, x3, x4] σ0 = some (r, σ') → va_P X vwCl (mW cI cC cZ b σ0) H → va_D A (mW cI cC cZ b σ0) → va_S A s.heap H locs → lv_has ls 5 [(0, .ref (b 0)), (1, .int x1), (3, .int x3), (4, .int x4)] → W p l e (headSpec w_M_countOf { frames := 0, cells := 0, slots := 0, locals := 0 }).room s m [.ref (b 0), .int q1].toArray below meth c H locs 0 0 (MQ below (gQi X vwCl (mW cI cC cZ b σ) sz (fun r' (_ : Unit) => r' = r) (fun _ => mW cI cC cZ b σ')) [.ref (b 0), .int q1].toArray s 0 0 (va_A (mW cI cC cZ b σ) sz)) (F0 m 42 ls [])) := by
    intro t
    induction t with
    | zero => exact ⟨fun _ _ _ _ _ hf => (by have hf : (none : Option (Int32 × gS)) = some (r, σ') := hf; cases hf), fun _ _ _ _ _ _ _ hf => (by have hf : (none : Option (Int32 × gS)) = some (r, σ') := hf; cases hf)⟩
    | succ t ih =>
      obtain ⟨ih0, ih1⟩ := ih
      refine ⟨?_, ?_⟩
      · intro x1 σ0 H locs ls hf hP hD hS hl
        have hf : B_M_countOf_0 (R_M_countOf t) x1 σ0 = some (r, σ') := hf
        unfold B_M_countOf_0 at hf
        refine lv_iload_n hx hb d_M_countOf_0 rfl (lv_at hl 1 rfl) ?_
        refine lv_if_ge (tgt := 6) hx hb d_M_countOf_1 rfl (fun c1 => ?_) (fun c1 => ?_)
        · skip
          rw [if_pos c1] at hf
          refine lv_aload_n hx hb d_M_countOf_6 rfl (lv_at hl 0 rfl) ?_
          refine va_get (D := X) (ci := 9) (C := R_M) (T := T_M) (N := 35) hx hb hts u_0 hown hK hP 0 gm_0 rfl 21 (by decide) k_0 (fun _ h9 => h9) rfl d_M_countOf_7 ?_
          refine lv_iload_n hx hb d_M_countOf_10 rfl (lv_at hl 1 rfl) ?_
          obtain ⟨y2, h3, e4, hf⟩ := gLd_e hf
          refine va_iald hx hb hK hP 18 0 gm_18 rfl h3 d_M_countOf_11 ?_
          rw [← e4]
          refine lv_aload_n hx hb d_M_countOf_12 rfl (lv_at hl 0 rfl) ?_
          refine va_get (D := X) (ci := 9) (C := R_M) (T := T_M) (N := 35) hx hb hts u_0 hown hK hP 0 gm_0 rfl 20 (by decide) k_1 (fun _ h9 => h9) rfl d_M_countOf_13 ?_
          refine lv_iload_n hx hb d_M_countOf_16 rfl (lv_at hl 1 rfl) ?_
          obtain ⟨y5, h6, e7, hf⟩ := gLd_e hf
          refine va_iald hx hb hK hP 17 0 gm_17 rfl h6 d_M_countOf_17 ?_
          rw [← e7]
          refine lv_isub hx hb d_M_countOf_18 ?_
          refine lv_istore_n hx hb d_M_countOf_19 rfl hl (by decide) rfl (fun ls hl => ?_)
          refine lv_iload_n hx hb d_M_countOf_20 rfl (lv_at hl 0 rfl) ?_
          refine lv_iconst (v := 1) hx hb d_M_countOf_21 (by decide) ?_
          refine lv_icmp_lt (tgt := 30) hx hb d_M_countOf_22 rfl (fun c8 => ?_) (fun c8 => ?_)
          · skip
            rw [if_pos c8] at hf
            refine lv_iconst (v := (-1)) hx hb d_M_countOf_30 (by decide) ?_
            obtain ⟨rfl, rfl⟩ := gRt_e hf
            exact g_zret hx hb hr hlocks rfl hAe hS () rfl hP d_M_countOf_31
          rw [if_neg c8] at hf
          refine lv_iload_n hx hb d_M_countOf_25 rfl (lv_at hl 0 rfl) ?_
          refine lv_iconst (v := 2) hx hb d_M_countOf_26 (by decide) ?_
          refine lv_icmp_le (tgt := 32) hx hb d_M_countOf_27 rfl (fun c9 => ?_) (fun c9 => ?_)
          · skip
            rw [if_pos c9] at hf
            refine lv_iconst (v := 0) hx hb d_M_countOf_32 (by decide) ?_
            refine lv_istore_n hx hb d_M_countOf_33 rfl hl (by decide) rfl (fun ls hl => ?_)
            refine lv_aload_n hx hb d_M_countOf_34 rfl (lv_at hl 2 rfl) ?_
            refine va_get (D := X) (ci := 9) (C := R_M) (T := T_M) (N := 35) hx hb hts u_0 hown hK hP 0 gm_0 rfl 20 (by decide) k_1 (fun _ h9 => h9) rfl d_M_countOf_35 ?_
            refine lv_iload_n hx hb d_M_countOf_38 rfl (lv_at hl 3 rfl) ?_
            obtain ⟨y10, h11, e12, hf⟩ := gLd_e hf
            refine va_iald hx hb hK hP 17 0 gm_17 rfl h11 d_M_countOf_39 ?_
            rw [← e12]
            refine lv_istore hx hb d_M_countOf_40 hl (by decide) rfl (fun ls hl => ?_)
            exact ih1 (x1) (0) (y10) σ0 _ _ _ hf hP hD hS (lv_sub hl [3, 4, 1, 0] rfl)
          rw [if_neg c9] at hf
          refine lv_iconst (v := (-1)) hx hb d_M_countOf_30 (by decide) ?_
          obtain ⟨rfl, rfl⟩ := gRt_e hf
          exact g_zret hx hb hr hlocks rfl hAe hS () rfl hP d_M_countOf_31
        rw [if_neg c1] at hf
        refine lv_iconst (v := (-1)) hx hb d_M_countOf_4 (by decide) ?_
        obtain ⟨rfl, rfl⟩ := gRt_e hf
        exact g_zret hx hb hr hlocks rfl hAe hS () rfl hP d_M_countOf_5
      · intro x1 x3 x4 σ0 H locs ls hf hP hD hS hl
        have hf : B_M_countOf_1 (R_M_countOf t) x1 x3 x4 σ0 = some (r, σ') := hf
        unfold B_M_countOf_1 at hf
        refine lv_iload hx hb d_M_countOf_42 (lv_at hl 3 rfl) ?_
        refine lv_aload_n hx hb d_M_countOf_44 rfl (lv_at hl 0 rfl) ?_
        refine va_get (D := X) (ci := 9) (C := R_M) (T := T_M) (N := 35) hx hb hts u_0 hown hK hP 0 gm_0 rfl 21 (by decide) k_0 (fun _ h9 => h9) rfl d_M_countOf_45 ?_
        refine lv_iload_n hx hb d_M_countOf_48 rfl (lv_at hl 1 rfl) ?_
        obtain ⟨y13, h14, e15, hf⟩ := gLd_e hf
        refine va_iald hx hb hK hP 18 0 gm_18 rfl h14 d_M_countOf_49 ?_
        rw [← e15]
        refine lv_icmp_ge (tgt := 101) hx hb d_M_countOf_50 rfl (fun c16 => ?_) (fun c16 => ?_)
        · skip
          rw [if_pos c16] at hf
          refine lv_iload_n hx hb d_M_countOf_101 rfl (lv_at hl 2 rfl) ?_
          obtain ⟨rfl, rfl⟩ := gRt_e hf
          exact g_zret hx hb hr hlocks rfl hAe hS () rfl hP d_M_countOf_102
        rw [if_neg c16] at hf
        refine lv_aload_n hx hb d_M_countOf_53 rfl (lv_at hl 0 rfl) ?_
        refine va_get (D := X) (ci := 9) (C := R_M) (T := T_M) (N := 35) hx hb hts u_0 hown hK hP 0 gm_0 rfl 8 (by decide) k_2 (fun _ h9 => h9) rfl d_M_countOf_54 ?_
        refine lv_iload hx hb d_M_countOf_57 (lv_at hl 3 rfl) ?_
        obtain ⟨y17, h18, e19, hf⟩ := gLd_e hf
        refine va_cald hx hb hK hP 7 1 gm_7 rfl h18 d_M_countOf_59 ?_
        rw [← e19]
        refine lv_bipush (v := 48) hx hb d_M_countOf_60 (by decide) ?_
        refine lv_icmp_lt (tgt := 77) hx hb d_M_countOf_62 rfl (fun c20 => ?_) (fun c20 => ?_)
        · skip
          rw [if_pos c20] at hf
          refine lv_iconst (v := (-1)) hx hb d_M_countOf_77 (by decide) ?_
          obtain ⟨rfl, rfl⟩ := gRt_e hf
          exact g_zret hx hb hr hlocks rfl hAe hS () rfl hP d_M_countOf_78
        rw [if_neg c20] at hf
        refine lv_aload_n hx hb d_M_countOf_65 rfl (lv_at hl 0 rfl) ?_
        refine va_get (D := X) (ci := 9) (C := R_M) (T := T_M) (N := 35) hx hb hts u_0 hown hK hP 0 gm_0 rfl 8 (by decide) k_2 (fun _ h9 => h9) rfl d_M_countOf_66 ?_
        refine lv_iload hx hb d_M_countOf_69 (lv_at hl 3 rfl) ?_
        obtain ⟨y21, h22, e23, hf⟩ := gLd_e hf
        refine va_cald hx hb hK hP 7 1 gm_7 rfl h22 d_M_countOf_71 ?_
        rw [← e23]
        refine lv_bipush (v := 57) hx hb d_M_countOf_72 (by decide) ?_
        refine lv_icmp_le (tgt := 79) hx hb d_M_countOf_74 rfl (fun c24 => ?_) (fun c24 => ?_)
        · skip
          rw [if_pos c24] at hf
          refine lv_bipush (v := 10) hx hb d_M_countOf_79 (by decide) ?_
          refine lv_iload_n hx hb d_M_countOf_81 rfl (lv_at hl 2 rfl) ?_
          refine lv_imul hx hb d_M_countOf_82 ?_
          refine lv_aload_n hx hb d_M_countOf_83 rfl (lv_at hl 0 rfl) ?_
          refine va_get (D := X) (ci := 9) (C := R_M) (T := T_M) (N := 35) hx hb hts u_0 hown hK hP 0 gm_0 rfl 8 (by decide) k_2 (fun _ h9 => h9) rfl d_M_countOf_84 ?_
          refine lv_iload hx hb d_M_countOf_87 (lv_at hl 3 rfl) ?_
          obtain ⟨y25, h26, e27, hf⟩ := gLd_e hf
          refine va_cald hx hb hK hP 7 1 gm_7 rfl h26 d_M_countOf_89 ?_
          rw [← e27]
          refine lv_iadd hx hb d_M_countOf_90 ?_
          refine lv_bipush (v := 48) hx hb d_M_countOf_91 (by decide) ?_
          refine lv_isub hx hb d_M_countOf_93 ?_
          refine lv_istore_n hx hb d_M_countOf_94 rfl hl (by decide) rfl (fun ls hl => ?_)
          refine lv_iinc (k := 3) (v := (x4 + 1)) hx hb d_M_countOf_95 hl rfl (by rw [show Int32.ofInt (1) = (1 : Int32) by decide]) (by decide) rfl (fun ls hl => ?_)
          refine lv_goto (tgt := 42) hx hb d_M_countOf_98 rfl ?_
          exact ih1 (x1) ((((10 * x3) + y25) - 48)) ((x4 + 1)) σ0 _ _ _ hf hP hD hS (lv_sub hl [2, 3, 1, 0] rfl)
        rw [if_neg c24] at hf
        refine lv_iconst (v := (-1)) hx hb d_M_countOf_77 (by decide) ?_
        obtain ⟨rfl, rfl⟩ := gRt_e hf
        exact g_zret hx hb hr hlocks rfl hAe hS () rfl hP d_M_countOf_78
  exact (key gFuel).1 q1 σ _ _ _ hf hP hD hS hl

def f_M_countIn (σ : gS) (x1 : Int32) (x2 : Int32) : Option (Int32 × gS) := gBd (f_M_attr σ x1 x2) (fun y1 σ2 => gBd (f_M_countOf σ2 y1) (fun y4 σ5 => some (y4, σ5)))
set_option maxHeartbeats 4000000 in
set_option maxRecDepth 100000 in
theorem m_M_countIn {l : Launch} {X : va_G} {cI cC cZ : ClassId} {aK aV : Nat → Nat} {b : Nat → Nat} {σ σ' : gS} {r : Int32} {x1 : Int32} {x2 : Int32} (hf : f_M_countIn σ x1 x2 = some (r, σ')) {sz : Nat} : Met l y_M_countIn w_M_countIn { frames := 1, cells := 0, slots := 0, locals := 24 } (gPc X vwCl (gT cI cC cZ) aK aV (mW cI cC cZ b σ) sz [.ref (b 0), .int x1, .int x2]) (gQi X vwCl (mW cI cC cZ b σ) sz (fun r' (_ : Unit) => r' = r) (fun _ => mW cI cC cZ b σ')) 0 0 (va_A (mW cI cC cZ b σ) sz) := by
  refine g_met (cc := b_M_countIn) (maxL := 4) (ret := (some .int)) (by decide) rfl (Nat.le_of_ble_eq_true rfl) ?_
  intro p e s m below meth c A ls hx hb hr hml hown hts hlocks hnm hsz hAe hA hP hK hD hS hl hE
  have hown : s.vm.findClass R_M = some m.cls := hown
  unfold f_M_countIn at hf
  refine lv_aload_n hx hb d_M_countIn_0 rfl (lv_at hl 0 rfl) ?_
  refine lv_iload_n hx hb d_M_countIn_1 rfl (lv_at hl 1 rfl) ?_
  refine lv_iload_n hx hb d_M_countIn_2 rfl (lv_at hl 2 rfl) ?_
  obtain ⟨y1, σ2, e3, hf⟩ := gBd_e hf
  refine g_wi (va_runV ⟨hx, hb, hml, hown, hts⟩ (m_M_attr e3) (cwV 2 hts (gG4 (fun _ h => List.mem_cons_of_mem _ h) tb_456 tb_457 tb_458 tb_392 tc_M_attr) rfl rfl rfl (by decide +kernel) ⟨Nat.le_of_ble_eq_true rfl, Nat.le_of_ble_eq_true rfl⟩) (g_preVW (q0 := 0) hE hK hP hD hS hA gm_0 rfl) rfl rfl hl.1 rfl (lv_room (Nat.le_of_ble_eq_true rfl)) d_M_countIn_3 ⟨Nat.zero_le _, Nat.zero_le _⟩) hD hS hA (fun _ => mW_fst) (fun y1 _ H locs hu hP hD hS => ?_)
  subst hu
  refine lv_istore_n hx hb d_M_countIn_6 rfl hl (by decide) rfl (fun ls hl => ?_)
  refine lv_aload_n hx hb d_M_countIn_7 rfl (lv_at hl 1 rfl) ?_
  refine lv_iload_n hx hb d_M_countIn_8 rfl (lv_at hl 0 rfl) ?_
  obtain ⟨y4, σ5, e6, hf⟩ := gBd_e hf
  refine g_wi (va_runV ⟨hx, hb, hml, hown, hts⟩ (m_M_countOf e6) (cwV 1 hts (gG4 (fun _ h => List.mem_cons_of_mem _ h) tb_477 tb_478 tb_479 tb_392 tc_M_countOf) rfl rfl rfl (by decide +kernel) ⟨Nat.le_of_ble_eq_true rfl, Nat.le_of_ble_eq_true rfl⟩) (g_preVW (q0 := 0) hE hK hP hD hS hA gm_0 rfl) rfl rfl hl.1 rfl (lv_room (Nat.le_of_ble_eq_true rfl)) d_M_countIn_9 ⟨Nat.zero_le _, Nat.zero_le _⟩) hD hS hA (fun _ => mW_fst) (fun y4 _ H locs hu hP hD hS => ?_)
  subst hu
  obtain ⟨rfl, rfl⟩ := gRt_e hf
  exact g_zret hx hb hr hlocks rfl hAe hS () rfl hP d_M_countIn_12
