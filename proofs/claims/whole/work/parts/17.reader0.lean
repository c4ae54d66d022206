def f_H_isOne (σ : gS) (x1 : Int32) (x2 : Int32) : Option (Int32 × gS) := gBd (f_E_findAttribute σ x1 x2) (fun y1 σ2 => if y1 = (-1) then (some (0, σ2)) else (gLd σ2 30 320 y1 (fun y5 => if y5 = 1 then (gLd σ2 29 320 y1 (fun y9 => gBd (f_P_codeAt σ2 y9) (fun y12 σ13 => if y12 = 49 then (some (1, σ13)) else (some (0, σ13))))) else (some (0, σ2)))))
set_option maxHeartbeats 4000000 in
set_option maxRecDepth 100000 in
theorem m_H_isOne {l : Launch} {X : va_G} {cI cC cZ : ClassId} {aK aV : Nat → Nat} {a : Nat → Nat} {σ σ' : gS} {r : Int32} {x1 : Int32} {x2 : Int32} (hf : f_H_isOne σ x1 x2 = some (r, σ')) {sz : Nat} : Met l y_H_isOne w_H_isOne { frames := 1, cells := 0, slots := 0, locals := 24 } (gPc X vwCl (gT cI cC cZ) aK aV (cW cI cC cZ a σ) sz [.ref (a 33), .int x1, .int x2]) (gQi X vwCl (cW cI cC cZ a σ) sz (fun r' (_ : Unit) => r' = r) (fun _ => cW cI cC cZ a σ')) 0 0 (va_A (cW cI cC cZ a σ) sz) := by
  refine g_met (cc := b_H_isOne) (maxL := 4) (ret := (some .boolean)) (by decide) rfl (Nat.le_of_ble_eq_true rfl) ?_
  intro p e s m below meth c A ls hx hb hr hml hown hts hlocks hnm hsz hAe hA hP hK hD hS hl hE
  have hown : s.vm.findClass R_H = some m.cls := hown
  have u_0 : ∀ w ∈ u_ws R_H T_H 8, w ∈ w_H_isOne := fun w h => List.mem_cons_of_mem _ (tu_H w h)
  have u_1 : ∀ w ∈ u_ws R_E T_E 14, w ∈ w_H_isOne := fun w h => List.mem_cons_of_mem _ (tu_E w h)
  have k_0 := hts (.fieldLink R_H 32 "GraphPages$GraphReader" "elements" "LGraphPages$Elements;") (List.mem_cons_of_mem _ tb_130)
  have k_1 := hts (.fieldLink R_H 176 "GraphPages$Elements" "valueCounts" "[I") (List.mem_cons_of_mem _ tb_131)
  have k_2 := hts (.fieldLink R_H 28 "GraphPages$GraphReader" "page" "LGraphPages$Page;") (List.mem_cons_of_mem _ tb_132)
  have k_3 := hts (.fieldLink R_H 179 "GraphPages$Elements" "valueStarts" "[I") (List.mem_cons_of_mem _ tb_133)
  unfold f_H_isOne at hf
  refine lv_aload_n hx hb d_H_isOne_0 rfl (lv_at hl 0 rfl) ?_
  refine va_get (D := X) (ci := 3) (C := R_H) (T := T_H) (N := 8) hx hb hts u_0 hown hK hP 33 gc_33 rfl 1 (by decide) k_0 (fun _ h9 => h9) rfl d_H_isOne_1 ?_
  refine lv_iload_n hx hb d_H_isOne_4 rfl (lv_at hl 1 rfl) ?_
  refine lv_iload_n hx hb d_H_isOne_5 rfl (lv_at hl 2 rfl) ?_
  obtain ⟨y1, σ2, e3, hf⟩ := gBd_e hf
  refine g_wi (va_runV ⟨hx, hb, hml, hown, hts⟩ (m_E_findAttribute e3) (cwV 2 hts (gG4 (fun _ h => List.mem_cons_of_mem _ h) tb_128 tb_49 tb_50 tb_51 tc_E_findAttribute) rfl rfl rfl (by decide +kernel) ⟨Nat.le_of_ble_eq_true rfl, Nat.le_of_ble_eq_true rfl⟩) (g_preVW (q0 := 20) hE hK hP hD hS hA gc_20 rfl) rfl rfl hl.1 rfl (lv_room (Nat.le_of_ble_eq_true rfl)) d_H_isOne_6 ⟨Nat.zero_le _, Nat.zero_le _⟩) hD hS hA (fun _ => cW_fst) (fun y1 _ H locs hu hP hD hS => ?_)
  subst hu
  refine lv_istore_n hx hb d_H_isOne_9 rfl hl (by decide) rfl (fun ls hl => ?_)
  refine lv_iload_n hx hb d_H_isOne_10 rfl (lv_at hl 0 rfl) ?_
  refine lv_iconst (v := (-1)) hx hb d_H_isOne_11 (by decide) ?_
  refine lv_icmp_eq (tgt := 53) hx hb d_H_isOne_12 rfl (fun c4 => ?_) (fun c4 => ?_)
  · skip
    rw [if_pos c4] at hf
    refine lv_iconst (v := 0) hx hb d_H_isOne_53 (by decide) ?_
    obtain ⟨rfl, rfl⟩ := gRt_e hf
    exact g_zret hx hb hr hlocks rfl hAe hS () rfl hP d_H_isOne_54
  rw [if_neg c4] at hf
  refine lv_aload_n hx hb d_H_isOne_15 rfl (lv_at hl 1 rfl) ?_
  refine va_get (D := X) (ci := 3) (C := R_H) (T := T_H) (N := 8) hx hb hts u_0 hown hK hP 33 gc_33 rfl 1 (by decide) k_0 (fun _ h9 => h9) rfl d_H_isOne_16 ?_
  refine va_get (D := X) (ci := 0) (C := R_E) (T := T_E) (N := 14) hx hb hts u_1 hown hK hP 20 gc_20 rfl 11 (by decide) k_1 (fun _ h9 => h9) rfl d_H_isOne_19 ?_
  refine lv_iload_n hx hb d_H_isOne_22 rfl (lv_at hl 0 rfl) ?_
  obtain ⟨y5, h6, e7, hf⟩ := gLd_e hf
  refine va_iald hx hb hK hP 30 0 gc_30 rfl h6 d_H_isOne_23 ?_
  rw [← e7]
  refine lv_iconst (v := 1) hx hb d_H_isOne_24 (by decide) ?_
  refine lv_icmp_ne (tgt := 53) hx hb d_H_isOne_25 rfl (fun c8 => ?_) (fun c8 => ?_)
  · skip
    rw [if_neg c8] at hf
    refine lv_iconst (v := 0) hx hb d_H_isOne_53 (by decide) ?_
    obtain ⟨rfl, rfl⟩ := gRt_e hf
    exact g_zret hx hb hr hlocks rfl hAe hS () rfl hP d_H_isOne_54
  rw [if_pos c8] at hf
  refine lv_aload_n hx hb d_H_isOne_28 rfl (lv_at hl 1 rfl) ?_
  refine va_get (D := X) (ci := 3) (C := R_H) (T := T_H) (N := 8) hx hb hts u_0 hown hK hP 33 gc_33 rfl 0 (by decide) k_2 (fun _ h9 => h9) rfl d_H_isOne_29 ?_
  refine lv_aload_n hx hb d_H_isOne_32 rfl (lv_at hl 1 rfl) ?_
  refine va_get (D := X) (ci := 3) (C := R_H) (T := T_H) (N := 8) hx hb hts u_0 hown hK hP 33 gc_33 rfl 1 (by decide) k_0 (fun _ h9 => h9) rfl d_H_isOne_33 ?_
  refine va_get (D := X) (ci := 0) (C := R_E) (T := T_E) (N := 14) hx hb hts u_1 hown hK hP 20 gc_20 rfl 10 (by decide) k_3 (fun _ h9 => h9) rfl d_H_isOne_36 ?_
  refine lv_iload_n hx hb d_H_isOne_39 rfl (lv_at hl 0 rfl) ?_
  obtain ⟨y9, h10, e11, hf⟩ := gLd_e hf
  refine va_iald hx hb hK hP 29 0 gc_29 rfl h10 d_H_isOne_40 ?_
  rw [← e11]
  obtain ⟨y12, σ13, e14, hf⟩ := gBd_e hf
  refine g_wi (va_runV ⟨hx, hb, hml, hown, hts⟩ (m_P_codeAt e14) (cwV 1 hts (gG4 (fun _ h => List.mem_cons_of_mem _ h) tb_129 tb_36 tb_37 tb_38 tc_P_codeAt) rfl rfl rfl (by decide +kernel) ⟨Nat.le_of_ble_eq_true rfl, Nat.le_of_ble_eq_true rfl⟩) (g_preVW (q0 := 7) hE hK hP hD hS hA gc_7 rfl) rfl rfl hl.1 rfl (lv_room (Nat.le_of_ble_eq_true rfl)) d_H_isOne_41 ⟨Nat.zero_le _, Nat.zero_le _⟩) hD hS hA (fun _ => cW_fst) (fun y12 _ H locs hu hP hD hS => ?_)
  subst hu
  refine lv_bipush (v := 49) hx hb d_H_isOne_44 (by decide) ?_
  refine lv_icmp_ne (tgt := 53) hx hb d_H_isOne_46 rfl (fun c15 => ?_) (fun c15 => ?_)
  · skip
    rw [if_neg c15] at hf
    refine lv_iconst (v := 0) hx hb d_H_isOne_53 (by decide) ?_
    obtain ⟨rfl, rfl⟩ := gRt_e hf
    exact g_zret hx hb hr hlocks rfl hAe hS () rfl hP d_H_isOne_54
  rw [if_pos c15] at hf
  refine lv_iconst (v := 1) hx hb d_H_isOne_49 (by decide) ?_
  refine lv_goto (tgt := 54) hx hb d_H_isOne_50 rfl ?_
  obtain ⟨rfl, rfl⟩ := gRt_e hf
  exact g_zret hx hb hr hlocks rfl hAe hS () rfl hP d_H_isOne_54

def f_H_knowsVersion (σ : gS) : Option (Int32 × gS) := gLd σ 21 533 0 (fun y1 => if y1 = 5 then (gBd (f_H_isOne σ 0 22) (fun y5 σ6 => if y5 = 0 then (some (0, σ6)) else (some (1, σ6)))) else (some (0, σ)))
set_option maxHeartbeats 4000000 in
set_option maxRecDepth 100000 in
theorem m_H_knowsVersion {l : Launch} {X : va_G} {cI cC cZ : ClassId} {aK aV : Nat → Nat} {a : Nat → Nat} {σ σ' : gS} {r : Int32} (hf : f_H_knowsVersion σ = some (r, σ')) {sz : Nat} : Met l y_H_knowsVersion w_H_knowsVersion { frames := 2, cells := 0, slots := 0, locals := 47 } (gPc X vwCl (gT cI cC cZ) aK aV (cW cI cC cZ a σ) sz [.ref (a 33)]) (gQi X vwCl (cW cI cC cZ a σ) sz (fun r' (_ : Unit) => r' = r) (fun _ => cW cI cC cZ a σ')) 0 0 (va_A (cW cI cC cZ a σ) sz) := by
  refine g_met (cc := b_H_knowsVersion) (maxL := 1) (ret := (some .boolean)) (by decide) rfl (Nat.le_of_ble_eq_true rfl) ?_
  intro p e s m below meth c A ls hx hb hr hml hown hts hlocks hnm hsz hAe hA hP hK hD hS hl hE
  have hown : s.vm.findClass R_H = some m.cls := hown
  have u_0 : ∀ w ∈ u_ws R_H T_H 8, w ∈ w_H_knowsVersion := fun w h => List.mem_cons_of_mem _ (tu_H w h)
  have u_1 : ∀ w ∈ u_ws R_E T_E 14, w ∈ w_H_knowsVersion := fun w h => List.mem_cons_of_mem _ (tu_E w h)
  have k_0 := hts (.fieldLink R_H 32 "GraphPages$GraphReader" "elements" "LGraphPages$Elements;") (List.mem_cons_of_mem _ tb_130)
  have k_1 := hts (.fieldLink R_H 40 "GraphPages$Elements" "names" "[I") (List.mem_cons_of_mem _ tb_138)
  unfold f_H_knowsVersion at hf
  refine lv_aload_n hx hb d_H_knowsVersion_0 rfl (lv_at hl 0 rfl) ?_
  refine va_get (D := X) (ci := 3) (C := R_H) (T := T_H) (N := 8) hx hb hts u_0 hown hK hP 33 gc_33 rfl 1 (by decide) k_0 (fun _ h9 => h9) rfl d_H_knowsVersion_1 ?_
  refine va_get (D := X) (ci := 0) (C := R_E) (T := T_E) (N := 14) hx hb hts u_1 hown hK hP 20 gc_20 rfl 1 (by decide) k_1 (fun _ h9 => h9) rfl d_H_knowsVersion_4 ?_
  refine lv_iconst (v := 0) hx hb d_H_knowsVersion_7 (by decide) ?_
  obtain ⟨y1, h2, e3, hf⟩ := gLd_e hf
  refine va_iald hx hb hK hP 21 0 gc_21 rfl h2 d_H_knowsVersion_8 ?_
  rw [← e3]
  refine lv_iconst (v := 5) hx hb d_H_knowsVersion_9 (by decide) ?_
  refine lv_icmp_ne (tgt := 27) hx hb d_H_knowsVersion_10 rfl (fun c4 => ?_) (fun c4 => ?_)
  · skip
    rw [if_neg c4] at hf
    refine lv_iconst (v := 0) hx hb d_H_knowsVersion_27 (by decide) ?_
    obtain ⟨rfl, rfl⟩ := gRt_e hf
    exact g_zret hx hb hr hlocks rfl hAe hS () rfl hP d_H_knowsVersion_28
  rw [if_pos c4] at hf
  refine lv_aload_n hx hb d_H_knowsVersion_13 rfl (lv_at hl 0 rfl) ?_
  refine lv_iconst (v := 0) hx hb d_H_knowsVersion_14 (by decide) ?_
  refine lv_bipush (v := 22) hx hb d_H_knowsVersion_15 (by decide) ?_
  obtain ⟨y5, σ6, e7, hf⟩ := gBd_e hf
  refine g_wi (va_runV ⟨hx, hb, hml, hown, hts⟩ (m_H_isOne e7) (cwV 2 hts (gG4 (fun _ h => List.mem_cons_of_mem _ h) tb_134 tb_135 tb_136 tb_137 tc_H_isOne) rfl rfl rfl (by decide +kernel) ⟨Nat.le_of_ble_eq_true rfl, Nat.le_of_ble_eq_true rfl⟩) (g_preVW (q0 := 33) hE hK hP hD hS hA gc_33 rfl) rfl rfl hl.1 rfl (lv_room (Nat.le_of_ble_eq_true rfl)) d_H_knowsVersion_17 ⟨Nat.zero_le _, Nat.zero_le _⟩) hD hS hA (fun _ => cW_fst) (fun y5 _ H locs hu hP hD hS => ?_)
  subst hu
  refine lv_if_eq (tgt := 27) hx hb d_H_knowsVersion_20 rfl (fun c8 => ?_) (fun c8 => ?_)
  · skip
    rw [if_pos c8] at hf
    refine lv_iconst (v := 0) hx hb d_H_knowsVersion_27 (by decide) ?_
    obtain ⟨rfl, rfl⟩ := gRt_e hf
    exact g_zret hx hb hr hlocks rfl hAe hS () rfl hP d_H_knowsVersion_28
  rw [if_neg c8] at hf
  refine lv_iconst (v := 1) hx hb d_H_knowsVersion_23 (by decide) ?_
  refine lv_goto (tgt := 28) hx hb d_H_knowsVersion_24 rfl ?_
  obtain ⟨rfl, rfl⟩ := gRt_e hf
  exact g_zret hx hb hr hlocks rfl hAe hS () rfl hP d_H_knowsVersion_28

def B_H_countOf_0 (rec : Nat → List Int32 → gS → Option (Int32 × gS)) (x1 : Int32) (σ0 : gS) : Option (Int32 × gS) := gLd σ0 30 320 x1 (fun y1 => if y1 = 1 then (rec 1 [x1, y1] σ0) else (if y1 = 2 then (rec 1 [x1, y1] σ0) else (some ((-1), σ0))))
def B_H_countOf_1 (rec : Nat → List Int32 → gS → Option (Int32 × gS)) (x1 : Int32) (x2 : Int32) (σ0 : gS) : Option (Int32 × gS) := rec 2 [x1, x2, 0, 0] σ0
def B_H_countOf_2 (rec : Nat → List Int32 → gS → Option (Int32 × gS)) (x1 : Int32) (x2 : Int32) (x3 : Int32) (x4 : Int32) (σ0 : gS) : Option (Int32 × gS) := if x2 ≤ x4 then (some (x3, σ0)) else (gLd σ0 29 320 x1 (fun y7 => gBd (f_P_codeAt σ0 (y7 + x4)) (fun y10 σ11 => gBd (f_O_isDigit σ11 y10) (fun y13 σ14 => if y13 = 0 then (some ((-1), σ14)) else (rec 2 [x1, x2, (((x3 * 10) + y10) - 48), (x4 + 1)] σ14)))))
def S_H_countOf (rec : Nat → List Int32 → gS → Option (Int32 × gS)) (k : Nat) (l : List Int32) (σ0 : gS) : Option (Int32 × gS) := match k, l with
  | 0, [x1] => B_H_countOf_0 rec x1 σ0
  | 1, [x1, x2] => B_H_countOf_1 rec x1 x2 σ0
  | 2, [x1, x2, x3, x4] => B_H_countOf_2 rec x1 x2 x3 x4 σ0
  | _, _ => none
def R_H_countOf : Nat → Nat → List Int32 → gS → Option (Int32 × gS)
  | 0 => fun _ _ _ => none
  | t + 1 => fun k l σ0 => S_H_countOf (R_H_countOf t) k l σ0
def f_H_countOf (σ : gS) (x1 : Int32) : Option (Int32 × gS) := R_H_countOf gFuel 0 [x1] σ
set_option maxHeartbeats 4000000 in
set_option maxRecDepth 100000 in
theorem m_H_countOf {l : Launch} {X : va_G} {cI cC cZ : ClassId} {aK aV : Nat → Nat} {a : Nat → Nat} {σ σ' : gS} {r : Int32} {q1 : Int32} (hf : f_H_countOf σ q1 = some (r, σ')) {sz : Nat} : Met l y_H_countOf w_H_countOf { frames := 1, cells := 0, slots := 0, locals := 21 } (gPc X vwCl (gT cI cC cZ) aK aV (cW cI cC cZ a σ) sz [.ref (a 33), .int q1]) (gQi X vwCl (cW cI cC cZ a σ) sz (fun r' (_ : Unit) => r' = r) (fun _ => cW cI cC cZ a σ')) 0 0 (va_A (cW cI cC cZ a σ) sz) := by
  refine g_met (cc := b_H_countOf) (maxL := 6) (ret := (some .int)) (by decide) rfl (Nat.le_of_ble_eq_true rfl) ?_
  intro p e s m below meth c A ls hx hb hr hml hown hts hlocks hnm hsz hAe hA hP hK hD hS hl hE
  have hown : s.vm.findClass R_H = some m.cls := hown
  have u_0 : ∀ w ∈ u_ws R_H T_H 8, w ∈ w_H_countOf := fun w h => List.mem_cons_of_mem _ (tu_H w h)
  have u_1 : ∀ w ∈ u_ws R_E T_E 14, w ∈ w_H_countOf := fun w h => List.mem_cons_of_mem _ (tu_E w h)
  have k_0 := hts (.fieldLink R_H 32 "GraphPages$GraphReader" "elements" "LGraphPages$Elements;") (List.mem_cons_of_mem _ tb_130)
  have k_1 := hts (.fieldLink R_H 176 "GraphPages$Elements" "valueCounts" "[I") (List.mem_cons_of_mem _ tb_131)
  have k_2 := hts (.fieldLink R_H 28 "GraphPages$GraphReader" "page" "LGraphPages$Page;") (List.mem_cons_of_mem _ tb_132)
  have k_3 := hts (.fieldLink R_H 179 "GraphPages$Elements" "valueStarts" "[I") (List.mem_cons_of_mem _ tb_133)
  unfold f_H_countOf at hf
  have key : ∀ t : Nat, (∀ (x1 : Int32) (σ0 : gS) (H : Heap) (locs : List Loc) (ls : Array Slot), R_H_countOf t 0 [x1] σ0 = some (r, σ') → va_P X vwCl (cW cI cC cZ a σ0) H → va_D A (cW cI cC cZ a σ0) → va_S A s.heap H locs → lv_has ls 6 [(0, .ref (a 33)), (1, .int x1)] → W p l e (headSpec w_H_countOf { frames := 1, cells := 0, slots := 0, locals := 21 }).room s m [.ref (a 33), .int q1].toArray below meth c H locs 0 0 (MQ below (gQi X vwCl (cW cI cC cZ a σ) sz (fun r' (_ : Unit) => r' = r) (fun _ => cW cI cC cZ a σ')) [.ref (a 33), .int q1].toArray s 0 0 (va_A (cW cI cC cZ a σ) sz)) (F0 m 0 ls [])) ∧ (∀ (x1 : Int32) (x2 : Int32) (σ0 : gS) (H : Heap) (locs : List Loc) (ls : Array Slot), R_H_countOf t 1 [x1, x2] σ0 = some (r, σ') → va_P X vwCl (cW cI cC cZ a σ0) H → va_D A (cW cI cC cZ a σ0) → va_S A s.heap H locs → lv_has ls 6 [(0, .ref (a 33)), (1, .int x1), (2, .int x2)] → W p l e (headSpec w_H_countOf { frames := 1, cells := 0, slots := 0, locals := 21 }).room s m [.ref (a 33), .int q1].toArray below meth c H locs 0 0 (MQ below (gQi X vwCl (cW cI cC cZ a σ) sz (fun r' (_ : Unit) => r' = r) (fun _ => cW cI cC cZ a σ')) [.ref (a 33), .int q1].toArray s 0 0 (va_A (cW cI cC cZ a σ) sz)) (F0 m 22 ls [])) ∧ (∀ (x1 : Int32) (x2 : Int32) (x3 : Int32) (x4 : Int32) (σ0 : gS) (H : Heap) (locs : List Loc) (ls : Array Slot), R_H_countOf t 2 [x1, x2, x3, x4] σ0 = some (r, σ') → va_P X vwCl (cW cI cC cZ a σ0) H → va_D A (cW cI cC cZ a σ0) → va_S A s.heap H locs → lv_has ls 6 [(0, .ref (a 33)), (1, .int x1), (2, .int x2), (3, .int x3), (4, .int x4)] → W p l e (headSpec w_H_countOf { frames := 1, cells := 0, slots := 0, locals := 21 }).room s m [.ref (a 33), .int q1].toArray below meth c H locs 0 0 (MQ below (gQi X vwCl (cW cI cC cZ a σ) sz (fun r' (_ : Unit) => r' = r) (fun _ => cW cI cC cZ a σ')) [.ref (a 33), .int q1].toArray s 0 0 (va_A (cW cI cC cZ a σ) sz)) (F0 m 27 ls [])) := by
    intro t
    induction t with
    | zero => exact ⟨fun _ _ _ _ _ hf => (by have hf : (none : Option (Int32 × gS)) = some (r, σ') := hf; cases hf), fun _ _ _ _ _ _ hf => (by have hf : (none : Option (Int32 × gS)) = some (r, σ') := hf; cases hf), fun _ _ _ _ _ _ _ _ hf => (by have hf : (none : Option (Int32 × gS)) = some (r, σ') := hf; cases hf)⟩
    | succ t ih =>
      obtain ⟨ih0, ih1, ih2⟩ := ih
      refine ⟨?_, ?_, ?_⟩
      · intro x1 σ0 H locs ls hf hP hD hS hl
        have hf : B_H_countOf_0 (R_H_countOf t) x1 σ0 = some (r, σ') := hf
        unfold B_H_countOf_0 at hf
        refine lv_aload_n hx hb d_H_countOf_0 rfl (lv_at hl 0 rfl) ?_
        refine va_get (D := X) (ci := 3) (C := R_H) (T := T_H) (N := 8) hx hb hts u_0 hown hK hP 33 gc_33 rfl 1 (by decide) k_0 (fun _ h9 => h9) rfl d_H_countOf_1 ?_
        refine va_get (D := X) (ci := 0) (C := R_E) (T := T_E) (N := 14) hx hb hts u_1 hown hK hP 20 gc_20 rfl 11 (by decide) k_1 (fun _ h9 => h9) rfl d_H_countOf_4 ?_
        refine lv_iload_n hx hb d_H_countOf_7 rfl (lv_at hl 1 rfl) ?_
        obtain ⟨y1, h2, e3, hf⟩ := gLd_e hf
        refine va_iald hx hb hK hP 30 0 gc_30 rfl h2 d_H_countOf_8 ?_
        rw [← e3]
        refine lv_istore_n hx hb d_H_countOf_9 rfl hl (by decide) rfl (fun ls hl => ?_)
        refine lv_iload_n hx hb d_H_countOf_10 rfl (lv_at hl 0 rfl) ?_
        refine lv_iconst (v := 1) hx hb d_H_countOf_11 (by decide) ?_
        refine lv_icmp_eq (tgt := 22) hx hb d_H_countOf_12 rfl (fun c4 => ?_) (fun c4 => ?_)
        · skip
          rw [if_pos c4] at hf
          exact ih1 (x1) (y1) σ0 _ _ _ hf hP hD hS (lv_sub hl [1, 2, 0] rfl)
        rw [if_neg c4] at hf
        refine lv_iload_n hx hb d_H_countOf_15 rfl (lv_at hl 0 rfl) ?_
        refine lv_iconst (v := 2) hx hb d_H_countOf_16 (by decide) ?_
        refine lv_icmp_eq (tgt := 22) hx hb d_H_countOf_17 rfl (fun c5 => ?_) (fun c5 => ?_)
        · skip
          rw [if_pos c5] at hf
          exact ih1 (x1) (y1) σ0 _ _ _ hf hP hD hS (lv_sub hl [1, 2, 0] rfl)
        rw [if_neg c5] at hf
        refine lv_iconst (v := (-1)) hx hb d_H_countOf_20 (by decide) ?_
        obtain ⟨rfl, rfl⟩ := gRt_e hf
        exact g_zret hx hb hr hlocks rfl hAe hS () rfl hP d_H_countOf_21
      · intro x1 x2 σ0 H locs ls hf hP hD hS hl
        have hf : B_H_countOf_1 (R_H_countOf t) x1 x2 σ0 = some (r, σ') := hf
        unfold B_H_countOf_1 at hf
        refine lv_iconst (v := 0) hx hb d_H_countOf_22 (by decide) ?_
        refine lv_istore_n hx hb d_H_countOf_23 rfl hl (by decide) rfl (fun ls hl => ?_)
        refine lv_iconst (v := 0) hx hb d_H_countOf_24 (by decide) ?_
        refine lv_istore hx hb d_H_countOf_25 hl (by decide) rfl (fun ls hl => ?_)
        exact ih2 (x1) (x2) (0) (0) σ0 _ _ _ hf hP hD hS (lv_sub hl [2, 3, 4, 1, 0] rfl)
      · intro x1 x2 x3 x4 σ0 H locs ls hf hP hD hS hl
        have hf : B_H_countOf_2 (R_H_countOf t) x1 x2 x3 x4 σ0 = some (r, σ') := hf
        unfold B_H_countOf_2 at hf
        refine lv_iload hx hb d_H_countOf_27 (lv_at hl 4 rfl) ?_
        refine lv_iload_n hx hb d_H_countOf_29 rfl (lv_at hl 2 rfl) ?_
        refine lv_icmp_ge (tgt := 81) hx hb d_H_countOf_30 rfl (fun c6 => ?_) (fun c6 => ?_)
        · skip
          rw [if_pos c6] at hf
          refine lv_iload_n hx hb d_H_countOf_81 rfl (lv_at hl 3 rfl) ?_
          obtain ⟨rfl, rfl⟩ := gRt_e hf
          exact g_zret hx hb hr hlocks rfl hAe hS () rfl hP d_H_countOf_82
        rw [if_neg c6] at hf
        refine lv_aload_n hx hb d_H_countOf_33 rfl (lv_at hl 0 rfl) ?_
        refine va_get (D := X) (ci := 3) (C := R_H) (T := T_H) (N := 8) hx hb hts u_0 hown hK hP 33 gc_33 rfl 0 (by decide) k_2 (fun _ h9 => h9) rfl d_H_countOf_34 ?_
        refine lv_aload_n hx hb d_H_countOf_37 rfl (lv_at hl 0 rfl) ?_
        refine va_get (D := X) (ci := 3) (C := R_H) (T := T_H) (N := 8) hx hb hts u_0 hown hK hP 33 gc_33 rfl 1 (by decide) k_0 (fun _ h9 => h9) rfl d_H_countOf_38 ?_
        refine va_get (D := X) (ci := 0) (C := R_E) (T := T_E) (N := 14) hx hb hts u_1 hown hK hP 20 gc_20 rfl 10 (by decide) k_3 (fun _ h9 => h9) rfl d_H_countOf_41 ?_
        refine lv_iload_n hx hb d_H_countOf_44 rfl (lv_at hl 1 rfl) ?_
        obtain ⟨y7, h8, e9, hf⟩ := gLd_e hf
        refine va_iald hx hb hK hP 29 0 gc_29 rfl h8 d_H_countOf_45 ?_
        rw [← e9]
        refine lv_iload hx hb d_H_countOf_46 (lv_at hl 4 rfl) ?_
        refine lv_iadd hx hb d_H_countOf_48 ?_
        obtain ⟨y10, σ11, e12, hf⟩ := gBd_e hf
        refine g_wi (va_runV ⟨hx, hb, hml, hown, hts⟩ (m_P_codeAt e12) (cwV 1 hts (gG4 (fun _ h => List.mem_cons_of_mem _ h) tb_129 tb_36 tb_37 tb_38 tc_P_codeAt) rfl rfl rfl (by decide +kernel) ⟨Nat.le_of_ble_eq_true rfl, Nat.le_of_ble_eq_true rfl⟩) (g_preVW (q0 := 7) hE hK hP hD hS hA gc_7 rfl) rfl rfl hl.1 rfl (lv_room (Nat.le_of_ble_eq_true rfl)) d_H_countOf_49 ⟨Nat.zero_le _, Nat.zero_le _⟩) hD hS hA (fun _ => cW_fst) (fun y10 _ H locs hu hP hD hS => ?_)
        subst hu
        refine lv_istore hx hb d_H_countOf_52 hl (by decide) rfl (fun ls hl => ?_)
        refine lv_iload hx hb d_H_countOf_54 (lv_at hl 0 rfl) ?_
        obtain ⟨y13, σ14, e15, hf⟩ := gBd_e hf
        refine g_wi (va_runSN ⟨hx, hb, hml, hown, hts⟩ (m_O_isDigit e15) ⟨va_cnB 1 hts (gG (fun _ h => List.mem_cons_of_mem _ h) tc_O_isDigit) rfl rfl rfl (hE.1 (R_H, 187, y_O_isDigit, "GraphPages") (by decide +kernel)) (hts (.initialized R_O) ((fun _ h => List.mem_cons_of_mem _ h) _ tb_39)) (by decide +kernel) ⟨Nat.le_of_ble_eq_true rfl, Nat.le_of_ble_eq_true rfl⟩, (hts (.static y_O_isDigit) ((fun _ h => List.mem_cons_of_mem _ h) _ tb_75)), trivial⟩ (g_preSW hE hK hP hD hS hA) rfl rfl hl.1 rfl (lv_room (Nat.le_of_ble_eq_true rfl)) d_H_countOf_56 ⟨Nat.zero_le _, Nat.zero_le _⟩) hD hS hA (fun _ => cW_fst) (fun y13 _ H locs hu hP hD hS => ?_)
        subst hu
        refine lv_if_ne (tgt := 64) hx hb d_H_countOf_59 rfl (fun c16 => ?_) (fun c16 => ?_)
        · skip
          rw [if_neg c16] at hf
          refine lv_iload_n hx hb d_H_countOf_64 rfl (lv_at hl 4 rfl) ?_
          refine lv_bipush (v := 10) hx hb d_H_countOf_65 (by decide) ?_
          refine lv_imul hx hb d_H_countOf_67 ?_
          refine lv_iload hx hb d_H_countOf_68 (lv_at hl 0 rfl) ?_
          refine lv_iadd hx hb d_H_countOf_70 ?_
          refine lv_bipush (v := 48) hx hb d_H_countOf_71 (by decide) ?_
          refine lv_isub hx hb d_H_countOf_73 ?_
          refine lv_istore_n hx hb d_H_countOf_74 rfl hl (by decide) rfl (fun ls hl => ?_)
          refine lv_iinc (k := 5) (v := (x4 + 1)) hx hb d_H_countOf_75 hl rfl (by rw [show Int32.ofInt (1) = (1 : Int32) by decide]) (by decide) rfl (fun ls hl => ?_)
          refine lv_goto (tgt := 27) hx hb d_H_countOf_78 rfl ?_
          exact ih2 (x1) (x2) ((((x3 * 10) + y10) - 48)) ((x4 + 1)) σ14 _ _ _ hf hP hD hS (lv_sub hl [3, 4, 5, 1, 0] rfl)
        rw [if_pos c16] at hf
        refine lv_iconst (v := (-1)) hx hb d_H_countOf_62 (by decide) ?_
        obtain ⟨rfl, rfl⟩ := gRt_e hf
        exact g_zret hx hb hr hlocks rfl hAe hS () rfl hP d_H_countOf_63
  exact (key gFuel).1 q1 σ _ _ _ hf hP hD hS hl

def f_H_countIn (σ : gS) (x1 : Int32) (x2 : Int32) : Option (Int32 × gS) := gBd (f_E_findAttribute σ x1 x2) (fun y1 σ2 => if y1 = (-1) then (some ((-1), σ2)) else (gBd (f_H_countOf σ2 y1) (fun y5 σ6 => some (y5, σ6))))
set_option maxHeartbeats 4000000 in
set_option maxRecDepth 100000 in
theorem m_H_countIn {l : Launch} {X : va_G} {cI cC cZ : ClassId} {aK aV : Nat → Nat} {a : Nat → Nat} {σ σ' : gS} {r : Int32} {x1 : Int32} {x2 : Int32} (hf : f_H_countIn σ x1 x2 = some (r, σ')) {sz : Nat} : Met l y_H_countIn w_H_countIn { frames := 2, cells := 0, slots := 0, locals := 46 } (gPc X vwCl (gT cI cC cZ) aK aV (cW cI cC cZ a σ) sz [.ref (a 33), .int x1, .int x2]) (gQi X vwCl (cW cI cC cZ a σ) sz (fun r' (_ : Unit) => r' = r) (fun _ => cW cI cC cZ a σ')) 0 0 (va_A (cW cI cC cZ a σ) sz) := by
  refine g_met (cc := b_H_countIn) (maxL := 4) (ret := (some .int)) (by decide) rfl (Nat.le_of_ble_eq_true rfl) ?_
  intro p e s m below meth c A ls hx hb hr hml hown hts hlocks hnm hsz hAe hA hP hK hD hS hl hE
  have hown : s.vm.findClass R_H = some m.cls := hown
  have u_0 : ∀ w ∈ u_ws R_H T_H 8, w ∈ w_H_countIn := fun w h => List.mem_cons_of_mem _ (tu_H w h)
  have k_0 := hts (.fieldLink R_H 32 "GraphPages$GraphReader" "elements" "LGraphPages$Elements;") (List.mem_cons_of_mem _ tb_130)
  unfold f_H_countIn at hf
  refine lv_aload_n hx hb d_H_countIn_0 rfl (lv_at hl 0 rfl) ?_
  refine va_get (D := X) (ci := 3) (C := R_H) (T := T_H) (N := 8) hx hb hts u_0 hown hK hP 33 gc_33 rfl 1 (by decide) k_0 (fun _ h9 => h9) rfl d_H_countIn_1 ?_
  refine lv_iload_n hx hb d_H_countIn_4 rfl (lv_at hl 1 rfl) ?_
  refine lv_iload_n hx hb d_H_countIn_5 rfl (lv_at hl 2 rfl) ?_
  obtain ⟨y1, σ2, e3, hf⟩ := gBd_e hf
  refine g_wi (va_runV ⟨hx, hb, hml, hown, hts⟩ (m_E_findAttribute e3) (cwV 2 hts (gG4 (fun _ h => List.mem_cons_of_mem _ h) tb_128 tb_49 tb_50 tb_51 tc_E_findAttribute) rfl rfl rfl (by decide +kernel) ⟨Nat.le_of_ble_eq_true rfl, Nat.le_of_ble_eq_true rfl⟩) (g_preVW (q0 := 20) hE hK hP hD hS hA gc_20 rfl) rfl rfl hl.1 rfl (lv_room (Nat.le_of_ble_eq_true rfl)) d_H_countIn_6 ⟨Nat.zero_le _, Nat.zero_le _⟩) hD hS hA (fun _ => cW_fst) (fun y1 _ H locs hu hP hD hS => ?_)
  subst hu
  refine lv_istore_n hx hb d_H_countIn_9 rfl hl (by decide) rfl (fun ls hl => ?_)
  refine lv_iload_n hx hb d_H_countIn_10 rfl (lv_at hl 0 rfl) ?_
  refine lv_iconst (v := (-1)) hx hb d_H_countIn_11 (by decide) ?_
  refine lv_icmp_ne (tgt := 19) hx hb d_H_countIn_12 rfl (fun c4 => ?_) (fun c4 => ?_)
  · skip
    rw [if_neg c4] at hf
    refine lv_aload_n hx hb d_H_countIn_19 rfl (lv_at hl 1 rfl) ?_
    refine lv_iload_n hx hb d_H_countIn_20 rfl (lv_at hl 0 rfl) ?_
    obtain ⟨y5, σ6, e7, hf⟩ := gBd_e hf
    refine g_wi (va_runV ⟨hx, hb, hml, hown, hts⟩ (m_H_countOf e7) (cwV 1 hts (gG4 (fun _ h => List.mem_cons_of_mem _ h) tb_139 tb_140 tb_141 tb_137 tc_H_countOf) rfl rfl rfl (by decide +kernel) ⟨Nat.le_of_ble_eq_true rfl, Nat.le_of_ble_eq_true rfl⟩) (g_preVW (q0 := 33) hE hK hP hD hS hA gc_33 rfl) rfl rfl hl.1 rfl (lv_room (Nat.le_of_ble_eq_true rfl)) d_H_countIn_21 ⟨Nat.zero_le _, Nat.zero_le _⟩) hD hS hA (fun _ => cW_fst) (fun y5 _ H locs hu hP hD hS => ?_)
    subst hu
    obtain ⟨rfl, rfl⟩ := gRt_e hf
    exact g_zret hx hb hr hlocks rfl hAe hS () rfl hP d_H_countIn_24
  rw [if_pos c4] at hf
  refine lv_iconst (v := (-1)) hx hb d_H_countIn_15 (by decide) ?_
  refine lv_goto (tgt := 24) hx hb d_H_countIn_16 rfl ?_
  obtain ⟨rfl, rfl⟩ := gRt_e hf
  exact g_zret hx hb hr hlocks rfl hAe hS () rfl hP d_H_countIn_24

def f_H_isUnderstood (σ : gS) (x0 : Int32) : Option (Int32 × gS) := if x0 < 0 then (some (0, σ)) else (if 32 ≤ x0 then (some (0, σ)) else (gLd σ 9 32 x0 (fun y3 => if y3 = 0 then (some (0, σ)) else (some (1, σ)))))
set_option maxHeartbeats 4000000 in
set_option maxRecDepth 100000 in
theorem m_H_isUnderstood {l : Launch} {X : va_G} {cI cC cZ : ClassId} {aK aV : Nat → Nat} {a : Nat → Nat} {σ σ' : gS} {r : Int32} {x0 : Int32} (hf : f_H_isUnderstood σ x0 = some (r, σ')) {sz : Nat} : Met l y_H_isUnderstood w_H_isUnderstood { frames := 0, cells := 0, slots := 0, locals := 0 } (gPc X vwCl (gT cI cC cZ) aK aV (cW cI cC cZ a σ) sz [.int x0, .ref (a 9)]) (gQi X vwCl (cW cI cC cZ a σ) sz (fun r' (_ : Unit) => r' = r) (fun _ => cW cI cC cZ a σ')) 0 0 (va_A (cW cI cC cZ a σ) sz) := by
  refine g_met (cc := b_H_isUnderstood) (maxL := 2) (ret := (some .boolean)) (by decide) rfl (Nat.le_of_ble_eq_true rfl) ?_
  intro p e s m below meth c A ls hx hb hr hml hown hts hlocks hnm hsz hAe hA hP hK hD hS hl hE
  have hown : s.vm.findClass R_H = some m.cls := hown
  unfold f_H_isUnderstood at hf
  refine lv_iload_n hx hb d_H_isUnderstood_0 rfl (lv_at hl 0 rfl) ?_
  refine lv_if_lt (tgt := 20) hx hb d_H_isUnderstood_1 rfl (fun c1 => ?_) (fun c1 => ?_)
  · skip
    rw [if_pos c1] at hf
    refine lv_iconst (v := 0) hx hb d_H_isUnderstood_20 (by decide) ?_
    obtain ⟨rfl, rfl⟩ := gRt_e hf
    exact g_zret hx hb hr hlocks rfl hAe hS () rfl hP d_H_isUnderstood_21
  rw [if_neg c1] at hf
  refine lv_iload_n hx hb d_H_isUnderstood_4 rfl (lv_at hl 0 rfl) ?_
  refine lv_aload_n hx hb d_H_isUnderstood_5 rfl (lv_at hl 1 rfl) ?_
  refine va_alen (v := 32) hx hb hK hP 9 2 gc_9 rfl rfl d_H_isUnderstood_6 ?_
  refine lv_icmp_ge (tgt := 20) hx hb d_H_isUnderstood_7 rfl (fun c2 => ?_) (fun c2 => ?_)
  · skip
    rw [if_pos c2] at hf
    refine lv_iconst (v := 0) hx hb d_H_isUnderstood_20 (by decide) ?_
    obtain ⟨rfl, rfl⟩ := gRt_e hf
    exact g_zret hx hb hr hlocks rfl hAe hS () rfl hP d_H_isUnderstood_21
  rw [if_neg c2] at hf
  refine lv_aload_n hx hb d_H_isUnderstood_10 rfl (lv_at hl 1 rfl) ?_
  refine lv_iload_n hx hb d_H_isUnderstood_11 rfl (lv_at hl 0 rfl) ?_
  obtain ⟨y3, h4, e5, hf⟩ := gLd_e hf
  refine va_zald hx hb hK hP 9 2 gc_9 rfl h4 d_H_isUnderstood_12 ?_
  rw [← e5]
  refine lv_if_eq (tgt := 20) hx hb d_H_isUnderstood_13 rfl (fun c6 => ?_) (fun c6 => ?_)
  · skip
    rw [if_pos c6] at hf
    refine lv_iconst (v := 0) hx hb d_H_isUnderstood_20 (by decide) ?_
    obtain ⟨rfl, rfl⟩ := gRt_e hf
    exact g_zret hx hb hr hlocks rfl hAe hS () rfl hP d_H_isUnderstood_21
  rw [if_neg c6] at hf
  refine lv_iconst (v := 1) hx hb d_H_isUnderstood_16 (by decide) ?_
  refine lv_goto (tgt := 21) hx hb d_H_isUnderstood_17 rfl ?_
  obtain ⟨rfl, rfl⟩ := gRt_e hf
  exact g_zret hx hb hr hlocks rfl hAe hS () rfl hP d_H_isUnderstood_21

def B_H_understandsHeaders_0 (rec : Nat → List Int32 → gS → Option (Int32 × gS)) (σ0 : gS) : Option (Int32 × gS) := rec 1 [1] σ0
def B_H_understandsHeaders_1 (rec : Nat → List Int32 → gS → Option (Int32 × gS)) (x2 : Int32) (σ0 : gS) : Option (Int32 × gS) := if (σ0.1 5) ≤ x2 then (some (1, σ0)) else (gLd σ0 22 533 x2 (fun y2 => if y2 = 0 then (gLd σ0 21 533 x2 (fun y6 => if y6 = 8 then (rec 3 [x2, 1] σ0) else (rec 2 [x2] σ0))) else (rec 2 [x2] σ0)))
def B_H_understandsHeaders_2 (rec : Nat → List Int32 → gS → Option (Int32 × gS)) (x2 : Int32) (σ0 : gS) : Option (Int32 × gS) := rec 3 [x2, 0] σ0
def B_H_understandsHeaders_3 (rec : Nat → List Int32 → gS → Option (Int32 × gS)) (x2 : Int32) (z0 : Int32) (σ0 : gS) : Option (Int32 × gS) := if z0 = 0 then (rec 4 [x2] σ0) else (gBd (f_H_isOne σ0 x2 13) (fun y11 σ12 => if y11 = 0 then (rec 4 [x2] σ12) else (gBd (f_H_countIn σ12 x2 11) (fun y15 σ16 => gBd (f_H_isUnderstood σ16 y15) (fun y18 σ19 => if y18 = 0 then (some (0, σ19)) else (rec 4 [x2] σ19))))))
def B_H_understandsHeaders_4 (rec : Nat → List Int32 → gS → Option (Int32 × gS)) (x2 : Int32) (σ0 : gS) : Option (Int32 × gS) := rec 1 [(x2 + 1)] σ0
def S_H_understandsHeaders (rec : Nat → List Int32 → gS → Option (Int32 × gS)) (k : Nat) (l : List Int32) (σ0 : gS) : Option (Int32 × gS) := match k, l with
  | 0, [] => B_H_understandsHeaders_0 rec  σ0
  | 1, [x2] => B_H_understandsHeaders_1 rec x2 σ0
  | 2, [x2] => B_H_understandsHeaders_2 rec x2 σ0
  | 3, [x2, z0] => B_H_understandsHeaders_3 rec x2 z0 σ0
  | 4, [x2] => B_H_understandsHeaders_4 rec x2 σ0
  | _, _ => none
def R_H_understandsHeaders : Nat → Nat → List Int32 → gS → Option (Int32 × gS)
  | 0 => fun _ _ _ => none
  | t + 1 => fun k l σ0 => S_H_understandsHeaders (R_H_understandsHeaders t) k l σ0
def f_H_understandsHeaders (σ : gS) : Option (Int32 × gS) := R_H_understandsHeaders gFuel 0 [] σ
set_option maxHeartbeats 4000000 in
set_option maxRecDepth 100000 in
theorem m_H_understandsHeaders {l : Launch} {X : va_G} {cI cC cZ : ClassId} {aK aV : Nat → Nat} {a : Nat → Nat} {σ σ' : gS} {r : Int32} (hf : f_H_understandsHeaders σ = some (r, σ')) {sz : Nat} : Met l y_H_understandsHeaders w_H_understandsHeaders { frames := 3, cells := 0, slots := 0, locals := 69 } (gPc X vwCl (gT cI cC cZ) aK aV (cW cI cC cZ a σ) sz [.ref (a 33), .ref (a 9)]) (gQi X vwCl (cW cI cC cZ a σ) sz (fun r' (_ : Unit) => r' = r) (fun _ => cW cI cC cZ a σ')) 0 0 (va_A (cW cI cC cZ a σ) sz) := by
  refine g_met (cc := b_H_understandsHeaders) (maxL := 4) (ret := (some .boolean)) (by decide) rfl (Nat.le_of_ble_eq_true rfl) ?_
  intro p e s m below meth c A ls hx hb hr hml hown hts hlocks hnm hsz hAe hA hP hK hD hS hl hE
  have hown : s.vm.findClass R_H = some m.cls := hown
  have u_0 : ∀ w ∈ u_ws R_H T_H 8, w ∈ w_H_understandsHeaders := fun w h => List.mem_cons_of_mem _ (tu_H w h)
  have u_1 : ∀ w ∈ u_ws R_E T_E 14, w ∈ w_H_understandsHeaders := fun w h => List.mem_cons_of_mem _ (tu_E w h)
  have k_0 := hts (.fieldLink R_H 32 "GraphPages$GraphReader" "elements" "LGraphPages$Elements;") (List.mem_cons_of_mem _ tb_130)
  have k_1 := hts (.fieldLink R_H 47 "GraphPages$Elements" "count" "I") (List.mem_cons_of_mem _ tb_147)
  have k_2 := hts (.fieldLink R_H 51 "GraphPages$Elements" "parents" "[I") (List.mem_cons_of_mem _ tb_148)
  have k_3 := hts (.fieldLink R_H 40 "GraphPages$Elements" "names" "[I") (List.mem_cons_of_mem _ tb_138)
  unfold f_H_understandsHeaders at hf
  have key : ∀ t : Nat, (∀ (σ0 : gS) (H : Heap) (locs : List Loc) (ls : Array Slot), R_H_understandsHeaders t 0 [] σ0 = some (r, σ') → va_P X vwCl (cW cI cC cZ a σ0) H → va_D A (cW cI cC cZ a σ0) → va_S A s.heap H locs → lv_has ls 4 [(0, .ref (a 33)), (1, .ref (a 9))] → W p l e (headSpec w_H_understandsHeaders { frames := 3, cells := 0, slots := 0, locals := 69 }).room s m [.ref (a 33), .ref (a 9)].toArray below meth c H locs 0 0 (MQ below (gQi X vwCl (cW cI cC cZ a σ) sz (fun r' (_ : Unit) => r' = r) (fun _ => cW cI cC cZ a σ')) [.ref (a 33), .ref (a 9)].toArray s 0 0 (va_A (cW cI cC cZ a σ) sz)) (F0 m 0 ls [])) ∧ (∀ (x2 : Int32) (σ0 : gS) (H : Heap) (locs : List Loc) (ls : Array Slot), R_H_understandsHeaders t 1 [x2] σ0 = some (r, σ') → va_P X vwCl (cW cI cC cZ a σ0) H → va_D A (cW cI cC cZ a σ0) → va_S A s.heap H locs → lv_has ls 4 [(0, .ref (a 33)), (1, .ref (a 9)), (2, .int x2)] → W p l e (headSpec w_H_understandsHeaders { frames := 3, cells := 0, slots := 0, locals := 69 }).room s m [.ref (a 33), .ref (a 9)].toArray below meth c H locs 0 0 (MQ below (gQi X vwCl (cW cI cC cZ a σ) sz (fun r' (_ : Unit) => r' = r) (fun _ => cW cI cC cZ a σ')) [.ref (a 33), .ref (a 9)].toArray s 0 0 (va_A (cW cI cC cZ a σ) sz)) (F0 m 2 ls [])) ∧ (∀ (x2 : Int32) (σ0 : gS) (H : Heap) (locs : List Loc) (ls : Array Slot), R_H_understandsHeaders t 2 [x2] σ0 = some (r, σ') → va_P X vwCl (cW cI cC cZ a σ0) H → va_D A (cW cI cC cZ a σ0) → va_S A s.heap H locs → lv_has ls 4 [(0, .ref (a 33)), (1, .ref (a 9)), (2, .int x2)] → W p l e (headSpec w_H_understandsHeaders { frames := 3, cells := 0, slots := 0, locals := 69 }).room s m [.ref (a 33), .ref (a 9)].toArray below meth c H locs 0 0 (MQ below (gQi X vwCl (cW cI cC cZ a σ) sz (fun r' (_ : Unit) => r' = r) (fun _ => cW cI cC cZ a σ')) [.ref (a 33), .ref (a 9)].toArray s 0 0 (va_A (cW cI cC cZ a σ) sz)) (F0 m 43 ls [])) ∧ (∀ (x2 : Int32) (z0 : Int32) (σ0 : gS) (H : Heap) (locs : List Loc) (ls : Array Slot), R_H_understandsHeaders t 3 [x2, z0] σ0 = some (r, σ') → va_P X vwCl (cW cI cC cZ a σ0) H → va_D A (cW cI cC cZ a σ0) → va_S A s.heap H locs → lv_has ls 4 [(0, .ref (a 33)), (1, .ref (a 9)), (2, .int x2)] → W p l e (headSpec w_H_understandsHeaders { frames := 3, cells := 0, slots := 0, locals := 69 }).room s m [.ref (a 33), .ref (a 9)].toArray below meth c H locs 0 0 (MQ below (gQi X vwCl (cW cI cC cZ a σ) sz (fun r' (_ : Unit) => r' = r) (fun _ => cW cI cC cZ a σ')) [.ref (a 33), .ref (a 9)].toArray s 0 0 (va_A (cW cI cC cZ a σ) sz)) (F0 m 44 ls [.int z0])) ∧ (∀ (x2 : Int32) (σ0 : gS) (H : Heap) (locs : List Loc) (ls : Array Slot), R_H_understandsHeaders t 4 [x2] σ0 = some (r, σ') → va_P X vwCl (cW cI cC cZ a σ0) H → va_D A (cW cI cC cZ a σ0) → va_S A s.heap H locs → lv_has ls 4 [(0, .ref (a 33)), (1, .ref (a 9)), (2, .int x2)] → W p l e (headSpec w_H_understandsHeaders { frames := 3, cells := 0, slots := 0, locals := 69 }).room s m [.ref (a 33), .ref (a 9)].toArray below meth c H locs 0 0 (MQ below (gQi X vwCl (cW cI cC cZ a σ) sz (fun r' (_ : Unit) => r' = r) (fun _ => cW cI cC cZ a σ')) [.ref (a 33), .ref (a 9)].toArray s 0 0 (va_A (cW cI cC cZ a σ) sz)) (F0 m 75 ls [])) := by
    intro t
    induction t with
    | zero => exact ⟨fun  _ _ _ _ hf => (by have hf : (none : Option (Int32 × gS)) = some (r, σ') := hf; cases hf), fun _ _ _ _ _ hf => (by have hf : (none : Option (Int32 × gS)) = some (r, σ') := hf; cases hf), fun _ _ _ _ _ hf => (by have hf : (none : Option (Int32 × gS)) = some (r, σ') := hf; cases hf), fun _ _ _ _ _ _ hf => (by have hf : (none : Option (Int32 × gS)) = some (r, σ') := hf; cases hf), fun _ _ _ _ _ hf => (by have hf : (none : Option (Int32 × gS)) = some (r, σ') := hf; cases hf)⟩
    | succ t ih =>
      obtain ⟨ih0, ih1, ih2, ih3, ih4⟩ := ih
      refine ⟨?_, ?_, ?_, ?_, ?_⟩
      · intro  σ0 H locs ls hf hP hD hS hl
        have hf : B_H_understandsHeaders_0 (R_H_understandsHeaders t)  σ0 = some (r, σ') := hf
        unfold B_H_understandsHeaders_0 at hf
        refine lv_iconst (v := 1) hx hb d_H_understandsHeaders_0 (by decide) ?_
        refine lv_istore_n hx hb d_H_understandsHeaders_1 rfl hl (by decide) rfl (fun ls hl => ?_)
        exact ih1 (1) σ0 _ _ _ hf hP hD hS (lv_sub hl [1, 2, 0] rfl)
      · intro x2 σ0 H locs ls hf hP hD hS hl
        have hf : B_H_understandsHeaders_1 (R_H_understandsHeaders t) x2 σ0 = some (r, σ') := hf
        unfold B_H_understandsHeaders_1 at hf
        refine lv_iload_n hx hb d_H_understandsHeaders_2 rfl (lv_at hl 2 rfl) ?_
        refine lv_aload_n hx hb d_H_understandsHeaders_3 rfl (lv_at hl 0 rfl) ?_
        refine va_get (D := X) (ci := 3) (C := R_H) (T := T_H) (N := 8) hx hb hts u_0 hown hK hP 33 gc_33 rfl 1 (by decide) k_0 (fun _ h9 => h9) rfl d_H_understandsHeaders_4 ?_
        refine va_get (D := X) (ci := 0) (C := R_E) (T := T_E) (N := 14) hx hb hts u_1 hown hK hP 20 gc_20 rfl 0 (by decide) k_1 (fun _ h9 => h9) rfl d_H_understandsHeaders_7 ?_
        refine lv_icmp_ge (tgt := 81) hx hb d_H_understandsHeaders_10 rfl (fun c1 => ?_) (fun c1 => ?_)
        · skip
          rw [if_pos c1] at hf
          refine lv_iconst (v := 1) hx hb d_H_understandsHeaders_81 (by decide) ?_
          obtain ⟨rfl, rfl⟩ := gRt_e hf
          exact g_zret hx hb hr hlocks rfl hAe hS () rfl hP d_H_understandsHeaders_82
        rw [if_neg c1] at hf
        refine lv_aload_n hx hb d_H_understandsHeaders_13 rfl (lv_at hl 0 rfl) ?_
        refine va_get (D := X) (ci := 3) (C := R_H) (T := T_H) (N := 8) hx hb hts u_0 hown hK hP 33 gc_33 rfl 1 (by decide) k_0 (fun _ h9 => h9) rfl d_H_understandsHeaders_14 ?_
        refine va_get (D := X) (ci := 0) (C := R_E) (T := T_E) (N := 14) hx hb hts u_1 hown hK hP 20 gc_20 rfl 2 (by decide) k_2 (fun _ h9 => h9) rfl d_H_understandsHeaders_17 ?_
        refine lv_iload_n hx hb d_H_understandsHeaders_20 rfl (lv_at hl 2 rfl) ?_
        obtain ⟨y2, h3, e4, hf⟩ := gLd_e hf
        refine va_iald hx hb hK hP 22 0 gc_22 rfl h3 d_H_understandsHeaders_21 ?_
        rw [← e4]
        refine lv_if_ne (tgt := 43) hx hb d_H_understandsHeaders_22 rfl (fun c5 => ?_) (fun c5 => ?_)
        · skip
          rw [if_neg c5] at hf
          exact ih2 (x2) σ0 _ _ _ hf hP hD hS (lv_sub hl [0, 1, 2] rfl)
        rw [if_pos c5] at hf
        refine lv_aload_n hx hb d_H_understandsHeaders_25 rfl (lv_at hl 0 rfl) ?_
        refine va_get (D := X) (ci := 3) (C := R_H) (T := T_H) (N := 8) hx hb hts u_0 hown hK hP 33 gc_33 rfl 1 (by decide) k_0 (fun _ h9 => h9) rfl d_H_understandsHeaders_26 ?_
        refine va_get (D := X) (ci := 0) (C := R_E) (T := T_E) (N := 14) hx hb hts u_1 hown hK hP 20 gc_20 rfl 1 (by decide) k_3 (fun _ h9 => h9) rfl d_H_understandsHeaders_29 ?_
        refine lv_iload_n hx hb d_H_understandsHeaders_32 rfl (lv_at hl 2 rfl) ?_
        obtain ⟨y6, h7, e8, hf⟩ := gLd_e hf
        refine va_iald hx hb hK hP 21 0 gc_21 rfl h7 d_H_understandsHeaders_33 ?_
        rw [← e8]
        refine lv_bipush (v := 8) hx hb d_H_understandsHeaders_34 (by decide) ?_
        refine lv_icmp_ne (tgt := 43) hx hb d_H_understandsHeaders_36 rfl (fun c9 => ?_) (fun c9 => ?_)
        · skip
          rw [if_neg c9] at hf
          exact ih2 (x2) σ0 _ _ _ hf hP hD hS (lv_sub hl [0, 1, 2] rfl)
        rw [if_pos c9] at hf
        refine lv_iconst (v := 1) hx hb d_H_understandsHeaders_39 (by decide) ?_
        refine lv_goto (tgt := 44) hx hb d_H_understandsHeaders_40 rfl ?_
        exact ih3 (x2) (1) σ0 _ _ _ hf hP hD hS (lv_sub hl [0, 1, 2] rfl)
      · intro x2 σ0 H locs ls hf hP hD hS hl
        have hf : B_H_understandsHeaders_2 (R_H_understandsHeaders t) x2 σ0 = some (r, σ') := hf
        unfold B_H_understandsHeaders_2 at hf
        refine lv_iconst (v := 0) hx hb d_H_understandsHeaders_43 (by decide) ?_
        exact ih3 (x2) (0) σ0 _ _ _ hf hP hD hS (lv_sub hl [0, 1, 2] rfl)
      · intro x2 z0 σ0 H locs ls hf hP hD hS hl
        have hf : B_H_understandsHeaders_3 (R_H_understandsHeaders t) x2 z0 σ0 = some (r, σ') := hf
        unfold B_H_understandsHeaders_3 at hf
        refine lv_istore_n hx hb d_H_understandsHeaders_44 rfl hl (by decide) rfl (fun ls hl => ?_)
        refine lv_iload_n hx hb d_H_understandsHeaders_45 rfl (lv_at hl 0 rfl) ?_
        refine lv_if_eq (tgt := 75) hx hb d_H_understandsHeaders_46 rfl (fun c10 => ?_) (fun c10 => ?_)
        · skip
          rw [if_pos c10] at hf
          exact ih4 (x2) σ0 _ _ _ hf hP hD hS (lv_sub hl [1, 2, 3] rfl)
        rw [if_neg c10] at hf
        refine lv_aload_n hx hb d_H_understandsHeaders_49 rfl (lv_at hl 1 rfl) ?_
        refine lv_iload_n hx hb d_H_understandsHeaders_50 rfl (lv_at hl 3 rfl) ?_
        refine lv_bipush (v := 13) hx hb d_H_understandsHeaders_51 (by decide) ?_
        obtain ⟨y11, σ12, e13, hf⟩ := gBd_e hf
        refine g_wi (va_runV ⟨hx, hb, hml, hown, hts⟩ (m_H_isOne e13) (cwV 2 hts (gG4 (fun _ h => List.mem_cons_of_mem _ h) tb_134 tb_135 tb_136 tb_137 tc_H_isOne) rfl rfl rfl (by decide +kernel) ⟨Nat.le_of_ble_eq_true rfl, Nat.le_of_ble_eq_true rfl⟩) (g_preVW (q0 := 33) hE hK hP hD hS hA gc_33 rfl) rfl rfl hl.1 rfl (lv_room (Nat.le_of_ble_eq_true rfl)) d_H_understandsHeaders_53 ⟨Nat.zero_le _, Nat.zero_le _⟩) hD hS hA (fun _ => cW_fst) (fun y11 _ H locs hu hP hD hS => ?_)
        subst hu
        refine lv_if_eq (tgt := 75) hx hb d_H_understandsHeaders_56 rfl (fun c14 => ?_) (fun c14 => ?_)
        · skip
          rw [if_pos c14] at hf
          exact ih4 (x2) σ12 _ _ _ hf hP hD hS (lv_sub hl [1, 2, 3] rfl)
        rw [if_neg c14] at hf
        refine lv_aload_n hx hb d_H_understandsHeaders_59 rfl (lv_at hl 1 rfl) ?_
        refine lv_iload_n hx hb d_H_understandsHeaders_60 rfl (lv_at hl 3 rfl) ?_
        refine lv_bipush (v := 11) hx hb d_H_understandsHeaders_61 (by decide) ?_
        obtain ⟨y15, σ16, e17, hf⟩ := gBd_e hf
        refine g_wi (va_runV ⟨hx, hb, hml, hown, hts⟩ (m_H_countIn e17) (cwV 2 hts (gG4 (fun _ h => List.mem_cons_of_mem _ h) tb_142 tb_143 tb_144 tb_137 tc_H_countIn) rfl rfl rfl (by decide +kernel) ⟨Nat.le_of_ble_eq_true rfl, Nat.le_of_ble_eq_true rfl⟩) (g_preVW (q0 := 33) hE hK hP hD hS hA gc_33 rfl) rfl rfl hl.1 rfl (lv_room (Nat.le_of_ble_eq_true rfl)) d_H_understandsHeaders_63 ⟨Nat.zero_le _, Nat.zero_le _⟩) hD hS hA (fun _ => cW_fst) (fun y15 _ H locs hu hP hD hS => ?_)
        subst hu
        refine lv_aload_n hx hb d_H_understandsHeaders_66 rfl (lv_at hl 2 rfl) ?_
        obtain ⟨y18, σ19, e20, hf⟩ := gBd_e hf
        refine g_wi (va_runS ⟨hx, hb, hml, hown, hts⟩ (m_H_isUnderstood e20) (cwS 2 hts (gG3 (fun _ h => List.mem_cons_of_mem _ h) tb_145 tb_146 tb_137 tc_H_isUnderstood) rfl rfl rfl (by decide +kernel) ⟨Nat.le_of_ble_eq_true rfl, Nat.le_of_ble_eq_true rfl⟩) (g_preSW hE hK hP hD hS hA) rfl rfl hl.1 rfl (lv_room (Nat.le_of_ble_eq_true rfl)) d_H_understandsHeaders_67 ⟨Nat.zero_le _, Nat.zero_le _⟩) hD hS hA (fun _ => cW_fst) (fun y18 _ H locs hu hP hD hS => ?_)
        subst hu
        refine lv_if_ne (tgt := 75) hx hb d_H_understandsHeaders_70 rfl (fun c21 => ?_) (fun c21 => ?_)
        · skip
          rw [if_neg c21] at hf
          exact ih4 (x2) σ19 _ _ _ hf hP hD hS (lv_sub hl [1, 2, 3] rfl)
        rw [if_pos c21] at hf
        refine lv_iconst (v := 0) hx hb d_H_understandsHeaders_73 (by decide) ?_
        obtain ⟨rfl, rfl⟩ := gRt_e hf
        exact g_zret hx hb hr hlocks rfl hAe hS () rfl hP d_H_understandsHeaders_74
      · intro x2 σ0 H locs ls hf hP hD hS hl
        have hf : B_H_understandsHeaders_4 (R_H_understandsHeaders t) x2 σ0 = some (r, σ') := hf
        unfold B_H_understandsHeaders_4 at hf
        refine lv_iinc (k := 2) (v := (x2 + 1)) hx hb d_H_understandsHeaders_75 hl rfl (by rw [show Int32.ofInt (1) = (1 : Int32) by decide]) (by decide) rfl (fun ls hl => ?_)
        refine lv_goto (tgt := 2) hx hb d_H_understandsHeaders_78 rfl ?_
        exact ih1 ((x2 + 1)) σ0 _ _ _ hf hP hD hS (lv_sub hl [1, 2, 0] rfl)
  exact (key gFuel).1  σ _ _ _ hf hP hD hS hl

def B_H_findBody_0 (rec : Nat → List Int32 → gS → Option (Int32 × gS)) (σ0 : gS) : Option (Int32 × gS) := rec 1 [(-1), 1] σ0
def B_H_findBody_1 (rec : Nat → List Int32 → gS → Option (Int32 × gS)) (x1 : Int32) (x2 : Int32) (σ0 : gS) : Option (Int32 × gS) := if (σ0.1 5) ≤ x2 then (some (x1, σ0)) else (gLd σ0 22 533 x2 (fun y2 => if y2 = 0 then (if x1 = (-1) then (gLd σ0 21 533 x2 (fun y7 => if y7 = 2 then (rec 2 [x2, x2] σ0) else (gLd σ0 21 533 x2 (fun y11 => if y11 = 8 then (rec 2 [x1, x2] σ0) else (some ((-1), σ0)))))) else (some ((-1), σ0))) else (rec 2 [x1, x2] σ0)))
def B_H_findBody_2 (rec : Nat → List Int32 → gS → Option (Int32 × gS)) (x1 : Int32) (x2 : Int32) (σ0 : gS) : Option (Int32 × gS) := rec 1 [x1, (x2 + 1)] σ0
def S_H_findBody (rec : Nat → List Int32 → gS → Option (Int32 × gS)) (k : Nat) (l : List Int32) (σ0 : gS) : Option (Int32 × gS) := match k, l with
  | 0, [] => B_H_findBody_0 rec  σ0
  | 1, [x1, x2] => B_H_findBody_1 rec x1 x2 σ0
  | 2, [x1, x2] => B_H_findBody_2 rec x1 x2 σ0
  | _, _ => none
def R_H_findBody : Nat → Nat → List Int32 → gS → Option (Int32 × gS)
  | 0 => fun _ _ _ => none
  | t + 1 => fun k l σ0 => S_H_findBody (R_H_findBody t) k l σ0
def f_H_findBody (σ : gS) : Option (Int32 × gS) := R_H_findBody gFuel 0 [] σ
set_option maxHeartbeats 4000000 in
set_option maxRecDepth 100000 in
theorem m_H_findBody {l : Launch} {X : va_G} {cI cC cZ : ClassId} {aK aV : Nat → Nat} {a : Nat → Nat} {σ σ' : gS} {r : Int32} (hf : f_H_findBody σ = some (r, σ')) {sz : Nat} : Met l y_H_findBody w_H_findBody { frames := 0, cells := 0, slots := 0, locals := 0 } (gPc X vwCl (gT cI cC cZ) aK aV (cW cI cC cZ a σ) sz [.ref (a 33)]) (gQi X vwCl (cW cI cC cZ a σ) sz (fun r' (_ : Unit) => r' = r) (fun _ => cW cI cC cZ a σ')) 0 0 (va_A (cW cI cC cZ a σ) sz) := by
  refine g_met (cc := b_H_findBody) (maxL := 3) (ret := (some .int)) (by decide) rfl (Nat.le_of_ble_eq_true rfl) ?_
  intro p e s m below meth c A ls hx hb hr hml hown hts hlocks hnm hsz hAe hA hP hK hD hS hl hE
  have hown : s.vm.findClass R_H = some m.cls := hown
  have u_0 : ∀ w ∈ u_ws R_H T_H 8, w ∈ w_H_findBody := fun w h => List.mem_cons_of_mem _ (tu_H w h)
  have u_1 : ∀ w ∈ u_ws R_E T_E 14, w ∈ w_H_findBody := fun w h => List.mem_cons_of_mem _ (tu_E w h)
  have k_0 := hts (.fieldLink R_H 32 "GraphPages$GraphReader" "elements" "LGraphPages$Elements;") (List.mem_cons_of_mem _ tb_130)
  have k_1 := hts (.fieldLink R_H 47 "GraphPages$Elements" "count" "I") (List.mem_cons_of_mem _ tb_147)
  have k_2 := hts (.fieldLink R_H 51 "GraphPages$Elements" "parents" "[I") (List.mem_cons_of_mem _ tb_148)
  have k_3 := hts (.fieldLink R_H 40 "GraphPages$Elements" "names" "[I") (List.mem_cons_of_mem _ tb_138)
  unfold f_H_findBody at hf
  have key : ∀ t : Nat, (∀ (σ0 : gS) (H : Heap) (locs : List Loc) (ls : Array Slot), R_H_findBody t 0 [] σ0 = some (r, σ') → va_P X vwCl (cW cI cC cZ a σ0) H → va_D A (cW cI cC cZ a σ0) → va_S A s.heap H locs → lv_has ls 3 [(0, .ref (a 33))] → W p l e (headSpec w_H_findBody { frames := 0, cells := 0, slots := 0, locals := 0 }).room s m [.ref (a 33)].toArray below meth c H locs 0 0 (MQ below (gQi X vwCl (cW cI cC cZ a σ) sz (fun r' (_ : Unit) => r' = r) (fun _ => cW cI cC cZ a σ')) [.ref (a 33)].toArray s 0 0 (va_A (cW cI cC cZ a σ) sz)) (F0 m 0 ls [])) ∧ (∀ (x1 : Int32) (x2 : Int32) (σ0 : gS) (H : Heap) (locs : List Loc) (ls : Array Slot), R_H_findBody t 1 [x1, x2] σ0 = some (r, σ') → va_P X vwCl (cW cI cC cZ a σ0) H → va_D A (cW cI cC cZ a σ0) → va_S A s.heap H locs → lv_has ls 3 [(0, .ref (a 33)), (1, .int x1), (2, .int x2)] → W p l e (headSpec w_H_findBody { frames := 0, cells := 0, slots := 0, locals := 0 }).room s m [.ref (a 33)].toArray below meth c H locs 0 0 (MQ below (gQi X vwCl (cW cI cC cZ a σ) sz (fun r' (_ : Unit) => r' = r) (fun _ => cW cI cC cZ a σ')) [.ref (a 33)].toArray s 0 0 (va_A (cW cI cC cZ a σ) sz)) (F0 m 4 ls [])) ∧ (∀ (x1 : Int32) (x2 : Int32) (σ0 : gS) (H : Heap) (locs : List Loc) (ls : Array Slot), R_H_findBody t 2 [x1, x2] σ0 = some (r, σ') → va_P X vwCl (cW cI cC cZ a σ0) H → va_D A (cW cI cC cZ a σ0) → va_S A s.heap H locs → lv_has ls 3 [(0, .ref (a 33)), (1, .int x1), (2, .int x2)] → W p l e (headSpec w_H_findBody { frames := 0, cells := 0, slots := 0, locals := 0 }).room s m [.ref (a 33)].toArray below meth c H locs 0 0 (MQ below (gQi X vwCl (cW cI cC cZ a σ) sz (fun r' (_ : Unit) => r' = r) (fun _ => cW cI cC cZ a σ')) [.ref (a 33)].toArray s 0 0 (va_A (cW cI cC cZ a σ) sz)) (F0 m 71 ls [])) := by
    intro t
    induction t with
    | zero => exact ⟨fun  _ _ _ _ hf => (by have hf : (none : Option (Int32 × gS)) = some (r, σ') := hf; cases hf), fun _ _ _ _ _ _ hf => (by have hf : (none : Option (Int32 × gS)) = some (r, σ') := hf; cases hf), fun _ _ _ _ _ _ hf => (by have hf : (none : Option (Int32 × gS)) = some (r, σ') := hf; cases hf)⟩
    | succ t ih =>
      obtain ⟨ih0, ih1, ih2⟩ := ih
      refine ⟨?_, ?_, ?_⟩
      · intro  σ0 H locs ls hf hP hD hS hl
        have hf : B_H_findBody_0 (R_H_findBody t)  σ0 = some (r, σ') := hf
        unfold B_H_findBody_0 at hf
        refine lv_iconst (v := (-1)) hx hb d_H_findBody_0 (by decide) ?_
        refine lv_istore_n hx hb d_H_findBody_1 rfl hl (by decide) rfl (fun ls hl => ?_)
        refine lv_iconst (v := 1) hx hb d_H_findBody_2 (by decide) ?_
        refine lv_istore_n hx hb d_H_findBody_3 rfl hl (by decide) rfl (fun ls hl => ?_)
        exact ih1 ((-1)) (1) σ0 _ _ _ hf hP hD hS (lv_sub hl [2, 1, 0] rfl)
      · intro x1 x2 σ0 H locs ls hf hP hD hS hl
        have hf : B_H_findBody_1 (R_H_findBody t) x1 x2 σ0 = some (r, σ') := hf
        unfold B_H_findBody_1 at hf
        refine lv_iload_n hx hb d_H_findBody_4 rfl (lv_at hl 2 rfl) ?_
        refine lv_aload_n hx hb d_H_findBody_5 rfl (lv_at hl 0 rfl) ?_
        refine va_get (D := X) (ci := 3) (C := R_H) (T := T_H) (N := 8) hx hb hts u_0 hown hK hP 33 gc_33 rfl 1 (by decide) k_0 (fun _ h9 => h9) rfl d_H_findBody_6 ?_
        refine va_get (D := X) (ci := 0) (C := R_E) (T := T_E) (N := 14) hx hb hts u_1 hown hK hP 20 gc_20 rfl 0 (by decide) k_1 (fun _ h9 => h9) rfl d_H_findBody_9 ?_
        refine lv_icmp_ge (tgt := 77) hx hb d_H_findBody_12 rfl (fun c1 => ?_) (fun c1 => ?_)
        · skip
          rw [if_pos c1] at hf
          refine lv_iload_n hx hb d_H_findBody_77 rfl (lv_at hl 1 rfl) ?_
          obtain ⟨rfl, rfl⟩ := gRt_e hf
          exact g_zret hx hb hr hlocks rfl hAe hS () rfl hP d_H_findBody_78
        rw [if_neg c1] at hf
        refine lv_aload_n hx hb d_H_findBody_15 rfl (lv_at hl 0 rfl) ?_
        refine va_get (D := X) (ci := 3) (C := R_H) (T := T_H) (N := 8) hx hb hts u_0 hown hK hP 33 gc_33 rfl 1 (by decide) k_0 (fun _ h9 => h9) rfl d_H_findBody_16 ?_
        refine va_get (D := X) (ci := 0) (C := R_E) (T := T_E) (N := 14) hx hb hts u_1 hown hK hP 20 gc_20 rfl 2 (by decide) k_2 (fun _ h9 => h9) rfl d_H_findBody_19 ?_
        refine lv_iload_n hx hb d_H_findBody_22 rfl (lv_at hl 2 rfl) ?_
        obtain ⟨y2, h3, e4, hf⟩ := gLd_e hf
        refine va_iald hx hb hK hP 22 0 gc_22 rfl h3 d_H_findBody_23 ?_
        rw [← e4]
        refine lv_if_eq (tgt := 30) hx hb d_H_findBody_24 rfl (fun c5 => ?_) (fun c5 => ?_)
        · skip
          rw [if_pos c5] at hf
          refine lv_iload_n hx hb d_H_findBody_30 rfl (lv_at hl 1 rfl) ?_
          refine lv_iconst (v := (-1)) hx hb d_H_findBody_31 (by decide) ?_
          refine lv_icmp_eq (tgt := 37) hx hb d_H_findBody_32 rfl (fun c6 => ?_) (fun c6 => ?_)
          · skip
            rw [if_pos c6] at hf
            refine lv_aload_n hx hb d_H_findBody_37 rfl (lv_at hl 0 rfl) ?_
            refine va_get (D := X) (ci := 3) (C := R_H) (T := T_H) (N := 8) hx hb hts u_0 hown hK hP 33 gc_33 rfl 1 (by decide) k_0 (fun _ h9 => h9) rfl d_H_findBody_38 ?_
            refine va_get (D := X) (ci := 0) (C := R_E) (T := T_E) (N := 14) hx hb hts u_1 hown hK hP 20 gc_20 rfl 1 (by decide) k_3 (fun _ h9 => h9) rfl d_H_findBody_41 ?_
            refine lv_iload_n hx hb d_H_findBody_44 rfl (lv_at hl 2 rfl) ?_
            obtain ⟨y7, h8, e9, hf⟩ := gLd_e hf
            refine va_iald hx hb hK hP 21 0 gc_21 rfl h8 d_H_findBody_45 ?_
            rw [← e9]
            refine lv_iconst (v := 2) hx hb d_H_findBody_46 (by decide) ?_
            refine lv_icmp_ne (tgt := 55) hx hb d_H_findBody_47 rfl (fun c10 => ?_) (fun c10 => ?_)
            · skip
              rw [if_neg c10] at hf
              refine lv_aload_n hx hb d_H_findBody_55 rfl (lv_at hl 0 rfl) ?_
              refine va_get (D := X) (ci := 3) (C := R_H) (T := T_H) (N := 8) hx hb hts u_0 hown hK hP 33 gc_33 rfl 1 (by decide) k_0 (fun _ h9 => h9) rfl d_H_findBody_56 ?_
              refine va_get (D := X) (ci := 0) (C := R_E) (T := T_E) (N := 14) hx hb hts u_1 hown hK hP 20 gc_20 rfl 1 (by decide) k_3 (fun _ h9 => h9) rfl d_H_findBody_59 ?_
              refine lv_iload_n hx hb d_H_findBody_62 rfl (lv_at hl 2 rfl) ?_
              obtain ⟨y11, h12, e13, hf⟩ := gLd_e hf
              refine va_iald hx hb hK hP 21 0 gc_21 rfl h12 d_H_findBody_63 ?_
              rw [← e13]
              refine lv_bipush (v := 8) hx hb d_H_findBody_64 (by decide) ?_
              refine lv_icmp_eq (tgt := 71) hx hb d_H_findBody_66 rfl (fun c14 => ?_) (fun c14 => ?_)
              · skip
                rw [if_pos c14] at hf
                exact ih2 (x1) (x2) σ0 _ _ _ hf hP hD hS (lv_sub hl [0, 1, 2] rfl)
              rw [if_neg c14] at hf
              refine lv_iconst (v := (-1)) hx hb d_H_findBody_69 (by decide) ?_
              obtain ⟨rfl, rfl⟩ := gRt_e hf
              exact g_zret hx hb hr hlocks rfl hAe hS () rfl hP d_H_findBody_70
            rw [if_pos c10] at hf
            refine lv_iload_n hx hb d_H_findBody_50 rfl (lv_at hl 2 rfl) ?_
            refine lv_istore_n hx hb d_H_findBody_51 rfl hl (by decide) rfl (fun ls hl => ?_)
            refine lv_goto (tgt := 71) hx hb d_H_findBody_52 rfl ?_
            exact ih2 (x2) (x2) σ0 _ _ _ hf hP hD hS (lv_sub hl [1, 0, 2] rfl)
          rw [if_neg c6] at hf
          refine lv_iconst (v := (-1)) hx hb d_H_findBody_35 (by decide) ?_
          obtain ⟨rfl, rfl⟩ := gRt_e hf
          exact g_zret hx hb hr hlocks rfl hAe hS () rfl hP d_H_findBody_36
        rw [if_neg c5] at hf
        refine lv_goto (tgt := 71) hx hb d_H_findBody_27 rfl ?_
        exact ih2 (x1) (x2) σ0 _ _ _ hf hP hD hS (lv_sub hl [0, 1, 2] rfl)
      · intro x1 x2 σ0 H locs ls hf hP hD hS hl
        have hf : B_H_findBody_2 (R_H_findBody t) x1 x2 σ0 = some (r, σ') := hf
        unfold B_H_findBody_2 at hf
        refine lv_iinc (k := 2) (v := (x2 + 1)) hx hb d_H_findBody_71 hl rfl (by rw [show Int32.ofInt (1) = (1 : Int32) by decide]) (by decide) rfl (fun ls hl => ?_)
        refine lv_goto (tgt := 4) hx hb d_H_findBody_74 rfl ?_
        exact ih1 (x1) ((x2 + 1)) σ0 _ _ _ hf hP hD hS (lv_sub hl [1, 2, 0] rfl)
  exact (key gFuel).1  σ _ _ _ hf hP hD hS hl

def f_H_isSoundBody (σ : gS) (x1 : Int32) : Option (Int32 × gS) := gLd σ 25 533 0 (fun y1 => if y1 = 1 then (gLd σ 27 533 0 (fun y5 => if y5 = 0 then (gLd σ 25 533 x1 (fun y9 => if y9 = 0 then (gLd σ 27 533 x1 (fun y13 => if y13 = 0 then (gLd σ 23 533 x1 (fun y17 => if y17 ≤ 0 then (some (0, σ)) else (some (1, σ)))) else (some (0, σ)))) else (some (0, σ)))) else (some (0, σ)))) else (some (0, σ)))
set_option maxHeartbeats 4000000 in
set_option maxRecDepth 100000 in
theorem m_H_isSoundBody {l : Launch} {X : va_G} {cI cC cZ : ClassId} {aK aV : Nat → Nat} {a : Nat → Nat} {σ σ' : gS} {r : Int32} {x1 : Int32} (hf : f_H_isSoundBody σ x1 = some (r, σ')) {sz : Nat} : Met l y_H_isSoundBody w_H_isSoundBody { frames := 0, cells := 0, slots := 0, locals := 0 } (gPc X vwCl (gT cI cC cZ) aK aV (cW cI cC cZ a σ) sz [.ref (a 33), .int x1]) (gQi X vwCl (cW cI cC cZ a σ) sz (fun r' (_ : Unit) => r' = r) (fun _ => cW cI cC cZ a σ')) 0 0 (va_A (cW cI cC cZ a σ) sz) := by
  refine g_met (cc := b_H_isSoundBody) (maxL := 2) (ret := (some .boolean)) (by decide) rfl (Nat.le_of_ble_eq_true rfl) ?_
  intro p e s m below meth c A ls hx hb hr hml hown hts hlocks hnm hsz hAe hA hP hK hD hS hl hE
  have hown : s.vm.findClass R_H = some m.cls := hown
  have u_0 : ∀ w ∈ u_ws R_H T_H 8, w ∈ w_H_isSoundBody := fun w h => List.mem_cons_of_mem _ (tu_H w h)
  have u_1 : ∀ w ∈ u_ws R_E T_E 14, w ∈ w_H_isSoundBody := fun w h => List.mem_cons_of_mem _ (tu_E w h)
  have k_0 := hts (.fieldLink R_H 32 "GraphPages$GraphReader" "elements" "LGraphPages$Elements;") (List.mem_cons_of_mem _ tb_130)
  have k_1 := hts (.fieldLink R_H 96 "GraphPages$Elements" "attributeCounts" "[I") (List.mem_cons_of_mem _ tb_149)
  have k_2 := hts (.fieldLink R_H 99 "GraphPages$Elements" "textCounts" "[I") (List.mem_cons_of_mem _ tb_150)
  have k_3 := hts (.fieldLink R_H 102 "GraphPages$Elements" "children" "[I") (List.mem_cons_of_mem _ tb_151)
  unfold f_H_isSoundBody at hf
  refine lv_aload_n hx hb d_H_isSoundBody_0 rfl (lv_at hl 0 rfl) ?_
  refine va_get (D := X) (ci := 3) (C := R_H) (T := T_H) (N := 8) hx hb hts u_0 hown hK hP 33 gc_33 rfl 1 (by decide) k_0 (fun _ h9 => h9) rfl d_H_isSoundBody_1 ?_
  refine va_get (D := X) (ci := 0) (C := R_E) (T := T_E) (N := 14) hx hb hts u_1 hown hK hP 20 gc_20 rfl 5 (by decide) k_1 (fun _ h9 => h9) rfl d_H_isSoundBody_4 ?_
  refine lv_iconst (v := 0) hx hb d_H_isSoundBody_7 (by decide) ?_
  obtain ⟨y1, h2, e3, hf⟩ := gLd_e hf
  refine va_iald hx hb hK hP 25 0 gc_25 rfl h2 d_H_isSoundBody_8 ?_
  rw [← e3]
  refine lv_iconst (v := 1) hx hb d_H_isSoundBody_9 (by decide) ?_
  refine lv_icmp_ne (tgt := 65) hx hb d_H_isSoundBody_10 rfl (fun c4 => ?_) (fun c4 => ?_)
  · skip
    rw [if_neg c4] at hf
    refine lv_iconst (v := 0) hx hb d_H_isSoundBody_65 (by decide) ?_
    obtain ⟨rfl, rfl⟩ := gRt_e hf
    exact g_zret hx hb hr hlocks rfl hAe hS () rfl hP d_H_isSoundBody_66
  rw [if_pos c4] at hf
  refine lv_aload_n hx hb d_H_isSoundBody_13 rfl (lv_at hl 0 rfl) ?_
  refine va_get (D := X) (ci := 3) (C := R_H) (T := T_H) (N := 8) hx hb hts u_0 hown hK hP 33 gc_33 rfl 1 (by decide) k_0 (fun _ h9 => h9) rfl d_H_isSoundBody_14 ?_
  refine va_get (D := X) (ci := 0) (C := R_E) (T := T_E) (N := 14) hx hb hts u_1 hown hK hP 20 gc_20 rfl 7 (by decide) k_2 (fun _ h9 => h9) rfl d_H_isSoundBody_17 ?_
  refine lv_iconst (v := 0) hx hb d_H_isSoundBody_20 (by decide) ?_
  obtain ⟨y5, h6, e7, hf⟩ := gLd_e hf
  refine va_iald hx hb hK hP 27 0 gc_27 rfl h6 d_H_isSoundBody_21 ?_
  rw [← e7]
  refine lv_if_ne (tgt := 65) hx hb d_H_isSoundBody_22 rfl (fun c8 => ?_) (fun c8 => ?_)
  · skip
    rw [if_neg c8] at hf
    refine lv_iconst (v := 0) hx hb d_H_isSoundBody_65 (by decide) ?_
    obtain ⟨rfl, rfl⟩ := gRt_e hf
    exact g_zret hx hb hr hlocks rfl hAe hS () rfl hP d_H_isSoundBody_66
  rw [if_pos c8] at hf
  refine lv_aload_n hx hb d_H_isSoundBody_25 rfl (lv_at hl 0 rfl) ?_
  refine va_get (D := X) (ci := 3) (C := R_H) (T := T_H) (N := 8) hx hb hts u_0 hown hK hP 33 gc_33 rfl 1 (by decide) k_0 (fun _ h9 => h9) rfl d_H_isSoundBody_26 ?_
  refine va_get (D := X) (ci := 0) (C := R_E) (T := T_E) (N := 14) hx hb hts u_1 hown hK hP 20 gc_20 rfl 5 (by decide) k_1 (fun _ h9 => h9) rfl d_H_isSoundBody_29 ?_
  refine lv_iload_n hx hb d_H_isSoundBody_32 rfl (lv_at hl 1 rfl) ?_
  obtain ⟨y9, h10, e11, hf⟩ := gLd_e hf
  refine va_iald hx hb hK hP 25 0 gc_25 rfl h10 d_H_isSoundBody_33 ?_
  rw [← e11]
  refine lv_if_ne (tgt := 65) hx hb d_H_isSoundBody_34 rfl (fun c12 => ?_) (fun c12 => ?_)
  · skip
    rw [if_neg c12] at hf
    refine lv_iconst (v := 0) hx hb d_H_isSoundBody_65 (by decide) ?_
    obtain ⟨rfl, rfl⟩ := gRt_e hf
    exact g_zret hx hb hr hlocks rfl hAe hS () rfl hP d_H_isSoundBody_66
  rw [if_pos c12] at hf
  refine lv_aload_n hx hb d_H_isSoundBody_37 rfl (lv_at hl 0 rfl) ?_
  refine va_get (D := X) (ci := 3) (C := R_H) (T := T_H) (N := 8) hx hb hts u_0 hown hK hP 33 gc_33 rfl 1 (by decide) k_0 (fun _ h9 => h9) rfl d_H_isSoundBody_38 ?_
  refine va_get (D := X) (ci := 0) (C := R_E) (T := T_E) (N := 14) hx hb hts u_1 hown hK hP 20 gc_20 rfl 7 (by decide) k_2 (fun _ h9 => h9) rfl d_H_isSoundBody_41 ?_
  refine lv_iload_n hx hb d_H_isSoundBody_44 rfl (lv_at hl 1 rfl) ?_
  obtain ⟨y13, h14, e15, hf⟩ := gLd_e hf
  refine va_iald hx hb hK hP 27 0 gc_27 rfl h14 d_H_isSoundBody_45 ?_
  rw [← e15]
  refine lv_if_ne (tgt := 65) hx hb d_H_isSoundBody_46 rfl (fun c16 => ?_) (fun c16 => ?_)
  · skip
    rw [if_neg c16] at hf
    refine lv_iconst (v := 0) hx hb d_H_isSoundBody_65 (by decide) ?_
    obtain ⟨rfl, rfl⟩ := gRt_e hf
    exact g_zret hx hb hr hlocks rfl hAe hS () rfl hP d_H_isSoundBody_66
  rw [if_pos c16] at hf
  refine lv_aload_n hx hb d_H_isSoundBody_49 rfl (lv_at hl 0 rfl) ?_
  refine va_get (D := X) (ci := 3) (C := R_H) (T := T_H) (N := 8) hx hb hts u_0 hown hK hP 33 gc_33 rfl 1 (by decide) k_0 (fun _ h9 => h9) rfl d_H_isSoundBody_50 ?_
  refine va_get (D := X) (ci := 0) (C := R_E) (T := T_E) (N := 14) hx hb hts u_1 hown hK hP 20 gc_20 rfl 3 (by decide) k_3 (fun _ h9 => h9) rfl d_H_isSoundBody_53 ?_
  refine lv_iload_n hx hb d_H_isSoundBody_56 rfl (lv_at hl 1 rfl) ?_
  obtain ⟨y17, h18, e19, hf⟩ := gLd_e hf
  refine va_iald hx hb hK hP 23 0 gc_23 rfl h18 d_H_isSoundBody_57 ?_
  rw [← e19]
  refine lv_if_le (tgt := 65) hx hb d_H_isSoundBody_58 rfl (fun c20 => ?_) (fun c20 => ?_)
  · skip
    rw [if_pos c20] at hf
    refine lv_iconst (v := 0) hx hb d_H_isSoundBody_65 (by decide) ?_
    obtain ⟨rfl, rfl⟩ := gRt_e hf
    exact g_zret hx hb hr hlocks rfl hAe hS () rfl hP d_H_isSoundBody_66
  rw [if_neg c20] at hf
  refine lv_iconst (v := 1) hx hb d_H_isSoundBody_61 (by decide) ?_
  refine lv_goto (tgt := 66) hx hb d_H_isSoundBody_62 rfl ?_
  obtain ⟨rfl, rfl⟩ := gRt_e hf
  exact g_zret hx hb hr hlocks rfl hAe hS () rfl hP d_H_isSoundBody_66

def f_H_isObject (σ : gS) (x1 : Int32) : Option (Int32 × gS) := gLd σ 21 533 x1 (fun y1 => if y1 = 16 then (some (1, σ)) else (if y1 = 1 then (some (1, σ)) else (if y1 = 20 then (some (1, σ)) else (some (0, σ)))))
set_option maxHeartbeats 4000000 in
set_option maxRecDepth 100000 in
theorem m_H_isObject {l : Launch} {X : va_G} {cI cC cZ : ClassId} {aK aV : Nat → Nat} {a : Nat → Nat} {σ σ' : gS} {r : Int32} {x1 : Int32} (hf : f_H_isObject σ x1 = some (r, σ')) {sz : Nat} : Met l y_H_isObject w_H_isObject { frames := 0, cells := 0, slots := 0, locals := 0 } (gPc X vwCl (gT cI cC cZ) aK aV (cW cI cC cZ a σ) sz [.ref (a 33), .int x1]) (gQi X vwCl (cW cI cC cZ a σ) sz (fun r' (_ : Unit) => r' = r) (fun _ => cW cI cC cZ a σ')) 0 0 (va_A (cW cI cC cZ a σ) sz) := by
  refine g_met (cc := b_H_isObject) (maxL := 3) (ret := (some .boolean)) (by decide) rfl (Nat.le_of_ble_eq_true rfl) ?_
  intro p e s m below meth c A ls hx hb hr hml hown hts hlocks hnm hsz hAe hA hP hK hD hS hl hE
  have hown : s.vm.findClass R_H = some m.cls := hown
  have u_0 : ∀ w ∈ u_ws R_H T_H 8, w ∈ w_H_isObject := fun w h => List.mem_cons_of_mem _ (tu_H w h)
  have u_1 : ∀ w ∈ u_ws R_E T_E 14, w ∈ w_H_isObject := fun w h => List.mem_cons_of_mem _ (tu_E w h)
  have k_0 := hts (.fieldLink R_H 32 "GraphPages$GraphReader" "elements" "LGraphPages$Elements;") (List.mem_cons_of_mem _ tb_130)
  have k_1 := hts (.fieldLink R_H 40 "GraphPages$Elements" "names" "[I") (List.mem_cons_of_mem _ tb_138)
  unfold f_H_isObject at hf
  refine lv_aload_n hx hb d_H_isObject_0 rfl (lv_at hl 0 rfl) ?_
  refine va_get (D := X) (ci := 3) (C := R_H) (T := T_H) (N := 8) hx hb hts u_0 hown hK hP 33 gc_33 rfl 1 (by decide) k_0 (fun _ h9 => h9) rfl d_H_isObject_1 ?_
  refine va_get (D := X) (ci := 0) (C := R_E) (T := T_E) (N := 14) hx hb hts u_1 hown hK hP 20 gc_20 rfl 1 (by decide) k_1 (fun _ h9 => h9) rfl d_H_isObject_4 ?_
  refine lv_iload_n hx hb d_H_isObject_7 rfl (lv_at hl 1 rfl) ?_
  obtain ⟨y1, h2, e3, hf⟩ := gLd_e hf
  refine va_iald hx hb hK hP 21 0 gc_21 rfl h2 d_H_isObject_8 ?_
  rw [← e3]
  refine lv_istore_n hx hb d_H_isObject_9 rfl hl (by decide) rfl (fun ls hl => ?_)
  refine lv_iload_n hx hb d_H_isObject_10 rfl (lv_at hl 0 rfl) ?_
  refine lv_bipush (v := 16) hx hb d_H_isObject_11 (by decide) ?_
  refine lv_icmp_eq (tgt := 27) hx hb d_H_isObject_13 rfl (fun c4 => ?_) (fun c4 => ?_)
  · skip
    rw [if_pos c4] at hf
    refine lv_iconst (v := 1) hx hb d_H_isObject_27 (by decide) ?_
    refine lv_goto (tgt := 32) hx hb d_H_isObject_28 rfl ?_
    obtain ⟨rfl, rfl⟩ := gRt_e hf
    exact g_zret hx hb hr hlocks rfl hAe hS () rfl hP d_H_isObject_32
  rw [if_neg c4] at hf
  refine lv_iload_n hx hb d_H_isObject_16 rfl (lv_at hl 0 rfl) ?_
  refine lv_iconst (v := 1) hx hb d_H_isObject_17 (by decide) ?_
  refine lv_icmp_eq (tgt := 27) hx hb d_H_isObject_18 rfl (fun c5 => ?_) (fun c5 => ?_)
  · skip
    rw [if_pos c5] at hf
    refine lv_iconst (v := 1) hx hb d_H_isObject_27 (by decide) ?_
    refine lv_goto (tgt := 32) hx hb d_H_isObject_28 rfl ?_
    obtain ⟨rfl, rfl⟩ := gRt_e hf
    exact g_zret hx hb hr hlocks rfl hAe hS () rfl hP d_H_isObject_32
  rw [if_neg c5] at hf
  refine lv_iload_n hx hb d_H_isObject_21 rfl (lv_at hl 0 rfl) ?_
  refine lv_bipush (v := 20) hx hb d_H_isObject_22 (by decide) ?_
  refine lv_icmp_ne (tgt := 31) hx hb d_H_isObject_24 rfl (fun c6 => ?_) (fun c6 => ?_)
  · skip
    rw [if_neg c6] at hf
    refine lv_iconst (v := 0) hx hb d_H_isObject_31 (by decide) ?_
    obtain ⟨rfl, rfl⟩ := gRt_e hf
    exact g_zret hx hb hr hlocks rfl hAe hS () rfl hP d_H_isObject_32
  rw [if_pos c6] at hf
  refine lv_iconst (v := 1) hx hb d_H_isObject_27 (by decide) ?_
  refine lv_goto (tgt := 32) hx hb d_H_isObject_28 rfl ?_
  obtain ⟨rfl, rfl⟩ := gRt_e hf
  exact g_zret hx hb hr hlocks rfl hAe hS () rfl hP d_H_isObject_32

def B_H_mayBear_0 (rec : Nat → List Int32 → gS → Option (Int32 × gS)) (x1 : Int32) (x2 : Int32) (σ0 : gS) : Option (Int32 × gS) := gLd σ0 21 533 x1 (fun y1 => if x2 = 8 then (if y1 = 18 then (some (1, σ0)) else (some (0, σ0))) else (if x2 = 14 then (rec 1 [y1] σ0) else (if x2 = 15 then (rec 1 [y1] σ0) else (if x2 = 47 then (gLd σ0 22 533 x1 (fun y9 => gLd σ0 21 533 y9 (fun y12 => if y12 = 1 then (some (1, σ0)) else (some (0, σ0))))) else (if x2 = 247 then (gBd (f_H_isObject σ0 x1) (fun y17 σ18 => gNr .boolean y17 (some (y17, σ18)))) else (some (0, σ0)))))))
def B_H_mayBear_1 (rec : Nat → List Int32 → gS → Option (Int32 × gS)) (x3 : Int32) (σ0 : gS) : Option (Int32 × gS) := if x3 = 1 then (some (1, σ0)) else (some (0, σ0))
def S_H_mayBear (rec : Nat → List Int32 → gS → Option (Int32 × gS)) (k : Nat) (l : List Int32) (σ0 : gS) : Option (Int32 × gS) := match k, l with
  | 0, [x1, x2] => B_H_mayBear_0 rec x1 x2 σ0
  | 1, [x3] => B_H_mayBear_1 rec x3 σ0
  | _, _ => none
def R_H_mayBear : Nat → Nat → List Int32 → gS → Option (Int32 × gS)
  | 0 => fun _ _ _ => none
  | t + 1 => fun k l σ0 => S_H_mayBear (R_H_mayBear t) k l σ0
def f_H_mayBear (σ : gS) (x1 : Int32) (x2 : Int32) : Option (Int32 × gS) := R_H_mayBear gFuel 0 [x1, x2] σ
set_option maxHeartbeats 4000000 in
set_option maxRecDepth 100000 in
theorem m_H_mayBear {l : Launch} {X : va_G} {cI cC cZ : ClassId} {aK aV : Nat → Nat} {a : Nat → Nat} {σ σ' : gS} {r : Int32} {q1 : Int32} {q2 : Int32} (hf : f_H_mayBear σ q1 q2 = some (r, σ')) {sz : Nat} : Met l y_H_mayBear w_H_mayBear { frames := 1, cells := 0, slots := 0, locals := 22 } (gPc X vwCl (gT cI cC cZ) aK aV (cW cI cC cZ a σ) sz [.ref (a 33), .int q1, .int q2]) (gQi X vwCl (cW cI cC cZ a σ) sz (fun r' (_ : Unit) => r' = r) (fun _ => cW cI cC cZ a σ')) 0 0 (va_A (cW cI cC cZ a σ) sz) := by
  refine g_met (cc := b_H_mayBear) (maxL := 4) (ret := (some .boolean)) (by decide) rfl (Nat.le_of_ble_eq_true rfl) ?_
  intro p e s m below meth c A ls hx hb hr hml hown hts hlocks hnm hsz hAe hA hP hK hD hS hl hE
  have hown : s.vm.findClass R_H = some m.cls := hown
  have u_0 : ∀ w ∈ u_ws R_H T_H 8, w ∈ w_H_mayBear := fun w h => List.mem_cons_of_mem _ (tu_H w h)
  have u_1 : ∀ w ∈ u_ws R_E T_E 14, w ∈ w_H_mayBear := fun w h => List.mem_cons_of_mem _ (tu_E w h)
  have k_0 := hts (.fieldLink R_H 32 "GraphPages$GraphReader" "elements" "LGraphPages$Elements;") (List.mem_cons_of_mem _ tb_130)
  have k_1 := hts (.fieldLink R_H 40 "GraphPages$Elements" "names" "[I") (List.mem_cons_of_mem _ tb_138)
  have k_2 := hts (.fieldLink R_H 51 "GraphPages$Elements" "parents" "[I") (List.mem_cons_of_mem _ tb_148)
  unfold f_H_mayBear at hf
  have key : ∀ t : Nat, (∀ (x1 : Int32) (x2 : Int32) (σ0 : gS) (H : Heap) (locs : List Loc) (ls : Array Slot), R_H_mayBear t 0 [x1, x2] σ0 = some (r, σ') → va_P X vwCl (cW cI cC cZ a σ0) H → va_D A (cW cI cC cZ a σ0) → va_S A s.heap H locs → lv_has ls 4 [(0, .ref (a 33)), (1, .int x1), (2, .int x2)] → W p l e (headSpec w_H_mayBear { frames := 1, cells := 0, slots := 0, locals := 22 }).room s m [.ref (a 33), .int q1, .int q2].toArray below meth c H locs 0 0 (MQ below (gQi X vwCl (cW cI cC cZ a σ) sz (fun r' (_ : Unit) => r' = r) (fun _ => cW cI cC cZ a σ')) [.ref (a 33), .int q1, .int q2].toArray s 0 0 (va_A (cW cI cC cZ a σ) sz)) (F0 m 0 ls [])) ∧ (∀ (x3 : Int32) (σ0 : gS) (H : Heap) (locs : List Loc) (ls : Array Slot), R_H_mayBear t 1 [x3] σ0 = some (r, σ') → va_P X vwCl (cW cI cC cZ a σ0) H → va_D A (cW cI cC cZ a σ0) → va_S A s.heap H locs → lv_has ls 4 [(3, .int x3)] → W p l e (headSpec w_H_mayBear { frames := 1, cells := 0, slots := 0, locals := 22 }).room s m [.ref (a 33), .int q1, .int q2].toArray below meth c H locs 0 0 (MQ below (gQi X vwCl (cW cI cC cZ a σ) sz (fun r' (_ : Unit) => r' = r) (fun _ => cW cI cC cZ a σ')) [.ref (a 33), .int q1, .int q2].toArray s 0 0 (va_A (cW cI cC cZ a σ) sz)) (F0 m 66 ls [])) := by
    intro t
    induction t with
    | zero => exact ⟨fun _ _ _ _ _ _ hf => (by have hf : (none : Option (Int32 × gS)) = some (r, σ') := hf; cases hf), fun _ _ _ _ _ hf => (by have hf : (none : Option (Int32 × gS)) = some (r, σ') := hf; cases hf)⟩
    | succ t ih =>
      obtain ⟨ih0, ih1⟩ := ih
      refine ⟨?_, ?_⟩
      · intro x1 x2 σ0 H locs ls hf hP hD hS hl
        have hf : B_H_mayBear_0 (R_H_mayBear t) x1 x2 σ0 = some (r, σ') := hf
        unfold B_H_mayBear_0 at hf
        refine lv_aload_n hx hb d_H_mayBear_0 rfl (lv_at hl 0 rfl) ?_
        refine va_get (D := X) (ci := 3) (C := R_H) (T := T_H) (N := 8) hx hb hts u_0 hown hK hP 33 gc_33 rfl 1 (by decide) k_0 (fun _ h9 => h9) rfl d_H_mayBear_1 ?_
        refine va_get (D := X) (ci := 0) (C := R_E) (T := T_E) (N := 14) hx hb hts u_1 hown hK hP 20 gc_20 rfl 1 (by decide) k_1 (fun _ h9 => h9) rfl d_H_mayBear_4 ?_
        refine lv_iload_n hx hb d_H_mayBear_7 rfl (lv_at hl 1 rfl) ?_
        obtain ⟨y1, h2, e3, hf⟩ := gLd_e hf
        refine va_iald hx hb hK hP 21 0 gc_21 rfl h2 d_H_mayBear_8 ?_
        rw [← e3]
        refine lv_istore_n hx hb d_H_mayBear_9 rfl hl (by decide) rfl (fun ls hl => ?_)
        refine lv_iload_n hx hb d_H_mayBear_10 rfl (lv_at hl 3 rfl) ?_
        by_cases c4 : x2 = 8
        · skip
          rw [if_pos c4] at hf
          refine lv_lookup (off := 66) (tgt := 77) hx hb d_H_mayBear_11 (by decide) (by show Op.lookupswitch.offset [(8, 66), (14, 55), (15, 55), (47, 78), (247, 49)] 105 (x2).toInt = _; rw [c4]; first | done | rfl) rfl ?_
          refine lv_iload_n hx hb d_H_mayBear_77 rfl (lv_at hl 0 rfl) ?_
          refine lv_bipush (v := 18) hx hb d_H_mayBear_78 (by decide) ?_
          refine lv_icmp_ne (tgt := 87) hx hb d_H_mayBear_80 rfl (fun c5 => ?_) (fun c5 => ?_)
          · skip
            rw [if_neg c5] at hf
            refine lv_iconst (v := 0) hx hb d_H_mayBear_87 (by decide) ?_
            obtain ⟨rfl, rfl⟩ := gRt_e hf
            exact g_zret hx hb hr hlocks rfl hAe hS () rfl hP d_H_mayBear_88
          rw [if_pos c5] at hf
          refine lv_iconst (v := 1) hx hb d_H_mayBear_83 (by decide) ?_
          refine lv_goto (tgt := 88) hx hb d_H_mayBear_84 rfl ?_
          obtain ⟨rfl, rfl⟩ := gRt_e hf
          exact g_zret hx hb hr hlocks rfl hAe hS () rfl hP d_H_mayBear_88
        rw [if_neg c4] at hf
        by_cases c6 : x2 = 14
        · skip
          rw [if_pos c6] at hf
          refine lv_lookup (off := 55) (tgt := 66) hx hb d_H_mayBear_11 (by decide) (by show Op.lookupswitch.offset [(8, 66), (14, 55), (15, 55), (47, 78), (247, 49)] 105 (x2).toInt = _; rw [lv_osw (a := 8) c4 (by decide)]; rw [c6]; first | done | rfl) rfl ?_
          exact ih1 (y1) σ0 _ _ _ hf hP hD hS (lv_sub hl [0] rfl)
        rw [if_neg c6] at hf
        by_cases c7 : x2 = 15
        · skip
          rw [if_pos c7] at hf
          refine lv_lookup (off := 55) (tgt := 66) hx hb d_H_mayBear_11 (by decide) (by show Op.lookupswitch.offset [(8, 66), (14, 55), (15, 55), (47, 78), (247, 49)] 105 (x2).toInt = _; rw [lv_osw (a := 8) c4 (by decide), lv_osw (a := 14) c6 (by decide)]; rw [c7]; first | done | rfl) rfl ?_
          exact ih1 (y1) σ0 _ _ _ hf hP hD hS (lv_sub hl [0] rfl)
        rw [if_neg c7] at hf
        by_cases c8 : x2 = 47
        · skip
          rw [if_pos c8] at hf
          refine lv_lookup (off := 78) (tgt := 89) hx hb d_H_mayBear_11 (by decide) (by show Op.lookupswitch.offset [(8, 66), (14, 55), (15, 55), (47, 78), (247, 49)] 105 (x2).toInt = _; rw [lv_osw (a := 8) c4 (by decide), lv_osw (a := 14) c6 (by decide), lv_osw (a := 15) c7 (by decide)]; rw [c8]; first | done | rfl) rfl ?_
          refine lv_aload_n hx hb d_H_mayBear_89 rfl (lv_at hl 1 rfl) ?_
          refine va_get (D := X) (ci := 3) (C := R_H) (T := T_H) (N := 8) hx hb hts u_0 hown hK hP 33 gc_33 rfl 1 (by decide) k_0 (fun _ h9 => h9) rfl d_H_mayBear_90 ?_
          refine va_get (D := X) (ci := 0) (C := R_E) (T := T_E) (N := 14) hx hb hts u_1 hown hK hP 20 gc_20 rfl 1 (by decide) k_1 (fun _ h9 => h9) rfl d_H_mayBear_93 ?_
          refine lv_aload_n hx hb d_H_mayBear_96 rfl (lv_at hl 1 rfl) ?_
          refine va_get (D := X) (ci := 3) (C := R_H) (T := T_H) (N := 8) hx hb hts u_0 hown hK hP 33 gc_33 rfl 1 (by decide) k_0 (fun _ h9 => h9) rfl d_H_mayBear_97 ?_
          refine va_get (D := X) (ci := 0) (C := R_E) (T := T_E) (N := 14) hx hb hts u_1 hown hK hP 20 gc_20 rfl 2 (by decide) k_2 (fun _ h9 => h9) rfl d_H_mayBear_100 ?_
          refine lv_iload_n hx hb d_H_mayBear_103 rfl (lv_at hl 2 rfl) ?_
          obtain ⟨y9, h10, e11, hf⟩ := gLd_e hf
          refine va_iald hx hb hK hP 22 0 gc_22 rfl h10 d_H_mayBear_104 ?_
          rw [← e11]
          obtain ⟨y12, h13, e14, hf⟩ := gLd_e hf
          refine va_iald hx hb hK hP 21 0 gc_21 rfl h13 d_H_mayBear_105 ?_
          rw [← e14]
          refine lv_iconst (v := 1) hx hb d_H_mayBear_106 (by decide) ?_
          refine lv_icmp_ne (tgt := 114) hx hb d_H_mayBear_107 rfl (fun c15 => ?_) (fun c15 => ?_)
          · skip
            rw [if_neg c15] at hf
            refine lv_iconst (v := 0) hx hb d_H_mayBear_114 (by decide) ?_
            obtain ⟨rfl, rfl⟩ := gRt_e hf
            exact g_zret hx hb hr hlocks rfl hAe hS () rfl hP d_H_mayBear_115
          rw [if_pos c15] at hf
          refine lv_iconst (v := 1) hx hb d_H_mayBear_110 (by decide) ?_
          refine lv_goto (tgt := 115) hx hb d_H_mayBear_111 rfl ?_
          obtain ⟨rfl, rfl⟩ := gRt_e hf
          exact g_zret hx hb hr hlocks rfl hAe hS () rfl hP d_H_mayBear_115
        rw [if_neg c8] at hf
        by_cases c16 : x2 = 247
        · skip
          rw [if_pos c16] at hf
          refine lv_lookup (off := 49) (tgt := 60) hx hb d_H_mayBear_11 (by decide) (by show Op.lookupswitch.offset [(8, 66), (14, 55), (15, 55), (47, 78), (247, 49)] 105 (x2).toInt = _; rw [lv_osw (a := 8) c4 (by decide), lv_osw (a := 14) c6 (by decide), lv_osw (a := 15) c7 (by decide), lv_osw (a := 47) c8 (by decide)]; rw [c16]; first | done | rfl) rfl ?_
          refine lv_aload_n hx hb d_H_mayBear_60 rfl (lv_at hl 1 rfl) ?_
          refine lv_iload_n hx hb d_H_mayBear_61 rfl (lv_at hl 2 rfl) ?_
          obtain ⟨y17, σ18, e19, hf⟩ := gBd_e hf
          refine g_wi (va_runV ⟨hx, hb, hml, hown, hts⟩ (m_H_isObject e19) (cwV 1 hts (gG4 (fun _ h => List.mem_cons_of_mem _ h) tb_152 tb_153 tb_154 tb_137 tc_H_isObject) rfl rfl rfl (by decide +kernel) ⟨Nat.le_of_ble_eq_true rfl, Nat.le_of_ble_eq_true rfl⟩) (g_preVW (q0 := 33) hE hK hP hD hS hA gc_33 rfl) rfl rfl hl.1 rfl (lv_room (Nat.le_of_ble_eq_true rfl)) d_H_mayBear_62 ⟨Nat.zero_le _, Nat.zero_le _⟩) hD hS hA (fun _ => cW_fst) (fun y17 _ H locs hu hP hD hS => ?_)
          subst hu
          obtain ⟨h20, hf⟩ := gNr_e hf
          obtain ⟨rfl, rfl⟩ := gRt_e hf
          exact g_zret hx hb hr hlocks h20 hAe hS () rfl hP d_H_mayBear_65
        rw [if_neg c16] at hf
        refine lv_lookup (off := 105) (tgt := 116) hx hb d_H_mayBear_11 (by decide) (by show Op.lookupswitch.offset [(8, 66), (14, 55), (15, 55), (47, 78), (247, 49)] 105 (x2).toInt = _; rw [lv_osw (a := 8) c4 (by decide), lv_osw (a := 14) c6 (by decide), lv_osw (a := 15) c7 (by decide), lv_osw (a := 47) c8 (by decide), lv_osw (a := 247) c16 (by decide)]; first | done | rfl) rfl ?_
        refine lv_iconst (v := 0) hx hb d_H_mayBear_116 (by decide) ?_
        obtain ⟨rfl, rfl⟩ := gRt_e hf
        exact g_zret hx hb hr hlocks rfl hAe hS () rfl hP d_H_mayBear_117
      · intro x3 σ0 H locs ls hf hP hD hS hl
        have hf : B_H_mayBear_1 (R_H_mayBear t) x3 σ0 = some (r, σ') := hf
        unfold B_H_mayBear_1 at hf
        refine lv_iload_n hx hb d_H_mayBear_66 rfl (lv_at hl 0 rfl) ?_
        refine lv_iconst (v := 1) hx hb d_H_mayBear_67 (by decide) ?_
        refine lv_icmp_ne (tgt := 75) hx hb d_H_mayBear_68 rfl (fun c21 => ?_) (fun c21 => ?_)
        · skip
          rw [if_neg c21] at hf
          refine lv_iconst (v := 0) hx hb d_H_mayBear_75 (by decide) ?_
          obtain ⟨rfl, rfl⟩ := gRt_e hf
          exact g_zret hx hb hr hlocks rfl hAe hS () rfl hP d_H_mayBear_76
        rw [if_pos c21] at hf
        refine lv_iconst (v := 1) hx hb d_H_mayBear_71 (by decide) ?_
        refine lv_goto (tgt := 76) hx hb d_H_mayBear_72 rfl ?_
        obtain ⟨rfl, rfl⟩ := gRt_e hf
        exact g_zret hx hb hr hlocks rfl hAe hS () rfl hP d_H_mayBear_76
  exact (key gFuel).1 q1 q2 σ _ _ _ hf hP hD hS hl

def B_H_hasSoundAttributes_0 (rec : Nat → List Int32 → gS → Option (Int32 × gS)) (x1 : Int32) (σ0 : gS) : Option (Int32 × gS) := gLd σ0 24 533 x1 (fun y1 => gLd σ0 25 533 x1 (fun y4 => gLd σ0 24 533 x1 (fun y7 => rec 1 [x1, (y1 + y4), y7] σ0)))
def B_H_hasSoundAttributes_1 (rec : Nat → List Int32 → gS → Option (Int32 × gS)) (x1 : Int32) (x2 : Int32) (x3 : Int32) (σ0 : gS) : Option (Int32 × gS) := if x2 ≤ x3 then (some (1, σ0)) else (gLd σ0 28 320 x3 (fun y11 => gBd (f_H_mayBear σ0 x1 y11) (fun y14 σ15 => if y14 = 0 then (some (0, σ15)) else (gBd (f_H_countOf σ15 x3) (fun y18 σ19 => if y18 = (-1) then (some (0, σ19)) else (rec 1 [x1, x2, (x3 + 1)] σ19))))))
def S_H_hasSoundAttributes (rec : Nat → List Int32 → gS → Option (Int32 × gS)) (k : Nat) (l : List Int32) (σ0 : gS) : Option (Int32 × gS) := match k, l with
  | 0, [x1] => B_H_hasSoundAttributes_0 rec x1 σ0
  | 1, [x1, x2, x3] => B_H_hasSoundAttributes_1 rec x1 x2 x3 σ0
  | _, _ => none
def R_H_hasSoundAttributes : Nat → Nat → List Int32 → gS → Option (Int32 × gS)
  | 0 => fun _ _ _ => none
  | t + 1 => fun k l σ0 => S_H_hasSoundAttributes (R_H_hasSoundAttributes t) k l σ0
def f_H_hasSoundAttributes (σ : gS) (x1 : Int32) : Option (Int32 × gS) := R_H_hasSoundAttributes gFuel 0 [x1] σ
set_option maxHeartbeats 4000000 in
set_option maxRecDepth 100000 in
theorem m_H_hasSoundAttributes {l : Launch} {X : va_G} {cI cC cZ : ClassId} {aK aV : Nat → Nat} {a : Nat → Nat} {σ σ' : gS} {r : Int32} {q1 : Int32} (hf : f_H_hasSoundAttributes σ q1 = some (r, σ')) {sz : Nat} : Met l y_H_hasSoundAttributes w_H_hasSoundAttributes { frames := 2, cells := 0, slots := 0, locals := 46 } (gPc X vwCl (gT cI cC cZ) aK aV (cW cI cC cZ a σ) sz [.ref (a 33), .int q1]) (gQi X vwCl (cW cI cC cZ a σ) sz (fun r' (_ : Unit) => r' = r) (fun _ => cW cI cC cZ a σ')) 0 0 (va_A (cW cI cC cZ a σ) sz) := by
  refine g_met (cc := b_H_hasSoundAttributes) (maxL := 4) (ret := (some .boolean)) (by decide) rfl (Nat.le_of_ble_eq_true rfl) ?_
  intro p e s m below meth c A ls hx hb hr hml hown hts hlocks hnm hsz hAe hA hP hK hD hS hl hE
  have hown : s.vm.findClass R_H = some m.cls := hown
  have u_0 : ∀ w ∈ u_ws R_H T_H 8, w ∈ w_H_hasSoundAttributes := fun w h => List.mem_cons_of_mem _ (tu_H w h)
  have u_1 : ∀ w ∈ u_ws R_E T_E 14, w ∈ w_H_hasSoundAttributes := fun w h => List.mem_cons_of_mem _ (tu_E w h)
  have k_0 := hts (.fieldLink R_H 32 "GraphPages$GraphReader" "elements" "LGraphPages$Elements;") (List.mem_cons_of_mem _ tb_130)
  have k_1 := hts (.fieldLink R_H 123 "GraphPages$Elements" "attributeStarts" "[I") (List.mem_cons_of_mem _ tb_158)
  have k_2 := hts (.fieldLink R_H 96 "GraphPages$Elements" "attributeCounts" "[I") (List.mem_cons_of_mem _ tb_149)
  have k_3 := hts (.fieldLink R_H 126 "GraphPages$Elements" "attributeNames" "[I") (List.mem_cons_of_mem _ tb_159)
  unfold f_H_hasSoundAttributes at hf
  have key : ∀ t : Nat, (∀ (x1 : Int32) (σ0 : gS) (H : Heap) (locs : List Loc) (ls : Array Slot), R_H_hasSoundAttributes t 0 [x1] σ0 = some (r, σ') → va_P X vwCl (cW cI cC cZ a σ0) H → va_D A (cW cI cC cZ a σ0) → va_S A s.heap H locs → lv_has ls 4 [(0, .ref (a 33)), (1, .int x1)] → W p l e (headSpec w_H_hasSoundAttributes { frames := 2, cells := 0, slots := 0, locals := 46 }).room s m [.ref (a 33), .int q1].toArray below meth c H locs 0 0 (MQ below (gQi X vwCl (cW cI cC cZ a σ) sz (fun r' (_ : Unit) => r' = r) (fun _ => cW cI cC cZ a σ')) [.ref (a 33), .int q1].toArray s 0 0 (va_A (cW cI cC cZ a σ) sz)) (F0 m 0 ls [])) ∧ (∀ (x1 : Int32) (x2 : Int32) (x3 : Int32) (σ0 : gS) (H : Heap) (locs : List Loc) (ls : Array Slot), R_H_hasSoundAttributes t 1 [x1, x2, x3] σ0 = some (r, σ') → va_P X vwCl (cW cI cC cZ a σ0) H → va_D A (cW cI cC cZ a σ0) → va_S A s.heap H locs → lv_has ls 4 [(0, .ref (a 33)), (1, .int x1), (2, .int x2), (3, .int x3)] → W p l e (headSpec w_H_hasSoundAttributes { frames := 2, cells := 0, slots := 0, locals := 46 }).room s m [.ref (a 33), .int q1].toArray below meth c H locs 0 0 (MQ below (gQi X vwCl (cW cI cC cZ a σ) sz (fun r' (_ : Unit) => r' = r) (fun _ => cW cI cC cZ a σ')) [.ref (a 33), .int q1].toArray s 0 0 (va_A (cW cI cC cZ a σ) sz)) (F0 m 30 ls [])) := by
    intro t
    induction t with
    | zero => exact ⟨fun _ _ _ _ _ hf => (by have hf : (none : Option (Int32 × gS)) = some (r, σ') := hf; cases hf), fun _ _ _ _ _ _ _ hf => (by have hf : (none : Option (Int32 × gS)) = some (r, σ') := hf; cases hf)⟩
    | succ t ih =>
      obtain ⟨ih0, ih1⟩ := ih
      refine ⟨?_, ?_⟩
      · intro x1 σ0 H locs ls hf hP hD hS hl
        have hf : B_H_hasSoundAttributes_0 (R_H_hasSoundAttributes t) x1 σ0 = some (r, σ') := hf
        unfold B_H_hasSoundAttributes_0 at hf
        refine lv_aload_n hx hb d_H_hasSoundAttributes_0 rfl (lv_at hl 0 rfl) ?_
        refine va_get (D := X) (ci := 3) (C := R_H) (T := T_H) (N := 8) hx hb hts u_0 hown hK hP 33 gc_33 rfl 1 (by decide) k_0 (fun _ h9 => h9) rfl d_H_hasSoundAttributes_1 ?_
        refine va_get (D := X) (ci := 0) (C := R_E) (T := T_E) (N := 14) hx hb hts u_1 hown hK hP 20 gc_20 rfl 4 (by decide) k_1 (fun _ h9 => h9) rfl d_H_hasSoundAttributes_4 ?_
        refine lv_iload_n hx hb d_H_hasSoundAttributes_7 rfl (lv_at hl 1 rfl) ?_
        obtain ⟨y1, h2, e3, hf⟩ := gLd_e hf
        refine va_iald hx hb hK hP 24 0 gc_24 rfl h2 d_H_hasSoundAttributes_8 ?_
        rw [← e3]
        refine lv_aload_n hx hb d_H_hasSoundAttributes_9 rfl (lv_at hl 0 rfl) ?_
        refine va_get (D := X) (ci := 3) (C := R_H) (T := T_H) (N := 8) hx hb hts u_0 hown hK hP 33 gc_33 rfl 1 (by decide) k_0 (fun _ h9 => h9) rfl d_H_hasSoundAttributes_10 ?_
        refine va_get (D := X) (ci := 0) (C := R_E) (T := T_E) (N := 14) hx hb hts u_1 hown hK hP 20 gc_20 rfl 5 (by decide) k_2 (fun _ h9 => h9) rfl d_H_hasSoundAttributes_13 ?_
        refine lv_iload_n hx hb d_H_hasSoundAttributes_16 rfl (lv_at hl 1 rfl) ?_
        obtain ⟨y4, h5, e6, hf⟩ := gLd_e hf
        refine va_iald hx hb hK hP 25 0 gc_25 rfl h5 d_H_hasSoundAttributes_17 ?_
        rw [← e6]
        refine lv_iadd hx hb d_H_hasSoundAttributes_18 ?_
        refine lv_istore_n hx hb d_H_hasSoundAttributes_19 rfl hl (by decide) rfl (fun ls hl => ?_)
        refine lv_aload_n hx hb d_H_hasSoundAttributes_20 rfl (lv_at hl 1 rfl) ?_
        refine va_get (D := X) (ci := 3) (C := R_H) (T := T_H) (N := 8) hx hb hts u_0 hown hK hP 33 gc_33 rfl 1 (by decide) k_0 (fun _ h9 => h9) rfl d_H_hasSoundAttributes_21 ?_
        refine va_get (D := X) (ci := 0) (C := R_E) (T := T_E) (N := 14) hx hb hts u_1 hown hK hP 20 gc_20 rfl 4 (by decide) k_1 (fun _ h9 => h9) rfl d_H_hasSoundAttributes_24 ?_
        refine lv_iload_n hx hb d_H_hasSoundAttributes_27 rfl (lv_at hl 2 rfl) ?_
        obtain ⟨y7, h8, e9, hf⟩ := gLd_e hf
        refine va_iald hx hb hK hP 24 0 gc_24 rfl h8 d_H_hasSoundAttributes_28 ?_
        rw [← e9]
        refine lv_istore_n hx hb d_H_hasSoundAttributes_29 rfl hl (by decide) rfl (fun ls hl => ?_)
        exact ih1 (x1) ((y1 + y4)) (y7) σ0 _ _ _ hf hP hD hS (lv_sub hl [2, 3, 1, 0] rfl)
      · intro x1 x2 x3 σ0 H locs ls hf hP hD hS hl
        have hf : B_H_hasSoundAttributes_1 (R_H_hasSoundAttributes t) x1 x2 x3 σ0 = some (r, σ') := hf
        unfold B_H_hasSoundAttributes_1 at hf
        refine lv_iload_n hx hb d_H_hasSoundAttributes_30 rfl (lv_at hl 3 rfl) ?_
        refine lv_iload_n hx hb d_H_hasSoundAttributes_31 rfl (lv_at hl 2 rfl) ?_
        refine lv_icmp_ge (tgt := 69) hx hb d_H_hasSoundAttributes_32 rfl (fun c10 => ?_) (fun c10 => ?_)
        · skip
          rw [if_pos c10] at hf
          refine lv_iconst (v := 1) hx hb d_H_hasSoundAttributes_69 (by decide) ?_
          obtain ⟨rfl, rfl⟩ := gRt_e hf
          exact g_zret hx hb hr hlocks rfl hAe hS () rfl hP d_H_hasSoundAttributes_70
        rw [if_neg c10] at hf
        refine lv_aload_n hx hb d_H_hasSoundAttributes_35 rfl (lv_at hl 0 rfl) ?_
        refine lv_iload_n hx hb d_H_hasSoundAttributes_36 rfl (lv_at hl 1 rfl) ?_
        refine lv_aload_n hx hb d_H_hasSoundAttributes_37 rfl (lv_at hl 0 rfl) ?_
        refine va_get (D := X) (ci := 3) (C := R_H) (T := T_H) (N := 8) hx hb hts u_0 hown hK hP 33 gc_33 rfl 1 (by decide) k_0 (fun _ h9 => h9) rfl d_H_hasSoundAttributes_38 ?_
        refine va_get (D := X) (ci := 0) (C := R_E) (T := T_E) (N := 14) hx hb hts u_1 hown hK hP 20 gc_20 rfl 9 (by decide) k_3 (fun _ h9 => h9) rfl d_H_hasSoundAttributes_41 ?_
        refine lv_iload_n hx hb d_H_hasSoundAttributes_44 rfl (lv_at hl 3 rfl) ?_
        obtain ⟨y11, h12, e13, hf⟩ := gLd_e hf
        refine va_iald hx hb hK hP 28 0 gc_28 rfl h12 d_H_hasSoundAttributes_45 ?_
        rw [← e13]
        obtain ⟨y14, σ15, e16, hf⟩ := gBd_e hf
        refine g_wi (va_runV ⟨hx, hb, hml, hown, hts⟩ (m_H_mayBear e16) (cwV 2 hts (gG4 (fun _ h => List.mem_cons_of_mem _ h) tb_155 tb_156 tb_157 tb_137 tc_H_mayBear) rfl rfl rfl (by decide +kernel) ⟨Nat.le_of_ble_eq_true rfl, Nat.le_of_ble_eq_true rfl⟩) (g_preVW (q0 := 33) hE hK hP hD hS hA gc_33 rfl) rfl rfl hl.1 rfl (lv_room (Nat.le_of_ble_eq_true rfl)) d_H_hasSoundAttributes_46 ⟨Nat.zero_le _, Nat.zero_le _⟩) hD hS hA (fun _ => cW_fst) (fun y14 _ H locs hu hP hD hS => ?_)
        subst hu
        refine lv_if_eq (tgt := 61) hx hb d_H_hasSoundAttributes_49 rfl (fun c17 => ?_) (fun c17 => ?_)
        · skip
          rw [if_pos c17] at hf
          refine lv_iconst (v := 0) hx hb d_H_hasSoundAttributes_61 (by decide) ?_
          obtain ⟨rfl, rfl⟩ := gRt_e hf
          exact g_zret hx hb hr hlocks rfl hAe hS () rfl hP d_H_hasSoundAttributes_62
        rw [if_neg c17] at hf
        refine lv_aload_n hx hb d_H_hasSoundAttributes_52 rfl (lv_at hl 0 rfl) ?_
        refine lv_iload_n hx hb d_H_hasSoundAttributes_53 rfl (lv_at hl 3 rfl) ?_
        obtain ⟨y18, σ19, e20, hf⟩ := gBd_e hf
        refine g_wi (va_runV ⟨hx, hb, hml, hown, hts⟩ (m_H_countOf e20) (cwV 1 hts (gG4 (fun _ h => List.mem_cons_of_mem _ h) tb_139 tb_140 tb_141 tb_137 tc_H_countOf) rfl rfl rfl (by decide +kernel) ⟨Nat.le_of_ble_eq_true rfl, Nat.le_of_ble_eq_true rfl⟩) (g_preVW (q0 := 33) hE hK hP hD hS hA gc_33 rfl) rfl rfl hl.1 rfl (lv_room (Nat.le_of_ble_eq_true rfl)) d_H_hasSoundAttributes_54 ⟨Nat.zero_le _, Nat.zero_le _⟩) hD hS hA (fun _ => cW_fst) (fun y18 _ H locs hu hP hD hS => ?_)
        subst hu
        refine lv_iconst (v := (-1)) hx hb d_H_hasSoundAttributes_57 (by decide) ?_
        refine lv_icmp_ne (tgt := 63) hx hb d_H_hasSoundAttributes_58 rfl (fun c21 => ?_) (fun c21 => ?_)
        · skip
          rw [if_neg c21] at hf
          refine lv_iinc (k := 3) (v := (x3 + 1)) hx hb d_H_hasSoundAttributes_63 hl rfl (by rw [show Int32.ofInt (1) = (1 : Int32) by decide]) (by decide) rfl (fun ls hl => ?_)
          refine lv_goto (tgt := 30) hx hb d_H_hasSoundAttributes_66 rfl ?_
          exact ih1 (x1) (x2) ((x3 + 1)) σ19 _ _ _ hf hP hD hS (lv_sub hl [1, 2, 3, 0] rfl)
        rw [if_pos c21] at hf
        refine lv_iconst (v := 0) hx hb d_H_hasSoundAttributes_61 (by decide) ?_
        obtain ⟨rfl, rfl⟩ := gRt_e hf
        exact g_zret hx hb hr hlocks rfl hAe hS () rfl hP d_H_hasSoundAttributes_62
  exact (key gFuel).1 q1 σ _ _ _ hf hP hD hS hl

def f_H_hasSoundSize (σ : gS) (x1 : Int32) : Option (Int32 × gS) := gBd (f_H_countIn σ x1 14) (fun y1 σ2 => if y1 < 0 then (some (0, σ2)) else (if 4 < y1 then (some (0, σ2)) else (gBd (f_H_countIn σ2 x1 15) (fun y6 σ7 => if y1 < y6 then (some (0, σ7)) else (some (1, σ7))))))
set_option maxHeartbeats 4000000 in
set_option maxRecDepth 100000 in
theorem m_H_hasSoundSize {l : Launch} {X : va_G} {cI cC cZ : ClassId} {aK aV : Nat → Nat} {a : Nat → Nat} {σ σ' : gS} {r : Int32} {x1 : Int32} (hf : f_H_hasSoundSize σ x1 = some (r, σ')) {sz : Nat} : Met l y_H_hasSoundSize w_H_hasSoundSize { frames := 3, cells := 0, slots := 0, locals := 69 } (gPc X vwCl (gT cI cC cZ) aK aV (cW cI cC cZ a σ) sz [.ref (a 33), .int x1]) (gQi X vwCl (cW cI cC cZ a σ) sz (fun r' (_ : Unit) => r' = r) (fun _ => cW cI cC cZ a σ')) 0 0 (va_A (cW cI cC cZ a σ) sz) := by
  refine g_met (cc := b_H_hasSoundSize) (maxL := 3) (ret := (some .boolean)) (by decide) rfl (Nat.le_of_ble_eq_true rfl) ?_
  intro p e s m below meth c A ls hx hb hr hml hown hts hlocks hnm hsz hAe hA hP hK hD hS hl hE
  have hown : s.vm.findClass R_H = some m.cls := hown
  unfold f_H_hasSoundSize at hf
  refine lv_aload_n hx hb d_H_hasSoundSize_0 rfl (lv_at hl 0 rfl) ?_
  refine lv_iload_n hx hb d_H_hasSoundSize_1 rfl (lv_at hl 1 rfl) ?_
  refine lv_bipush (v := 14) hx hb d_H_hasSoundSize_2 (by decide) ?_
  obtain ⟨y1, σ2, e3, hf⟩ := gBd_e hf
  refine g_wi (va_runV ⟨hx, hb, hml, hown, hts⟩ (m_H_countIn e3) (cwV 2 hts (gG4 (fun _ h => List.mem_cons_of_mem _ h) tb_142 tb_143 tb_144 tb_137 tc_H_countIn) rfl rfl rfl (by decide +kernel) ⟨Nat.le_of_ble_eq_true rfl, Nat.le_of_ble_eq_true rfl⟩) (g_preVW (q0 := 33) hE hK hP hD hS hA gc_33 rfl) rfl rfl hl.1 rfl (lv_room (Nat.le_of_ble_eq_true rfl)) d_H_hasSoundSize_4 ⟨Nat.zero_le _, Nat.zero_le _⟩) hD hS hA (fun _ => cW_fst) (fun y1 _ H locs hu hP hD hS => ?_)
  subst hu
  refine lv_istore_n hx hb d_H_hasSoundSize_7 rfl hl (by decide) rfl (fun ls hl => ?_)
  refine lv_iload_n hx hb d_H_hasSoundSize_8 rfl (lv_at hl 0 rfl) ?_
  refine lv_if_lt (tgt := 32) hx hb d_H_hasSoundSize_9 rfl (fun c4 => ?_) (fun c4 => ?_)
  · skip
    rw [if_pos c4] at hf
    refine lv_iconst (v := 0) hx hb d_H_hasSoundSize_32 (by decide) ?_
    obtain ⟨rfl, rfl⟩ := gRt_e hf
    exact g_zret hx hb hr hlocks rfl hAe hS () rfl hP d_H_hasSoundSize_33
  rw [if_neg c4] at hf
  refine lv_iload_n hx hb d_H_hasSoundSize_12 rfl (lv_at hl 0 rfl) ?_
  refine lv_iconst (v := 4) hx hb d_H_hasSoundSize_13 (by decide) ?_
  refine lv_icmp_gt (tgt := 32) hx hb d_H_hasSoundSize_14 rfl (fun c5 => ?_) (fun c5 => ?_)
  · skip
    rw [if_pos c5] at hf
    refine lv_iconst (v := 0) hx hb d_H_hasSoundSize_32 (by decide) ?_
    obtain ⟨rfl, rfl⟩ := gRt_e hf
    exact g_zret hx hb hr hlocks rfl hAe hS () rfl hP d_H_hasSoundSize_33
  rw [if_neg c5] at hf
  refine lv_aload_n hx hb d_H_hasSoundSize_17 rfl (lv_at hl 1 rfl) ?_
  refine lv_iload_n hx hb d_H_hasSoundSize_18 rfl (lv_at hl 2 rfl) ?_
  refine lv_bipush (v := 15) hx hb d_H_hasSoundSize_19 (by decide) ?_
  obtain ⟨y6, σ7, e8, hf⟩ := gBd_e hf
  refine g_wi (va_runV ⟨hx, hb, hml, hown, hts⟩ (m_H_countIn e8) (cwV 2 hts (gG4 (fun _ h => List.mem_cons_of_mem _ h) tb_142 tb_143 tb_144 tb_137 tc_H_countIn) rfl rfl rfl (by decide +kernel) ⟨Nat.le_of_ble_eq_true rfl, Nat.le_of_ble_eq_true rfl⟩) (g_preVW (q0 := 33) hE hK hP hD hS hA gc_33 rfl) rfl rfl hl.1 rfl (lv_room (Nat.le_of_ble_eq_true rfl)) d_H_hasSoundSize_21 ⟨Nat.zero_le _, Nat.zero_le _⟩) hD hS hA (fun _ => cW_fst) (fun y6 _ H locs hu hP hD hS => ?_)
  subst hu
  refine lv_iload_n hx hb d_H_hasSoundSize_24 rfl (lv_at hl 0 rfl) ?_
  refine lv_icmp_gt (tgt := 32) hx hb d_H_hasSoundSize_25 rfl (fun c9 => ?_) (fun c9 => ?_)
  · skip
    rw [if_pos c9] at hf
    refine lv_iconst (v := 0) hx hb d_H_hasSoundSize_32 (by decide) ?_
    obtain ⟨rfl, rfl⟩ := gRt_e hf
    exact g_zret hx hb hr hlocks rfl hAe hS () rfl hP d_H_hasSoundSize_33
  rw [if_neg c9] at hf
  refine lv_iconst (v := 1) hx hb d_H_hasSoundSize_28 (by decide) ?_
  refine lv_goto (tgt := 33) hx hb d_H_hasSoundSize_29 rfl ?_
  obtain ⟨rfl, rfl⟩ := gRt_e hf
  exact g_zret hx hb hr hlocks rfl hAe hS () rfl hP d_H_hasSoundSize_33

def B_H_numberIn_0 (rec : Nat → List Int32 → List Int64 → gS → Option (Int64 × gS)) (x1 : Int32) (σ0 : gS) : Option (Int64 × gS) := gLd σ0 26 533 x1 (fun y1 => gLd σ0 27 533 x1 (fun y4 => if (y1 + y4) ≤ y1 then (rec 1 [y1, (y1 + y4)] [] σ0) else (gLd σ0 31 1600 y1 (fun y8 => if y8 = 45 then (rec 2 [y1, (y1 + y4), 1] [] σ0) else (rec 1 [y1, (y1 + y4)] [] σ0)))))
def B_H_numberIn_1 (rec : Nat → List Int32 → List Int64 → gS → Option (Int64 × gS)) (x2 : Int32) (x3 : Int32) (σ0 : gS) : Option (Int64 × gS) := rec 2 [x2, x3, 0] [] σ0
def B_H_numberIn_2 (rec : Nat → List Int32 → List Int64 → gS → Option (Int64 × gS)) (x2 : Int32) (x3 : Int32) (z0 : Int32) (σ0 : gS) : Option (Int64 × gS) := if z0 = 0 then (rec 3 [x2, x3, z0] [] σ0) else (rec 3 [(x2 + 1), x3, z0] [] σ0)
def B_H_numberIn_3 (rec : Nat → List Int32 → List Int64 → gS → Option (Int64 × gS)) (x2 : Int32) (x3 : Int32) (x4 : Int32) (σ0 : gS) : Option (Int64 × gS) := if x3 ≤ x2 then (some (1099511627776, σ0)) else (if (x3 - x2) ≤ 10 then (rec 4 [x3, x4, x2] [0] σ0) else (some (1099511627776, σ0)))
def B_H_numberIn_4 (rec : Nat → List Int32 → List Int64 → gS → Option (Int64 × gS)) (x3 : Int32) (x4 : Int32) (x7 : Int32) (x5 : Int64) (σ0 : gS) : Option (Int64 × gS) := if x3 ≤ x7 then (if x4 = 0 then (rec 5 [] [x5] σ0) else (rec 5 [] [(-x5)] σ0)) else (gLd σ0 31 1600 x7 (fun y17 => gBd (f_O_isDigit σ0 y17) (fun y20 σ21 => if y20 = 0 then (some (1099511627776, σ21)) else (gLd σ21 31 1600 x7 (fun y24 => rec 4 [x3, x4, (x7 + 1)] [(((x5 * 10) + y24.toInt64) - 48)] σ21)))))
def B_H_numberIn_5 (rec : Nat → List Int32 → List Int64 → gS → Option (Int64 × gS)) (z0 : Int64) (σ0 : gS) : Option (Int64 × gS) := if (lg_cmp z0 z0.toInt32.toInt64) = 0 then (some (z0, σ0)) else (some (1099511627776, σ0))
def S_H_numberIn (rec : Nat → List Int32 → List Int64 → gS → Option (Int64 × gS)) (k : Nat) (l : List Int32) (w : List Int64) (σ0 : gS) : Option (Int64 × gS) := match k, l, w with
  | 0, [x1], [] => B_H_numberIn_0 rec x1 σ0
  | 1, [x2, x3], [] => B_H_numberIn_1 rec x2 x3 σ0
  | 2, [x2, x3, z0], [] => B_H_numberIn_2 rec x2 x3 z0 σ0
  | 3, [x2, x3, x4], [] => B_H_numberIn_3 rec x2 x3 x4 σ0
  | 4, [x3, x4, x7], [x5] => B_H_numberIn_4 rec x3 x4 x7 x5 σ0
  | 5, [], [z0] => B_H_numberIn_5 rec z0 σ0
  | _, _, _ => none
def R_H_numberIn : Nat → Nat → List Int32 → List Int64 → gS → Option (Int64 × gS)
  | 0 => fun _ _ _ _ => none
  | t + 1 => fun k l w σ0 => S_H_numberIn (R_H_numberIn t) k l w σ0
def f_H_numberIn (σ : gS) (x1 : Int32) : Option (Int64 × gS) := R_H_numberIn gFuel 0 [x1] [] σ
set_option maxHeartbeats 4000000 in
set_option maxRecDepth 100000 in
theorem m_H_numberIn {l : Launch} {X : va_G} {cI cC cZ : ClassId} {aK aV : Nat → Nat} {a : Nat → Nat} {σ σ' : gS} {r : Int64} {q1 : Int32} (hf : f_H_numberIn σ q1 = some (r, σ')) {sz : Nat} : Met l y_H_numberIn w_H_numberIn { frames := 1, cells := 0, slots := 0, locals := 20 } (gPc X vwCl (gT cI cC cZ) aK aV (cW cI cC cZ a σ) sz [.ref (a 33), .int q1]) (gQl X vwCl (cW cI cC cZ a σ) sz (fun r' (_ : Unit) => r' = r) (fun _ => cW cI cC cZ a σ')) 0 0 (va_A (cW cI cC cZ a σ) sz) := by
  refine g_met (cc := b_H_numberIn) (maxL := 8) (ret := (some .long)) (by decide) rfl (Nat.le_of_ble_eq_true rfl) ?_
  intro p e s m below meth c A ls hx hb hr hml hown hts hlocks hnm hsz hAe hA hP hK hD hS hl hE
  have hown : s.vm.findClass R_H = some m.cls := hown
  have u_0 : ∀ w ∈ u_ws R_H T_H 8, w ∈ w_H_numberIn := fun w h => List.mem_cons_of_mem _ (tu_H w h)
  have u_1 : ∀ w ∈ u_ws R_E T_E 14, w ∈ w_H_numberIn := fun w h => List.mem_cons_of_mem _ (tu_E w h)
  have k_0 := hts (.fieldLink R_H 32 "GraphPages$GraphReader" "elements" "LGraphPages$Elements;") (List.mem_cons_of_mem _ tb_130)
  have k_1 := hts (.fieldLink R_H 158 "GraphPages$Elements" "textStarts" "[I") (List.mem_cons_of_mem _ tb_160)
  have k_2 := hts (.fieldLink R_H 99 "GraphPages$Elements" "textCounts" "[I") (List.mem_cons_of_mem _ tb_150)
  have k_3 := hts (.fieldLink R_H 154 "GraphPages$Elements" "text" "[C") (List.mem_cons_of_mem _ tb_161)
  have k_4 := hts (.constantLong R_H 118 1099511627776) (List.mem_cons_of_mem _ tb_162)
  have k_5 := hts (.constantLong R_H 190 10) (List.mem_cons_of_mem _ tb_163)
  have k_6 := hts (.constantLong R_H 192 48) (List.mem_cons_of_mem _ tb_164)
  unfold f_H_numberIn at hf
  have key : ∀ t : Nat, (∀ (x1 : Int32) (σ0 : gS) (H : Heap) (locs : List Loc) (ls : Array Slot), R_H_numberIn t 0 [x1] [] σ0 = some (r, σ') → va_P X vwCl (cW cI cC cZ a σ0) H → va_D A (cW cI cC cZ a σ0) → va_S A s.heap H locs → lv_has ls 8 [(0, .ref (a 33)), (1, .int x1)] → W p l e (headSpec w_H_numberIn { frames := 1, cells := 0, slots := 0, locals := 20 }).room s m [.ref (a 33), .int q1].toArray below meth c H locs 0 0 (MQ below (gQl X vwCl (cW cI cC cZ a σ) sz (fun r' (_ : Unit) => r' = r) (fun _ => cW cI cC cZ a σ')) [.ref (a 33), .int q1].toArray s 0 0 (va_A (cW cI cC cZ a σ) sz)) (F0 m 0 ls [])) ∧ (∀ (x2 : Int32) (x3 : Int32) (σ0 : gS) (H : Heap) (locs : List Loc) (ls : Array Slot), R_H_numberIn t 1 [x2, x3] [] σ0 = some (r, σ') → va_P X vwCl (cW cI cC cZ a σ0) H → va_D A (cW cI cC cZ a σ0) → va_S A s.heap H locs → lv_has ls 8 [(0, .ref (a 33)), (2, .int x2), (3, .int x3)] → W p l e (headSpec w_H_numberIn { frames := 1, cells := 0, slots := 0, locals := 20 }).room s m [.ref (a 33), .int q1].toArray below meth c H locs 0 0 (MQ below (gQl X vwCl (cW cI cC cZ a σ) sz (fun r' (_ : Unit) => r' = r) (fun _ => cW cI cC cZ a σ')) [.ref (a 33), .int q1].toArray s 0 0 (va_A (cW cI cC cZ a σ) sz)) (F0 m 45 ls [])) ∧ (∀ (x2 : Int32) (x3 : Int32) (z0 : Int32) (σ0 : gS) (H : Heap) (locs : List Loc) (ls : Array Slot), R_H_numberIn t 2 [x2, x3, z0] [] σ0 = some (r, σ') → va_P X vwCl (cW cI cC cZ a σ0) H → va_D A (cW cI cC cZ a σ0) → va_S A s.heap H locs → lv_has ls 8 [(0, .ref (a 33)), (2, .int x2), (3, .int x3)] → W p l e (headSpec w_H_numberIn { frames := 1, cells := 0, slots := 0, locals := 20 }).room s m [.ref (a 33), .int q1].toArray below meth c H locs 0 0 (MQ below (gQl X vwCl (cW cI cC cZ a σ) sz (fun r' (_ : Unit) => r' = r) (fun _ => cW cI cC cZ a σ')) [.ref (a 33), .int q1].toArray s 0 0 (va_A (cW cI cC cZ a σ) sz)) (F0 m 46 ls [.int z0])) ∧ (∀ (x2 : Int32) (x3 : Int32) (x4 : Int32) (σ0 : gS) (H : Heap) (locs : List Loc) (ls : Array Slot), R_H_numberIn t 3 [x2, x3, x4] [] σ0 = some (r, σ') → va_P X vwCl (cW cI cC cZ a σ0) H → va_D A (cW cI cC cZ a σ0) → va_S A s.heap H locs → lv_has ls 8 [(0, .ref (a 33)), (2, .int x2), (3, .int x3), (4, .int x4)] → W p l e (headSpec w_H_numberIn { frames := 1, cells := 0, slots := 0, locals := 20 }).room s m [.ref (a 33), .int q1].toArray below meth c H locs 0 0 (MQ below (gQl X vwCl (cW cI cC cZ a σ) sz (fun r' (_ : Unit) => r' = r) (fun _ => cW cI cC cZ a σ')) [.ref (a 33), .int q1].toArray s 0 0 (va_A (cW cI cC cZ a σ) sz)) (F0 m 56 ls [])) ∧ (∀ (x3 : Int32) (x4 : Int32) (x7 : Int32) (x5 : Int64) (σ0 : gS) (H : Heap) (locs : List Loc) (ls : Array Slot), R_H_numberIn t 4 [x3, x4, x7] [x5] σ0 = some (r, σ') → va_P X vwCl (cW cI cC cZ a σ0) H → va_D A (cW cI cC cZ a σ0) → va_S A s.heap H locs → lv_has ls 8 [(0, .ref (a 33)), (3, .int x3), (4, .int x4), (5, .long x5), (7, .int x7)] → W p l e (headSpec w_H_numberIn { frames := 1, cells := 0, slots := 0, locals := 20 }).room s m [.ref (a 33), .int q1].toArray below meth c H locs 0 0 (MQ below (gQl X vwCl (cW cI cC cZ a σ) sz (fun r' (_ : Unit) => r' = r) (fun _ => cW cI cC cZ a σ')) [.ref (a 33), .int q1].toArray s 0 0 (va_A (cW cI cC cZ a σ) sz)) (F0 m 79 ls [])) ∧ (∀ (z0 : Int64) (σ0 : gS) (H : Heap) (locs : List Loc) (ls : Array Slot), R_H_numberIn t 5 [] [z0] σ0 = some (r, σ') → va_P X vwCl (cW cI cC cZ a σ0) H → va_D A (cW cI cC cZ a σ0) → va_S A s.heap H locs → lv_has ls 8 [] → W p l e (headSpec w_H_numberIn { frames := 1, cells := 0, slots := 0, locals := 20 }).room s m [.ref (a 33), .int q1].toArray below meth c H locs 0 0 (MQ below (gQl X vwCl (cW cI cC cZ a σ) sz (fun r' (_ : Unit) => r' = r) (fun _ => cW cI cC cZ a σ')) [.ref (a 33), .int q1].toArray s 0 0 (va_A (cW cI cC cZ a σ) sz)) (F0 m 148 ls [.long z0])) := by
    intro t
    induction t with
    | zero => exact ⟨fun _ _ _ _ _ hf => (by have hf : (none : Option (Int64 × gS)) = some (r, σ') := hf; cases hf), fun _ _ _ _ _ _ hf => (by have hf : (none : Option (Int64 × gS)) = some (r, σ') := hf; cases hf), fun _ _ _ _ _ _ _ hf => (by have hf : (none : Option (Int64 × gS)) = some (r, σ') := hf; cases hf), fun _ _ _ _ _ _ _ hf => (by have hf : (none : Option (Int64 × gS)) = some (r, σ') := hf; cases hf), fun _ _ _ _ _ _ _ _ hf => (by have hf : (none : Option (Int64 × gS)) = some (r, σ') := hf; cases hf), fun _ _ _ _ _ hf => (by have hf : (none : Option (Int64 × gS)) = some (r, σ') := hf; cases hf)⟩
    | succ t ih =>
      obtain ⟨ih0, ih1, ih2, ih3, ih4, ih5⟩ := ih
      refine ⟨?_, ?_, ?_, ?_, ?_, ?_⟩
      · intro x1 σ0 H locs ls hf hP hD hS hl
        have hf : B_H_numberIn_0 (R_H_numberIn t) x1 σ0 = some (r, σ') := hf
        unfold B_H_numberIn_0 at hf
        refine lv_aload_n hx hb d_H_numberIn_0 rfl (lv_at hl 0 rfl) ?_
        refine va_get (D := X) (ci := 3) (C := R_H) (T := T_H) (N := 8) hx hb hts u_0 hown hK hP 33 gc_33 rfl 1 (by decide) k_0 (fun _ h9 => h9) rfl d_H_numberIn_1 ?_
        refine va_get (D := X) (ci := 0) (C := R_E) (T := T_E) (N := 14) hx hb hts u_1 hown hK hP 20 gc_20 rfl 6 (by decide) k_1 (fun _ h9 => h9) rfl d_H_numberIn_4 ?_
        refine lv_iload_n hx hb d_H_numberIn_7 rfl (lv_at hl 1 rfl) ?_
        obtain ⟨y1, h2, e3, hf⟩ := gLd_e hf
        refine va_iald hx hb hK hP 26 0 gc_26 rfl h2 d_H_numberIn_8 ?_
        rw [← e3]
        refine lv_istore_n hx hb d_H_numberIn_9 rfl hl (by decide) rfl (fun ls hl => ?_)
        refine lv_iload_n hx hb d_H_numberIn_10 rfl (lv_at hl 0 rfl) ?_
        refine lv_aload_n hx hb d_H_numberIn_11 rfl (lv_at hl 1 rfl) ?_
        refine va_get (D := X) (ci := 3) (C := R_H) (T := T_H) (N := 8) hx hb hts u_0 hown hK hP 33 gc_33 rfl 1 (by decide) k_0 (fun _ h9 => h9) rfl d_H_numberIn_12 ?_
        refine va_get (D := X) (ci := 0) (C := R_E) (T := T_E) (N := 14) hx hb hts u_1 hown hK hP 20 gc_20 rfl 7 (by decide) k_2 (fun _ h9 => h9) rfl d_H_numberIn_15 ?_
        refine lv_iload_n hx hb d_H_numberIn_18 rfl (lv_at hl 2 rfl) ?_
        obtain ⟨y4, h5, e6, hf⟩ := gLd_e hf
        refine va_iald hx hb hK hP 27 0 gc_27 rfl h5 d_H_numberIn_19 ?_
        rw [← e6]
        refine lv_iadd hx hb d_H_numberIn_20 ?_
        refine lv_istore_n hx hb d_H_numberIn_21 rfl hl (by decide) rfl (fun ls hl => ?_)
        refine lv_iload_n hx hb d_H_numberIn_22 rfl (lv_at hl 1 rfl) ?_
        refine lv_iload_n hx hb d_H_numberIn_23 rfl (lv_at hl 0 rfl) ?_
        refine lv_icmp_ge (tgt := 45) hx hb d_H_numberIn_24 rfl (fun c7 => ?_) (fun c7 => ?_)
        · skip
          rw [if_pos c7] at hf
          exact ih1 (y1) ((y1 + y4)) σ0 _ _ _ hf hP hD hS (lv_sub hl [2, 1, 0] rfl)
        rw [if_neg c7] at hf
        refine lv_aload_n hx hb d_H_numberIn_27 rfl (lv_at hl 2 rfl) ?_
        refine va_get (D := X) (ci := 3) (C := R_H) (T := T_H) (N := 8) hx hb hts u_0 hown hK hP 33 gc_33 rfl 1 (by decide) k_0 (fun _ h9 => h9) rfl d_H_numberIn_28 ?_
        refine va_get (D := X) (ci := 0) (C := R_E) (T := T_E) (N := 14) hx hb hts u_1 hown hK hP 20 gc_20 rfl 13 (by decide) k_3 (fun _ h9 => h9) rfl d_H_numberIn_31 ?_
        refine lv_iload_n hx hb d_H_numberIn_34 rfl (lv_at hl 1 rfl) ?_
        obtain ⟨y8, h9, e10, hf⟩ := gLd_e hf
        refine va_cald hx hb hK hP 31 1 gc_31 rfl h9 d_H_numberIn_35 ?_
        rw [← e10]
        refine lv_bipush (v := 45) hx hb d_H_numberIn_36 (by decide) ?_
        refine lv_icmp_ne (tgt := 45) hx hb d_H_numberIn_38 rfl (fun c11 => ?_) (fun c11 => ?_)
        · skip
          rw [if_neg c11] at hf
          exact ih1 (y1) ((y1 + y4)) σ0 _ _ _ hf hP hD hS (lv_sub hl [2, 1, 0] rfl)
        rw [if_pos c11] at hf
        refine lv_iconst (v := 1) hx hb d_H_numberIn_41 (by decide) ?_
        refine lv_goto (tgt := 46) hx hb d_H_numberIn_42 rfl ?_
        exact ih2 (y1) ((y1 + y4)) (1) σ0 _ _ _ hf hP hD hS (lv_sub hl [2, 1, 0] rfl)
      · intro x2 x3 σ0 H locs ls hf hP hD hS hl
        have hf : B_H_numberIn_1 (R_H_numberIn t) x2 x3 σ0 = some (r, σ') := hf
        unfold B_H_numberIn_1 at hf
        refine lv_iconst (v := 0) hx hb d_H_numberIn_45 (by decide) ?_
        exact ih2 (x2) (x3) (0) σ0 _ _ _ hf hP hD hS (lv_sub hl [0, 1, 2] rfl)
      · intro x2 x3 z0 σ0 H locs ls hf hP hD hS hl
        have hf : B_H_numberIn_2 (R_H_numberIn t) x2 x3 z0 σ0 = some (r, σ') := hf
        unfold B_H_numberIn_2 at hf
        refine lv_istore hx hb d_H_numberIn_46 hl (by decide) rfl (fun ls hl => ?_)
        refine lv_iload hx hb d_H_numberIn_48 (lv_at hl 0 rfl) ?_
        refine lv_if_eq (tgt := 56) hx hb d_H_numberIn_50 rfl (fun c12 => ?_) (fun c12 => ?_)
        · skip
          rw [if_pos c12] at hf
          exact ih3 (x2) (x3) (z0) σ0 _ _ _ hf hP hD hS (lv_sub hl [1, 2, 3, 0] rfl)
        rw [if_neg c12] at hf
        refine lv_iinc (k := 2) (v := (x2 + 1)) hx hb d_H_numberIn_53 hl rfl (by rw [show Int32.ofInt (1) = (1 : Int32) by decide]) (by decide) rfl (fun ls hl => ?_)
        exact ih3 ((x2 + 1)) (x3) (z0) σ0 _ _ _ hf hP hD hS (lv_sub hl [2, 0, 3, 1] rfl)
      · intro x2 x3 x4 σ0 H locs ls hf hP hD hS hl
        have hf : B_H_numberIn_3 (R_H_numberIn t) x2 x3 x4 σ0 = some (r, σ') := hf
        unfold B_H_numberIn_3 at hf
        refine lv_iload_n hx hb d_H_numberIn_56 rfl (lv_at hl 1 rfl) ?_
        refine lv_iload_n hx hb d_H_numberIn_57 rfl (lv_at hl 2 rfl) ?_
        refine lv_icmp_ge (tgt := 69) hx hb d_H_numberIn_58 rfl (fun c13 => ?_) (fun c13 => ?_)
        · skip
          rw [if_pos c13] at hf
          refine lv_ldc2 (v := 1099511627776) hx hb hown k_4 d_H_numberIn_69 ?_
          obtain ⟨rfl, rfl⟩ := gRt_e hf
          exact g_lret hx hb hr hlocks hAe hS () rfl hP d_H_numberIn_72
        rw [if_neg c13] at hf
        refine lv_iload_n hx hb d_H_numberIn_61 rfl (lv_at hl 2 rfl) ?_
        refine lv_iload_n hx hb d_H_numberIn_62 rfl (lv_at hl 1 rfl) ?_
        refine lv_isub hx hb d_H_numberIn_63 ?_
        refine lv_bipush (v := 10) hx hb d_H_numberIn_64 (by decide) ?_
        refine lv_icmp_le (tgt := 73) hx hb d_H_numberIn_66 rfl (fun c14 => ?_) (fun c14 => ?_)
        · skip
          rw [if_pos c14] at hf
          refine lv_lconst (v := 0) hx hb d_H_numberIn_73 (by decide) ?_
          refine lv_lstore hx hb d_H_numberIn_74 hl (by decide) rfl (fun ls hl => ?_)
          refine lv_iload_n hx hb d_H_numberIn_76 rfl (lv_at hl 2 rfl) ?_
          refine lv_istore hx hb d_H_numberIn_77 hl (by decide) rfl (fun ls hl => ?_)
          exact ih4 (x3) (x4) (x2) (0) σ0 _ _ _ hf hP hD hS (lv_sub hl [2, 4, 5, 1, 0] rfl)
        rw [if_neg c14] at hf
        refine lv_ldc2 (v := 1099511627776) hx hb hown k_4 d_H_numberIn_69 ?_
        obtain ⟨rfl, rfl⟩ := gRt_e hf
        exact g_lret hx hb hr hlocks hAe hS () rfl hP d_H_numberIn_72
      · intro x3 x4 x7 x5 σ0 H locs ls hf hP hD hS hl
        have hf : B_H_numberIn_4 (R_H_numberIn t) x3 x4 x7 x5 σ0 = some (r, σ') := hf
        unfold B_H_numberIn_4 at hf
        refine lv_iload hx hb d_H_numberIn_79 (lv_at hl 4 rfl) ?_
        refine lv_iload_n hx hb d_H_numberIn_81 rfl (lv_at hl 1 rfl) ?_
        refine lv_icmp_ge (tgt := 135) hx hb d_H_numberIn_82 rfl (fun c15 => ?_) (fun c15 => ?_)
        · skip
          rw [if_pos c15] at hf
          refine lv_iload hx hb d_H_numberIn_135 (lv_at hl 2 rfl) ?_
          refine lv_if_eq (tgt := 146) hx hb d_H_numberIn_137 rfl (fun c16 => ?_) (fun c16 => ?_)
          · skip
            rw [if_pos c16] at hf
            refine lv_lload hx hb d_H_numberIn_146 (lv_at hl 3 rfl) ?_
            exact ih5 (x5) σ0 _ _ _ hf hP hD hS (lv_sub hl [] rfl)
          rw [if_neg c16] at hf
          refine lv_lload hx hb d_H_numberIn_140 (lv_at hl 3 rfl) ?_
          refine lv_lneg hx hb d_H_numberIn_142 ?_
          refine lv_goto (tgt := 148) hx hb d_H_numberIn_143 rfl ?_
          exact ih5 ((-x5)) σ0 _ _ _ hf hP hD hS (lv_sub hl [] rfl)
        rw [if_neg c15] at hf
        refine lv_aload_n hx hb d_H_numberIn_85 rfl (lv_at hl 0 rfl) ?_
        refine va_get (D := X) (ci := 3) (C := R_H) (T := T_H) (N := 8) hx hb hts u_0 hown hK hP 33 gc_33 rfl 1 (by decide) k_0 (fun _ h9 => h9) rfl d_H_numberIn_86 ?_
        refine va_get (D := X) (ci := 0) (C := R_E) (T := T_E) (N := 14) hx hb hts u_1 hown hK hP 20 gc_20 rfl 13 (by decide) k_3 (fun _ h9 => h9) rfl d_H_numberIn_89 ?_
        refine lv_iload hx hb d_H_numberIn_92 (lv_at hl 4 rfl) ?_
        obtain ⟨y17, h18, e19, hf⟩ := gLd_e hf
        refine va_cald hx hb hK hP 31 1 gc_31 rfl h18 d_H_numberIn_94 ?_
        rw [← e19]
        obtain ⟨y20, σ21, e22, hf⟩ := gBd_e hf
        refine g_wi (va_runSN ⟨hx, hb, hml, hown, hts⟩ (m_O_isDigit e22) ⟨va_cnB 1 hts (gG (fun _ h => List.mem_cons_of_mem _ h) tc_O_isDigit) rfl rfl rfl (hE.1 (R_H, 187, y_O_isDigit, "GraphPages") (by decide +kernel)) (hts (.initialized R_O) ((fun _ h => List.mem_cons_of_mem _ h) _ tb_39)) (by decide +kernel) ⟨Nat.le_of_ble_eq_true rfl, Nat.le_of_ble_eq_true rfl⟩, (hts (.static y_O_isDigit) ((fun _ h => List.mem_cons_of_mem _ h) _ tb_75)), trivial⟩ (g_preSW hE hK hP hD hS hA) rfl rfl hl.1 rfl (lv_room (Nat.le_of_ble_eq_true rfl)) d_H_numberIn_95 ⟨Nat.zero_le _, Nat.zero_le _⟩) hD hS hA (fun _ => cW_fst) (fun y20 _ H locs hu hP hD hS => ?_)
        subst hu
        refine lv_if_ne (tgt := 105) hx hb d_H_numberIn_98 rfl (fun c23 => ?_) (fun c23 => ?_)
        · skip
          rw [if_neg c23] at hf
          refine lv_lload hx hb d_H_numberIn_105 (lv_at hl 3 rfl) ?_
          refine lv_ldc2 (v := 10) hx hb hown k_5 d_H_numberIn_107 ?_
          refine lv_lmul hx hb d_H_numberIn_110 ?_
          refine lv_aload_n hx hb d_H_numberIn_111 rfl (lv_at hl 0 rfl) ?_
          refine va_get (D := X) (ci := 3) (C := R_H) (T := T_H) (N := 8) hx hb hts u_0 hown hK hP 33 gc_33 rfl 1 (by decide) k_0 (fun _ h9 => h9) rfl d_H_numberIn_112 ?_
          refine va_get (D := X) (ci := 0) (C := R_E) (T := T_E) (N := 14) hx hb hts u_1 hown hK hP 20 gc_20 rfl 13 (by decide) k_3 (fun _ h9 => h9) rfl d_H_numberIn_115 ?_
          refine lv_iload hx hb d_H_numberIn_118 (lv_at hl 4 rfl) ?_
          obtain ⟨y24, h25, e26, hf⟩ := gLd_e hf
          refine va_cald hx hb hK hP 31 1 gc_31 rfl h25 d_H_numberIn_120 ?_
          rw [← e26]
          refine lv_i2l hx hb d_H_numberIn_121 rfl ?_
          refine lv_ladd hx hb d_H_numberIn_122 ?_
          refine lv_ldc2 (v := 48) hx hb hown k_6 d_H_numberIn_123 ?_
          refine lv_lsub hx hb d_H_numberIn_126 ?_
          refine lv_lstore hx hb d_H_numberIn_127 hl (by decide) rfl (fun ls hl => ?_)
          refine lv_iinc (k := 4) (v := (x7 + 1)) hx hb d_H_numberIn_129 hl rfl (by rw [show Int32.ofInt (1) = (1 : Int32) by decide]) (by decide) rfl (fun ls hl => ?_)
          refine lv_goto (tgt := 79) hx hb d_H_numberIn_132 rfl ?_
          exact ih4 (x3) (x4) ((x7 + 1)) ((((x5 * 10) + y24.toInt64) - 48)) σ21 _ _ _ hf hP hD hS (lv_sub hl [2, 3, 4, 1, 0] rfl)
        rw [if_pos c23] at hf
        refine lv_ldc2 (v := 1099511627776) hx hb hown k_4 d_H_numberIn_101 ?_
        obtain ⟨rfl, rfl⟩ := gRt_e hf
        exact g_lret hx hb hr hlocks hAe hS () rfl hP d_H_numberIn_104
      · intro z0 σ0 H locs ls hf hP hD hS hl
        have hf : B_H_numberIn_5 (R_H_numberIn t) z0 σ0 = some (r, σ') := hf
        unfold B_H_numberIn_5 at hf
        refine lv_lstore hx hb d_H_numberIn_148 hl (by decide) rfl (fun ls hl => ?_)
        refine lv_lload hx hb d_H_numberIn_150 (lv_at hl 0 rfl) ?_
        refine lv_lload hx hb d_H_numberIn_152 (lv_at hl 0 rfl) ?_
        refine lv_l2i hx hb d_H_numberIn_154 rfl ?_
        refine lv_i2l hx hb d_H_numberIn_155 rfl ?_
        refine W.lcmp hx hb d_H_numberIn_156 ?_
        refine lv_if_ne (tgt := 165) hx hb d_H_numberIn_157 rfl (fun c27 => ?_) (fun c27 => ?_)
        · skip
          rw [if_neg c27] at hf
          refine lv_ldc2 (v := 1099511627776) hx hb hown k_4 d_H_numberIn_165 ?_
          obtain ⟨rfl, rfl⟩ := gRt_e hf
          exact g_lret hx hb hr hlocks hAe hS () rfl hP d_H_numberIn_168
        rw [if_pos c27] at hf
        refine lv_lload hx hb d_H_numberIn_160 (lv_at hl 0 rfl) ?_
        refine lv_goto (tgt := 168) hx hb d_H_numberIn_162 rfl ?_
        obtain ⟨rfl, rfl⟩ := gRt_e hf
        exact g_lret hx hb hr hlocks hAe hS () rfl hP d_H_numberIn_168
  exact (key gFuel).1 q1 σ _ _ _ hf hP hD hS hl

def f_H_isSound (σ : gS) (x1 : Int32) : Option (Int32 × gS) := gBd (f_H_hasSoundAttributes σ x1) (fun y1 σ2 => if y1 = 0 then (some (0, σ2)) else (gLd σ2 21 533 x1 (fun y5 => if y5 = 1 then (gLd σ2 27 533 x1 (fun y9 => if y9 = 0 then (gBd (f_H_hasSoundSize σ2 x1) (fun y13 σ14 => if y13 = 0 then (some (0, σ14)) else (some (1, σ14)))) else (some (0, σ2)))) else (if y5 = 2 then (some (0, σ2)) else (if y5 = 3 then (some (0, σ2)) else (if y5 = 4 then (some (0, σ2)) else (if y5 = 5 then (some (0, σ2)) else (if y5 = 6 then (some (0, σ2)) else (if y5 = 7 then (some (0, σ2)) else (if y5 = 8 then (some (0, σ2)) else (if y5 = 9 then (gLd σ2 23 533 x1 (fun y25 => if y25 = 0 then (gBd (f_H_numberIn σ2 x1) (fun y29 σ30 => if (lg_cmp y29 1099511627776) = 0 then (some (0, σ30)) else (some (1, σ30)))) else (some (0, σ2)))) else (if y5 = 10 then (some (0, σ2)) else (if y5 = 11 then (some (0, σ2)) else (if y5 = 12 then (some (0, σ2)) else (if y5 = 13 then (some (0, σ2)) else (if y5 = 14 then (gBd (f_E_isEmpty σ2 x1) (fun y38 σ39 => gNr .boolean y38 (some (y38, σ39)))) else (if y5 = 15 then (some (0, σ2)) else (if y5 = 16 then (gLd σ2 27 533 x1 (fun y44 => if y44 = 0 then (gLd σ2 23 533 x1 (fun y48 => if y48 = 2 then (some (1, σ2)) else (some (0, σ2)))) else (some (0, σ2)))) else (if y5 = 17 then (some (0, σ2)) else (if y5 = 18 then (gBd (f_E_isEmpty σ2 x1) (fun y54 σ55 => if y54 = 0 then (some (0, σ55)) else (gBd (f_E_findAttribute σ55 x1 8) (fun y58 σ59 => if y58 = (-1) then (some (0, σ59)) else (some (1, σ59)))))) else (if y5 = 19 then (some (0, σ2)) else (if y5 = 20 then (gLd σ2 23 533 x1 (fun y64 => if y64 = 0 then (gLd σ2 27 533 x1 (fun y68 => if 6 < y68 then (some (0, σ2)) else (some (1, σ2)))) else (some (0, σ2)))) else (some (0, σ2))))))))))))))))))))))))
set_option maxHeartbeats 4000000 in
set_option maxRecDepth 100000 in
theorem m_H_isSound {l : Launch} {X : va_G} {cI cC cZ : ClassId} {aK aV : Nat → Nat} {a : Nat → Nat} {σ σ' : gS} {r : Int32} {x1 : Int32} (hf : f_H_isSound σ x1 = some (r, σ')) {sz : Nat} : Met l y_H_isSound w_H_isSound { frames := 4, cells := 0, slots := 0, locals := 91 } (gPc X vwCl (gT cI cC cZ) aK aV (cW cI cC cZ a σ) sz [.ref (a 33), .int x1]) (gQi X vwCl (cW cI cC cZ a σ) sz (fun r' (_ : Unit) => r' = r) (fun _ => cW cI cC cZ a σ')) 0 0 (va_A (cW cI cC cZ a σ) sz) := by
  refine g_met (cc := b_H_isSound) (maxL := 2) (ret := (some .boolean)) (by decide) rfl (Nat.le_of_ble_eq_true rfl) ?_
  intro p e s m below meth c A ls hx hb hr hml hown hts hlocks hnm hsz hAe hA hP hK hD hS hl hE
  have hown : s.vm.findClass R_H = some m.cls := hown
  have u_0 : ∀ w ∈ u_ws R_H T_H 8, w ∈ w_H_isSound := fun w h => List.mem_cons_of_mem _ (tu_H w h)
  have u_1 : ∀ w ∈ u_ws R_E T_E 14, w ∈ w_H_isSound := fun w h => List.mem_cons_of_mem _ (tu_E w h)
  have k_0 := hts (.fieldLink R_H 32 "GraphPages$GraphReader" "elements" "LGraphPages$Elements;") (List.mem_cons_of_mem _ tb_130)
  have k_1 := hts (.fieldLink R_H 40 "GraphPages$Elements" "names" "[I") (List.mem_cons_of_mem _ tb_138)
  have k_2 := hts (.fieldLink R_H 99 "GraphPages$Elements" "textCounts" "[I") (List.mem_cons_of_mem _ tb_150)
  have k_3 := hts (.fieldLink R_H 102 "GraphPages$Elements" "children" "[I") (List.mem_cons_of_mem _ tb_151)
  have k_4 := hts (.constantLong R_H 118 1099511627776) (List.mem_cons_of_mem _ tb_162)
  unfold f_H_isSound at hf
  refine lv_aload_n hx hb d_H_isSound_0 rfl (lv_at hl 0 rfl) ?_
  refine lv_iload_n hx hb d_H_isSound_1 rfl (lv_at hl 1 rfl) ?_
  obtain ⟨y1, σ2, e3, hf⟩ := gBd_e hf
  refine g_wi (va_runV ⟨hx, hb, hml, hown, hts⟩ (m_H_hasSoundAttributes e3) (cwV 1 hts (gG4 (fun _ h => List.mem_cons_of_mem _ h) tb_165 tb_166 tb_167 tb_137 tc_H_hasSoundAttributes) rfl rfl rfl (by decide +kernel) ⟨Nat.le_of_ble_eq_true rfl, Nat.le_of_ble_eq_true rfl⟩) (g_preVW (q0 := 33) hE hK hP hD hS hA gc_33 rfl) rfl rfl hl.1 rfl (lv_room (Nat.le_of_ble_eq_true rfl)) d_H_isSound_2 ⟨Nat.zero_le _, Nat.zero_le _⟩) hD hS hA (fun _ => cW_fst) (fun y1 _ H locs hu hP hD hS => ?_)
  subst hu
  refine lv_if_ne (tgt := 10) hx hb d_H_isSound_5 rfl (fun c4 => ?_) (fun c4 => ?_)
  · skip
    rw [if_neg c4] at hf
    refine lv_aload_n hx hb d_H_isSound_10 rfl (lv_at hl 0 rfl) ?_
    refine va_get (D := X) (ci := 3) (C := R_H) (T := T_H) (N := 8) hx hb hts u_0 hown hK hP 33 gc_33 rfl 1 (by decide) k_0 (fun _ h9 => h9) rfl d_H_isSound_11 ?_
    refine va_get (D := X) (ci := 0) (C := R_E) (T := T_E) (N := 14) hx hb hts u_1 hown hK hP 20 gc_20 rfl 1 (by decide) k_1 (fun _ h9 => h9) rfl d_H_isSound_14 ?_
    refine lv_iload_n hx hb d_H_isSound_17 rfl (lv_at hl 1 rfl) ?_
    obtain ⟨y5, h6, e7, hf⟩ := gLd_e hf
    refine va_iald hx hb hK hP 21 0 gc_21 rfl h6 d_H_isSound_18 ?_
    rw [← e7]
    by_cases c8 : y5 = 1
    · skip
      rw [if_pos c8] at hf
      refine lv_tableIn (tgt := 143) hx hb d_H_isSound_19 (by rw [c8]; decide) (by rw [c8]; decide) (by rw [c8]; rfl) rfl ?_
      refine lv_aload_n hx hb d_H_isSound_143 rfl (lv_at hl 0 rfl) ?_
      refine va_get (D := X) (ci := 3) (C := R_H) (T := T_H) (N := 8) hx hb hts u_0 hown hK hP 33 gc_33 rfl 1 (by decide) k_0 (fun _ h9 => h9) rfl d_H_isSound_144 ?_
      refine va_get (D := X) (ci := 0) (C := R_E) (T := T_E) (N := 14) hx hb hts u_1 hown hK hP 20 gc_20 rfl 7 (by decide) k_2 (fun _ h9 => h9) rfl d_H_isSound_147 ?_
      refine lv_iload_n hx hb d_H_isSound_150 rfl (lv_at hl 1 rfl) ?_
      obtain ⟨y9, h10, e11, hf⟩ := gLd_e hf
      refine va_iald hx hb hK hP 27 0 gc_27 rfl h10 d_H_isSound_151 ?_
      rw [← e11]
      refine lv_if_ne (tgt := 167) hx hb d_H_isSound_152 rfl (fun c12 => ?_) (fun c12 => ?_)
      · skip
        rw [if_neg c12] at hf
        refine lv_iconst (v := 0) hx hb d_H_isSound_167 (by decide) ?_
        obtain ⟨rfl, rfl⟩ := gRt_e hf
        exact g_zret hx hb hr hlocks rfl hAe hS () rfl hP d_H_isSound_168
      rw [if_pos c12] at hf
      refine lv_aload_n hx hb d_H_isSound_155 rfl (lv_at hl 0 rfl) ?_
      refine lv_iload_n hx hb d_H_isSound_156 rfl (lv_at hl 1 rfl) ?_
      obtain ⟨y13, σ14, e15, hf⟩ := gBd_e hf
      refine g_wi (va_runV ⟨hx, hb, hml, hown, hts⟩ (m_H_hasSoundSize e15) (cwV 1 hts (gG4 (fun _ h => List.mem_cons_of_mem _ h) tb_168 tb_169 tb_170 tb_137 tc_H_hasSoundSize) rfl rfl rfl (by decide +kernel) ⟨Nat.le_of_ble_eq_true rfl, Nat.le_of_ble_eq_true rfl⟩) (g_preVW (q0 := 33) hE hK hP hD hS hA gc_33 rfl) rfl rfl hl.1 rfl (lv_room (Nat.le_of_ble_eq_true rfl)) d_H_isSound_157 ⟨Nat.zero_le _, Nat.zero_le _⟩) hD hS hA (fun _ => cW_fst) (fun y13 _ H locs hu hP hD hS => ?_)
      subst hu
      refine lv_if_eq (tgt := 167) hx hb d_H_isSound_160 rfl (fun c16 => ?_) (fun c16 => ?_)
      · skip
        rw [if_pos c16] at hf
        refine lv_iconst (v := 0) hx hb d_H_isSound_167 (by decide) ?_
        obtain ⟨rfl, rfl⟩ := gRt_e hf
        exact g_zret hx hb hr hlocks rfl hAe hS () rfl hP d_H_isSound_168
      rw [if_neg c16] at hf
      refine lv_iconst (v := 1) hx hb d_H_isSound_163 (by decide) ?_
      refine lv_goto (tgt := 168) hx hb d_H_isSound_164 rfl ?_
      obtain ⟨rfl, rfl⟩ := gRt_e hf
      exact g_zret hx hb hr hlocks rfl hAe hS () rfl hP d_H_isSound_168
    rw [if_neg c8] at hf
    by_cases c17 : y5 = 2
    · skip
      rw [if_pos c17] at hf
      refine lv_tableIn (tgt := 271) hx hb d_H_isSound_19 (by rw [c17]; decide) (by rw [c17]; decide) (by rw [c17]; rfl) rfl ?_
      refine lv_iconst (v := 0) hx hb d_H_isSound_271 (by decide) ?_
      obtain ⟨rfl, rfl⟩ := gRt_e hf
      exact g_zret hx hb hr hlocks rfl hAe hS () rfl hP d_H_isSound_272
    rw [if_neg c17] at hf
    by_cases c18 : y5 = 3
    · skip
      rw [if_pos c18] at hf
      refine lv_tableIn (tgt := 271) hx hb d_H_isSound_19 (by rw [c18]; decide) (by rw [c18]; decide) (by rw [c18]; rfl) rfl ?_
      refine lv_iconst (v := 0) hx hb d_H_isSound_271 (by decide) ?_
      obtain ⟨rfl, rfl⟩ := gRt_e hf
      exact g_zret hx hb hr hlocks rfl hAe hS () rfl hP d_H_isSound_272
    rw [if_neg c18] at hf
    by_cases c19 : y5 = 4
    · skip
      rw [if_pos c19] at hf
      refine lv_tableIn (tgt := 271) hx hb d_H_isSound_19 (by rw [c19]; decide) (by rw [c19]; decide) (by rw [c19]; rfl) rfl ?_
      refine lv_iconst (v := 0) hx hb d_H_isSound_271 (by decide) ?_
      obtain ⟨rfl, rfl⟩ := gRt_e hf
      exact g_zret hx hb hr hlocks rfl hAe hS () rfl hP d_H_isSound_272
    rw [if_neg c19] at hf
    by_cases c20 : y5 = 5
    · skip
      rw [if_pos c20] at hf
      refine lv_tableIn (tgt := 271) hx hb d_H_isSound_19 (by rw [c20]; decide) (by rw [c20]; decide) (by rw [c20]; rfl) rfl ?_
      refine lv_iconst (v := 0) hx hb d_H_isSound_271 (by decide) ?_
      obtain ⟨rfl, rfl⟩ := gRt_e hf
      exact g_zret hx hb hr hlocks rfl hAe hS () rfl hP d_H_isSound_272
    rw [if_neg c20] at hf
    by_cases c21 : y5 = 6
    · skip
      rw [if_pos c21] at hf
      refine lv_tableIn (tgt := 271) hx hb d_H_isSound_19 (by rw [c21]; decide) (by rw [c21]; decide) (by rw [c21]; rfl) rfl ?_
      refine lv_iconst (v := 0) hx hb d_H_isSound_271 (by decide) ?_
      obtain ⟨rfl, rfl⟩ := gRt_e hf
      exact g_zret hx hb hr hlocks rfl hAe hS () rfl hP d_H_isSound_272
    rw [if_neg c21] at hf
    by_cases c22 : y5 = 7
    · skip
      rw [if_pos c22] at hf
      refine lv_tableIn (tgt := 271) hx hb d_H_isSound_19 (by rw [c22]; decide) (by rw [c22]; decide) (by rw [c22]; rfl) rfl ?_
      refine lv_iconst (v := 0) hx hb d_H_isSound_271 (by decide) ?_
      obtain ⟨rfl, rfl⟩ := gRt_e hf
      exact g_zret hx hb hr hlocks rfl hAe hS () rfl hP d_H_isSound_272
    rw [if_neg c22] at hf
    by_cases c23 : y5 = 8
    · skip
      rw [if_pos c23] at hf
      refine lv_tableIn (tgt := 271) hx hb d_H_isSound_19 (by rw [c23]; decide) (by rw [c23]; decide) (by rw [c23]; rfl) rfl ?_
      refine lv_iconst (v := 0) hx hb d_H_isSound_271 (by decide) ?_
      obtain ⟨rfl, rfl⟩ := gRt_e hf
      exact g_zret hx hb hr hlocks rfl hAe hS () rfl hP d_H_isSound_272
    rw [if_neg c23] at hf
    by_cases c24 : y5 = 9
    · skip
      rw [if_pos c24] at hf
      refine lv_tableIn (tgt := 210) hx hb d_H_isSound_19 (by rw [c24]; decide) (by rw [c24]; decide) (by rw [c24]; rfl) rfl ?_
      refine lv_aload_n hx hb d_H_isSound_210 rfl (lv_at hl 0 rfl) ?_
      refine va_get (D := X) (ci := 3) (C := R_H) (T := T_H) (N := 8) hx hb hts u_0 hown hK hP 33 gc_33 rfl 1 (by decide) k_0 (fun _ h9 => h9) rfl d_H_isSound_211 ?_
      refine va_get (D := X) (ci := 0) (C := R_E) (T := T_E) (N := 14) hx hb hts u_1 hown hK hP 20 gc_20 rfl 3 (by decide) k_3 (fun _ h9 => h9) rfl d_H_isSound_214 ?_
      refine lv_iload_n hx hb d_H_isSound_217 rfl (lv_at hl 1 rfl) ?_
      obtain ⟨y25, h26, e27, hf⟩ := gLd_e hf
      refine va_iald hx hb hK hP 23 0 gc_23 rfl h26 d_H_isSound_218 ?_
      rw [← e27]
      refine lv_if_ne (tgt := 238) hx hb d_H_isSound_219 rfl (fun c28 => ?_) (fun c28 => ?_)
      · skip
        rw [if_neg c28] at hf
        refine lv_iconst (v := 0) hx hb d_H_isSound_238 (by decide) ?_
        obtain ⟨rfl, rfl⟩ := gRt_e hf
        exact g_zret hx hb hr hlocks rfl hAe hS () rfl hP d_H_isSound_239
      rw [if_pos c28] at hf
      refine lv_aload_n hx hb d_H_isSound_222 rfl (lv_at hl 0 rfl) ?_
      refine lv_iload_n hx hb d_H_isSound_223 rfl (lv_at hl 1 rfl) ?_
      obtain ⟨y29, σ30, e31, hf⟩ := gBd_e hf
      refine g_wl (va_runV ⟨hx, hb, hml, hown, hts⟩ (m_H_numberIn e31) (cwV 1 hts (gG4 (fun _ h => List.mem_cons_of_mem _ h) tb_171 tb_172 tb_173 tb_137 tc_H_numberIn) rfl rfl rfl (by decide +kernel) ⟨Nat.le_of_ble_eq_true rfl, Nat.le_of_ble_eq_true rfl⟩) (g_preVW (q0 := 33) hE hK hP hD hS hA gc_33 rfl) rfl rfl hl.1 rfl (lv_room (Nat.le_of_ble_eq_true rfl)) d_H_isSound_224 ⟨Nat.zero_le _, Nat.zero_le _⟩) hD hS hA (fun _ => cW_fst) (fun y29 _ H locs hu hP hD hS => ?_)
      subst hu
      refine lv_ldc2 (v := 1099511627776) hx hb hown k_4 d_H_isSound_227 ?_
      refine W.lcmp hx hb d_H_isSound_230 ?_
      refine lv_if_eq (tgt := 238) hx hb d_H_isSound_231 rfl (fun c32 => ?_) (fun c32 => ?_)
      · skip
        rw [if_pos c32] at hf
        refine lv_iconst (v := 0) hx hb d_H_isSound_238 (by decide) ?_
        obtain ⟨rfl, rfl⟩ := gRt_e hf
        exact g_zret hx hb hr hlocks rfl hAe hS () rfl hP d_H_isSound_239
      rw [if_neg c32] at hf
      refine lv_iconst (v := 1) hx hb d_H_isSound_234 (by decide) ?_
      refine lv_goto (tgt := 239) hx hb d_H_isSound_235 rfl ?_
      obtain ⟨rfl, rfl⟩ := gRt_e hf
      exact g_zret hx hb hr hlocks rfl hAe hS () rfl hP d_H_isSound_239
    rw [if_neg c24] at hf
    by_cases c33 : y5 = 10
    · skip
      rw [if_pos c33] at hf
      refine lv_tableIn (tgt := 271) hx hb d_H_isSound_19 (by rw [c33]; decide) (by rw [c33]; decide) (by rw [c33]; rfl) rfl ?_
      refine lv_iconst (v := 0) hx hb d_H_isSound_271 (by decide) ?_
      obtain ⟨rfl, rfl⟩ := gRt_e hf
      exact g_zret hx hb hr hlocks rfl hAe hS () rfl hP d_H_isSound_272
    rw [if_neg c33] at hf
    by_cases c34 : y5 = 11
    · skip
      rw [if_pos c34] at hf
      refine lv_tableIn (tgt := 271) hx hb d_H_isSound_19 (by rw [c34]; decide) (by rw [c34]; decide) (by rw [c34]; rfl) rfl ?_
      refine lv_iconst (v := 0) hx hb d_H_isSound_271 (by decide) ?_
      obtain ⟨rfl, rfl⟩ := gRt_e hf
      exact g_zret hx hb hr hlocks rfl hAe hS () rfl hP d_H_isSound_272
    rw [if_neg c34] at hf
    by_cases c35 : y5 = 12
    · skip
      rw [if_pos c35] at hf
      refine lv_tableIn (tgt := 271) hx hb d_H_isSound_19 (by rw [c35]; decide) (by rw [c35]; decide) (by rw [c35]; rfl) rfl ?_
      refine lv_iconst (v := 0) hx hb d_H_isSound_271 (by decide) ?_
      obtain ⟨rfl, rfl⟩ := gRt_e hf
      exact g_zret hx hb hr hlocks rfl hAe hS () rfl hP d_H_isSound_272
    rw [if_neg c35] at hf
    by_cases c36 : y5 = 13
    · skip
      rw [if_pos c36] at hf
      refine lv_tableIn (tgt := 271) hx hb d_H_isSound_19 (by rw [c36]; decide) (by rw [c36]; decide) (by rw [c36]; rfl) rfl ?_
      refine lv_iconst (v := 0) hx hb d_H_isSound_271 (by decide) ?_
      obtain ⟨rfl, rfl⟩ := gRt_e hf
      exact g_zret hx hb hr hlocks rfl hAe hS () rfl hP d_H_isSound_272
    rw [if_neg c36] at hf
    by_cases c37 : y5 = 14
    · skip
      rw [if_pos c37] at hf
      refine lv_tableIn (tgt := 201) hx hb d_H_isSound_19 (by rw [c37]; decide) (by rw [c37]; decide) (by rw [c37]; rfl) rfl ?_
      refine lv_aload_n hx hb d_H_isSound_201 rfl (lv_at hl 0 rfl) ?_
      refine va_get (D := X) (ci := 3) (C := R_H) (T := T_H) (N := 8) hx hb hts u_0 hown hK hP 33 gc_33 rfl 1 (by decide) k_0 (fun _ h9 => h9) rfl d_H_isSound_202 ?_
      refine lv_iload_n hx hb d_H_isSound_205 rfl (lv_at hl 1 rfl) ?_
      obtain ⟨y38, σ39, e40, hf⟩ := gBd_e hf
      refine g_wi (va_runV ⟨hx, hb, hml, hown, hts⟩ (m_E_isEmpty e40) (cwV 1 hts (gG4 (fun _ h => List.mem_cons_of_mem _ h) tb_174 tb_175 tb_176 tb_51 tc_E_isEmpty) rfl rfl rfl (by decide +kernel) ⟨Nat.le_of_ble_eq_true rfl, Nat.le_of_ble_eq_true rfl⟩) (g_preVW (q0 := 20) hE hK hP hD hS hA gc_20 rfl) rfl rfl hl.1 rfl (lv_room (Nat.le_of_ble_eq_true rfl)) d_H_isSound_206 ⟨Nat.zero_le _, Nat.zero_le _⟩) hD hS hA (fun _ => cW_fst) (fun y38 _ H locs hu hP hD hS => ?_)
      subst hu
      obtain ⟨h41, hf⟩ := gNr_e hf
      obtain ⟨rfl, rfl⟩ := gRt_e hf
      exact g_zret hx hb hr hlocks h41 hAe hS () rfl hP d_H_isSound_209
    rw [if_neg c37] at hf
    by_cases c42 : y5 = 15
    · skip
      rw [if_pos c42] at hf
      refine lv_tableIn (tgt := 271) hx hb d_H_isSound_19 (by rw [c42]; decide) (by rw [c42]; decide) (by rw [c42]; rfl) rfl ?_
      refine lv_iconst (v := 0) hx hb d_H_isSound_271 (by decide) ?_
      obtain ⟨rfl, rfl⟩ := gRt_e hf
      exact g_zret hx hb hr hlocks rfl hAe hS () rfl hP d_H_isSound_272
    rw [if_neg c42] at hf
    by_cases c43 : y5 = 16
    · skip
      rw [if_pos c43] at hf
      refine lv_tableIn (tgt := 112) hx hb d_H_isSound_19 (by rw [c43]; decide) (by rw [c43]; decide) (by rw [c43]; rfl) rfl ?_
      refine lv_aload_n hx hb d_H_isSound_112 rfl (lv_at hl 0 rfl) ?_
      refine va_get (D := X) (ci := 3) (C := R_H) (T := T_H) (N := 8) hx hb hts u_0 hown hK hP 33 gc_33 rfl 1 (by decide) k_0 (fun _ h9 => h9) rfl d_H_isSound_113 ?_
      refine va_get (D := X) (ci := 0) (C := R_E) (T := T_E) (N := 14) hx hb hts u_1 hown hK hP 20 gc_20 rfl 7 (by decide) k_2 (fun _ h9 => h9) rfl d_H_isSound_116 ?_
      refine lv_iload_n hx hb d_H_isSound_119 rfl (lv_at hl 1 rfl) ?_
      obtain ⟨y44, h45, e46, hf⟩ := gLd_e hf
      refine va_iald hx hb hK hP 27 0 gc_27 rfl h45 d_H_isSound_120 ?_
      rw [← e46]
      refine lv_if_ne (tgt := 141) hx hb d_H_isSound_121 rfl (fun c47 => ?_) (fun c47 => ?_)
      · skip
        rw [if_neg c47] at hf
        refine lv_iconst (v := 0) hx hb d_H_isSound_141 (by decide) ?_
        obtain ⟨rfl, rfl⟩ := gRt_e hf
        exact g_zret hx hb hr hlocks rfl hAe hS () rfl hP d_H_isSound_142
      rw [if_pos c47] at hf
      refine lv_aload_n hx hb d_H_isSound_124 rfl (lv_at hl 0 rfl) ?_
      refine va_get (D := X) (ci := 3) (C := R_H) (T := T_H) (N := 8) hx hb hts u_0 hown hK hP 33 gc_33 rfl 1 (by decide) k_0 (fun _ h9 => h9) rfl d_H_isSound_125 ?_
      refine va_get (D := X) (ci := 0) (C := R_E) (T := T_E) (N := 14) hx hb hts u_1 hown hK hP 20 gc_20 rfl 3 (by decide) k_3 (fun _ h9 => h9) rfl d_H_isSound_128 ?_
      refine lv_iload_n hx hb d_H_isSound_131 rfl (lv_at hl 1 rfl) ?_
      obtain ⟨y48, h49, e50, hf⟩ := gLd_e hf
      refine va_iald hx hb hK hP 23 0 gc_23 rfl h49 d_H_isSound_132 ?_
      rw [← e50]
      refine lv_iconst (v := 2) hx hb d_H_isSound_133 (by decide) ?_
      refine lv_icmp_ne (tgt := 141) hx hb d_H_isSound_134 rfl (fun c51 => ?_) (fun c51 => ?_)
      · skip
        rw [if_neg c51] at hf
        refine lv_iconst (v := 0) hx hb d_H_isSound_141 (by decide) ?_
        obtain ⟨rfl, rfl⟩ := gRt_e hf
        exact g_zret hx hb hr hlocks rfl hAe hS () rfl hP d_H_isSound_142
      rw [if_pos c51] at hf
      refine lv_iconst (v := 1) hx hb d_H_isSound_137 (by decide) ?_
      refine lv_goto (tgt := 142) hx hb d_H_isSound_138 rfl ?_
      obtain ⟨rfl, rfl⟩ := gRt_e hf
      exact g_zret hx hb hr hlocks rfl hAe hS () rfl hP d_H_isSound_142
    rw [if_neg c43] at hf
    by_cases c52 : y5 = 17
    · skip
      rw [if_pos c52] at hf
      refine lv_tableIn (tgt := 271) hx hb d_H_isSound_19 (by rw [c52]; decide) (by rw [c52]; decide) (by rw [c52]; rfl) rfl ?_
      refine lv_iconst (v := 0) hx hb d_H_isSound_271 (by decide) ?_
      obtain ⟨rfl, rfl⟩ := gRt_e hf
      exact g_zret hx hb hr hlocks rfl hAe hS () rfl hP d_H_isSound_272
    rw [if_neg c52] at hf
    by_cases c53 : y5 = 18
    · skip
      rw [if_pos c53] at hf
      refine lv_tableIn (tgt := 240) hx hb d_H_isSound_19 (by rw [c53]; decide) (by rw [c53]; decide) (by rw [c53]; rfl) rfl ?_
      refine lv_aload_n hx hb d_H_isSound_240 rfl (lv_at hl 0 rfl) ?_
      refine va_get (D := X) (ci := 3) (C := R_H) (T := T_H) (N := 8) hx hb hts u_0 hown hK hP 33 gc_33 rfl 1 (by decide) k_0 (fun _ h9 => h9) rfl d_H_isSound_241 ?_
      refine lv_iload_n hx hb d_H_isSound_244 rfl (lv_at hl 1 rfl) ?_
      obtain ⟨y54, σ55, e56, hf⟩ := gBd_e hf
      refine g_wi (va_runV ⟨hx, hb, hml, hown, hts⟩ (m_E_isEmpty e56) (cwV 1 hts (gG4 (fun _ h => List.mem_cons_of_mem _ h) tb_174 tb_175 tb_176 tb_51 tc_E_isEmpty) rfl rfl rfl (by decide +kernel) ⟨Nat.le_of_ble_eq_true rfl, Nat.le_of_ble_eq_true rfl⟩) (g_preVW (q0 := 20) hE hK hP hD hS hA gc_20 rfl) rfl rfl hl.1 rfl (lv_room (Nat.le_of_ble_eq_true rfl)) d_H_isSound_245 ⟨Nat.zero_le _, Nat.zero_le _⟩) hD hS hA (fun _ => cW_fst) (fun y54 _ H locs hu hP hD hS => ?_)
      subst hu
      refine lv_if_eq (tgt := 269) hx hb d_H_isSound_248 rfl (fun c57 => ?_) (fun c57 => ?_)
      · skip
        rw [if_pos c57] at hf
        refine lv_iconst (v := 0) hx hb d_H_isSound_269 (by decide) ?_
        obtain ⟨rfl, rfl⟩ := gRt_e hf
        exact g_zret hx hb hr hlocks rfl hAe hS () rfl hP d_H_isSound_270
      rw [if_neg c57] at hf
      refine lv_aload_n hx hb d_H_isSound_251 rfl (lv_at hl 0 rfl) ?_
      refine va_get (D := X) (ci := 3) (C := R_H) (T := T_H) (N := 8) hx hb hts u_0 hown hK hP 33 gc_33 rfl 1 (by decide) k_0 (fun _ h9 => h9) rfl d_H_isSound_252 ?_
      refine lv_iload_n hx hb d_H_isSound_255 rfl (lv_at hl 1 rfl) ?_
      refine lv_bipush (v := 8) hx hb d_H_isSound_256 (by decide) ?_
      obtain ⟨y58, σ59, e60, hf⟩ := gBd_e hf
      refine g_wi (va_runV ⟨hx, hb, hml, hown, hts⟩ (m_E_findAttribute e60) (cwV 2 hts (gG4 (fun _ h => List.mem_cons_of_mem _ h) tb_128 tb_49 tb_50 tb_51 tc_E_findAttribute) rfl rfl rfl (by decide +kernel) ⟨Nat.le_of_ble_eq_true rfl, Nat.le_of_ble_eq_true rfl⟩) (g_preVW (q0 := 20) hE hK hP hD hS hA gc_20 rfl) rfl rfl hl.1 rfl (lv_room (Nat.le_of_ble_eq_true rfl)) d_H_isSound_258 ⟨Nat.zero_le _, Nat.zero_le _⟩) hD hS hA (fun _ => cW_fst) (fun y58 _ H locs hu hP hD hS => ?_)
      subst hu
      refine lv_iconst (v := (-1)) hx hb d_H_isSound_261 (by decide) ?_
      refine lv_icmp_eq (tgt := 269) hx hb d_H_isSound_262 rfl (fun c61 => ?_) (fun c61 => ?_)
      · skip
        rw [if_pos c61] at hf
        refine lv_iconst (v := 0) hx hb d_H_isSound_269 (by decide) ?_
        obtain ⟨rfl, rfl⟩ := gRt_e hf
        exact g_zret hx hb hr hlocks rfl hAe hS () rfl hP d_H_isSound_270
      rw [if_neg c61] at hf
      refine lv_iconst (v := 1) hx hb d_H_isSound_265 (by decide) ?_
      refine lv_goto (tgt := 270) hx hb d_H_isSound_266 rfl ?_
      obtain ⟨rfl, rfl⟩ := gRt_e hf
      exact g_zret hx hb hr hlocks rfl hAe hS () rfl hP d_H_isSound_270
    rw [if_neg c53] at hf
    by_cases c62 : y5 = 19
    · skip
      rw [if_pos c62] at hf
      refine lv_tableIn (tgt := 271) hx hb d_H_isSound_19 (by rw [c62]; decide) (by rw [c62]; decide) (by rw [c62]; rfl) rfl ?_
      refine lv_iconst (v := 0) hx hb d_H_isSound_271 (by decide) ?_
      obtain ⟨rfl, rfl⟩ := gRt_e hf
      exact g_zret hx hb hr hlocks rfl hAe hS () rfl hP d_H_isSound_272
    rw [if_neg c62] at hf
    by_cases c63 : y5 = 20
    · skip
      rw [if_pos c63] at hf
      refine lv_tableIn (tgt := 169) hx hb d_H_isSound_19 (by rw [c63]; decide) (by rw [c63]; decide) (by rw [c63]; rfl) rfl ?_
      refine lv_aload_n hx hb d_H_isSound_169 rfl (lv_at hl 0 rfl) ?_
      refine va_get (D := X) (ci := 3) (C := R_H) (T := T_H) (N := 8) hx hb hts u_0 hown hK hP 33 gc_33 rfl 1 (by decide) k_0 (fun _ h9 => h9) rfl d_H_isSound_170 ?_
      refine va_get (D := X) (ci := 0) (C := R_E) (T := T_E) (N := 14) hx hb hts u_1 hown hK hP 20 gc_20 rfl 3 (by decide) k_3 (fun _ h9 => h9) rfl d_H_isSound_173 ?_
      refine lv_iload_n hx hb d_H_isSound_176 rfl (lv_at hl 1 rfl) ?_
      obtain ⟨y64, h65, e66, hf⟩ := gLd_e hf
      refine va_iald hx hb hK hP 23 0 gc_23 rfl h65 d_H_isSound_177 ?_
      rw [← e66]
      refine lv_if_ne (tgt := 199) hx hb d_H_isSound_178 rfl (fun c67 => ?_) (fun c67 => ?_)
      · skip
        rw [if_neg c67] at hf
        refine lv_iconst (v := 0) hx hb d_H_isSound_199 (by decide) ?_
        obtain ⟨rfl, rfl⟩ := gRt_e hf
        exact g_zret hx hb hr hlocks rfl hAe hS () rfl hP d_H_isSound_200
      rw [if_pos c67] at hf
      refine lv_aload_n hx hb d_H_isSound_181 rfl (lv_at hl 0 rfl) ?_
      refine va_get (D := X) (ci := 3) (C := R_H) (T := T_H) (N := 8) hx hb hts u_0 hown hK hP 33 gc_33 rfl 1 (by decide) k_0 (fun _ h9 => h9) rfl d_H_isSound_182 ?_
      refine va_get (D := X) (ci := 0) (C := R_E) (T := T_E) (N := 14) hx hb hts u_1 hown hK hP 20 gc_20 rfl 7 (by decide) k_2 (fun _ h9 => h9) rfl d_H_isSound_185 ?_
      refine lv_iload_n hx hb d_H_isSound_188 rfl (lv_at hl 1 rfl) ?_
      obtain ⟨y68, h69, e70, hf⟩ := gLd_e hf
      refine va_iald hx hb hK hP 27 0 gc_27 rfl h69 d_H_isSound_189 ?_
      rw [← e70]
      refine lv_bipush (v := 6) hx hb d_H_isSound_190 (by decide) ?_
      refine lv_icmp_gt (tgt := 199) hx hb d_H_isSound_192 rfl (fun c71 => ?_) (fun c71 => ?_)
      · skip
        rw [if_pos c71] at hf
        refine lv_iconst (v := 0) hx hb d_H_isSound_199 (by decide) ?_
        obtain ⟨rfl, rfl⟩ := gRt_e hf
        exact g_zret hx hb hr hlocks rfl hAe hS () rfl hP d_H_isSound_200
      rw [if_neg c71] at hf
      refine lv_iconst (v := 1) hx hb d_H_isSound_195 (by decide) ?_
      refine lv_goto (tgt := 200) hx hb d_H_isSound_196 rfl ?_
      obtain ⟨rfl, rfl⟩ := gRt_e hf
      exact g_zret hx hb hr hlocks rfl hAe hS () rfl hP d_H_isSound_200
    rw [if_neg c63] at hf
    refine lv_tableOut (tgt := 271) hx hb d_H_isSound_19 (by have zc8 := lv_neT (a := 1) c8 rfl; have zc17 := lv_neT (a := 2) c17 rfl; have zc18 := lv_neT (a := 3) c18 rfl; have zc19 := lv_neT (a := 4) c19 rfl; have zc20 := lv_neT (a := 5) c20 rfl; have zc21 := lv_neT (a := 6) c21 rfl; have zc22 := lv_neT (a := 7) c22 rfl; have zc23 := lv_neT (a := 8) c23 rfl; have zc24 := lv_neT (a := 9) c24 rfl; have zc33 := lv_neT (a := 10) c33 rfl; have zc34 := lv_neT (a := 11) c34 rfl; have zc35 := lv_neT (a := 12) c35 rfl; have zc36 := lv_neT (a := 13) c36 rfl; have zc37 := lv_neT (a := 14) c37 rfl; have zc42 := lv_neT (a := 15) c42 rfl; have zc43 := lv_neT (a := 16) c43 rfl; have zc52 := lv_neT (a := 17) c52 rfl; have zc53 := lv_neT (a := 18) c53 rfl; have zc62 := lv_neT (a := 19) c62 rfl; have zc63 := lv_neT (a := 20) c63 rfl; omega) rfl ?_
    refine lv_iconst (v := 0) hx hb d_H_isSound_271 (by decide) ?_
    obtain ⟨rfl, rfl⟩ := gRt_e hf
    exact g_zret hx hb hr hlocks rfl hAe hS () rfl hP d_H_isSound_272
  rw [if_pos c4] at hf
  refine lv_iconst (v := 0) hx hb d_H_isSound_8 (by decide) ?_
  obtain ⟨rfl, rfl⟩ := gRt_e hf
  exact g_zret hx hb hr hlocks rfl hAe hS () rfl hP d_H_isSound_9

def B_H_layObject_0 (rec : Nat → List Int32 → gS → Option (Int32 × gS)) (x1 : Int32) (x2 : Int32) (σ0 : gS) : Option (Int32 × gS) := gBd (f_H_countIn σ0 x1 15) (fun y1 σ2 => gSt σ2 36 16 x2 (if y1 < 0 then 0 else y1) (fun σ7 => gSt σ7 37 16 x2 0 (fun σ10 => gLd σ10 21 533 x1 (fun y13 => if y13 = 16 then (gBd (f_G_lay σ10 x2 0 2) (fun _ σ31 => some (0, σ31))) else (gLd σ10 21 533 x1 (fun y17 => if y17 = 1 then (gBd (f_H_countIn σ10 x1 14) (fun y24 σ25 => gBd (f_G_lay σ25 x2 1 y24) (fun _ σ28 => some (0, σ28)))) else (gBd (f_G_lay σ10 x2 2 0) (fun _ σ22 => rec 1 [x1, x2, 0] σ22))))))))
def B_H_layObject_1 (rec : Nat → List Int32 → gS → Option (Int32 × gS)) (x1 : Int32) (x2 : Int32) (x3 : Int32) (σ0 : gS) : Option (Int32 × gS) := gLd σ0 27 533 x1 (fun y33 => if y33 ≤ x3 then (some (0, σ0)) else (gLd σ0 26 533 x1 (fun y37 => gLd σ0 31 1600 (y37 + x3) (fun y40 => gBd (f_G_addCharacter σ0 x2 y40) (fun y43 σ44 => rec 1 [x1, x2, (x3 + 1)] σ44)))))
def S_H_layObject (rec : Nat → List Int32 → gS → Option (Int32 × gS)) (k : Nat) (l : List Int32) (σ0 : gS) : Option (Int32 × gS) := match k, l with
  | 0, [x1, x2] => B_H_layObject_0 rec x1 x2 σ0
  | 1, [x1, x2, x3] => B_H_layObject_1 rec x1 x2 x3 σ0
  | _, _ => none
def R_H_layObject : Nat → Nat → List Int32 → gS → Option (Int32 × gS)
  | 0 => fun _ _ _ => none
  | t + 1 => fun k l σ0 => S_H_layObject (R_H_layObject t) k l σ0
def f_H_layObject (σ : gS) (x1 : Int32) (x2 : Int32) : Option (Int32 × gS) := R_H_layObject gFuel 0 [x1, x2] σ
set_option maxHeartbeats 4000000 in
set_option maxRecDepth 100000 in
theorem m_H_layObject {l : Launch} {X : va_G} {cI cC cZ : ClassId} {aK aV : Nat → Nat} {a : Nat → Nat} {σ σ' : gS} {r : Int32} {q1 : Int32} {q2 : Int32} (hf : f_H_layObject σ q1 q2 = some (r, σ')) {sz : Nat} : Met l y_H_layObject w_H_layObject { frames := 3, cells := 0, slots := 0, locals := 69 } (gPc X vwCl (gT cI cC cZ) aK aV (cW cI cC cZ a σ) sz [.ref (a 33), .int q1, .int q2]) (gQv X vwCl (cW cI cC cZ a σ) sz (fun (_ : Unit) => True) (fun _ => cW cI cC cZ a σ')) 0 0 (va_A (cW cI cC cZ a σ) sz) := by
  refine g_met (cc := b_H_layObject) (maxL := 4) (ret := none) (by decide) rfl (Nat.le_of_ble_eq_true rfl) ?_
  intro p e s m below meth c A ls hx hb hr hml hown hts hlocks hnm hsz hAe hA hP hK hD hS hl hE
  have hown : s.vm.findClass R_H = some m.cls := hown
  have u_0 : ∀ w ∈ u_ws R_H T_H 8, w ∈ w_H_layObject := fun w h => List.mem_cons_of_mem _ (tu_H w h)
  have u_1 : ∀ w ∈ u_ws R_E T_E 14, w ∈ w_H_layObject := fun w h => List.mem_cons_of_mem _ (tu_E w h)
  have k_0 := hts (.fieldLink R_H 22 "GraphPages$GraphReader" "nextSlots" "[I") (List.mem_cons_of_mem _ tb_181)
  have k_1 := hts (.methodLink R_H 145 y_N_max) (List.mem_cons_of_mem _ tb_182)
  have k_2 := hts (.static y_N_max) (List.mem_cons_of_mem _ tb_183)
  have k_3 := hts (.initialized R_N) (List.mem_cons_of_mem _ tb_184)
  have k_4 := hts (.fieldLink R_H 25 "GraphPages$GraphReader" "takenSlots" "[I") (List.mem_cons_of_mem _ tb_185)
  have k_5 := hts (.fieldLink R_H 32 "GraphPages$GraphReader" "elements" "LGraphPages$Elements;") (List.mem_cons_of_mem _ tb_130)
  have k_6 := hts (.fieldLink R_H 40 "GraphPages$Elements" "names" "[I") (List.mem_cons_of_mem _ tb_138)
  have k_7 := hts (.fieldLink R_H 36 "GraphPages$GraphReader" "graph" "LGraphPages$Graph;") (List.mem_cons_of_mem _ tb_186)
  have k_8 := hts (.fieldLink R_H 99 "GraphPages$Elements" "textCounts" "[I") (List.mem_cons_of_mem _ tb_150)
  have k_9 := hts (.fieldLink R_H 154 "GraphPages$Elements" "text" "[C") (List.mem_cons_of_mem _ tb_161)
  have k_10 := hts (.fieldLink R_H 158 "GraphPages$Elements" "textStarts" "[I") (List.mem_cons_of_mem _ tb_160)
  unfold f_H_layObject at hf
  have key : ∀ t : Nat, (∀ (x1 : Int32) (x2 : Int32) (σ0 : gS) (H : Heap) (locs : List Loc) (ls : Array Slot), R_H_layObject t 0 [x1, x2] σ0 = some (r, σ') → va_P X vwCl (cW cI cC cZ a σ0) H → va_D A (cW cI cC cZ a σ0) → va_S A s.heap H locs → lv_has ls 4 [(0, .ref (a 33)), (1, .int x1), (2, .int x2)] → W p l e (headSpec w_H_layObject { frames := 3, cells := 0, slots := 0, locals := 69 }).room s m [.ref (a 33), .int q1, .int q2].toArray below meth c H locs 0 0 (MQ below (gQv X vwCl (cW cI cC cZ a σ) sz (fun (_ : Unit) => True) (fun _ => cW cI cC cZ a σ')) [.ref (a 33), .int q1, .int q2].toArray s 0 0 (va_A (cW cI cC cZ a σ) sz)) (F0 m 0 ls [])) ∧ (∀ (x1 : Int32) (x2 : Int32) (x3 : Int32) (σ0 : gS) (H : Heap) (locs : List Loc) (ls : Array Slot), R_H_layObject t 1 [x1, x2, x3] σ0 = some (r, σ') → va_P X vwCl (cW cI cC cZ a σ0) H → va_D A (cW cI cC cZ a σ0) → va_S A s.heap H locs → lv_has ls 4 [(0, .ref (a 33)), (1, .int x1), (2, .int x2), (3, .int x3)] → W p l e (headSpec w_H_layObject { frames := 3, cells := 0, slots := 0, locals := 69 }).room s m [.ref (a 33), .int q1, .int q2].toArray below meth c H locs 0 0 (MQ below (gQv X vwCl (cW cI cC cZ a σ) sz (fun (_ : Unit) => True) (fun _ => cW cI cC cZ a σ')) [.ref (a 33), .int q1, .int q2].toArray s 0 0 (va_A (cW cI cC cZ a σ) sz)) (F0 m 95 ls [])) := by
    intro t
    induction t with
    | zero => exact ⟨fun _ _ _ _ _ _ hf => (by have hf : (none : Option (Int32 × gS)) = some (r, σ') := hf; cases hf), fun _ _ _ _ _ _ _ hf => (by have hf : (none : Option (Int32 × gS)) = some (r, σ') := hf; cases hf)⟩
    | succ t ih =>
      obtain ⟨ih0, ih1⟩ := ih
      refine ⟨?_, ?_⟩
      · intro x1 x2 σ0 H locs ls hf hP hD hS hl
        have hf : B_H_layObject_0 (R_H_layObject t) x1 x2 σ0 = some (r, σ') := hf
        unfold B_H_layObject_0 at hf
        refine lv_aload_n hx hb d_H_layObject_0 rfl (lv_at hl 0 rfl) ?_
        refine va_get (D := X) (ci := 3) (C := R_H) (T := T_H) (N := 8) hx hb hts u_0 hown hK hP 33 gc_33 rfl 5 (by decide) k_0 (fun _ h9 => h9) rfl d_H_layObject_1 ?_
        refine lv_iload_n hx hb d_H_layObject_4 rfl (lv_at hl 2 rfl) ?_
        refine lv_aload_n hx hb d_H_layObject_5 rfl (lv_at hl 0 rfl) ?_
        refine lv_iload_n hx hb d_H_layObject_6 rfl (lv_at hl 1 rfl) ?_
        refine lv_bipush (v := 15) hx hb d_H_layObject_7 (by decide) ?_
        obtain ⟨y1, σ2, e3, hf⟩ := gBd_e hf
        refine g_wi (va_runV ⟨hx, hb, hml, hown, hts⟩ (m_H_countIn e3) (cwV 2 hts (gG4 (fun _ h => List.mem_cons_of_mem _ h) tb_142 tb_143 tb_144 tb_137 tc_H_countIn) rfl rfl rfl (by decide +kernel) ⟨Nat.le_of_ble_eq_true rfl, Nat.le_of_ble_eq_true rfl⟩) (g_preVW (q0 := 33) hE hK hP hD hS hA gc_33 rfl) rfl rfl hl.1 rfl (lv_room (Nat.le_of_ble_eq_true rfl)) d_H_layObject_9 ⟨Nat.zero_le _, Nat.zero_le _⟩) hD hS hA (fun _ => cW_fst) (fun y1 _ H locs hu hP hD hS => ?_)
        subst hu
        refine lv_iconst (v := 0) hx hb d_H_layObject_12 (by decide) ?_
        refine va_mmax hx hb (hml.trans hl.1.symm) hown k_1 k_2 k_3 (hts _ (List.mem_cons_of_mem _ tc_N_max)) (Nat.le_of_ble_eq_true rfl) (Nat.le_of_ble_eq_true rfl) (Nat.zero_le _) (Nat.zero_le _) d_H_layObject_13 ?_
        obtain ⟨σ7, h8, e9, hf⟩ := gSt_e hf
        refine va_iast hx hb hK hP hD hS 36 0 gc_36 rfl h8 d_H_layObject_16 (fun H locs hP hD hS => ?_)
        rw [sc_36, ← e9] at hP hD
        refine lv_aload_n hx hb d_H_layObject_17 rfl (lv_at hl 0 rfl) ?_
        refine va_get (D := X) (ci := 3) (C := R_H) (T := T_H) (N := 8) hx hb hts u_0 hown hK hP 33 gc_33 rfl 6 (by decide) k_4 (fun _ h9 => h9) rfl d_H_layObject_18 ?_
        refine lv_iload_n hx hb d_H_layObject_21 rfl (lv_at hl 2 rfl) ?_
        refine lv_iconst (v := 0) hx hb d_H_layObject_22 (by decide) ?_
        obtain ⟨σ10, h11, e12, hf⟩ := gSt_e hf
        refine va_iast hx hb hK hP hD hS 37 0 gc_37 rfl h11 d_H_layObject_23 (fun H locs hP hD hS => ?_)
        rw [sc_37, ← e12] at hP hD
        refine lv_aload_n hx hb d_H_layObject_24 rfl (lv_at hl 0 rfl) ?_
        refine va_get (D := X) (ci := 3) (C := R_H) (T := T_H) (N := 8) hx hb hts u_0 hown hK hP 33 gc_33 rfl 1 (by decide) k_5 (fun _ h9 => h9) rfl d_H_layObject_25 ?_
        refine va_get (D := X) (ci := 0) (C := R_E) (T := T_E) (N := 14) hx hb hts u_1 hown hK hP 20 gc_20 rfl 1 (by decide) k_6 (fun _ h9 => h9) rfl d_H_layObject_28 ?_
        refine lv_iload_n hx hb d_H_layObject_31 rfl (lv_at hl 1 rfl) ?_
        obtain ⟨y13, h14, e15, hf⟩ := gLd_e hf
        refine va_iald hx hb hK hP 21 0 gc_21 rfl h14 d_H_layObject_32 ?_
        rw [← e15]
        refine lv_bipush (v := 16) hx hb d_H_layObject_33 (by decide) ?_
        refine lv_icmp_ne (tgt := 51) hx hb d_H_layObject_35 rfl (fun c16 => ?_) (fun c16 => ?_)
        · skip
          rw [if_neg c16] at hf
          refine lv_aload_n hx hb d_H_layObject_51 rfl (lv_at hl 0 rfl) ?_
          refine va_get (D := X) (ci := 3) (C := R_H) (T := T_H) (N := 8) hx hb hts u_0 hown hK hP 33 gc_33 rfl 1 (by decide) k_5 (fun _ h9 => h9) rfl d_H_layObject_52 ?_
          refine va_get (D := X) (ci := 0) (C := R_E) (T := T_E) (N := 14) hx hb hts u_1 hown hK hP 20 gc_20 rfl 1 (by decide) k_6 (fun _ h9 => h9) rfl d_H_layObject_55 ?_
          refine lv_iload_n hx hb d_H_layObject_58 rfl (lv_at hl 1 rfl) ?_
          obtain ⟨y17, h18, e19, hf⟩ := gLd_e hf
          refine va_iald hx hb hK hP 21 0 gc_21 rfl h18 d_H_layObject_59 ?_
          rw [← e19]
          refine lv_iconst (v := 1) hx hb d_H_layObject_60 (by decide) ?_
          refine lv_icmp_ne (tgt := 83) hx hb d_H_layObject_61 rfl (fun c20 => ?_) (fun c20 => ?_)
          · skip
            rw [if_neg c20] at hf
            refine lv_aload_n hx hb d_H_layObject_83 rfl (lv_at hl 0 rfl) ?_
            refine va_get (D := X) (ci := 3) (C := R_H) (T := T_H) (N := 8) hx hb hts u_0 hown hK hP 33 gc_33 rfl 2 (by decide) k_7 (fun _ h9 => h9) rfl d_H_layObject_84 ?_
            refine lv_iload_n hx hb d_H_layObject_87 rfl (lv_at hl 2 rfl) ?_
            refine lv_iconst (v := 2) hx hb d_H_layObject_88 (by decide) ?_
            refine lv_iconst (v := 0) hx hb d_H_layObject_89 (by decide) ?_
            obtain ⟨y21, σ22, e23, hf⟩ := gBd_e hf
            refine g_wv (va_runV ⟨hx, hb, hml, hown, hts⟩ (m_G_lay e23) (cwV 3 hts (gG4 (fun _ h => List.mem_cons_of_mem _ h) tb_177 tb_125 tb_126 tb_116 tc_G_lay) rfl rfl rfl (by decide +kernel) ⟨Nat.le_of_ble_eq_true rfl, Nat.le_of_ble_eq_true rfl⟩) (g_preVW (q0 := 1) hE hK hP hD hS hA gc_1 rfl) rfl rfl hl.1 rfl (lv_room (Nat.le_of_ble_eq_true rfl)) d_H_layObject_90 ⟨Nat.zero_le _, Nat.zero_le _⟩) hD hS hA (fun _ => cW_fst) (fun _ H locs _ hP hD hS => ?_)
            refine lv_iconst (v := 0) hx hb d_H_layObject_93 (by decide) ?_
            refine lv_istore_n hx hb d_H_layObject_94 rfl hl (by decide) rfl (fun ls hl => ?_)
            exact ih1 (x1) (x2) (0) σ22 _ _ _ hf hP hD hS (lv_sub hl [1, 2, 3, 0] rfl)
          rw [if_pos c20] at hf
          refine lv_aload_n hx hb d_H_layObject_64 rfl (lv_at hl 0 rfl) ?_
          refine va_get (D := X) (ci := 3) (C := R_H) (T := T_H) (N := 8) hx hb hts u_0 hown hK hP 33 gc_33 rfl 2 (by decide) k_7 (fun _ h9 => h9) rfl d_H_layObject_65 ?_
          refine lv_iload_n hx hb d_H_layObject_68 rfl (lv_at hl 2 rfl) ?_
          refine lv_iconst (v := 1) hx hb d_H_layObject_69 (by decide) ?_
          refine lv_aload_n hx hb d_H_layObject_70 rfl (lv_at hl 0 rfl) ?_
          refine lv_iload_n hx hb d_H_layObject_71 rfl (lv_at hl 1 rfl) ?_
          refine lv_bipush (v := 14) hx hb d_H_layObject_72 (by decide) ?_
          obtain ⟨y24, σ25, e26, hf⟩ := gBd_e hf
          refine g_wi (va_runV ⟨hx, hb, hml, hown, hts⟩ (m_H_countIn e26) (cwV 2 hts (gG4 (fun _ h => List.mem_cons_of_mem _ h) tb_142 tb_143 tb_144 tb_137 tc_H_countIn) rfl rfl rfl (by decide +kernel) ⟨Nat.le_of_ble_eq_true rfl, Nat.le_of_ble_eq_true rfl⟩) (g_preVW (q0 := 33) hE hK hP hD hS hA gc_33 rfl) rfl rfl hl.1 rfl (lv_room (Nat.le_of_ble_eq_true rfl)) d_H_layObject_74 ⟨Nat.zero_le _, Nat.zero_le _⟩) hD hS hA (fun _ => cW_fst) (fun y24 _ H locs hu hP hD hS => ?_)
          subst hu
          obtain ⟨y27, σ28, e29, hf⟩ := gBd_e hf
          refine g_wv (va_runV ⟨hx, hb, hml, hown, hts⟩ (m_G_lay e29) (cwV 3 hts (gG4 (fun _ h => List.mem_cons_of_mem _ h) tb_177 tb_125 tb_126 tb_116 tc_G_lay) rfl rfl rfl (by decide +kernel) ⟨Nat.le_of_ble_eq_true rfl, Nat.le_of_ble_eq_true rfl⟩) (g_preVW (q0 := 1) hE hK hP hD hS hA gc_1 rfl) rfl rfl hl.1 rfl (lv_room (Nat.le_of_ble_eq_true rfl)) d_H_layObject_77 ⟨Nat.zero_le _, Nat.zero_le _⟩) hD hS hA (fun _ => cW_fst) (fun _ H locs _ hP hD hS => ?_)
          refine lv_goto (tgt := 142) hx hb d_H_layObject_80 rfl ?_
          obtain ⟨-, rfl⟩ := gRt_e hf
          exact g_vret hx hb hr hlocks hAe hS () trivial hP d_H_layObject_142
        rw [if_pos c16] at hf
        refine lv_aload_n hx hb d_H_layObject_38 rfl (lv_at hl 0 rfl) ?_
        refine va_get (D := X) (ci := 3) (C := R_H) (T := T_H) (N := 8) hx hb hts u_0 hown hK hP 33 gc_33 rfl 2 (by decide) k_7 (fun _ h9 => h9) rfl d_H_layObject_39 ?_
        refine lv_iload_n hx hb d_H_layObject_42 rfl (lv_at hl 2 rfl) ?_
        refine lv_iconst (v := 0) hx hb d_H_layObject_43 (by decide) ?_
        refine lv_iconst (v := 2) hx hb d_H_layObject_44 (by decide) ?_
        obtain ⟨y30, σ31, e32, hf⟩ := gBd_e hf
        refine g_wv (va_runV ⟨hx, hb, hml, hown, hts⟩ (m_G_lay e32) (cwV 3 hts (gG4 (fun _ h => List.mem_cons_of_mem _ h) tb_177 tb_125 tb_126 tb_116 tc_G_lay) rfl rfl rfl (by decide +kernel) ⟨Nat.le_of_ble_eq_true rfl, Nat.le_of_ble_eq_true rfl⟩) (g_preVW (q0 := 1) hE hK hP hD hS hA gc_1 rfl) rfl rfl hl.1 rfl (lv_room (Nat.le_of_ble_eq_true rfl)) d_H_layObject_45 ⟨Nat.zero_le _, Nat.zero_le _⟩) hD hS hA (fun _ => cW_fst) (fun _ H locs _ hP hD hS => ?_)
        refine lv_goto (tgt := 142) hx hb d_H_layObject_48 rfl ?_
        obtain ⟨-, rfl⟩ := gRt_e hf
        exact g_vret hx hb hr hlocks hAe hS () trivial hP d_H_layObject_142
      · intro x1 x2 x3 σ0 H locs ls hf hP hD hS hl
        have hf : B_H_layObject_1 (R_H_layObject t) x1 x2 x3 σ0 = some (r, σ') := hf
        unfold B_H_layObject_1 at hf
        refine lv_iload_n hx hb d_H_layObject_95 rfl (lv_at hl 3 rfl) ?_
        refine lv_aload_n hx hb d_H_layObject_96 rfl (lv_at hl 0 rfl) ?_
        refine va_get (D := X) (ci := 3) (C := R_H) (T := T_H) (N := 8) hx hb hts u_0 hown hK hP 33 gc_33 rfl 1 (by decide) k_5 (fun _ h9 => h9) rfl d_H_layObject_97 ?_
        refine va_get (D := X) (ci := 0) (C := R_E) (T := T_E) (N := 14) hx hb hts u_1 hown hK hP 20 gc_20 rfl 7 (by decide) k_8 (fun _ h9 => h9) rfl d_H_layObject_100 ?_
        refine lv_iload_n hx hb d_H_layObject_103 rfl (lv_at hl 1 rfl) ?_
        obtain ⟨y33, h34, e35, hf⟩ := gLd_e hf
        refine va_iald hx hb hK hP 27 0 gc_27 rfl h34 d_H_layObject_104 ?_
        rw [← e35]
        refine lv_icmp_ge (tgt := 142) hx hb d_H_layObject_105 rfl (fun c36 => ?_) (fun c36 => ?_)
        · skip
          rw [if_pos c36] at hf
          obtain ⟨-, rfl⟩ := gRt_e hf
          exact g_vret hx hb hr hlocks hAe hS () trivial hP d_H_layObject_142
        rw [if_neg c36] at hf
        refine lv_aload_n hx hb d_H_layObject_108 rfl (lv_at hl 0 rfl) ?_
        refine va_get (D := X) (ci := 3) (C := R_H) (T := T_H) (N := 8) hx hb hts u_0 hown hK hP 33 gc_33 rfl 2 (by decide) k_7 (fun _ h9 => h9) rfl d_H_layObject_109 ?_
        refine lv_iload_n hx hb d_H_layObject_112 rfl (lv_at hl 2 rfl) ?_
        refine lv_aload_n hx hb d_H_layObject_113 rfl (lv_at hl 0 rfl) ?_
        refine va_get (D := X) (ci := 3) (C := R_H) (T := T_H) (N := 8) hx hb hts u_0 hown hK hP 33 gc_33 rfl 1 (by decide) k_5 (fun _ h9 => h9) rfl d_H_layObject_114 ?_
        refine va_get (D := X) (ci := 0) (C := R_E) (T := T_E) (N := 14) hx hb hts u_1 hown hK hP 20 gc_20 rfl 13 (by decide) k_9 (fun _ h9 => h9) rfl d_H_layObject_117 ?_
        refine lv_aload_n hx hb d_H_layObject_120 rfl (lv_at hl 0 rfl) ?_
        refine va_get (D := X) (ci := 3) (C := R_H) (T := T_H) (N := 8) hx hb hts u_0 hown hK hP 33 gc_33 rfl 1 (by decide) k_5 (fun _ h9 => h9) rfl d_H_layObject_121 ?_
        refine va_get (D := X) (ci := 0) (C := R_E) (T := T_E) (N := 14) hx hb hts u_1 hown hK hP 20 gc_20 rfl 6 (by decide) k_10 (fun _ h9 => h9) rfl d_H_layObject_124 ?_
        refine lv_iload_n hx hb d_H_layObject_127 rfl (lv_at hl 1 rfl) ?_
        obtain ⟨y37, h38, e39, hf⟩ := gLd_e hf
        refine va_iald hx hb hK hP 26 0 gc_26 rfl h38 d_H_layObject_128 ?_
        rw [← e39]
        refine lv_iload_n hx hb d_H_layObject_129 rfl (lv_at hl 3 rfl) ?_
        refine lv_iadd hx hb d_H_layObject_130 ?_
        obtain ⟨y40, h41, e42, hf⟩ := gLd_e hf
        refine va_cald hx hb hK hP 31 1 gc_31 rfl h41 d_H_layObject_131 ?_
        rw [← e42]
        obtain ⟨y43, σ44, e45, hf⟩ := gBd_e hf
        refine g_wi (va_runV ⟨hx, hb, hml, hown, hts⟩ (m_G_addCharacter e45) (cwV 2 hts (gG4 (fun _ h => List.mem_cons_of_mem _ h) tb_178 tb_179 tb_180 tb_116 tc_G_addCharacter) rfl rfl rfl (by decide +kernel) ⟨Nat.le_of_ble_eq_true rfl, Nat.le_of_ble_eq_true rfl⟩) (g_preVW (q0 := 1) hE hK hP hD hS hA gc_1 rfl) rfl rfl hl.1 rfl (lv_room (Nat.le_of_ble_eq_true rfl)) d_H_layObject_132 ⟨Nat.zero_le _, Nat.zero_le _⟩) hD hS hA (fun _ => cW_fst) (fun y43 _ H locs hu hP hD hS => ?_)
        subst hu
        refine lv_pop hx hb d_H_layObject_135 rfl ?_
        refine lv_iinc (k := 3) (v := (x3 + 1)) hx hb d_H_layObject_136 hl rfl (by rw [show Int32.ofInt (1) = (1 : Int32) by decide]) (by decide) rfl (fun ls hl => ?_)
        refine lv_goto (tgt := 95) hx hb d_H_layObject_139 rfl ?_
        exact ih1 (x1) (x2) ((x3 + 1)) σ44 _ _ _ hf hP hD hS (lv_sub hl [1, 2, 3, 0] rfl)
  exact (key gFuel).1 q1 q2 σ _ _ _ hf hP hD hS hl
