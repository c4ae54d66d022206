def B_F_readName_0 (rec : Nat → List Int32 → gS → Option (Int32 × gS)) (σ0 : gS) : Option (Int32 × gS) := rec 1 [0, 0] σ0
def B_F_readName_1 (rec : Nat → List Int32 → gS → Option (Int32 × gS)) (x1 : Int32) (x2 : Int32) (σ0 : gS) : Option (Int32 × gS) := if 6 ≤ x2 then (some (x1, σ0)) else (gBd (f_P_codeAt σ0 (σ0.1 8)) (fun y2 σ3 => gBd (f_O_isLetter σ3 y2) (fun y5 σ6 => if y5 = 0 then (some (x1, σ6)) else (gBd (f_P_codeAt σ6 (σ6.1 8)) (fun y9 σ10 => gPut σ10 8 ((σ10.1 8) + 1) (fun σ12 => rec 1 [((((x1 * 27) + y9) - 97) + 1), (x2 + 1)] σ12))))))
def S_F_readName (rec : Nat → List Int32 → gS → Option (Int32 × gS)) (k : Nat) (l : List Int32) (σ0 : gS) : Option (Int32 × gS) := match k, l with
  | 0, [] => B_F_readName_0 rec  σ0
  | 1, [x1, x2] => B_F_readName_1 rec x1 x2 σ0
  | _, _ => none
def R_F_readName : Nat → Nat → List Int32 → gS → Option (Int32 × gS)
  | 0 => fun _ _ _ => none
  | t + 1 => fun k l σ0 => S_F_readName (R_F_readName t) k l σ0
def f_F_readName (σ : gS) : Option (Int32 × gS) := R_F_readName gFuel 0 [] σ
set_option maxHeartbeats 4000000 in
set_option maxRecDepth 100000 in
theorem m_F_readName {l : Launch} {X : va_G} {cI cC cZ : ClassId} {aK aV : Nat → Nat} {a : Nat → Nat} {σ σ' : gS} {r : Int32} (hf : f_F_readName σ = some (r, σ')) {sz : Nat} : Met l y_F_readName w_F_readName { frames := 1, cells := 0, slots := 0, locals := 21 } (gPc X vwCl (gT cI cC cZ) aK aV (cW cI cC cZ a σ) sz [.ref (a 32)]) (gQi X vwCl (cW cI cC cZ a σ) sz (fun r' (_ : Unit) => r' = r) (fun _ => cW cI cC cZ a σ')) 0 0 (va_A (cW cI cC cZ a σ) sz) := by
  refine g_met (cc := b_F_readName) (maxL := 3) (ret := (some .int)) (by decide) rfl (Nat.le_of_ble_eq_true rfl) ?_
  intro p e s m below meth c A ls hx hb hr hml hown hts hlocks hnm hsz hAe hA hP hK hD hS hl hE
  have hown : s.vm.findClass R_F = some m.cls := hown
  have u_0 : ∀ w ∈ u_ws R_F T_F 5, w ∈ w_F_readName := fun w h => List.mem_cons_of_mem _ (tu_F w h)
  have k_0 := hts (.fieldLink R_F 9 "GraphPages$FormReader" "page" "LGraphPages$Page;") (List.mem_cons_of_mem _ tb_41)
  have k_1 := hts (.fieldLink R_F 24 "GraphPages$FormReader" "place" "I") (List.mem_cons_of_mem _ tb_42)
  unfold f_F_readName at hf
  have key : ∀ t : Nat, (∀ (σ0 : gS) (H : Heap) (locs : List Loc) (ls : Array Slot), R_F_readName t 0 [] σ0 = some (r, σ') → va_P X vwCl (cW cI cC cZ a σ0) H → va_D A (cW cI cC cZ a σ0) → va_S A s.heap H locs → lv_has ls 3 [(0, .ref (a 32))] → W p l e (headSpec w_F_readName { frames := 1, cells := 0, slots := 0, locals := 21 }).room s m [.ref (a 32)].toArray below meth c H locs 0 0 (MQ below (gQi X vwCl (cW cI cC cZ a σ) sz (fun r' (_ : Unit) => r' = r) (fun _ => cW cI cC cZ a σ')) [.ref (a 32)].toArray s 0 0 (va_A (cW cI cC cZ a σ) sz)) (F0 m 0 ls [])) ∧ (∀ (x1 : Int32) (x2 : Int32) (σ0 : gS) (H : Heap) (locs : List Loc) (ls : Array Slot), R_F_readName t 1 [x1, x2] σ0 = some (r, σ') → va_P X vwCl (cW cI cC cZ a σ0) H → va_D A (cW cI cC cZ a σ0) → va_S A s.heap H locs → lv_has ls 3 [(0, .ref (a 32)), (1, .int x1), (2, .int x2)] → W p l e (headSpec w_F_readName { frames := 1, cells := 0, slots := 0, locals := 21 }).room s m [.ref (a 32)].toArray below meth c H locs 0 0 (MQ below (gQi X vwCl (cW cI cC cZ a σ) sz (fun r' (_ : Unit) => r' = r) (fun _ => cW cI cC cZ a σ')) [.ref (a 32)].toArray s 0 0 (va_A (cW cI cC cZ a σ) sz)) (F0 m 4 ls [])) := by
    intro t
    induction t with
    | zero => exact ⟨fun  _ _ _ _ hf => (by have hf : (none : Option (Int32 × gS)) = some (r, σ') := hf; cases hf), fun _ _ _ _ _ _ hf => (by have hf : (none : Option (Int32 × gS)) = some (r, σ') := hf; cases hf)⟩
    | succ t ih =>
      obtain ⟨ih0, ih1⟩ := ih
      refine ⟨?_, ?_⟩
      · intro  σ0 H locs ls hf hP hD hS hl
        have hf : B_F_readName_0 (R_F_readName t)  σ0 = some (r, σ') := hf
        unfold B_F_readName_0 at hf
        refine lv_iconst (v := 0) hx hb d_F_readName_0 (by decide) ?_
        refine lv_istore_n hx hb d_F_readName_1 rfl hl (by decide) rfl (fun ls hl => ?_)
        refine lv_iconst (v := 0) hx hb d_F_readName_2 (by decide) ?_
        refine lv_istore_n hx hb d_F_readName_3 rfl hl (by decide) rfl (fun ls hl => ?_)
        exact ih1 (0) (0) σ0 _ _ _ hf hP hD hS (lv_sub hl [2, 1, 0] rfl)
      · intro x1 x2 σ0 H locs ls hf hP hD hS hl
        have hf : B_F_readName_1 (R_F_readName t) x1 x2 σ0 = some (r, σ') := hf
        unfold B_F_readName_1 at hf
        refine lv_iload_n hx hb d_F_readName_4 rfl (lv_at hl 2 rfl) ?_
        refine lv_bipush (v := 6) hx hb d_F_readName_5 (by decide) ?_
        refine lv_icmp_ge (tgt := 65) hx hb d_F_readName_7 rfl (fun c1 => ?_) (fun c1 => ?_)
        · skip
          rw [if_pos c1] at hf
          refine lv_iload_n hx hb d_F_readName_65 rfl (lv_at hl 1 rfl) ?_
          obtain ⟨rfl, rfl⟩ := gRt_e hf
          exact g_zret hx hb hr hlocks rfl hAe hS () rfl hP d_F_readName_66
        rw [if_neg c1] at hf
        refine lv_aload_n hx hb d_F_readName_10 rfl (lv_at hl 0 rfl) ?_
        refine va_get (D := X) (ci := 1) (C := R_F) (T := T_F) (N := 5) hx hb hts u_0 hown hK hP 32 gc_32 rfl 0 (by decide) k_0 (fun _ h9 => h9) rfl d_F_readName_11 ?_
        refine lv_aload_n hx hb d_F_readName_14 rfl (lv_at hl 0 rfl) ?_
        refine va_get (D := X) (ci := 1) (C := R_F) (T := T_F) (N := 5) hx hb hts u_0 hown hK hP 32 gc_32 rfl 2 (by decide) k_1 (fun _ h9 => h9) rfl d_F_readName_15 ?_
        obtain ⟨y2, σ3, e4, hf⟩ := gBd_e hf
        refine g_wi (va_runV ⟨hx, hb, hml, hown, hts⟩ (m_P_codeAt e4) (cwV 1 hts (gG4 (fun _ h => List.mem_cons_of_mem _ h) tb_35 tb_36 tb_37 tb_38 tc_P_codeAt) rfl rfl rfl (by decide +kernel) ⟨Nat.le_of_ble_eq_true rfl, Nat.le_of_ble_eq_true rfl⟩) (g_preVW (q0 := 7) hE hK hP hD hS hA gc_7 rfl) rfl rfl hl.1 rfl (lv_room (Nat.le_of_ble_eq_true rfl)) d_F_readName_18 ⟨Nat.zero_le _, Nat.zero_le _⟩) hD hS hA (fun _ => cW_fst) (fun y2 _ H locs hu hP hD hS => ?_)
        subst hu
        obtain ⟨y5, σ6, e7, hf⟩ := gBd_e hf
        refine g_wi (va_runSN ⟨hx, hb, hml, hown, hts⟩ (m_O_isLetter e7) ⟨va_cnB 1 hts (gG (fun _ h => List.mem_cons_of_mem _ h) tc_O_isLetter) rfl rfl rfl (hE.1 (R_F, 76, y_O_isLetter, "GraphPages") (by decide +kernel)) (hts (.initialized R_O) ((fun _ h => List.mem_cons_of_mem _ h) _ tb_39)) (by decide +kernel) ⟨Nat.le_of_ble_eq_true rfl, Nat.le_of_ble_eq_true rfl⟩, (hts (.static y_O_isLetter) ((fun _ h => List.mem_cons_of_mem _ h) _ tb_40)), trivial⟩ (g_preSW hE hK hP hD hS hA) rfl rfl hl.1 rfl (lv_room (Nat.le_of_ble_eq_true rfl)) d_F_readName_21 ⟨Nat.zero_le _, Nat.zero_le _⟩) hD hS hA (fun _ => cW_fst) (fun y5 _ H locs hu hP hD hS => ?_)
        subst hu
        refine lv_if_eq (tgt := 65) hx hb d_F_readName_24 rfl (fun c8 => ?_) (fun c8 => ?_)
        · skip
          rw [if_pos c8] at hf
          refine lv_iload_n hx hb d_F_readName_65 rfl (lv_at hl 1 rfl) ?_
          obtain ⟨rfl, rfl⟩ := gRt_e hf
          exact g_zret hx hb hr hlocks rfl hAe hS () rfl hP d_F_readName_66
        rw [if_neg c8] at hf
        refine lv_iload_n hx hb d_F_readName_27 rfl (lv_at hl 1 rfl) ?_
        refine lv_bipush (v := 27) hx hb d_F_readName_28 (by decide) ?_
        refine lv_imul hx hb d_F_readName_30 ?_
        refine lv_aload_n hx hb d_F_readName_31 rfl (lv_at hl 0 rfl) ?_
        refine va_get (D := X) (ci := 1) (C := R_F) (T := T_F) (N := 5) hx hb hts u_0 hown hK hP 32 gc_32 rfl 0 (by decide) k_0 (fun _ h9 => h9) rfl d_F_readName_32 ?_
        refine lv_aload_n hx hb d_F_readName_35 rfl (lv_at hl 0 rfl) ?_
        refine va_get (D := X) (ci := 1) (C := R_F) (T := T_F) (N := 5) hx hb hts u_0 hown hK hP 32 gc_32 rfl 2 (by decide) k_1 (fun _ h9 => h9) rfl d_F_readName_36 ?_
        obtain ⟨y9, σ10, e11, hf⟩ := gBd_e hf
        refine g_wi (va_runV ⟨hx, hb, hml, hown, hts⟩ (m_P_codeAt e11) (cwV 1 hts (gG4 (fun _ h => List.mem_cons_of_mem _ h) tb_35 tb_36 tb_37 tb_38 tc_P_codeAt) rfl rfl rfl (by decide +kernel) ⟨Nat.le_of_ble_eq_true rfl, Nat.le_of_ble_eq_true rfl⟩) (g_preVW (q0 := 7) hE hK hP hD hS hA gc_7 rfl) rfl rfl hl.1 rfl (lv_room (Nat.le_of_ble_eq_true rfl)) d_F_readName_39 ⟨Nat.zero_le _, Nat.zero_le _⟩) hD hS hA (fun _ => cW_fst) (fun y9 _ H locs hu hP hD hS => ?_)
        subst hu
        refine lv_iadd hx hb d_F_readName_42 ?_
        refine lv_bipush (v := 97) hx hb d_F_readName_43 (by decide) ?_
        refine lv_isub hx hb d_F_readName_45 ?_
        refine lv_iconst (v := 1) hx hb d_F_readName_46 (by decide) ?_
        refine lv_iadd hx hb d_F_readName_47 ?_
        refine lv_istore_n hx hb d_F_readName_48 rfl hl (by decide) rfl (fun ls hl => ?_)
        refine lv_aload_n hx hb d_F_readName_49 rfl (lv_at hl 1 rfl) ?_
        refine lv_dup hx hb d_F_readName_50 rfl ?_
        refine va_get (D := X) (ci := 1) (C := R_F) (T := T_F) (N := 5) hx hb hts u_0 hown hK hP 32 gc_32 rfl 2 (by decide) k_1 (fun _ h9 => h9) rfl d_F_readName_51 ?_
        refine lv_iconst (v := 1) hx hb d_F_readName_54 (by decide) ?_
        refine lv_iadd hx hb d_F_readName_55 ?_
        obtain ⟨σ12, e13, hf⟩ := gPut_e hf
        refine va_put (D := X) (ci := 1) (ty := .int) (C := R_F) (T := T_F) (N := 5) hx hb hts u_0 t_F t_F_ok n_F hown hK hP hD hS 32 gc_32 rfl 2 (by decide) k_1 (fun _ h9 => h9) rfl (by decide +kernel) rfl rfl (Nat.le_of_ble_eq_true rfl) d_F_readName_56 (fun H locs hP hD hS => ?_)
        rw [sc_32_2, ← e13] at hP hD
        refine lv_iinc (k := 2) (v := (x2 + 1)) hx hb d_F_readName_59 hl rfl (by rw [show Int32.ofInt (1) = (1 : Int32) by decide]) (by decide) rfl (fun ls hl => ?_)
        refine lv_goto (tgt := 4) hx hb d_F_readName_62 rfl ?_
        exact ih1 (((((x1 * 27) + y9) - 97) + 1)) ((x2 + 1)) σ12 _ _ _ hf hP hD hS (lv_sub hl [2, 1, 0] rfl)
  exact (key gFuel).1  σ _ _ _ hf hP hD hS hl

def B_F_skipSpaces_0 (rec : Nat → List Int32 → gS → Option (Int32 × gS)) (σ0 : gS) : Option (Int32 × gS) := rec 1 [(σ0.1 8)] σ0
def B_F_skipSpaces_1 (rec : Nat → List Int32 → gS → Option (Int32 × gS)) (x1 : Int32) (σ0 : gS) : Option (Int32 × gS) := if (σ0.1 1) ≤ (σ0.1 8) then (rec 2 [x1] σ0) else (gBd (f_P_codeAt σ0 (σ0.1 8)) (fun y2 σ3 => if y2 = 32 then (gPut σ3 8 ((σ3.1 8) + 1) (fun σ6 => rec 1 [x1] σ6)) else (rec 2 [x1] σ3)))
def B_F_skipSpaces_2 (rec : Nat → List Int32 → gS → Option (Int32 × gS)) (x1 : Int32) (σ0 : gS) : Option (Int32 × gS) := if (σ0.1 8) ≤ x1 then (some (0, σ0)) else (some (1, σ0))
def S_F_skipSpaces (rec : Nat → List Int32 → gS → Option (Int32 × gS)) (k : Nat) (l : List Int32) (σ0 : gS) : Option (Int32 × gS) := match k, l with
  | 0, [] => B_F_skipSpaces_0 rec  σ0
  | 1, [x1] => B_F_skipSpaces_1 rec x1 σ0
  | 2, [x1] => B_F_skipSpaces_2 rec x1 σ0
  | _, _ => none
def R_F_skipSpaces : Nat → Nat → List Int32 → gS → Option (Int32 × gS)
  | 0 => fun _ _ _ => none
  | t + 1 => fun k l σ0 => S_F_skipSpaces (R_F_skipSpaces t) k l σ0
def f_F_skipSpaces (σ : gS) : Option (Int32 × gS) := R_F_skipSpaces gFuel 0 [] σ
set_option maxHeartbeats 4000000 in
set_option maxRecDepth 100000 in
theorem m_F_skipSpaces {l : Launch} {X : va_G} {cI cC cZ : ClassId} {aK aV : Nat → Nat} {a : Nat → Nat} {σ σ' : gS} {r : Int32} (hf : f_F_skipSpaces σ = some (r, σ')) {sz : Nat} : Met l y_F_skipSpaces w_F_skipSpaces { frames := 1, cells := 0, slots := 0, locals := 21 } (gPc X vwCl (gT cI cC cZ) aK aV (cW cI cC cZ a σ) sz [.ref (a 32)]) (gQi X vwCl (cW cI cC cZ a σ) sz (fun r' (_ : Unit) => r' = r) (fun _ => cW cI cC cZ a σ')) 0 0 (va_A (cW cI cC cZ a σ) sz) := by
  refine g_met (cc := b_F_skipSpaces) (maxL := 2) (ret := (some .boolean)) (by decide) rfl (Nat.le_of_ble_eq_true rfl) ?_
  intro p e s m below meth c A ls hx hb hr hml hown hts hlocks hnm hsz hAe hA hP hK hD hS hl hE
  have hown : s.vm.findClass R_F = some m.cls := hown
  have u_0 : ∀ w ∈ u_ws R_F T_F 5, w ∈ w_F_skipSpaces := fun w h => List.mem_cons_of_mem _ (tu_F w h)
  have u_1 : ∀ w ∈ u_ws R_P T_P 2, w ∈ w_F_skipSpaces := fun w h => List.mem_cons_of_mem _ (tu_P w h)
  have k_0 := hts (.fieldLink R_F 24 "GraphPages$FormReader" "place" "I") (List.mem_cons_of_mem _ tb_42)
  have k_1 := hts (.fieldLink R_F 9 "GraphPages$FormReader" "page" "LGraphPages$Page;") (List.mem_cons_of_mem _ tb_41)
  have k_2 := hts (.fieldLink R_F 34 "GraphPages$Page" "end" "I") (List.mem_cons_of_mem _ tb_43)
  unfold f_F_skipSpaces at hf
  have key : ∀ t : Nat, (∀ (σ0 : gS) (H : Heap) (locs : List Loc) (ls : Array Slot), R_F_skipSpaces t 0 [] σ0 = some (r, σ') → va_P X vwCl (cW cI cC cZ a σ0) H → va_D A (cW cI cC cZ a σ0) → va_S A s.heap H locs → lv_has ls 2 [(0, .ref (a 32))] → W p l e (headSpec w_F_skipSpaces { frames := 1, cells := 0, slots := 0, locals := 21 }).room s m [.ref (a 32)].toArray below meth c H locs 0 0 (MQ below (gQi X vwCl (cW cI cC cZ a σ) sz (fun r' (_ : Unit) => r' = r) (fun _ => cW cI cC cZ a σ')) [.ref (a 32)].toArray s 0 0 (va_A (cW cI cC cZ a σ) sz)) (F0 m 0 ls [])) ∧ (∀ (x1 : Int32) (σ0 : gS) (H : Heap) (locs : List Loc) (ls : Array Slot), R_F_skipSpaces t 1 [x1] σ0 = some (r, σ') → va_P X vwCl (cW cI cC cZ a σ0) H → va_D A (cW cI cC cZ a σ0) → va_S A s.heap H locs → lv_has ls 2 [(0, .ref (a 32)), (1, .int x1)] → W p l e (headSpec w_F_skipSpaces { frames := 1, cells := 0, slots := 0, locals := 21 }).room s m [.ref (a 32)].toArray below meth c H locs 0 0 (MQ below (gQi X vwCl (cW cI cC cZ a σ) sz (fun r' (_ : Unit) => r' = r) (fun _ => cW cI cC cZ a σ')) [.ref (a 32)].toArray s 0 0 (va_A (cW cI cC cZ a σ) sz)) (F0 m 5 ls [])) ∧ (∀ (x1 : Int32) (σ0 : gS) (H : Heap) (locs : List Loc) (ls : Array Slot), R_F_skipSpaces t 2 [x1] σ0 = some (r, σ') → va_P X vwCl (cW cI cC cZ a σ0) H → va_D A (cW cI cC cZ a σ0) → va_S A s.heap H locs → lv_has ls 2 [(0, .ref (a 32)), (1, .int x1)] → W p l e (headSpec w_F_skipSpaces { frames := 1, cells := 0, slots := 0, locals := 21 }).room s m [.ref (a 32)].toArray below meth c H locs 0 0 (MQ below (gQi X vwCl (cW cI cC cZ a σ) sz (fun r' (_ : Unit) => r' = r) (fun _ => cW cI cC cZ a σ')) [.ref (a 32)].toArray s 0 0 (va_A (cW cI cC cZ a σ) sz)) (F0 m 48 ls [])) := by
    intro t
    induction t with
    | zero => exact ⟨fun  _ _ _ _ hf => (by have hf : (none : Option (Int32 × gS)) = some (r, σ') := hf; cases hf), fun _ _ _ _ _ hf => (by have hf : (none : Option (Int32 × gS)) = some (r, σ') := hf; cases hf), fun _ _ _ _ _ hf => (by have hf : (none : Option (Int32 × gS)) = some (r, σ') := hf; cases hf)⟩
    | succ t ih =>
      obtain ⟨ih0, ih1, ih2⟩ := ih
      refine ⟨?_, ?_, ?_⟩
      · intro  σ0 H locs ls hf hP hD hS hl
        have hf : B_F_skipSpaces_0 (R_F_skipSpaces t)  σ0 = some (r, σ') := hf
        unfold B_F_skipSpaces_0 at hf
        refine lv_aload_n hx hb d_F_skipSpaces_0 rfl (lv_at hl 0 rfl) ?_
        refine va_get (D := X) (ci := 1) (C := R_F) (T := T_F) (N := 5) hx hb hts u_0 hown hK hP 32 gc_32 rfl 2 (by decide) k_0 (fun _ h9 => h9) rfl d_F_skipSpaces_1 ?_
        refine lv_istore_n hx hb d_F_skipSpaces_4 rfl hl (by decide) rfl (fun ls hl => ?_)
        exact ih1 ((σ0.1 8)) σ0 _ _ _ hf hP hD hS (lv_sub hl [1, 0] rfl)
      · intro x1 σ0 H locs ls hf hP hD hS hl
        have hf : B_F_skipSpaces_1 (R_F_skipSpaces t) x1 σ0 = some (r, σ') := hf
        unfold B_F_skipSpaces_1 at hf
        refine lv_aload_n hx hb d_F_skipSpaces_5 rfl (lv_at hl 0 rfl) ?_
        refine va_get (D := X) (ci := 1) (C := R_F) (T := T_F) (N := 5) hx hb hts u_0 hown hK hP 32 gc_32 rfl 2 (by decide) k_0 (fun _ h9 => h9) rfl d_F_skipSpaces_6 ?_
        refine lv_aload_n hx hb d_F_skipSpaces_9 rfl (lv_at hl 0 rfl) ?_
        refine va_get (D := X) (ci := 1) (C := R_F) (T := T_F) (N := 5) hx hb hts u_0 hown hK hP 32 gc_32 rfl 0 (by decide) k_1 (fun _ h9 => h9) rfl d_F_skipSpaces_10 ?_
        refine va_get (D := X) (ci := 5) (C := R_P) (T := T_P) (N := 2) hx hb hts u_1 hown hK hP 7 gc_7 rfl 0 (by decide) k_2 (fun _ h9 => h9) rfl d_F_skipSpaces_13 ?_
        refine lv_icmp_ge (tgt := 48) hx hb d_F_skipSpaces_16 rfl (fun c1 => ?_) (fun c1 => ?_)
        · skip
          rw [if_pos c1] at hf
          exact ih2 (x1) σ0 _ _ _ hf hP hD hS (lv_sub hl [0, 1] rfl)
        rw [if_neg c1] at hf
        refine lv_aload_n hx hb d_F_skipSpaces_19 rfl (lv_at hl 0 rfl) ?_
        refine va_get (D := X) (ci := 1) (C := R_F) (T := T_F) (N := 5) hx hb hts u_0 hown hK hP 32 gc_32 rfl 0 (by decide) k_1 (fun _ h9 => h9) rfl d_F_skipSpaces_20 ?_
        refine lv_aload_n hx hb d_F_skipSpaces_23 rfl (lv_at hl 0 rfl) ?_
        refine va_get (D := X) (ci := 1) (C := R_F) (T := T_F) (N := 5) hx hb hts u_0 hown hK hP 32 gc_32 rfl 2 (by decide) k_0 (fun _ h9 => h9) rfl d_F_skipSpaces_24 ?_
        obtain ⟨y2, σ3, e4, hf⟩ := gBd_e hf
        refine g_wi (va_runV ⟨hx, hb, hml, hown, hts⟩ (m_P_codeAt e4) (cwV 1 hts (gG4 (fun _ h => List.mem_cons_of_mem _ h) tb_35 tb_36 tb_37 tb_38 tc_P_codeAt) rfl rfl rfl (by decide +kernel) ⟨Nat.le_of_ble_eq_true rfl, Nat.le_of_ble_eq_true rfl⟩) (g_preVW (q0 := 7) hE hK hP hD hS hA gc_7 rfl) rfl rfl hl.1 rfl (lv_room (Nat.le_of_ble_eq_true rfl)) d_F_skipSpaces_27 ⟨Nat.zero_le _, Nat.zero_le _⟩) hD hS hA (fun _ => cW_fst) (fun y2 _ H locs hu hP hD hS => ?_)
        subst hu
        refine lv_bipush (v := 32) hx hb d_F_skipSpaces_30 (by decide) ?_
        refine lv_icmp_ne (tgt := 48) hx hb d_F_skipSpaces_32 rfl (fun c5 => ?_) (fun c5 => ?_)
        · skip
          rw [if_neg c5] at hf
          exact ih2 (x1) σ3 _ _ _ hf hP hD hS (lv_sub hl [0, 1] rfl)
        rw [if_pos c5] at hf
        refine lv_aload_n hx hb d_F_skipSpaces_35 rfl (lv_at hl 0 rfl) ?_
        refine lv_dup hx hb d_F_skipSpaces_36 rfl ?_
        refine va_get (D := X) (ci := 1) (C := R_F) (T := T_F) (N := 5) hx hb hts u_0 hown hK hP 32 gc_32 rfl 2 (by decide) k_0 (fun _ h9 => h9) rfl d_F_skipSpaces_37 ?_
        refine lv_iconst (v := 1) hx hb d_F_skipSpaces_40 (by decide) ?_
        refine lv_iadd hx hb d_F_skipSpaces_41 ?_
        obtain ⟨σ6, e7, hf⟩ := gPut_e hf
        refine va_put (D := X) (ci := 1) (ty := .int) (C := R_F) (T := T_F) (N := 5) hx hb hts u_0 t_F t_F_ok n_F hown hK hP hD hS 32 gc_32 rfl 2 (by decide) k_0 (fun _ h9 => h9) rfl (by decide +kernel) rfl rfl (Nat.le_of_ble_eq_true rfl) d_F_skipSpaces_42 (fun H locs hP hD hS => ?_)
        rw [sc_32_2, ← e7] at hP hD
        refine lv_goto (tgt := 5) hx hb d_F_skipSpaces_45 rfl ?_
        exact ih1 (x1) σ6 _ _ _ hf hP hD hS (lv_sub hl [0, 1] rfl)
      · intro x1 σ0 H locs ls hf hP hD hS hl
        have hf : B_F_skipSpaces_2 (R_F_skipSpaces t) x1 σ0 = some (r, σ') := hf
        unfold B_F_skipSpaces_2 at hf
        refine lv_aload_n hx hb d_F_skipSpaces_48 rfl (lv_at hl 0 rfl) ?_
        refine va_get (D := X) (ci := 1) (C := R_F) (T := T_F) (N := 5) hx hb hts u_0 hown hK hP 32 gc_32 rfl 2 (by decide) k_0 (fun _ h9 => h9) rfl d_F_skipSpaces_49 ?_
        refine lv_iload_n hx hb d_F_skipSpaces_52 rfl (lv_at hl 1 rfl) ?_
        refine lv_icmp_le (tgt := 60) hx hb d_F_skipSpaces_53 rfl (fun c8 => ?_) (fun c8 => ?_)
        · skip
          rw [if_pos c8] at hf
          refine lv_iconst (v := 0) hx hb d_F_skipSpaces_60 (by decide) ?_
          obtain ⟨rfl, rfl⟩ := gRt_e hf
          exact g_zret hx hb hr hlocks rfl hAe hS () rfl hP d_F_skipSpaces_61
        rw [if_neg c8] at hf
        refine lv_iconst (v := 1) hx hb d_F_skipSpaces_56 (by decide) ?_
        refine lv_goto (tgt := 61) hx hb d_F_skipSpaces_57 rfl ?_
        obtain ⟨rfl, rfl⟩ := gRt_e hf
        exact g_zret hx hb hr hlocks rfl hAe hS () rfl hP d_F_skipSpaces_61
  exact (key gFuel).1  σ _ _ _ hf hP hD hS hl

def f_F_skip (σ : gS) (x1 : Int32) : Option (Int32 × gS) := gBd (f_P_codeAt σ (σ.1 8)) (fun y1 σ2 => if y1 = x1 then (gPut σ2 8 ((σ2.1 8) + 1) (fun σ5 => some (1, σ5))) else (some (0, σ2)))
set_option maxHeartbeats 4000000 in
set_option maxRecDepth 100000 in
theorem m_F_skip {l : Launch} {X : va_G} {cI cC cZ : ClassId} {aK aV : Nat → Nat} {a : Nat → Nat} {σ σ' : gS} {r : Int32} {x1 : Int32} (hf : f_F_skip σ x1 = some (r, σ')) {sz : Nat} : Met l y_F_skip w_F_skip { frames := 1, cells := 0, slots := 0, locals := 21 } (gPc X vwCl (gT cI cC cZ) aK aV (cW cI cC cZ a σ) sz [.ref (a 32), .int x1]) (gQi X vwCl (cW cI cC cZ a σ) sz (fun r' (_ : Unit) => r' = r) (fun _ => cW cI cC cZ a σ')) 0 0 (va_A (cW cI cC cZ a σ) sz) := by
  refine g_met (cc := b_F_skip) (maxL := 2) (ret := (some .boolean)) (by decide) rfl (Nat.le_of_ble_eq_true rfl) ?_
  intro p e s m below meth c A ls hx hb hr hml hown hts hlocks hnm hsz hAe hA hP hK hD hS hl hE
  have hown : s.vm.findClass R_F = some m.cls := hown
  have u_0 : ∀ w ∈ u_ws R_F T_F 5, w ∈ w_F_skip := fun w h => List.mem_cons_of_mem _ (tu_F w h)
  have k_0 := hts (.fieldLink R_F 9 "GraphPages$FormReader" "page" "LGraphPages$Page;") (List.mem_cons_of_mem _ tb_41)
  have k_1 := hts (.fieldLink R_F 24 "GraphPages$FormReader" "place" "I") (List.mem_cons_of_mem _ tb_42)
  unfold f_F_skip at hf
  refine lv_aload_n hx hb d_F_skip_0 rfl (lv_at hl 0 rfl) ?_
  refine va_get (D := X) (ci := 1) (C := R_F) (T := T_F) (N := 5) hx hb hts u_0 hown hK hP 32 gc_32 rfl 0 (by decide) k_0 (fun _ h9 => h9) rfl d_F_skip_1 ?_
  refine lv_aload_n hx hb d_F_skip_4 rfl (lv_at hl 0 rfl) ?_
  refine va_get (D := X) (ci := 1) (C := R_F) (T := T_F) (N := 5) hx hb hts u_0 hown hK hP 32 gc_32 rfl 2 (by decide) k_1 (fun _ h9 => h9) rfl d_F_skip_5 ?_
  obtain ⟨y1, σ2, e3, hf⟩ := gBd_e hf
  refine g_wi (va_runV ⟨hx, hb, hml, hown, hts⟩ (m_P_codeAt e3) (cwV 1 hts (gG4 (fun _ h => List.mem_cons_of_mem _ h) tb_35 tb_36 tb_37 tb_38 tc_P_codeAt) rfl rfl rfl (by decide +kernel) ⟨Nat.le_of_ble_eq_true rfl, Nat.le_of_ble_eq_true rfl⟩) (g_preVW (q0 := 7) hE hK hP hD hS hA gc_7 rfl) rfl rfl hl.1 rfl (lv_room (Nat.le_of_ble_eq_true rfl)) d_F_skip_8 ⟨Nat.zero_le _, Nat.zero_le _⟩) hD hS hA (fun _ => cW_fst) (fun y1 _ H locs hu hP hD hS => ?_)
  subst hu
  refine lv_iload_n hx hb d_F_skip_11 rfl (lv_at hl 1 rfl) ?_
  refine lv_icmp_eq (tgt := 17) hx hb d_F_skip_12 rfl (fun c4 => ?_) (fun c4 => ?_)
  · skip
    rw [if_pos c4] at hf
    refine lv_aload_n hx hb d_F_skip_17 rfl (lv_at hl 0 rfl) ?_
    refine lv_dup hx hb d_F_skip_18 rfl ?_
    refine va_get (D := X) (ci := 1) (C := R_F) (T := T_F) (N := 5) hx hb hts u_0 hown hK hP 32 gc_32 rfl 2 (by decide) k_1 (fun _ h9 => h9) rfl d_F_skip_19 ?_
    refine lv_iconst (v := 1) hx hb d_F_skip_22 (by decide) ?_
    refine lv_iadd hx hb d_F_skip_23 ?_
    obtain ⟨σ5, e6, hf⟩ := gPut_e hf
    refine va_put (D := X) (ci := 1) (ty := .int) (C := R_F) (T := T_F) (N := 5) hx hb hts u_0 t_F t_F_ok n_F hown hK hP hD hS 32 gc_32 rfl 2 (by decide) k_1 (fun _ h9 => h9) rfl (by decide +kernel) rfl rfl (Nat.le_of_ble_eq_true rfl) d_F_skip_24 (fun H locs hP hD hS => ?_)
    rw [sc_32_2, ← e6] at hP hD
    refine lv_iconst (v := 1) hx hb d_F_skip_27 (by decide) ?_
    obtain ⟨rfl, rfl⟩ := gRt_e hf
    exact g_zret hx hb hr hlocks rfl hAe hS () rfl hP d_F_skip_28
  rw [if_neg c4] at hf
  refine lv_iconst (v := 0) hx hb d_F_skip_15 (by decide) ?_
  obtain ⟨rfl, rfl⟩ := gRt_e hf
  exact g_zret hx hb hr hlocks rfl hAe hS () rfl hP d_F_skip_16

def f_F_mayStandInValue (σ : gS) (x0 : Int32) : Option (Int32 × gS) := if x0 = 34 then (some (0, σ)) else (if x0 = 60 then (some (0, σ)) else (if x0 = 38 then (some (0, σ)) else (some (1, σ))))
set_option maxHeartbeats 4000000 in
set_option maxRecDepth 100000 in
theorem m_F_mayStandInValue {l : Launch} {X : va_G} {cI cC cZ : ClassId} {aK aV : Nat → Nat} {a : Nat → Nat} {σ σ' : gS} {r : Int32} {x0 : Int32} (hf : f_F_mayStandInValue σ x0 = some (r, σ')) {sz : Nat} : Met l y_F_mayStandInValue w_F_mayStandInValue { frames := 0, cells := 0, slots := 0, locals := 0 } (gPc X vwCl (gT cI cC cZ) aK aV (cW cI cC cZ a σ) sz [.int x0]) (gQi X vwCl (cW cI cC cZ a σ) sz (fun r' (_ : Unit) => r' = r) (fun _ => cW cI cC cZ a σ')) 0 0 (va_A (cW cI cC cZ a σ) sz) := by
  refine g_met (cc := b_F_mayStandInValue) (maxL := 1) (ret := (some .boolean)) (by decide) rfl (Nat.le_of_ble_eq_true rfl) ?_
  intro p e s m below meth c A ls hx hb hr hml hown hts hlocks hnm hsz hAe hA hP hK hD hS hl hE
  have hown : s.vm.findClass R_F = some m.cls := hown
  unfold f_F_mayStandInValue at hf
  refine lv_iload_n hx hb d_F_mayStandInValue_0 rfl (lv_at hl 0 rfl) ?_
  refine lv_bipush (v := 34) hx hb d_F_mayStandInValue_1 (by decide) ?_
  refine lv_icmp_eq (tgt := 22) hx hb d_F_mayStandInValue_3 rfl (fun c1 => ?_) (fun c1 => ?_)
  · skip
    rw [if_pos c1] at hf
    refine lv_iconst (v := 0) hx hb d_F_mayStandInValue_22 (by decide) ?_
    obtain ⟨rfl, rfl⟩ := gRt_e hf
    exact g_zret hx hb hr hlocks rfl hAe hS () rfl hP d_F_mayStandInValue_23
  rw [if_neg c1] at hf
  refine lv_iload_n hx hb d_F_mayStandInValue_6 rfl (lv_at hl 0 rfl) ?_
  refine lv_bipush (v := 60) hx hb d_F_mayStandInValue_7 (by decide) ?_
  refine lv_icmp_eq (tgt := 22) hx hb d_F_mayStandInValue_9 rfl (fun c2 => ?_) (fun c2 => ?_)
  · skip
    rw [if_pos c2] at hf
    refine lv_iconst (v := 0) hx hb d_F_mayStandInValue_22 (by decide) ?_
    obtain ⟨rfl, rfl⟩ := gRt_e hf
    exact g_zret hx hb hr hlocks rfl hAe hS () rfl hP d_F_mayStandInValue_23
  rw [if_neg c2] at hf
  refine lv_iload_n hx hb d_F_mayStandInValue_12 rfl (lv_at hl 0 rfl) ?_
  refine lv_bipush (v := 38) hx hb d_F_mayStandInValue_13 (by decide) ?_
  refine lv_icmp_eq (tgt := 22) hx hb d_F_mayStandInValue_15 rfl (fun c3 => ?_) (fun c3 => ?_)
  · skip
    rw [if_pos c3] at hf
    refine lv_iconst (v := 0) hx hb d_F_mayStandInValue_22 (by decide) ?_
    obtain ⟨rfl, rfl⟩ := gRt_e hf
    exact g_zret hx hb hr hlocks rfl hAe hS () rfl hP d_F_mayStandInValue_23
  rw [if_neg c3] at hf
  refine lv_iconst (v := 1) hx hb d_F_mayStandInValue_18 (by decide) ?_
  refine lv_goto (tgt := 23) hx hb d_F_mayStandInValue_19 rfl ?_
  obtain ⟨rfl, rfl⟩ := gRt_e hf
  exact g_zret hx hb hr hlocks rfl hAe hS () rfl hP d_F_mayStandInValue_23

def B_F_readAttribute_0 (rec : Nat → List Int32 → gS → Option (Int32 × gS)) (x1 : Int32) (σ0 : gS) : Option (Int32 × gS) := gBd (f_F_readName σ0) (fun y1 σ2 => gBd (f_E_findAttribute σ2 x1 y1) (fun y4 σ5 => if y4 = (-1) then (gBd (f_F_skip σ5 61) (fun y8 σ9 => if y8 = 0 then (some (0, σ9)) else (gBd (f_F_skip σ9 34) (fun y12 σ13 => if y12 = 0 then (some (0, σ13)) else (rec 1 [y1, (σ13.1 8)] σ13))))) else (some (0, σ5))))
def B_F_readAttribute_1 (rec : Nat → List Int32 → gS → Option (Int32 × gS)) (x2 : Int32) (x3 : Int32) (σ0 : gS) : Option (Int32 × gS) := if (σ0.1 1) ≤ (σ0.1 8) then (rec 2 [x2, x3] σ0) else (gBd (f_P_codeAt σ0 (σ0.1 8)) (fun y17 σ18 => gBd (f_F_mayStandInValue σ18 y17) (fun y20 σ21 => if y20 = 0 then (rec 2 [x2, x3] σ21) else (gPut σ21 8 ((σ21.1 8) + 1) (fun σ24 => rec 1 [x2, x3] σ24)))))
def B_F_readAttribute_2 (rec : Nat → List Int32 → gS → Option (Int32 × gS)) (x2 : Int32) (x3 : Int32) (σ0 : gS) : Option (Int32 × gS) := gBd (f_F_skip σ0 34) (fun y26 σ27 => if y26 = 0 then (some (0, σ27)) else (gBd (f_E_addAttribute σ27 x2 x3 (((σ27.1 8) - 1) - x3)) (fun y30 σ31 => if y30 = 0 then (some (0, σ31)) else (some (1, σ31)))))
def S_F_readAttribute (rec : Nat → List Int32 → gS → Option (Int32 × gS)) (k : Nat) (l : List Int32) (σ0 : gS) : Option (Int32 × gS) := match k, l with
  | 0, [x1] => B_F_readAttribute_0 rec x1 σ0
  | 1, [x2, x3] => B_F_readAttribute_1 rec x2 x3 σ0
  | 2, [x2, x3] => B_F_readAttribute_2 rec x2 x3 σ0
  | _, _ => none
def R_F_readAttribute : Nat → Nat → List Int32 → gS → Option (Int32 × gS)
  | 0 => fun _ _ _ => none
  | t + 1 => fun k l σ0 => S_F_readAttribute (R_F_readAttribute t) k l σ0
def f_F_readAttribute (σ : gS) (x1 : Int32) : Option (Int32 × gS) := R_F_readAttribute gFuel 0 [x1] σ
set_option maxHeartbeats 4000000 in
set_option maxRecDepth 100000 in
theorem m_F_readAttribute {l : Launch} {X : va_G} {cI cC cZ : ClassId} {aK aV : Nat → Nat} {a : Nat → Nat} {σ σ' : gS} {r : Int32} {q1 : Int32} (hf : f_F_readAttribute σ q1 = some (r, σ')) {sz : Nat} : Met l y_F_readAttribute w_F_readAttribute { frames := 2, cells := 0, slots := 0, locals := 43 } (gPc X vwCl (gT cI cC cZ) aK aV (cW cI cC cZ a σ) sz [.ref (a 32), .int q1]) (gQi X vwCl (cW cI cC cZ a σ) sz (fun r' (_ : Unit) => r' = r) (fun _ => cW cI cC cZ a σ')) 0 0 (va_A (cW cI cC cZ a σ) sz) := by
  refine g_met (cc := b_F_readAttribute) (maxL := 4) (ret := (some .boolean)) (by decide) rfl (Nat.le_of_ble_eq_true rfl) ?_
  intro p e s m below meth c A ls hx hb hr hml hown hts hlocks hnm hsz hAe hA hP hK hD hS hl hE
  have hown : s.vm.findClass R_F = some m.cls := hown
  have u_0 : ∀ w ∈ u_ws R_F T_F 5, w ∈ w_F_readAttribute := fun w h => List.mem_cons_of_mem _ (tu_F w h)
  have u_1 : ∀ w ∈ u_ws R_P T_P 2, w ∈ w_F_readAttribute := fun w h => List.mem_cons_of_mem _ (tu_P w h)
  have k_0 := hts (.fieldLink R_F 15 "GraphPages$FormReader" "elements" "LGraphPages$Elements;") (List.mem_cons_of_mem _ tb_60)
  have k_1 := hts (.fieldLink R_F 24 "GraphPages$FormReader" "place" "I") (List.mem_cons_of_mem _ tb_42)
  have k_2 := hts (.fieldLink R_F 9 "GraphPages$FormReader" "page" "LGraphPages$Page;") (List.mem_cons_of_mem _ tb_41)
  have k_3 := hts (.fieldLink R_F 34 "GraphPages$Page" "end" "I") (List.mem_cons_of_mem _ tb_43)
  unfold f_F_readAttribute at hf
  have key : ∀ t : Nat, (∀ (x1 : Int32) (σ0 : gS) (H : Heap) (locs : List Loc) (ls : Array Slot), R_F_readAttribute t 0 [x1] σ0 = some (r, σ') → va_P X vwCl (cW cI cC cZ a σ0) H → va_D A (cW cI cC cZ a σ0) → va_S A s.heap H locs → lv_has ls 4 [(0, .ref (a 32)), (1, .int x1)] → W p l e (headSpec w_F_readAttribute { frames := 2, cells := 0, slots := 0, locals := 43 }).room s m [.ref (a 32), .int q1].toArray below meth c H locs 0 0 (MQ below (gQi X vwCl (cW cI cC cZ a σ) sz (fun r' (_ : Unit) => r' = r) (fun _ => cW cI cC cZ a σ')) [.ref (a 32), .int q1].toArray s 0 0 (va_A (cW cI cC cZ a σ) sz)) (F0 m 0 ls [])) ∧ (∀ (x2 : Int32) (x3 : Int32) (σ0 : gS) (H : Heap) (locs : List Loc) (ls : Array Slot), R_F_readAttribute t 1 [x2, x3] σ0 = some (r, σ') → va_P X vwCl (cW cI cC cZ a σ0) H → va_D A (cW cI cC cZ a σ0) → va_S A s.heap H locs → lv_has ls 4 [(0, .ref (a 32)), (2, .int x2), (3, .int x3)] → W p l e (headSpec w_F_readAttribute { frames := 2, cells := 0, slots := 0, locals := 43 }).room s m [.ref (a 32), .int q1].toArray below meth c H locs 0 0 (MQ below (gQi X vwCl (cW cI cC cZ a σ) sz (fun r' (_ : Unit) => r' = r) (fun _ => cW cI cC cZ a σ')) [.ref (a 32), .int q1].toArray s 0 0 (va_A (cW cI cC cZ a σ) sz)) (F0 m 43 ls [])) ∧ (∀ (x2 : Int32) (x3 : Int32) (σ0 : gS) (H : Heap) (locs : List Loc) (ls : Array Slot), R_F_readAttribute t 2 [x2, x3] σ0 = some (r, σ') → va_P X vwCl (cW cI cC cZ a σ0) H → va_D A (cW cI cC cZ a σ0) → va_S A s.heap H locs → lv_has ls 4 [(0, .ref (a 32)), (2, .int x2), (3, .int x3)] → W p l e (headSpec w_F_readAttribute { frames := 2, cells := 0, slots := 0, locals := 43 }).room s m [.ref (a 32), .int q1].toArray below meth c H locs 0 0 (MQ below (gQi X vwCl (cW cI cC cZ a σ) sz (fun r' (_ : Unit) => r' = r) (fun _ => cW cI cC cZ a σ')) [.ref (a 32), .int q1].toArray s 0 0 (va_A (cW cI cC cZ a σ) sz)) (F0 m 87 ls [])) := by
    intro t
    induction t with
    | zero => exact ⟨fun _ _ _ _ _ hf => (by have hf : (none : Option (Int32 × gS)) = some (r, σ') := hf; cases hf), fun _ _ _ _ _ _ hf => (by have hf : (none : Option (Int32 × gS)) = some (r, σ') := hf; cases hf), fun _ _ _ _ _ _ hf => (by have hf : (none : Option (Int32 × gS)) = some (r, σ') := hf; cases hf)⟩
    | succ t ih =>
      obtain ⟨ih0, ih1, ih2⟩ := ih
      refine ⟨?_, ?_, ?_⟩
      · intro x1 σ0 H locs ls hf hP hD hS hl
        have hf : B_F_readAttribute_0 (R_F_readAttribute t) x1 σ0 = some (r, σ') := hf
        unfold B_F_readAttribute_0 at hf
        refine lv_aload_n hx hb d_F_readAttribute_0 rfl (lv_at hl 0 rfl) ?_
        obtain ⟨y1, σ2, e3, hf⟩ := gBd_e hf
        refine g_wi (va_runV ⟨hx, hb, hml, hown, hts⟩ (m_F_readName e3) (cwV 0 hts (gG4 (fun _ h => List.mem_cons_of_mem _ h) tb_44 tb_45 tb_46 tb_47 tc_F_readName) rfl rfl rfl (by decide +kernel) ⟨Nat.le_of_ble_eq_true rfl, Nat.le_of_ble_eq_true rfl⟩) (g_preVW (q0 := 32) hE hK hP hD hS hA gc_32 rfl) rfl rfl hl.1 rfl (lv_room (Nat.le_of_ble_eq_true rfl)) d_F_readAttribute_1 ⟨Nat.zero_le _, Nat.zero_le _⟩) hD hS hA (fun _ => cW_fst) (fun y1 _ H locs hu hP hD hS => ?_)
        subst hu
        refine lv_istore_n hx hb d_F_readAttribute_4 rfl hl (by decide) rfl (fun ls hl => ?_)
        refine lv_aload_n hx hb d_F_readAttribute_5 rfl (lv_at hl 1 rfl) ?_
        refine va_get (D := X) (ci := 1) (C := R_F) (T := T_F) (N := 5) hx hb hts u_0 hown hK hP 32 gc_32 rfl 1 (by decide) k_0 (fun _ h9 => h9) rfl d_F_readAttribute_6 ?_
        refine lv_iload_n hx hb d_F_readAttribute_9 rfl (lv_at hl 2 rfl) ?_
        refine lv_iload_n hx hb d_F_readAttribute_10 rfl (lv_at hl 0 rfl) ?_
        obtain ⟨y4, σ5, e6, hf⟩ := gBd_e hf
        refine g_wi (va_runV ⟨hx, hb, hml, hown, hts⟩ (m_E_findAttribute e6) (cwV 2 hts (gG4 (fun _ h => List.mem_cons_of_mem _ h) tb_48 tb_49 tb_50 tb_51 tc_E_findAttribute) rfl rfl rfl (by decide +kernel) ⟨Nat.le_of_ble_eq_true rfl, Nat.le_of_ble_eq_true rfl⟩) (g_preVW (q0 := 20) hE hK hP hD hS hA gc_20 rfl) rfl rfl hl.1 rfl (lv_room (Nat.le_of_ble_eq_true rfl)) d_F_readAttribute_11 ⟨Nat.zero_le _, Nat.zero_le _⟩) hD hS hA (fun _ => cW_fst) (fun y4 _ H locs hu hP hD hS => ?_)
        subst hu
        refine lv_iconst (v := (-1)) hx hb d_F_readAttribute_14 (by decide) ?_
        refine lv_icmp_ne (tgt := 36) hx hb d_F_readAttribute_15 rfl (fun c7 => ?_) (fun c7 => ?_)
        · skip
          rw [if_neg c7] at hf
          refine lv_iconst (v := 0) hx hb d_F_readAttribute_36 (by decide) ?_
          obtain ⟨rfl, rfl⟩ := gRt_e hf
          exact g_zret hx hb hr hlocks rfl hAe hS () rfl hP d_F_readAttribute_37
        rw [if_pos c7] at hf
        refine lv_aload_n hx hb d_F_readAttribute_18 rfl (lv_at hl 1 rfl) ?_
        refine lv_bipush (v := 61) hx hb d_F_readAttribute_19 (by decide) ?_
        obtain ⟨y8, σ9, e10, hf⟩ := gBd_e hf
        refine g_wi (va_runV ⟨hx, hb, hml, hown, hts⟩ (m_F_skip e10) (cwV 1 hts (gG4 (fun _ h => List.mem_cons_of_mem _ h) tb_52 tb_53 tb_54 tb_47 tc_F_skip) rfl rfl rfl (by decide +kernel) ⟨Nat.le_of_ble_eq_true rfl, Nat.le_of_ble_eq_true rfl⟩) (g_preVW (q0 := 32) hE hK hP hD hS hA gc_32 rfl) rfl rfl hl.1 rfl (lv_room (Nat.le_of_ble_eq_true rfl)) d_F_readAttribute_21 ⟨Nat.zero_le _, Nat.zero_le _⟩) hD hS hA (fun _ => cW_fst) (fun y8 _ H locs hu hP hD hS => ?_)
        subst hu
        refine lv_if_eq (tgt := 36) hx hb d_F_readAttribute_24 rfl (fun c11 => ?_) (fun c11 => ?_)
        · skip
          rw [if_pos c11] at hf
          refine lv_iconst (v := 0) hx hb d_F_readAttribute_36 (by decide) ?_
          obtain ⟨rfl, rfl⟩ := gRt_e hf
          exact g_zret hx hb hr hlocks rfl hAe hS () rfl hP d_F_readAttribute_37
        rw [if_neg c11] at hf
        refine lv_aload_n hx hb d_F_readAttribute_27 rfl (lv_at hl 1 rfl) ?_
        refine lv_bipush (v := 34) hx hb d_F_readAttribute_28 (by decide) ?_
        obtain ⟨y12, σ13, e14, hf⟩ := gBd_e hf
        refine g_wi (va_runV ⟨hx, hb, hml, hown, hts⟩ (m_F_skip e14) (cwV 1 hts (gG4 (fun _ h => List.mem_cons_of_mem _ h) tb_52 tb_53 tb_54 tb_47 tc_F_skip) rfl rfl rfl (by decide +kernel) ⟨Nat.le_of_ble_eq_true rfl, Nat.le_of_ble_eq_true rfl⟩) (g_preVW (q0 := 32) hE hK hP hD hS hA gc_32 rfl) rfl rfl hl.1 rfl (lv_room (Nat.le_of_ble_eq_true rfl)) d_F_readAttribute_30 ⟨Nat.zero_le _, Nat.zero_le _⟩) hD hS hA (fun _ => cW_fst) (fun y12 _ H locs hu hP hD hS => ?_)
        subst hu
        refine lv_if_ne (tgt := 38) hx hb d_F_readAttribute_33 rfl (fun c15 => ?_) (fun c15 => ?_)
        · skip
          rw [if_neg c15] at hf
          refine lv_aload_n hx hb d_F_readAttribute_38 rfl (lv_at hl 1 rfl) ?_
          refine va_get (D := X) (ci := 1) (C := R_F) (T := T_F) (N := 5) hx hb hts u_0 hown hK hP 32 gc_32 rfl 2 (by decide) k_1 (fun _ h9 => h9) rfl d_F_readAttribute_39 ?_
          refine lv_istore_n hx hb d_F_readAttribute_42 rfl hl (by decide) rfl (fun ls hl => ?_)
          exact ih1 (y1) ((σ13.1 8)) σ13 _ _ _ hf hP hD hS (lv_sub hl [2, 1, 0] rfl)
        rw [if_pos c15] at hf
        refine lv_iconst (v := 0) hx hb d_F_readAttribute_36 (by decide) ?_
        obtain ⟨rfl, rfl⟩ := gRt_e hf
        exact g_zret hx hb hr hlocks rfl hAe hS () rfl hP d_F_readAttribute_37
      · intro x2 x3 σ0 H locs ls hf hP hD hS hl
        have hf : B_F_readAttribute_1 (R_F_readAttribute t) x2 x3 σ0 = some (r, σ') := hf
        unfold B_F_readAttribute_1 at hf
        refine lv_aload_n hx hb d_F_readAttribute_43 rfl (lv_at hl 0 rfl) ?_
        refine va_get (D := X) (ci := 1) (C := R_F) (T := T_F) (N := 5) hx hb hts u_0 hown hK hP 32 gc_32 rfl 2 (by decide) k_1 (fun _ h9 => h9) rfl d_F_readAttribute_44 ?_
        refine lv_aload_n hx hb d_F_readAttribute_47 rfl (lv_at hl 0 rfl) ?_
        refine va_get (D := X) (ci := 1) (C := R_F) (T := T_F) (N := 5) hx hb hts u_0 hown hK hP 32 gc_32 rfl 0 (by decide) k_2 (fun _ h9 => h9) rfl d_F_readAttribute_48 ?_
        refine va_get (D := X) (ci := 5) (C := R_P) (T := T_P) (N := 2) hx hb hts u_1 hown hK hP 7 gc_7 rfl 0 (by decide) k_3 (fun _ h9 => h9) rfl d_F_readAttribute_51 ?_
        refine lv_icmp_ge (tgt := 87) hx hb d_F_readAttribute_54 rfl (fun c16 => ?_) (fun c16 => ?_)
        · skip
          rw [if_pos c16] at hf
          exact ih2 (x2) (x3) σ0 _ _ _ hf hP hD hS (lv_sub hl [0, 1, 2] rfl)
        rw [if_neg c16] at hf
        refine lv_aload_n hx hb d_F_readAttribute_57 rfl (lv_at hl 0 rfl) ?_
        refine va_get (D := X) (ci := 1) (C := R_F) (T := T_F) (N := 5) hx hb hts u_0 hown hK hP 32 gc_32 rfl 0 (by decide) k_2 (fun _ h9 => h9) rfl d_F_readAttribute_58 ?_
        refine lv_aload_n hx hb d_F_readAttribute_61 rfl (lv_at hl 0 rfl) ?_
        refine va_get (D := X) (ci := 1) (C := R_F) (T := T_F) (N := 5) hx hb hts u_0 hown hK hP 32 gc_32 rfl 2 (by decide) k_1 (fun _ h9 => h9) rfl d_F_readAttribute_62 ?_
        obtain ⟨y17, σ18, e19, hf⟩ := gBd_e hf
        refine g_wi (va_runV ⟨hx, hb, hml, hown, hts⟩ (m_P_codeAt e19) (cwV 1 hts (gG4 (fun _ h => List.mem_cons_of_mem _ h) tb_35 tb_36 tb_37 tb_38 tc_P_codeAt) rfl rfl rfl (by decide +kernel) ⟨Nat.le_of_ble_eq_true rfl, Nat.le_of_ble_eq_true rfl⟩) (g_preVW (q0 := 7) hE hK hP hD hS hA gc_7 rfl) rfl rfl hl.1 rfl (lv_room (Nat.le_of_ble_eq_true rfl)) d_F_readAttribute_65 ⟨Nat.zero_le _, Nat.zero_le _⟩) hD hS hA (fun _ => cW_fst) (fun y17 _ H locs hu hP hD hS => ?_)
        subst hu
        obtain ⟨y20, σ21, e22, hf⟩ := gBd_e hf
        refine g_wi (va_runS ⟨hx, hb, hml, hown, hts⟩ (m_F_mayStandInValue e22) (cwS 1 hts (gG3 (fun _ h => List.mem_cons_of_mem _ h) tb_55 tb_56 tb_47 tc_F_mayStandInValue) rfl rfl rfl (by decide +kernel) ⟨Nat.le_of_ble_eq_true rfl, Nat.le_of_ble_eq_true rfl⟩) (g_preSW hE hK hP hD hS hA) rfl rfl hl.1 rfl (lv_room (Nat.le_of_ble_eq_true rfl)) d_F_readAttribute_68 ⟨Nat.zero_le _, Nat.zero_le _⟩) hD hS hA (fun _ => cW_fst) (fun y20 _ H locs hu hP hD hS => ?_)
        subst hu
        refine lv_if_eq (tgt := 87) hx hb d_F_readAttribute_71 rfl (fun c23 => ?_) (fun c23 => ?_)
        · skip
          rw [if_pos c23] at hf
          exact ih2 (x2) (x3) σ21 _ _ _ hf hP hD hS (lv_sub hl [0, 1, 2] rfl)
        rw [if_neg c23] at hf
        refine lv_aload_n hx hb d_F_readAttribute_74 rfl (lv_at hl 0 rfl) ?_
        refine lv_dup hx hb d_F_readAttribute_75 rfl ?_
        refine va_get (D := X) (ci := 1) (C := R_F) (T := T_F) (N := 5) hx hb hts u_0 hown hK hP 32 gc_32 rfl 2 (by decide) k_1 (fun _ h9 => h9) rfl d_F_readAttribute_76 ?_
        refine lv_iconst (v := 1) hx hb d_F_readAttribute_79 (by decide) ?_
        refine lv_iadd hx hb d_F_readAttribute_80 ?_
        obtain ⟨σ24, e25, hf⟩ := gPut_e hf
        refine va_put (D := X) (ci := 1) (ty := .int) (C := R_F) (T := T_F) (N := 5) hx hb hts u_0 t_F t_F_ok n_F hown hK hP hD hS 32 gc_32 rfl 2 (by decide) k_1 (fun _ h9 => h9) rfl (by decide +kernel) rfl rfl (Nat.le_of_ble_eq_true rfl) d_F_readAttribute_81 (fun H locs hP hD hS => ?_)
        rw [sc_32_2, ← e25] at hP hD
        refine lv_goto (tgt := 43) hx hb d_F_readAttribute_84 rfl ?_
        exact ih1 (x2) (x3) σ24 _ _ _ hf hP hD hS (lv_sub hl [0, 1, 2] rfl)
      · intro x2 x3 σ0 H locs ls hf hP hD hS hl
        have hf : B_F_readAttribute_2 (R_F_readAttribute t) x2 x3 σ0 = some (r, σ') := hf
        unfold B_F_readAttribute_2 at hf
        refine lv_aload_n hx hb d_F_readAttribute_87 rfl (lv_at hl 0 rfl) ?_
        refine lv_bipush (v := 34) hx hb d_F_readAttribute_88 (by decide) ?_
        obtain ⟨y26, σ27, e28, hf⟩ := gBd_e hf
        refine g_wi (va_runV ⟨hx, hb, hml, hown, hts⟩ (m_F_skip e28) (cwV 1 hts (gG4 (fun _ h => List.mem_cons_of_mem _ h) tb_52 tb_53 tb_54 tb_47 tc_F_skip) rfl rfl rfl (by decide +kernel) ⟨Nat.le_of_ble_eq_true rfl, Nat.le_of_ble_eq_true rfl⟩) (g_preVW (q0 := 32) hE hK hP hD hS hA gc_32 rfl) rfl rfl hl.1 rfl (lv_room (Nat.le_of_ble_eq_true rfl)) d_F_readAttribute_90 ⟨Nat.zero_le _, Nat.zero_le _⟩) hD hS hA (fun _ => cW_fst) (fun y26 _ H locs hu hP hD hS => ?_)
        subst hu
        refine lv_if_eq (tgt := 120) hx hb d_F_readAttribute_93 rfl (fun c29 => ?_) (fun c29 => ?_)
        · skip
          rw [if_pos c29] at hf
          refine lv_iconst (v := 0) hx hb d_F_readAttribute_120 (by decide) ?_
          obtain ⟨rfl, rfl⟩ := gRt_e hf
          exact g_zret hx hb hr hlocks rfl hAe hS () rfl hP d_F_readAttribute_121
        rw [if_neg c29] at hf
        refine lv_aload_n hx hb d_F_readAttribute_96 rfl (lv_at hl 0 rfl) ?_
        refine va_get (D := X) (ci := 1) (C := R_F) (T := T_F) (N := 5) hx hb hts u_0 hown hK hP 32 gc_32 rfl 1 (by decide) k_0 (fun _ h9 => h9) rfl d_F_readAttribute_97 ?_
        refine lv_iload_n hx hb d_F_readAttribute_100 rfl (lv_at hl 1 rfl) ?_
        refine lv_iload_n hx hb d_F_readAttribute_101 rfl (lv_at hl 2 rfl) ?_
        refine lv_aload_n hx hb d_F_readAttribute_102 rfl (lv_at hl 0 rfl) ?_
        refine va_get (D := X) (ci := 1) (C := R_F) (T := T_F) (N := 5) hx hb hts u_0 hown hK hP 32 gc_32 rfl 2 (by decide) k_1 (fun _ h9 => h9) rfl d_F_readAttribute_103 ?_
        refine lv_iconst (v := 1) hx hb d_F_readAttribute_106 (by decide) ?_
        refine lv_isub hx hb d_F_readAttribute_107 ?_
        refine lv_iload_n hx hb d_F_readAttribute_108 rfl (lv_at hl 2 rfl) ?_
        refine lv_isub hx hb d_F_readAttribute_109 ?_
        obtain ⟨y30, σ31, e32, hf⟩ := gBd_e hf
        refine g_wi (va_runV ⟨hx, hb, hml, hown, hts⟩ (m_E_addAttribute e32) (cwV 3 hts (gG4 (fun _ h => List.mem_cons_of_mem _ h) tb_57 tb_58 tb_59 tb_51 tc_E_addAttribute) rfl rfl rfl (by decide +kernel) ⟨Nat.le_of_ble_eq_true rfl, Nat.le_of_ble_eq_true rfl⟩) (g_preVW (q0 := 20) hE hK hP hD hS hA gc_20 rfl) rfl rfl hl.1 rfl (lv_room (Nat.le_of_ble_eq_true rfl)) d_F_readAttribute_110 ⟨Nat.zero_le _, Nat.zero_le _⟩) hD hS hA (fun _ => cW_fst) (fun y30 _ H locs hu hP hD hS => ?_)
        subst hu
        refine lv_if_eq (tgt := 120) hx hb d_F_readAttribute_113 rfl (fun c33 => ?_) (fun c33 => ?_)
        · skip
          rw [if_pos c33] at hf
          refine lv_iconst (v := 0) hx hb d_F_readAttribute_120 (by decide) ?_
          obtain ⟨rfl, rfl⟩ := gRt_e hf
          exact g_zret hx hb hr hlocks rfl hAe hS () rfl hP d_F_readAttribute_121
        rw [if_neg c33] at hf
        refine lv_iconst (v := 1) hx hb d_F_readAttribute_116 (by decide) ?_
        refine lv_goto (tgt := 121) hx hb d_F_readAttribute_117 rfl ?_
        obtain ⟨rfl, rfl⟩ := gRt_e hf
        exact g_zret hx hb hr hlocks rfl hAe hS () rfl hP d_F_readAttribute_121
  exact (key gFuel).1 q1 σ _ _ _ hf hP hD hS hl

def B_F_readStart_0 (rec : Nat → List Int32 → gS → Option (Int32 × gS)) (σ0 : gS) : Option (Int32 × gS) := gPut σ0 8 ((σ0.1 8) + 1) (fun σ1 => gBd (f_F_readName σ1) (fun y3 σ4 => if y3 = 0 then (some (0, σ4)) else (if 20 ≤ (σ4.1 10) then (some (0, σ4)) else (gBd (f_E_addElement σ4 y3 (σ4.1 9)) (fun y8 σ9 => if y8 = 0 then (some (0, σ9)) else (gBd (f_F_skipSpaces σ9) (fun y12 σ13 => rec 1 [((σ9.1 5) - 1), y12, 0] σ13)))))))
def B_F_readStart_1 (rec : Nat → List Int32 → gS → Option (Int32 × gS)) (x2 : Int32) (x3 : Int32) (x4 : Int32) (σ0 : gS) : Option (Int32 × gS) := if 6 ≤ x4 then (rec 2 [x2] σ0) else (if x3 = 0 then (rec 2 [x2] σ0) else (gBd (f_P_codeAt σ0 (σ0.1 8)) (fun y17 σ18 => gBd (f_O_isLetter σ18 y17) (fun y20 σ21 => if y20 = 0 then (rec 2 [x2] σ21) else (gBd (f_F_readAttribute σ21 x2) (fun y24 σ25 => if y24 = 0 then (some (0, σ25)) else (gBd (f_F_skipSpaces σ25) (fun y28 σ29 => rec 1 [x2, y28, (x4 + 1)] σ29))))))))
def B_F_readStart_2 (rec : Nat → List Int32 → gS → Option (Int32 × gS)) (x2 : Int32) (σ0 : gS) : Option (Int32 × gS) := gBd (f_P_codeAt σ0 (σ0.1 8)) (fun y31 σ32 => if y31 = 47 then (gPut σ32 8 ((σ32.1 8) + 1) (fun σ43 => gBd (f_F_skip σ43 62) (fun y45 σ46 => gNr .boolean y45 (some (y45, σ46))))) else (gPut σ32 9 x2 (fun σ35 => gPut σ35 10 ((σ35.1 10) + 1) (fun σ37 => gBd (f_F_skip σ37 62) (fun y39 σ40 => gNr .boolean y39 (some (y39, σ40)))))))
def S_F_readStart (rec : Nat → List Int32 → gS → Option (Int32 × gS)) (k : Nat) (l : List Int32) (σ0 : gS) : Option (Int32 × gS) := match k, l with
  | 0, [] => B_F_readStart_0 rec  σ0
  | 1, [x2, x3, x4] => B_F_readStart_1 rec x2 x3 x4 σ0
  | 2, [x2] => B_F_readStart_2 rec x2 σ0
  | _, _ => none
def R_F_readStart : Nat → Nat → List Int32 → gS → Option (Int32 × gS)
  | 0 => fun _ _ _ => none
  | t + 1 => fun k l σ0 => S_F_readStart (R_F_readStart t) k l σ0
def f_F_readStart (σ : gS) : Option (Int32 × gS) := R_F_readStart gFuel 0 [] σ
set_option maxHeartbeats 4000000 in
set_option maxRecDepth 100000 in
theorem m_F_readStart {l : Launch} {X : va_G} {cI cC cZ : ClassId} {aK aV : Nat → Nat} {a : Nat → Nat} {σ σ' : gS} {r : Int32} (hf : f_F_readStart σ = some (r, σ')) {sz : Nat} : Met l y_F_readStart w_F_readStart { frames := 3, cells := 0, slots := 0, locals := 66 } (gPc X vwCl (gT cI cC cZ) aK aV (cW cI cC cZ a σ) sz [.ref (a 32)]) (gQi X vwCl (cW cI cC cZ a σ) sz (fun r' (_ : Unit) => r' = r) (fun _ => cW cI cC cZ a σ')) 0 0 (va_A (cW cI cC cZ a σ) sz) := by
  refine g_met (cc := b_F_readStart) (maxL := 5) (ret := (some .boolean)) (by decide) rfl (Nat.le_of_ble_eq_true rfl) ?_
  intro p e s m below meth c A ls hx hb hr hml hown hts hlocks hnm hsz hAe hA hP hK hD hS hl hE
  have hown : s.vm.findClass R_F = some m.cls := hown
  have u_0 : ∀ w ∈ u_ws R_F T_F 5, w ∈ w_F_readStart := fun w h => List.mem_cons_of_mem _ (tu_F w h)
  have u_1 : ∀ w ∈ u_ws R_E T_E 14, w ∈ w_F_readStart := fun w h => List.mem_cons_of_mem _ (tu_E w h)
  have k_0 := hts (.fieldLink R_F 24 "GraphPages$FormReader" "place" "I") (List.mem_cons_of_mem _ tb_42)
  have k_1 := hts (.fieldLink R_F 31 "GraphPages$FormReader" "depth" "I") (List.mem_cons_of_mem _ tb_70)
  have k_2 := hts (.fieldLink R_F 15 "GraphPages$FormReader" "elements" "LGraphPages$Elements;") (List.mem_cons_of_mem _ tb_60)
  have k_3 := hts (.fieldLink R_F 28 "GraphPages$FormReader" "open" "I") (List.mem_cons_of_mem _ tb_71)
  have k_4 := hts (.fieldLink R_F 43 "GraphPages$Elements" "count" "I") (List.mem_cons_of_mem _ tb_72)
  have k_5 := hts (.fieldLink R_F 9 "GraphPages$FormReader" "page" "LGraphPages$Page;") (List.mem_cons_of_mem _ tb_41)
  unfold f_F_readStart at hf
  have key : ∀ t : Nat, (∀ (σ0 : gS) (H : Heap) (locs : List Loc) (ls : Array Slot), R_F_readStart t 0 [] σ0 = some (r, σ') → va_P X vwCl (cW cI cC cZ a σ0) H → va_D A (cW cI cC cZ a σ0) → va_S A s.heap H locs → lv_has ls 5 [(0, .ref (a 32))] → W p l e (headSpec w_F_readStart { frames := 3, cells := 0, slots := 0, locals := 66 }).room s m [.ref (a 32)].toArray below meth c H locs 0 0 (MQ below (gQi X vwCl (cW cI cC cZ a σ) sz (fun r' (_ : Unit) => r' = r) (fun _ => cW cI cC cZ a σ')) [.ref (a 32)].toArray s 0 0 (va_A (cW cI cC cZ a σ) sz)) (F0 m 0 ls [])) ∧ (∀ (x2 : Int32) (x3 : Int32) (x4 : Int32) (σ0 : gS) (H : Heap) (locs : List Loc) (ls : Array Slot), R_F_readStart t 1 [x2, x3, x4] σ0 = some (r, σ') → va_P X vwCl (cW cI cC cZ a σ0) H → va_D A (cW cI cC cZ a σ0) → va_S A s.heap H locs → lv_has ls 5 [(0, .ref (a 32)), (2, .int x2), (3, .int x3), (4, .int x4)] → W p l e (headSpec w_F_readStart { frames := 3, cells := 0, slots := 0, locals := 66 }).room s m [.ref (a 32)].toArray below meth c H locs 0 0 (MQ below (gQi X vwCl (cW cI cC cZ a σ) sz (fun r' (_ : Unit) => r' = r) (fun _ => cW cI cC cZ a σ')) [.ref (a 32)].toArray s 0 0 (va_A (cW cI cC cZ a σ) sz)) (F0 m 63 ls [])) ∧ (∀ (x2 : Int32) (σ0 : gS) (H : Heap) (locs : List Loc) (ls : Array Slot), R_F_readStart t 2 [x2] σ0 = some (r, σ') → va_P X vwCl (cW cI cC cZ a σ0) H → va_D A (cW cI cC cZ a σ0) → va_S A s.heap H locs → lv_has ls 5 [(0, .ref (a 32)), (2, .int x2)] → W p l e (headSpec w_F_readStart { frames := 3, cells := 0, slots := 0, locals := 66 }).room s m [.ref (a 32)].toArray below meth c H locs 0 0 (MQ below (gQi X vwCl (cW cI cC cZ a σ) sz (fun r' (_ : Unit) => r' = r) (fun _ => cW cI cC cZ a σ')) [.ref (a 32)].toArray s 0 0 (va_A (cW cI cC cZ a σ) sz)) (F0 m 112 ls [])) := by
    intro t
    induction t with
    | zero => exact ⟨fun  _ _ _ _ hf => (by have hf : (none : Option (Int32 × gS)) = some (r, σ') := hf; cases hf), fun _ _ _ _ _ _ _ hf => (by have hf : (none : Option (Int32 × gS)) = some (r, σ') := hf; cases hf), fun _ _ _ _ _ hf => (by have hf : (none : Option (Int32 × gS)) = some (r, σ') := hf; cases hf)⟩
    | succ t ih =>
      obtain ⟨ih0, ih1, ih2⟩ := ih
      refine ⟨?_, ?_, ?_⟩
      · intro  σ0 H locs ls hf hP hD hS hl
        have hf : B_F_readStart_0 (R_F_readStart t)  σ0 = some (r, σ') := hf
        unfold B_F_readStart_0 at hf
        refine lv_aload_n hx hb d_F_readStart_0 rfl (lv_at hl 0 rfl) ?_
        refine lv_dup hx hb d_F_readStart_1 rfl ?_
        refine va_get (D := X) (ci := 1) (C := R_F) (T := T_F) (N := 5) hx hb hts u_0 hown hK hP 32 gc_32 rfl 2 (by decide) k_0 (fun _ h9 => h9) rfl d_F_readStart_2 ?_
        refine lv_iconst (v := 1) hx hb d_F_readStart_5 (by decide) ?_
        refine lv_iadd hx hb d_F_readStart_6 ?_
        obtain ⟨σ1, e2, hf⟩ := gPut_e hf
        refine va_put (D := X) (ci := 1) (ty := .int) (C := R_F) (T := T_F) (N := 5) hx hb hts u_0 t_F t_F_ok n_F hown hK hP hD hS 32 gc_32 rfl 2 (by decide) k_0 (fun _ h9 => h9) rfl (by decide +kernel) rfl rfl (Nat.le_of_ble_eq_true rfl) d_F_readStart_7 (fun H locs hP hD hS => ?_)
        rw [sc_32_2, ← e2] at hP hD
        refine lv_aload_n hx hb d_F_readStart_10 rfl (lv_at hl 0 rfl) ?_
        obtain ⟨y3, σ4, e5, hf⟩ := gBd_e hf
        refine g_wi (va_runV ⟨hx, hb, hml, hown, hts⟩ (m_F_readName e5) (cwV 0 hts (gG4 (fun _ h => List.mem_cons_of_mem _ h) tb_44 tb_45 tb_46 tb_47 tc_F_readName) rfl rfl rfl (by decide +kernel) ⟨Nat.le_of_ble_eq_true rfl, Nat.le_of_ble_eq_true rfl⟩) (g_preVW (q0 := 32) hE hK hP hD hS hA gc_32 rfl) rfl rfl hl.1 rfl (lv_room (Nat.le_of_ble_eq_true rfl)) d_F_readStart_11 ⟨Nat.zero_le _, Nat.zero_le _⟩) hD hS hA (fun _ => cW_fst) (fun y3 _ H locs hu hP hD hS => ?_)
        subst hu
        refine lv_istore_n hx hb d_F_readStart_14 rfl hl (by decide) rfl (fun ls hl => ?_)
        refine lv_iload_n hx hb d_F_readStart_15 rfl (lv_at hl 0 rfl) ?_
        refine lv_if_eq (tgt := 43) hx hb d_F_readStart_16 rfl (fun c6 => ?_) (fun c6 => ?_)
        · skip
          rw [if_pos c6] at hf
          refine lv_iconst (v := 0) hx hb d_F_readStart_43 (by decide) ?_
          obtain ⟨rfl, rfl⟩ := gRt_e hf
          exact g_zret hx hb hr hlocks rfl hAe hS () rfl hP d_F_readStart_44
        rw [if_neg c6] at hf
        refine lv_aload_n hx hb d_F_readStart_19 rfl (lv_at hl 1 rfl) ?_
        refine va_get (D := X) (ci := 1) (C := R_F) (T := T_F) (N := 5) hx hb hts u_0 hown hK hP 32 gc_32 rfl 4 (by decide) k_1 (fun _ h9 => h9) rfl d_F_readStart_20 ?_
        refine lv_bipush (v := 20) hx hb d_F_readStart_23 (by decide) ?_
        refine lv_icmp_ge (tgt := 43) hx hb d_F_readStart_25 rfl (fun c7 => ?_) (fun c7 => ?_)
        · skip
          rw [if_pos c7] at hf
          refine lv_iconst (v := 0) hx hb d_F_readStart_43 (by decide) ?_
          obtain ⟨rfl, rfl⟩ := gRt_e hf
          exact g_zret hx hb hr hlocks rfl hAe hS () rfl hP d_F_readStart_44
        rw [if_neg c7] at hf
        refine lv_aload_n hx hb d_F_readStart_28 rfl (lv_at hl 1 rfl) ?_
        refine va_get (D := X) (ci := 1) (C := R_F) (T := T_F) (N := 5) hx hb hts u_0 hown hK hP 32 gc_32 rfl 1 (by decide) k_2 (fun _ h9 => h9) rfl d_F_readStart_29 ?_
        refine lv_iload_n hx hb d_F_readStart_32 rfl (lv_at hl 0 rfl) ?_
        refine lv_aload_n hx hb d_F_readStart_33 rfl (lv_at hl 1 rfl) ?_
        refine va_get (D := X) (ci := 1) (C := R_F) (T := T_F) (N := 5) hx hb hts u_0 hown hK hP 32 gc_32 rfl 3 (by decide) k_3 (fun _ h9 => h9) rfl d_F_readStart_34 ?_
        obtain ⟨y8, σ9, e10, hf⟩ := gBd_e hf
        refine g_wi (va_runV ⟨hx, hb, hml, hown, hts⟩ (m_E_addElement e10) (cwV 2 hts (gG4 (fun _ h => List.mem_cons_of_mem _ h) tb_61 tb_62 tb_63 tb_51 tc_E_addElement) rfl rfl rfl (by decide +kernel) ⟨Nat.le_of_ble_eq_true rfl, Nat.le_of_ble_eq_true rfl⟩) (g_preVW (q0 := 20) hE hK hP hD hS hA gc_20 rfl) rfl rfl hl.1 rfl (lv_room (Nat.le_of_ble_eq_true rfl)) d_F_readStart_37 ⟨Nat.zero_le _, Nat.zero_le _⟩) hD hS hA (fun _ => cW_fst) (fun y8 _ H locs hu hP hD hS => ?_)
        subst hu
        refine lv_if_ne (tgt := 45) hx hb d_F_readStart_40 rfl (fun c11 => ?_) (fun c11 => ?_)
        · skip
          rw [if_neg c11] at hf
          refine lv_aload_n hx hb d_F_readStart_45 rfl (lv_at hl 1 rfl) ?_
          refine va_get (D := X) (ci := 1) (C := R_F) (T := T_F) (N := 5) hx hb hts u_0 hown hK hP 32 gc_32 rfl 1 (by decide) k_2 (fun _ h9 => h9) rfl d_F_readStart_46 ?_
          refine va_get (D := X) (ci := 0) (C := R_E) (T := T_E) (N := 14) hx hb hts u_1 hown hK hP 20 gc_20 rfl 0 (by decide) k_4 (fun _ h9 => h9) rfl d_F_readStart_49 ?_
          refine lv_iconst (v := 1) hx hb d_F_readStart_52 (by decide) ?_
          refine lv_isub hx hb d_F_readStart_53 ?_
          refine lv_istore_n hx hb d_F_readStart_54 rfl hl (by decide) rfl (fun ls hl => ?_)
          refine lv_aload_n hx hb d_F_readStart_55 rfl (lv_at hl 2 rfl) ?_
          obtain ⟨y12, σ13, e14, hf⟩ := gBd_e hf
          refine g_wi (va_runV ⟨hx, hb, hml, hown, hts⟩ (m_F_skipSpaces e14) (cwV 0 hts (gG4 (fun _ h => List.mem_cons_of_mem _ h) tb_64 tb_65 tb_66 tb_47 tc_F_skipSpaces) rfl rfl rfl (by decide +kernel) ⟨Nat.le_of_ble_eq_true rfl, Nat.le_of_ble_eq_true rfl⟩) (g_preVW (q0 := 32) hE hK hP hD hS hA gc_32 rfl) rfl rfl hl.1 rfl (lv_room (Nat.le_of_ble_eq_true rfl)) d_F_readStart_56 ⟨Nat.zero_le _, Nat.zero_le _⟩) hD hS hA (fun _ => cW_fst) (fun y12 _ H locs hu hP hD hS => ?_)
          subst hu
          refine lv_istore_n hx hb d_F_readStart_59 rfl hl (by decide) rfl (fun ls hl => ?_)
          refine lv_iconst (v := 0) hx hb d_F_readStart_60 (by decide) ?_
          refine lv_istore hx hb d_F_readStart_61 hl (by decide) rfl (fun ls hl => ?_)
          exact ih1 (((σ9.1 5) - 1)) (y12) (0) σ13 _ _ _ hf hP hD hS (lv_sub hl [4, 2, 1, 0] rfl)
        rw [if_pos c11] at hf
        refine lv_iconst (v := 0) hx hb d_F_readStart_43 (by decide) ?_
        obtain ⟨rfl, rfl⟩ := gRt_e hf
        exact g_zret hx hb hr hlocks rfl hAe hS () rfl hP d_F_readStart_44
      · intro x2 x3 x4 σ0 H locs ls hf hP hD hS hl
        have hf : B_F_readStart_1 (R_F_readStart t) x2 x3 x4 σ0 = some (r, σ') := hf
        unfold B_F_readStart_1 at hf
        refine lv_iload hx hb d_F_readStart_63 (lv_at hl 3 rfl) ?_
        refine lv_bipush (v := 6) hx hb d_F_readStart_65 (by decide) ?_
        refine lv_icmp_ge (tgt := 112) hx hb d_F_readStart_67 rfl (fun c15 => ?_) (fun c15 => ?_)
        · skip
          rw [if_pos c15] at hf
          exact ih2 (x2) σ0 _ _ _ hf hP hD hS (lv_sub hl [0, 1] rfl)
        rw [if_neg c15] at hf
        refine lv_iload_n hx hb d_F_readStart_70 rfl (lv_at hl 2 rfl) ?_
        refine lv_if_eq (tgt := 112) hx hb d_F_readStart_71 rfl (fun c16 => ?_) (fun c16 => ?_)
        · skip
          rw [if_pos c16] at hf
          exact ih2 (x2) σ0 _ _ _ hf hP hD hS (lv_sub hl [0, 1] rfl)
        rw [if_neg c16] at hf
        refine lv_aload_n hx hb d_F_readStart_74 rfl (lv_at hl 0 rfl) ?_
        refine va_get (D := X) (ci := 1) (C := R_F) (T := T_F) (N := 5) hx hb hts u_0 hown hK hP 32 gc_32 rfl 0 (by decide) k_5 (fun _ h9 => h9) rfl d_F_readStart_75 ?_
        refine lv_aload_n hx hb d_F_readStart_78 rfl (lv_at hl 0 rfl) ?_
        refine va_get (D := X) (ci := 1) (C := R_F) (T := T_F) (N := 5) hx hb hts u_0 hown hK hP 32 gc_32 rfl 2 (by decide) k_0 (fun _ h9 => h9) rfl d_F_readStart_79 ?_
        obtain ⟨y17, σ18, e19, hf⟩ := gBd_e hf
        refine g_wi (va_runV ⟨hx, hb, hml, hown, hts⟩ (m_P_codeAt e19) (cwV 1 hts (gG4 (fun _ h => List.mem_cons_of_mem _ h) tb_35 tb_36 tb_37 tb_38 tc_P_codeAt) rfl rfl rfl (by decide +kernel) ⟨Nat.le_of_ble_eq_true rfl, Nat.le_of_ble_eq_true rfl⟩) (g_preVW (q0 := 7) hE hK hP hD hS hA gc_7 rfl) rfl rfl hl.1 rfl (lv_room (Nat.le_of_ble_eq_true rfl)) d_F_readStart_82 ⟨Nat.zero_le _, Nat.zero_le _⟩) hD hS hA (fun _ => cW_fst) (fun y17 _ H locs hu hP hD hS => ?_)
        subst hu
        obtain ⟨y20, σ21, e22, hf⟩ := gBd_e hf
        refine g_wi (va_runSN ⟨hx, hb, hml, hown, hts⟩ (m_O_isLetter e22) ⟨va_cnB 1 hts (gG (fun _ h => List.mem_cons_of_mem _ h) tc_O_isLetter) rfl rfl rfl (hE.1 (R_F, 76, y_O_isLetter, "GraphPages") (by decide +kernel)) (hts (.initialized R_O) ((fun _ h => List.mem_cons_of_mem _ h) _ tb_39)) (by decide +kernel) ⟨Nat.le_of_ble_eq_true rfl, Nat.le_of_ble_eq_true rfl⟩, (hts (.static y_O_isLetter) ((fun _ h => List.mem_cons_of_mem _ h) _ tb_40)), trivial⟩ (g_preSW hE hK hP hD hS hA) rfl rfl hl.1 rfl (lv_room (Nat.le_of_ble_eq_true rfl)) d_F_readStart_85 ⟨Nat.zero_le _, Nat.zero_le _⟩) hD hS hA (fun _ => cW_fst) (fun y20 _ H locs hu hP hD hS => ?_)
        subst hu
        refine lv_if_eq (tgt := 112) hx hb d_F_readStart_88 rfl (fun c23 => ?_) (fun c23 => ?_)
        · skip
          rw [if_pos c23] at hf
          exact ih2 (x2) σ21 _ _ _ hf hP hD hS (lv_sub hl [0, 1] rfl)
        rw [if_neg c23] at hf
        refine lv_aload_n hx hb d_F_readStart_91 rfl (lv_at hl 0 rfl) ?_
        refine lv_iload_n hx hb d_F_readStart_92 rfl (lv_at hl 1 rfl) ?_
        obtain ⟨y24, σ25, e26, hf⟩ := gBd_e hf
        refine g_wi (va_runV ⟨hx, hb, hml, hown, hts⟩ (m_F_readAttribute e26) (cwV 1 hts (gG4 (fun _ h => List.mem_cons_of_mem _ h) tb_67 tb_68 tb_69 tb_47 tc_F_readAttribute) rfl rfl rfl (by decide +kernel) ⟨Nat.le_of_ble_eq_true rfl, Nat.le_of_ble_eq_true rfl⟩) (g_preVW (q0 := 32) hE hK hP hD hS hA gc_32 rfl) rfl rfl hl.1 rfl (lv_room (Nat.le_of_ble_eq_true rfl)) d_F_readStart_93 ⟨Nat.zero_le _, Nat.zero_le _⟩) hD hS hA (fun _ => cW_fst) (fun y24 _ H locs hu hP hD hS => ?_)
        subst hu
        refine lv_if_ne (tgt := 101) hx hb d_F_readStart_96 rfl (fun c27 => ?_) (fun c27 => ?_)
        · skip
          rw [if_neg c27] at hf
          refine lv_aload_n hx hb d_F_readStart_101 rfl (lv_at hl 0 rfl) ?_
          obtain ⟨y28, σ29, e30, hf⟩ := gBd_e hf
          refine g_wi (va_runV ⟨hx, hb, hml, hown, hts⟩ (m_F_skipSpaces e30) (cwV 0 hts (gG4 (fun _ h => List.mem_cons_of_mem _ h) tb_64 tb_65 tb_66 tb_47 tc_F_skipSpaces) rfl rfl rfl (by decide +kernel) ⟨Nat.le_of_ble_eq_true rfl, Nat.le_of_ble_eq_true rfl⟩) (g_preVW (q0 := 32) hE hK hP hD hS hA gc_32 rfl) rfl rfl hl.1 rfl (lv_room (Nat.le_of_ble_eq_true rfl)) d_F_readStart_102 ⟨Nat.zero_le _, Nat.zero_le _⟩) hD hS hA (fun _ => cW_fst) (fun y28 _ H locs hu hP hD hS => ?_)
          subst hu
          refine lv_istore_n hx hb d_F_readStart_105 rfl hl (by decide) rfl (fun ls hl => ?_)
          refine lv_iinc (k := 3) (v := (x4 + 1)) hx hb d_F_readStart_106 hl rfl (by rw [show Int32.ofInt (1) = (1 : Int32) by decide]) (by decide) rfl (fun ls hl => ?_)
          refine lv_goto (tgt := 63) hx hb d_F_readStart_109 rfl ?_
          exact ih1 (x2) (y28) ((x4 + 1)) σ29 _ _ _ hf hP hD hS (lv_sub hl [2, 3, 1, 0] rfl)
        rw [if_pos c27] at hf
        refine lv_iconst (v := 0) hx hb d_F_readStart_99 (by decide) ?_
        obtain ⟨rfl, rfl⟩ := gRt_e hf
        exact g_zret hx hb hr hlocks rfl hAe hS () rfl hP d_F_readStart_100
      · intro x2 σ0 H locs ls hf hP hD hS hl
        have hf : B_F_readStart_2 (R_F_readStart t) x2 σ0 = some (r, σ') := hf
        unfold B_F_readStart_2 at hf
        refine lv_aload_n hx hb d_F_readStart_112 rfl (lv_at hl 0 rfl) ?_
        refine va_get (D := X) (ci := 1) (C := R_F) (T := T_F) (N := 5) hx hb hts u_0 hown hK hP 32 gc_32 rfl 0 (by decide) k_5 (fun _ h9 => h9) rfl d_F_readStart_113 ?_
        refine lv_aload_n hx hb d_F_readStart_116 rfl (lv_at hl 0 rfl) ?_
        refine va_get (D := X) (ci := 1) (C := R_F) (T := T_F) (N := 5) hx hb hts u_0 hown hK hP 32 gc_32 rfl 2 (by decide) k_0 (fun _ h9 => h9) rfl d_F_readStart_117 ?_
        obtain ⟨y31, σ32, e33, hf⟩ := gBd_e hf
        refine g_wi (va_runV ⟨hx, hb, hml, hown, hts⟩ (m_P_codeAt e33) (cwV 1 hts (gG4 (fun _ h => List.mem_cons_of_mem _ h) tb_35 tb_36 tb_37 tb_38 tc_P_codeAt) rfl rfl rfl (by decide +kernel) ⟨Nat.le_of_ble_eq_true rfl, Nat.le_of_ble_eq_true rfl⟩) (g_preVW (q0 := 7) hE hK hP hD hS hA gc_7 rfl) rfl rfl hl.1 rfl (lv_room (Nat.le_of_ble_eq_true rfl)) d_F_readStart_120 ⟨Nat.zero_le _, Nat.zero_le _⟩) hD hS hA (fun _ => cW_fst) (fun y31 _ H locs hu hP hD hS => ?_)
        subst hu
        refine lv_bipush (v := 47) hx hb d_F_readStart_123 (by decide) ?_
        refine lv_icmp_ne (tgt := 145) hx hb d_F_readStart_125 rfl (fun c34 => ?_) (fun c34 => ?_)
        · skip
          rw [if_neg c34] at hf
          refine lv_aload_n hx hb d_F_readStart_145 rfl (lv_at hl 0 rfl) ?_
          refine lv_iload_n hx hb d_F_readStart_146 rfl (lv_at hl 1 rfl) ?_
          obtain ⟨σ35, e36, hf⟩ := gPut_e hf
          refine va_put (D := X) (ci := 1) (ty := .int) (C := R_F) (T := T_F) (N := 5) hx hb hts u_0 t_F t_F_ok n_F hown hK hP hD hS 32 gc_32 rfl 3 (by decide) k_3 (fun _ h9 => h9) rfl (by decide +kernel) rfl rfl (Nat.le_of_ble_eq_true rfl) d_F_readStart_147 (fun H locs hP hD hS => ?_)
          rw [sc_32_3, ← e36] at hP hD
          refine lv_aload_n hx hb d_F_readStart_150 rfl (lv_at hl 0 rfl) ?_
          refine lv_dup hx hb d_F_readStart_151 rfl ?_
          refine va_get (D := X) (ci := 1) (C := R_F) (T := T_F) (N := 5) hx hb hts u_0 hown hK hP 32 gc_32 rfl 4 (by decide) k_1 (fun _ h9 => h9) rfl d_F_readStart_152 ?_
          refine lv_iconst (v := 1) hx hb d_F_readStart_155 (by decide) ?_
          refine lv_iadd hx hb d_F_readStart_156 ?_
          obtain ⟨σ37, e38, hf⟩ := gPut_e hf
          refine va_put (D := X) (ci := 1) (ty := .int) (C := R_F) (T := T_F) (N := 5) hx hb hts u_0 t_F t_F_ok n_F hown hK hP hD hS 32 gc_32 rfl 4 (by decide) k_1 (fun _ h9 => h9) rfl (by decide +kernel) rfl rfl (Nat.le_of_ble_eq_true rfl) d_F_readStart_157 (fun H locs hP hD hS => ?_)
          rw [sc_32_4, ← e38] at hP hD
          refine lv_aload_n hx hb d_F_readStart_160 rfl (lv_at hl 0 rfl) ?_
          refine lv_bipush (v := 62) hx hb d_F_readStart_161 (by decide) ?_
          obtain ⟨y39, σ40, e41, hf⟩ := gBd_e hf
          refine g_wi (va_runV ⟨hx, hb, hml, hown, hts⟩ (m_F_skip e41) (cwV 1 hts (gG4 (fun _ h => List.mem_cons_of_mem _ h) tb_52 tb_53 tb_54 tb_47 tc_F_skip) rfl rfl rfl (by decide +kernel) ⟨Nat.le_of_ble_eq_true rfl, Nat.le_of_ble_eq_true rfl⟩) (g_preVW (q0 := 32) hE hK hP hD hS hA gc_32 rfl) rfl rfl hl.1 rfl (lv_room (Nat.le_of_ble_eq_true rfl)) d_F_readStart_163 ⟨Nat.zero_le _, Nat.zero_le _⟩) hD hS hA (fun _ => cW_fst) (fun y39 _ H locs hu hP hD hS => ?_)
          subst hu
          obtain ⟨h42, hf⟩ := gNr_e hf
          obtain ⟨rfl, rfl⟩ := gRt_e hf
          exact g_zret hx hb hr hlocks h42 hAe hS () rfl hP d_F_readStart_166
        rw [if_pos c34] at hf
        refine lv_aload_n hx hb d_F_readStart_128 rfl (lv_at hl 0 rfl) ?_
        refine lv_dup hx hb d_F_readStart_129 rfl ?_
        refine va_get (D := X) (ci := 1) (C := R_F) (T := T_F) (N := 5) hx hb hts u_0 hown hK hP 32 gc_32 rfl 2 (by decide) k_0 (fun _ h9 => h9) rfl d_F_readStart_130 ?_
        refine lv_iconst (v := 1) hx hb d_F_readStart_133 (by decide) ?_
        refine lv_iadd hx hb d_F_readStart_134 ?_
        obtain ⟨σ43, e44, hf⟩ := gPut_e hf
        refine va_put (D := X) (ci := 1) (ty := .int) (C := R_F) (T := T_F) (N := 5) hx hb hts u_0 t_F t_F_ok n_F hown hK hP hD hS 32 gc_32 rfl 2 (by decide) k_0 (fun _ h9 => h9) rfl (by decide +kernel) rfl rfl (Nat.le_of_ble_eq_true rfl) d_F_readStart_135 (fun H locs hP hD hS => ?_)
        rw [sc_32_2, ← e44] at hP hD
        refine lv_aload_n hx hb d_F_readStart_138 rfl (lv_at hl 0 rfl) ?_
        refine lv_bipush (v := 62) hx hb d_F_readStart_139 (by decide) ?_
        obtain ⟨y45, σ46, e47, hf⟩ := gBd_e hf
        refine g_wi (va_runV ⟨hx, hb, hml, hown, hts⟩ (m_F_skip e47) (cwV 1 hts (gG4 (fun _ h => List.mem_cons_of_mem _ h) tb_52 tb_53 tb_54 tb_47 tc_F_skip) rfl rfl rfl (by decide +kernel) ⟨Nat.le_of_ble_eq_true rfl, Nat.le_of_ble_eq_true rfl⟩) (g_preVW (q0 := 32) hE hK hP hD hS hA gc_32 rfl) rfl rfl hl.1 rfl (lv_room (Nat.le_of_ble_eq_true rfl)) d_F_readStart_141 ⟨Nat.zero_le _, Nat.zero_le _⟩) hD hS hA (fun _ => cW_fst) (fun y45 _ H locs hu hP hD hS => ?_)
        subst hu
        obtain ⟨h48, hf⟩ := gNr_e hf
        obtain ⟨rfl, rfl⟩ := gRt_e hf
        exact g_zret hx hb hr hlocks h48 hAe hS () rfl hP d_F_readStart_144
  exact (key gFuel).1  σ _ _ _ hf hP hD hS hl

def f_F_readEnd (σ : gS) : Option (Int32 × gS) := gPut σ 8 ((σ.1 8) + 2) (fun σ1 => gBd (f_F_readName σ1) (fun y3 σ4 => gLd σ4 21 533 (σ4.1 9) (fun y6 => if y3 = y6 then (gBd (f_F_skip σ4 62) (fun y10 σ11 => if y10 = 0 then (some (0, σ11)) else (gLd σ11 22 533 (σ11.1 9) (fun y14 => gPut σ11 9 y14 (fun σ17 => gPut σ17 10 ((σ17.1 10) - 1) (fun σ19 => some (1, σ19))))))) else (some (0, σ4)))))
set_option maxHeartbeats 4000000 in
set_option maxRecDepth 100000 in
theorem m_F_readEnd {l : Launch} {X : va_G} {cI cC cZ : ClassId} {aK aV : Nat → Nat} {a : Nat → Nat} {σ σ' : gS} {r : Int32} (hf : f_F_readEnd σ = some (r, σ')) {sz : Nat} : Met l y_F_readEnd w_F_readEnd { frames := 2, cells := 0, slots := 0, locals := 43 } (gPc X vwCl (gT cI cC cZ) aK aV (cW cI cC cZ a σ) sz [.ref (a 32)]) (gQi X vwCl (cW cI cC cZ a σ) sz (fun r' (_ : Unit) => r' = r) (fun _ => cW cI cC cZ a σ')) 0 0 (va_A (cW cI cC cZ a σ) sz) := by
  refine g_met (cc := b_F_readEnd) (maxL := 1) (ret := (some .boolean)) (by decide) rfl (Nat.le_of_ble_eq_true rfl) ?_
  intro p e s m below meth c A ls hx hb hr hml hown hts hlocks hnm hsz hAe hA hP hK hD hS hl hE
  have hown : s.vm.findClass R_F = some m.cls := hown
  have u_0 : ∀ w ∈ u_ws R_F T_F 5, w ∈ w_F_readEnd := fun w h => List.mem_cons_of_mem _ (tu_F w h)
  have u_1 : ∀ w ∈ u_ws R_E T_E 14, w ∈ w_F_readEnd := fun w h => List.mem_cons_of_mem _ (tu_E w h)
  have k_0 := hts (.fieldLink R_F 24 "GraphPages$FormReader" "place" "I") (List.mem_cons_of_mem _ tb_42)
  have k_1 := hts (.fieldLink R_F 15 "GraphPages$FormReader" "elements" "LGraphPages$Elements;") (List.mem_cons_of_mem _ tb_60)
  have k_2 := hts (.fieldLink R_F 98 "GraphPages$Elements" "names" "[I") (List.mem_cons_of_mem _ tb_73)
  have k_3 := hts (.fieldLink R_F 28 "GraphPages$FormReader" "open" "I") (List.mem_cons_of_mem _ tb_71)
  have k_4 := hts (.fieldLink R_F 102 "GraphPages$Elements" "parents" "[I") (List.mem_cons_of_mem _ tb_74)
  have k_5 := hts (.fieldLink R_F 31 "GraphPages$FormReader" "depth" "I") (List.mem_cons_of_mem _ tb_70)
  unfold f_F_readEnd at hf
  refine lv_aload_n hx hb d_F_readEnd_0 rfl (lv_at hl 0 rfl) ?_
  refine lv_dup hx hb d_F_readEnd_1 rfl ?_
  refine va_get (D := X) (ci := 1) (C := R_F) (T := T_F) (N := 5) hx hb hts u_0 hown hK hP 32 gc_32 rfl 2 (by decide) k_0 (fun _ h9 => h9) rfl d_F_readEnd_2 ?_
  refine lv_iconst (v := 2) hx hb d_F_readEnd_5 (by decide) ?_
  refine lv_iadd hx hb d_F_readEnd_6 ?_
  obtain ⟨σ1, e2, hf⟩ := gPut_e hf
  refine va_put (D := X) (ci := 1) (ty := .int) (C := R_F) (T := T_F) (N := 5) hx hb hts u_0 t_F t_F_ok n_F hown hK hP hD hS 32 gc_32 rfl 2 (by decide) k_0 (fun _ h9 => h9) rfl (by decide +kernel) rfl rfl (Nat.le_of_ble_eq_true rfl) d_F_readEnd_7 (fun H locs hP hD hS => ?_)
  rw [sc_32_2, ← e2] at hP hD
  refine lv_aload_n hx hb d_F_readEnd_10 rfl (lv_at hl 0 rfl) ?_
  obtain ⟨y3, σ4, e5, hf⟩ := gBd_e hf
  refine g_wi (va_runV ⟨hx, hb, hml, hown, hts⟩ (m_F_readName e5) (cwV 0 hts (gG4 (fun _ h => List.mem_cons_of_mem _ h) tb_44 tb_45 tb_46 tb_47 tc_F_readName) rfl rfl rfl (by decide +kernel) ⟨Nat.le_of_ble_eq_true rfl, Nat.le_of_ble_eq_true rfl⟩) (g_preVW (q0 := 32) hE hK hP hD hS hA gc_32 rfl) rfl rfl hl.1 rfl (lv_room (Nat.le_of_ble_eq_true rfl)) d_F_readEnd_11 ⟨Nat.zero_le _, Nat.zero_le _⟩) hD hS hA (fun _ => cW_fst) (fun y3 _ H locs hu hP hD hS => ?_)
  subst hu
  refine lv_aload_n hx hb d_F_readEnd_14 rfl (lv_at hl 0 rfl) ?_
  refine va_get (D := X) (ci := 1) (C := R_F) (T := T_F) (N := 5) hx hb hts u_0 hown hK hP 32 gc_32 rfl 1 (by decide) k_1 (fun _ h9 => h9) rfl d_F_readEnd_15 ?_
  refine va_get (D := X) (ci := 0) (C := R_E) (T := T_E) (N := 14) hx hb hts u_1 hown hK hP 20 gc_20 rfl 1 (by decide) k_2 (fun _ h9 => h9) rfl d_F_readEnd_18 ?_
  refine lv_aload_n hx hb d_F_readEnd_21 rfl (lv_at hl 0 rfl) ?_
  refine va_get (D := X) (ci := 1) (C := R_F) (T := T_F) (N := 5) hx hb hts u_0 hown hK hP 32 gc_32 rfl 3 (by decide) k_3 (fun _ h9 => h9) rfl d_F_readEnd_22 ?_
  obtain ⟨y6, h7, e8, hf⟩ := gLd_e hf
  refine va_iald hx hb hK hP 21 0 gc_21 rfl h7 d_F_readEnd_25 ?_
  rw [← e8]
  refine lv_icmp_ne (tgt := 38) hx hb d_F_readEnd_26 rfl (fun c9 => ?_) (fun c9 => ?_)
  · skip
    rw [if_neg c9] at hf
    refine lv_iconst (v := 0) hx hb d_F_readEnd_38 (by decide) ?_
    obtain ⟨rfl, rfl⟩ := gRt_e hf
    exact g_zret hx hb hr hlocks rfl hAe hS () rfl hP d_F_readEnd_39
  rw [if_pos c9] at hf
  refine lv_aload_n hx hb d_F_readEnd_29 rfl (lv_at hl 0 rfl) ?_
  refine lv_bipush (v := 62) hx hb d_F_readEnd_30 (by decide) ?_
  obtain ⟨y10, σ11, e12, hf⟩ := gBd_e hf
  refine g_wi (va_runV ⟨hx, hb, hml, hown, hts⟩ (m_F_skip e12) (cwV 1 hts (gG4 (fun _ h => List.mem_cons_of_mem _ h) tb_52 tb_53 tb_54 tb_47 tc_F_skip) rfl rfl rfl (by decide +kernel) ⟨Nat.le_of_ble_eq_true rfl, Nat.le_of_ble_eq_true rfl⟩) (g_preVW (q0 := 32) hE hK hP hD hS hA gc_32 rfl) rfl rfl hl.1 rfl (lv_room (Nat.le_of_ble_eq_true rfl)) d_F_readEnd_32 ⟨Nat.zero_le _, Nat.zero_le _⟩) hD hS hA (fun _ => cW_fst) (fun y10 _ H locs hu hP hD hS => ?_)
  subst hu
  refine lv_if_ne (tgt := 40) hx hb d_F_readEnd_35 rfl (fun c13 => ?_) (fun c13 => ?_)
  · skip
    rw [if_neg c13] at hf
    refine lv_aload_n hx hb d_F_readEnd_40 rfl (lv_at hl 0 rfl) ?_
    refine lv_aload_n hx hb d_F_readEnd_41 rfl (lv_at hl 0 rfl) ?_
    refine va_get (D := X) (ci := 1) (C := R_F) (T := T_F) (N := 5) hx hb hts u_0 hown hK hP 32 gc_32 rfl 1 (by decide) k_1 (fun _ h9 => h9) rfl d_F_readEnd_42 ?_
    refine va_get (D := X) (ci := 0) (C := R_E) (T := T_E) (N := 14) hx hb hts u_1 hown hK hP 20 gc_20 rfl 2 (by decide) k_4 (fun _ h9 => h9) rfl d_F_readEnd_45 ?_
    refine lv_aload_n hx hb d_F_readEnd_48 rfl (lv_at hl 0 rfl) ?_
    refine va_get (D := X) (ci := 1) (C := R_F) (T := T_F) (N := 5) hx hb hts u_0 hown hK hP 32 gc_32 rfl 3 (by decide) k_3 (fun _ h9 => h9) rfl d_F_readEnd_49 ?_
    obtain ⟨y14, h15, e16, hf⟩ := gLd_e hf
    refine va_iald hx hb hK hP 22 0 gc_22 rfl h15 d_F_readEnd_52 ?_
    rw [← e16]
    obtain ⟨σ17, e18, hf⟩ := gPut_e hf
    refine va_put (D := X) (ci := 1) (ty := .int) (C := R_F) (T := T_F) (N := 5) hx hb hts u_0 t_F t_F_ok n_F hown hK hP hD hS 32 gc_32 rfl 3 (by decide) k_3 (fun _ h9 => h9) rfl (by decide +kernel) rfl rfl (Nat.le_of_ble_eq_true rfl) d_F_readEnd_53 (fun H locs hP hD hS => ?_)
    rw [sc_32_3, ← e18] at hP hD
    refine lv_aload_n hx hb d_F_readEnd_56 rfl (lv_at hl 0 rfl) ?_
    refine lv_dup hx hb d_F_readEnd_57 rfl ?_
    refine va_get (D := X) (ci := 1) (C := R_F) (T := T_F) (N := 5) hx hb hts u_0 hown hK hP 32 gc_32 rfl 4 (by decide) k_5 (fun _ h9 => h9) rfl d_F_readEnd_58 ?_
    refine lv_iconst (v := 1) hx hb d_F_readEnd_61 (by decide) ?_
    refine lv_isub hx hb d_F_readEnd_62 ?_
    obtain ⟨σ19, e20, hf⟩ := gPut_e hf
    refine va_put (D := X) (ci := 1) (ty := .int) (C := R_F) (T := T_F) (N := 5) hx hb hts u_0 t_F t_F_ok n_F hown hK hP hD hS 32 gc_32 rfl 4 (by decide) k_5 (fun _ h9 => h9) rfl (by decide +kernel) rfl rfl (Nat.le_of_ble_eq_true rfl) d_F_readEnd_63 (fun H locs hP hD hS => ?_)
    rw [sc_32_4, ← e20] at hP hD
    refine lv_iconst (v := 1) hx hb d_F_readEnd_66 (by decide) ?_
    obtain ⟨rfl, rfl⟩ := gRt_e hf
    exact g_zret hx hb hr hlocks rfl hAe hS () rfl hP d_F_readEnd_67
  rw [if_pos c13] at hf
  refine lv_iconst (v := 0) hx hb d_F_readEnd_38 (by decide) ?_
  obtain ⟨rfl, rfl⟩ := gRt_e hf
  exact g_zret hx hb hr hlocks rfl hAe hS () rfl hP d_F_readEnd_39

def B_F_readCode_0 (rec : Nat → List Int32 → gS → Option (Int32 × gS)) (σ0 : gS) : Option (Int32 × gS) := gPut σ0 8 ((σ0.1 8) + 2) (fun σ1 => rec 1 [0, 0] σ1)
def B_F_readCode_1 (rec : Nat → List Int32 → gS → Option (Int32 × gS)) (x1 : Int32) (x2 : Int32) (σ0 : gS) : Option (Int32 × gS) := if 3 ≤ x2 then (rec 2 [x1] σ0) else (gBd (f_P_codeAt σ0 (σ0.1 8)) (fun y4 σ5 => gBd (f_O_isDigit σ5 y4) (fun y7 σ8 => if y7 = 0 then (rec 2 [x1] σ8) else (gBd (f_P_codeAt σ8 (σ8.1 8)) (fun y11 σ12 => gPut σ12 8 ((σ12.1 8) + 1) (fun σ14 => rec 1 [(((x1 * 10) + y11) - 48), (x2 + 1)] σ14))))))
def B_F_readCode_2 (rec : Nat → List Int32 → gS → Option (Int32 × gS)) (x1 : Int32) (σ0 : gS) : Option (Int32 × gS) := gBd (f_O_isPrintable σ0 x1) (fun y16 σ17 => if y16 = 0 then (some (0, σ17)) else (gBd (f_F_skip σ17 59) (fun y20 σ21 => if y20 = 0 then (some (0, σ21)) else (gBd (f_E_addText σ21 (σ21.1 9) x1) (fun y24 σ25 => if y24 = 0 then (some (0, σ25)) else (some (1, σ25)))))))
def S_F_readCode (rec : Nat → List Int32 → gS → Option (Int32 × gS)) (k : Nat) (l : List Int32) (σ0 : gS) : Option (Int32 × gS) := match k, l with
  | 0, [] => B_F_readCode_0 rec  σ0
  | 1, [x1, x2] => B_F_readCode_1 rec x1 x2 σ0
  | 2, [x1] => B_F_readCode_2 rec x1 σ0
  | _, _ => none
def R_F_readCode : Nat → Nat → List Int32 → gS → Option (Int32 × gS)
  | 0 => fun _ _ _ => none
  | t + 1 => fun k l σ0 => S_F_readCode (R_F_readCode t) k l σ0
def f_F_readCode (σ : gS) : Option (Int32 × gS) := R_F_readCode gFuel 0 [] σ
set_option maxHeartbeats 4000000 in
set_option maxRecDepth 100000 in
theorem m_F_readCode {l : Launch} {X : va_G} {cI cC cZ : ClassId} {aK aV : Nat → Nat} {a : Nat → Nat} {σ σ' : gS} {r : Int32} (hf : f_F_readCode σ = some (r, σ')) {sz : Nat} : Met l y_F_readCode w_F_readCode { frames := 2, cells := 0, slots := 0, locals := 42 } (gPc X vwCl (gT cI cC cZ) aK aV (cW cI cC cZ a σ) sz [.ref (a 32)]) (gQi X vwCl (cW cI cC cZ a σ) sz (fun r' (_ : Unit) => r' = r) (fun _ => cW cI cC cZ a σ')) 0 0 (va_A (cW cI cC cZ a σ) sz) := by
  refine g_met (cc := b_F_readCode) (maxL := 3) (ret := (some .boolean)) (by decide) rfl (Nat.le_of_ble_eq_true rfl) ?_
  intro p e s m below meth c A ls hx hb hr hml hown hts hlocks hnm hsz hAe hA hP hK hD hS hl hE
  have hown : s.vm.findClass R_F = some m.cls := hown
  have u_0 : ∀ w ∈ u_ws R_F T_F 5, w ∈ w_F_readCode := fun w h => List.mem_cons_of_mem _ (tu_F w h)
  have k_0 := hts (.fieldLink R_F 24 "GraphPages$FormReader" "place" "I") (List.mem_cons_of_mem _ tb_42)
  have k_1 := hts (.fieldLink R_F 9 "GraphPages$FormReader" "page" "LGraphPages$Page;") (List.mem_cons_of_mem _ tb_41)
  have k_2 := hts (.fieldLink R_F 15 "GraphPages$FormReader" "elements" "LGraphPages$Elements;") (List.mem_cons_of_mem _ tb_60)
  have k_3 := hts (.fieldLink R_F 28 "GraphPages$FormReader" "open" "I") (List.mem_cons_of_mem _ tb_71)
  unfold f_F_readCode at hf
  have key : ∀ t : Nat, (∀ (σ0 : gS) (H : Heap) (locs : List Loc) (ls : Array Slot), R_F_readCode t 0 [] σ0 = some (r, σ') → va_P X vwCl (cW cI cC cZ a σ0) H → va_D A (cW cI cC cZ a σ0) → va_S A s.heap H locs → lv_has ls 3 [(0, .ref (a 32))] → W p l e (headSpec w_F_readCode { frames := 2, cells := 0, slots := 0, locals := 42 }).room s m [.ref (a 32)].toArray below meth c H locs 0 0 (MQ below (gQi X vwCl (cW cI cC cZ a σ) sz (fun r' (_ : Unit) => r' = r) (fun _ => cW cI cC cZ a σ')) [.ref (a 32)].toArray s 0 0 (va_A (cW cI cC cZ a σ) sz)) (F0 m 0 ls [])) ∧ (∀ (x1 : Int32) (x2 : Int32) (σ0 : gS) (H : Heap) (locs : List Loc) (ls : Array Slot), R_F_readCode t 1 [x1, x2] σ0 = some (r, σ') → va_P X vwCl (cW cI cC cZ a σ0) H → va_D A (cW cI cC cZ a σ0) → va_S A s.heap H locs → lv_has ls 3 [(0, .ref (a 32)), (1, .int x1), (2, .int x2)] → W p l e (headSpec w_F_readCode { frames := 2, cells := 0, slots := 0, locals := 42 }).room s m [.ref (a 32)].toArray below meth c H locs 0 0 (MQ below (gQi X vwCl (cW cI cC cZ a σ) sz (fun r' (_ : Unit) => r' = r) (fun _ => cW cI cC cZ a σ')) [.ref (a 32)].toArray s 0 0 (va_A (cW cI cC cZ a σ) sz)) (F0 m 14 ls [])) ∧ (∀ (x1 : Int32) (σ0 : gS) (H : Heap) (locs : List Loc) (ls : Array Slot), R_F_readCode t 2 [x1] σ0 = some (r, σ') → va_P X vwCl (cW cI cC cZ a σ0) H → va_D A (cW cI cC cZ a σ0) → va_S A s.heap H locs → lv_has ls 3 [(0, .ref (a 32)), (1, .int x1)] → W p l e (headSpec w_F_readCode { frames := 2, cells := 0, slots := 0, locals := 42 }).room s m [.ref (a 32)].toArray below meth c H locs 0 0 (MQ below (gQi X vwCl (cW cI cC cZ a σ) sz (fun r' (_ : Unit) => r' = r) (fun _ => cW cI cC cZ a σ')) [.ref (a 32)].toArray s 0 0 (va_A (cW cI cC cZ a σ) sz)) (F0 m 72 ls [])) := by
    intro t
    induction t with
    | zero => exact ⟨fun  _ _ _ _ hf => (by have hf : (none : Option (Int32 × gS)) = some (r, σ') := hf; cases hf), fun _ _ _ _ _ _ hf => (by have hf : (none : Option (Int32 × gS)) = some (r, σ') := hf; cases hf), fun _ _ _ _ _ hf => (by have hf : (none : Option (Int32 × gS)) = some (r, σ') := hf; cases hf)⟩
    | succ t ih =>
      obtain ⟨ih0, ih1, ih2⟩ := ih
      refine ⟨?_, ?_, ?_⟩
      · intro  σ0 H locs ls hf hP hD hS hl
        have hf : B_F_readCode_0 (R_F_readCode t)  σ0 = some (r, σ') := hf
        unfold B_F_readCode_0 at hf
        refine lv_aload_n hx hb d_F_readCode_0 rfl (lv_at hl 0 rfl) ?_
        refine lv_dup hx hb d_F_readCode_1 rfl ?_
        refine va_get (D := X) (ci := 1) (C := R_F) (T := T_F) (N := 5) hx hb hts u_0 hown hK hP 32 gc_32 rfl 2 (by decide) k_0 (fun _ h9 => h9) rfl d_F_readCode_2 ?_
        refine lv_iconst (v := 2) hx hb d_F_readCode_5 (by decide) ?_
        refine lv_iadd hx hb d_F_readCode_6 ?_
        obtain ⟨σ1, e2, hf⟩ := gPut_e hf
        refine va_put (D := X) (ci := 1) (ty := .int) (C := R_F) (T := T_F) (N := 5) hx hb hts u_0 t_F t_F_ok n_F hown hK hP hD hS 32 gc_32 rfl 2 (by decide) k_0 (fun _ h9 => h9) rfl (by decide +kernel) rfl rfl (Nat.le_of_ble_eq_true rfl) d_F_readCode_7 (fun H locs hP hD hS => ?_)
        rw [sc_32_2, ← e2] at hP hD
        refine lv_iconst (v := 0) hx hb d_F_readCode_10 (by decide) ?_
        refine lv_istore_n hx hb d_F_readCode_11 rfl hl (by decide) rfl (fun ls hl => ?_)
        refine lv_iconst (v := 0) hx hb d_F_readCode_12 (by decide) ?_
        refine lv_istore_n hx hb d_F_readCode_13 rfl hl (by decide) rfl (fun ls hl => ?_)
        exact ih1 (0) (0) σ1 _ _ _ hf hP hD hS (lv_sub hl [2, 1, 0] rfl)
      · intro x1 x2 σ0 H locs ls hf hP hD hS hl
        have hf : B_F_readCode_1 (R_F_readCode t) x1 x2 σ0 = some (r, σ') := hf
        unfold B_F_readCode_1 at hf
        refine lv_iload_n hx hb d_F_readCode_14 rfl (lv_at hl 2 rfl) ?_
        refine lv_iconst (v := 3) hx hb d_F_readCode_15 (by decide) ?_
        refine lv_icmp_ge (tgt := 72) hx hb d_F_readCode_16 rfl (fun c3 => ?_) (fun c3 => ?_)
        · skip
          rw [if_pos c3] at hf
          exact ih2 (x1) σ0 _ _ _ hf hP hD hS (lv_sub hl [0, 1] rfl)
        rw [if_neg c3] at hf
        refine lv_aload_n hx hb d_F_readCode_19 rfl (lv_at hl 0 rfl) ?_
        refine va_get (D := X) (ci := 1) (C := R_F) (T := T_F) (N := 5) hx hb hts u_0 hown hK hP 32 gc_32 rfl 0 (by decide) k_1 (fun _ h9 => h9) rfl d_F_readCode_20 ?_
        refine lv_aload_n hx hb d_F_readCode_23 rfl (lv_at hl 0 rfl) ?_
        refine va_get (D := X) (ci := 1) (C := R_F) (T := T_F) (N := 5) hx hb hts u_0 hown hK hP 32 gc_32 rfl 2 (by decide) k_0 (fun _ h9 => h9) rfl d_F_readCode_24 ?_
        obtain ⟨y4, σ5, e6, hf⟩ := gBd_e hf
        refine g_wi (va_runV ⟨hx, hb, hml, hown, hts⟩ (m_P_codeAt e6) (cwV 1 hts (gG4 (fun _ h => List.mem_cons_of_mem _ h) tb_35 tb_36 tb_37 tb_38 tc_P_codeAt) rfl rfl rfl (by decide +kernel) ⟨Nat.le_of_ble_eq_true rfl, Nat.le_of_ble_eq_true rfl⟩) (g_preVW (q0 := 7) hE hK hP hD hS hA gc_7 rfl) rfl rfl hl.1 rfl (lv_room (Nat.le_of_ble_eq_true rfl)) d_F_readCode_27 ⟨Nat.zero_le _, Nat.zero_le _⟩) hD hS hA (fun _ => cW_fst) (fun y4 _ H locs hu hP hD hS => ?_)
        subst hu
        obtain ⟨y7, σ8, e9, hf⟩ := gBd_e hf
        refine g_wi (va_runSN ⟨hx, hb, hml, hown, hts⟩ (m_O_isDigit e9) ⟨va_cnB 1 hts (gG (fun _ h => List.mem_cons_of_mem _ h) tc_O_isDigit) rfl rfl rfl (hE.1 (R_F, 126, y_O_isDigit, "GraphPages") (by decide +kernel)) (hts (.initialized R_O) ((fun _ h => List.mem_cons_of_mem _ h) _ tb_39)) (by decide +kernel) ⟨Nat.le_of_ble_eq_true rfl, Nat.le_of_ble_eq_true rfl⟩, (hts (.static y_O_isDigit) ((fun _ h => List.mem_cons_of_mem _ h) _ tb_75)), trivial⟩ (g_preSW hE hK hP hD hS hA) rfl rfl hl.1 rfl (lv_room (Nat.le_of_ble_eq_true rfl)) d_F_readCode_30 ⟨Nat.zero_le _, Nat.zero_le _⟩) hD hS hA (fun _ => cW_fst) (fun y7 _ H locs hu hP hD hS => ?_)
        subst hu
        refine lv_if_eq (tgt := 72) hx hb d_F_readCode_33 rfl (fun c10 => ?_) (fun c10 => ?_)
        · skip
          rw [if_pos c10] at hf
          exact ih2 (x1) σ8 _ _ _ hf hP hD hS (lv_sub hl [0, 1] rfl)
        rw [if_neg c10] at hf
        refine lv_iload_n hx hb d_F_readCode_36 rfl (lv_at hl 1 rfl) ?_
        refine lv_bipush (v := 10) hx hb d_F_readCode_37 (by decide) ?_
        refine lv_imul hx hb d_F_readCode_39 ?_
        refine lv_aload_n hx hb d_F_readCode_40 rfl (lv_at hl 0 rfl) ?_
        refine va_get (D := X) (ci := 1) (C := R_F) (T := T_F) (N := 5) hx hb hts u_0 hown hK hP 32 gc_32 rfl 0 (by decide) k_1 (fun _ h9 => h9) rfl d_F_readCode_41 ?_
        refine lv_aload_n hx hb d_F_readCode_44 rfl (lv_at hl 0 rfl) ?_
        refine va_get (D := X) (ci := 1) (C := R_F) (T := T_F) (N := 5) hx hb hts u_0 hown hK hP 32 gc_32 rfl 2 (by decide) k_0 (fun _ h9 => h9) rfl d_F_readCode_45 ?_
        obtain ⟨y11, σ12, e13, hf⟩ := gBd_e hf
        refine g_wi (va_runV ⟨hx, hb, hml, hown, hts⟩ (m_P_codeAt e13) (cwV 1 hts (gG4 (fun _ h => List.mem_cons_of_mem _ h) tb_35 tb_36 tb_37 tb_38 tc_P_codeAt) rfl rfl rfl (by decide +kernel) ⟨Nat.le_of_ble_eq_true rfl, Nat.le_of_ble_eq_true rfl⟩) (g_preVW (q0 := 7) hE hK hP hD hS hA gc_7 rfl) rfl rfl hl.1 rfl (lv_room (Nat.le_of_ble_eq_true rfl)) d_F_readCode_48 ⟨Nat.zero_le _, Nat.zero_le _⟩) hD hS hA (fun _ => cW_fst) (fun y11 _ H locs hu hP hD hS => ?_)
        subst hu
        refine lv_iadd hx hb d_F_readCode_51 ?_
        refine lv_bipush (v := 48) hx hb d_F_readCode_52 (by decide) ?_
        refine lv_isub hx hb d_F_readCode_54 ?_
        refine lv_istore_n hx hb d_F_readCode_55 rfl hl (by decide) rfl (fun ls hl => ?_)
        refine lv_aload_n hx hb d_F_readCode_56 rfl (lv_at hl 1 rfl) ?_
        refine lv_dup hx hb d_F_readCode_57 rfl ?_
        refine va_get (D := X) (ci := 1) (C := R_F) (T := T_F) (N := 5) hx hb hts u_0 hown hK hP 32 gc_32 rfl 2 (by decide) k_0 (fun _ h9 => h9) rfl d_F_readCode_58 ?_
        refine lv_iconst (v := 1) hx hb d_F_readCode_61 (by decide) ?_
        refine lv_iadd hx hb d_F_readCode_62 ?_
        obtain ⟨σ14, e15, hf⟩ := gPut_e hf
        refine va_put (D := X) (ci := 1) (ty := .int) (C := R_F) (T := T_F) (N := 5) hx hb hts u_0 t_F t_F_ok n_F hown hK hP hD hS 32 gc_32 rfl 2 (by decide) k_0 (fun _ h9 => h9) rfl (by decide +kernel) rfl rfl (Nat.le_of_ble_eq_true rfl) d_F_readCode_63 (fun H locs hP hD hS => ?_)
        rw [sc_32_2, ← e15] at hP hD
        refine lv_iinc (k := 2) (v := (x2 + 1)) hx hb d_F_readCode_66 hl rfl (by rw [show Int32.ofInt (1) = (1 : Int32) by decide]) (by decide) rfl (fun ls hl => ?_)
        refine lv_goto (tgt := 14) hx hb d_F_readCode_69 rfl ?_
        exact ih1 ((((x1 * 10) + y11) - 48)) ((x2 + 1)) σ14 _ _ _ hf hP hD hS (lv_sub hl [2, 1, 0] rfl)
      · intro x1 σ0 H locs ls hf hP hD hS hl
        have hf : B_F_readCode_2 (R_F_readCode t) x1 σ0 = some (r, σ') := hf
        unfold B_F_readCode_2 at hf
        refine lv_iload_n hx hb d_F_readCode_72 rfl (lv_at hl 1 rfl) ?_
        obtain ⟨y16, σ17, e18, hf⟩ := gBd_e hf
        refine g_wi (va_runSN ⟨hx, hb, hml, hown, hts⟩ (m_O_isPrintable e18) ⟨va_cnB 1 hts (gG (fun _ h => List.mem_cons_of_mem _ h) tc_O_isPrintable) rfl rfl rfl (hE.1 (R_F, 129, y_O_isPrintable, "GraphPages") (by decide +kernel)) (hts (.initialized R_O) ((fun _ h => List.mem_cons_of_mem _ h) _ tb_39)) (by decide +kernel) ⟨Nat.le_of_ble_eq_true rfl, Nat.le_of_ble_eq_true rfl⟩, (hts (.static y_O_isPrintable) ((fun _ h => List.mem_cons_of_mem _ h) _ tb_76)), trivial⟩ (g_preSW hE hK hP hD hS hA) rfl rfl hl.1 rfl (lv_room (Nat.le_of_ble_eq_true rfl)) d_F_readCode_73 ⟨Nat.zero_le _, Nat.zero_le _⟩) hD hS hA (fun _ => cW_fst) (fun y16 _ H locs hu hP hD hS => ?_)
        subst hu
        refine lv_if_eq (tgt := 107) hx hb d_F_readCode_76 rfl (fun c19 => ?_) (fun c19 => ?_)
        · skip
          rw [if_pos c19] at hf
          refine lv_iconst (v := 0) hx hb d_F_readCode_107 (by decide) ?_
          obtain ⟨rfl, rfl⟩ := gRt_e hf
          exact g_zret hx hb hr hlocks rfl hAe hS () rfl hP d_F_readCode_108
        rw [if_neg c19] at hf
        refine lv_aload_n hx hb d_F_readCode_79 rfl (lv_at hl 0 rfl) ?_
        refine lv_bipush (v := 59) hx hb d_F_readCode_80 (by decide) ?_
        obtain ⟨y20, σ21, e22, hf⟩ := gBd_e hf
        refine g_wi (va_runV ⟨hx, hb, hml, hown, hts⟩ (m_F_skip e22) (cwV 1 hts (gG4 (fun _ h => List.mem_cons_of_mem _ h) tb_52 tb_53 tb_54 tb_47 tc_F_skip) rfl rfl rfl (by decide +kernel) ⟨Nat.le_of_ble_eq_true rfl, Nat.le_of_ble_eq_true rfl⟩) (g_preVW (q0 := 32) hE hK hP hD hS hA gc_32 rfl) rfl rfl hl.1 rfl (lv_room (Nat.le_of_ble_eq_true rfl)) d_F_readCode_82 ⟨Nat.zero_le _, Nat.zero_le _⟩) hD hS hA (fun _ => cW_fst) (fun y20 _ H locs hu hP hD hS => ?_)
        subst hu
        refine lv_if_eq (tgt := 107) hx hb d_F_readCode_85 rfl (fun c23 => ?_) (fun c23 => ?_)
        · skip
          rw [if_pos c23] at hf
          refine lv_iconst (v := 0) hx hb d_F_readCode_107 (by decide) ?_
          obtain ⟨rfl, rfl⟩ := gRt_e hf
          exact g_zret hx hb hr hlocks rfl hAe hS () rfl hP d_F_readCode_108
        rw [if_neg c23] at hf
        refine lv_aload_n hx hb d_F_readCode_88 rfl (lv_at hl 0 rfl) ?_
        refine va_get (D := X) (ci := 1) (C := R_F) (T := T_F) (N := 5) hx hb hts u_0 hown hK hP 32 gc_32 rfl 1 (by decide) k_2 (fun _ h9 => h9) rfl d_F_readCode_89 ?_
        refine lv_aload_n hx hb d_F_readCode_92 rfl (lv_at hl 0 rfl) ?_
        refine va_get (D := X) (ci := 1) (C := R_F) (T := T_F) (N := 5) hx hb hts u_0 hown hK hP 32 gc_32 rfl 3 (by decide) k_3 (fun _ h9 => h9) rfl d_F_readCode_93 ?_
        refine lv_iload_n hx hb d_F_readCode_96 rfl (lv_at hl 1 rfl) ?_
        obtain ⟨y24, σ25, e26, hf⟩ := gBd_e hf
        refine g_wi (va_runV ⟨hx, hb, hml, hown, hts⟩ (m_E_addText e26) (cwV 2 hts (gG4 (fun _ h => List.mem_cons_of_mem _ h) tb_77 tb_78 tb_79 tb_51 tc_E_addText) rfl rfl rfl (by decide +kernel) ⟨Nat.le_of_ble_eq_true rfl, Nat.le_of_ble_eq_true rfl⟩) (g_preVW (q0 := 20) hE hK hP hD hS hA gc_20 rfl) rfl rfl hl.1 rfl (lv_room (Nat.le_of_ble_eq_true rfl)) d_F_readCode_97 ⟨Nat.zero_le _, Nat.zero_le _⟩) hD hS hA (fun _ => cW_fst) (fun y24 _ H locs hu hP hD hS => ?_)
        subst hu
        refine lv_if_eq (tgt := 107) hx hb d_F_readCode_100 rfl (fun c27 => ?_) (fun c27 => ?_)
        · skip
          rw [if_pos c27] at hf
          refine lv_iconst (v := 0) hx hb d_F_readCode_107 (by decide) ?_
          obtain ⟨rfl, rfl⟩ := gRt_e hf
          exact g_zret hx hb hr hlocks rfl hAe hS () rfl hP d_F_readCode_108
        rw [if_neg c27] at hf
        refine lv_iconst (v := 1) hx hb d_F_readCode_103 (by decide) ?_
        refine lv_goto (tgt := 108) hx hb d_F_readCode_104 rfl ?_
        obtain ⟨rfl, rfl⟩ := gRt_e hf
        exact g_zret hx hb hr hlocks rfl hAe hS () rfl hP d_F_readCode_108
  exact (key gFuel).1  σ _ _ _ hf hP hD hS hl

def f_F_readEntityOf_S21 (σ : gS) (x2 : Int32) : Option (Int32 × gS) := gBd (f_P_showsAt_S21 σ (σ.1 8)) (fun y1 σ2 => if y1 = 0 then (some (0, σ2)) else (gPut σ2 8 ((σ2.1 8) + 4) (fun σ8 => gBd (f_E_addText σ8 (σ8.1 9) x2) (fun y10 σ11 => gNr .boolean y10 (some (y10, σ11))))))
set_option maxHeartbeats 4000000 in
set_option maxRecDepth 100000 in
theorem m_F_readEntityOf_S21 {l : Launch} {X : va_G} {cI cC cZ : ClassId} {aK aV : Nat → Nat} {a : Nat → Nat} {σ σ' : gS} {r : Int32} {x2 : Int32} (hf : f_F_readEntityOf_S21 σ x2 = some (r, σ')) {sz : Nat} : Met l y_F_readEntityOf w_F_readEntityOf { frames := 5, cells := 0, slots := 0, locals := 108 } (gPc X vwCl (gT cI cC cZ) aK aV (cW cI cC cZ a σ) sz [.ref (a 32), .ref (aK 21), .int x2]) (gQi X vwCl (cW cI cC cZ a σ) sz (fun r' (_ : Unit) => r' = r) (fun _ => cW cI cC cZ a σ')) 0 0 (va_A (cW cI cC cZ a σ) sz) := by
  refine g_met (cc := b_F_readEntityOf) (maxL := 3) (ret := (some .boolean)) (by decide) rfl (Nat.le_of_ble_eq_true rfl) ?_
  intro p e s m below meth c A ls hx hb hr hml hown hts hlocks hnm hsz hAe hA hP hK hD hS hl hE
  have hown : s.vm.findClass R_F = some m.cls := hown
  have u_0 : ∀ w ∈ u_ws R_F T_F 5, w ∈ w_F_readEntityOf := fun w h => List.mem_cons_of_mem _ (tu_F w h)
  have k_0 := hts (.fieldLink R_F 9 "GraphPages$FormReader" "page" "LGraphPages$Page;") (List.mem_cons_of_mem _ tb_41)
  have k_1 := hts (.fieldLink R_F 24 "GraphPages$FormReader" "place" "I") (List.mem_cons_of_mem _ tb_42)
  have k_2 := hts (.fieldLink R_F 15 "GraphPages$FormReader" "elements" "LGraphPages$Elements;") (List.mem_cons_of_mem _ tb_60)
  have k_3 := hts (.fieldLink R_F 28 "GraphPages$FormReader" "open" "I") (List.mem_cons_of_mem _ tb_71)
  unfold f_F_readEntityOf_S21 at hf
  refine lv_aload_n hx hb d_F_readEntityOf_0 rfl (lv_at hl 0 rfl) ?_
  refine va_get (D := X) (ci := 1) (C := R_F) (T := T_F) (N := 5) hx hb hts u_0 hown hK hP 32 gc_32 rfl 0 (by decide) k_0 (fun _ h9 => h9) rfl d_F_readEntityOf_1 ?_
  refine lv_aload_n hx hb d_F_readEntityOf_4 rfl (lv_at hl 0 rfl) ?_
  refine va_get (D := X) (ci := 1) (C := R_F) (T := T_F) (N := 5) hx hb hts u_0 hown hK hP 32 gc_32 rfl 2 (by decide) k_1 (fun _ h9 => h9) rfl d_F_readEntityOf_5 ?_
  refine lv_aload_n hx hb d_F_readEntityOf_8 rfl (lv_at hl 1 rfl) ?_
  obtain ⟨y1, σ2, e3, hf⟩ := gBd_e hf
  refine g_wi (va_runV ⟨hx, hb, hml, hown, hts⟩ (m_P_showsAt_S21 e3) (cwV 2 hts (gG4 (fun _ h => List.mem_cons_of_mem _ h) tb_87 tb_88 tb_89 tb_38 tc_P_showsAt) rfl rfl rfl (by decide +kernel) ⟨Nat.le_of_ble_eq_true rfl, Nat.le_of_ble_eq_true rfl⟩) (g_preVW (q0 := 7) hE hK hP hD hS hA gc_7 rfl) rfl rfl hl.1 rfl (lv_room (Nat.le_of_ble_eq_true rfl)) d_F_readEntityOf_9 ⟨Nat.zero_le _, Nat.zero_le _⟩) hD hS hA (fun _ => cW_fst) (fun y1 _ H locs hu hP hD hS => ?_)
  subst hu
  refine lv_if_ne (tgt := 17) hx hb d_F_readEntityOf_12 rfl (fun c4 => ?_) (fun c4 => ?_)
  · skip
    rw [if_neg c4] at hf
    refine lv_aload_n hx hb d_F_readEntityOf_17 rfl (lv_at hl 0 rfl) ?_
    refine lv_dup hx hb d_F_readEntityOf_18 rfl ?_
    refine va_get (D := X) (ci := 1) (C := R_F) (T := T_F) (N := 5) hx hb hts u_0 hown hK hP 32 gc_32 rfl 2 (by decide) k_1 (fun _ h9 => h9) rfl d_F_readEntityOf_19 ?_
    refine lv_aload_n hx hb d_F_readEntityOf_22 rfl (lv_at hl 1 rfl) ?_
    refine g_wi (va_runV ⟨hx, hb, hml, hown, hts⟩ (m_Q_length gl_21) (cwV 0 hts (gG4 (fun _ h => List.mem_cons_of_mem _ h) tb_90 tb_81 tb_82 tb_6 tc_Q_length) rfl rfl rfl (by decide +kernel) ⟨Nat.le_of_ble_eq_true rfl, Nat.le_of_ble_eq_true rfl⟩) (g_preQ gl_21 hE hK hP hD hS hA) rfl rfl hl.1 rfl (lv_room (Nat.le_of_ble_eq_true rfl)) d_F_readEntityOf_23 ⟨Nat.zero_le _, Nat.zero_le _⟩) hD hS hA (fun _ => rfl) (fun y5 _ H locs hu hP hD hS => ?_)
    have hu : y5 = 4 := hu.trans (by decide)
    subst hu
    refine lv_iadd hx hb d_F_readEntityOf_26 ?_
    obtain ⟨σ8, e9, hf⟩ := gPut_e hf
    refine va_put (D := X) (ci := 1) (ty := .int) (C := R_F) (T := T_F) (N := 5) hx hb hts u_0 t_F t_F_ok n_F hown hK hP hD hS 32 gc_32 rfl 2 (by decide) k_1 (fun _ h9 => h9) rfl (by decide +kernel) rfl rfl (Nat.le_of_ble_eq_true rfl) d_F_readEntityOf_27 (fun H locs hP hD hS => ?_)
    rw [sc_32_2, ← e9] at hP hD
    refine lv_aload_n hx hb d_F_readEntityOf_30 rfl (lv_at hl 0 rfl) ?_
    refine va_get (D := X) (ci := 1) (C := R_F) (T := T_F) (N := 5) hx hb hts u_0 hown hK hP 32 gc_32 rfl 1 (by decide) k_2 (fun _ h9 => h9) rfl d_F_readEntityOf_31 ?_
    refine lv_aload_n hx hb d_F_readEntityOf_34 rfl (lv_at hl 0 rfl) ?_
    refine va_get (D := X) (ci := 1) (C := R_F) (T := T_F) (N := 5) hx hb hts u_0 hown hK hP 32 gc_32 rfl 3 (by decide) k_3 (fun _ h9 => h9) rfl d_F_readEntityOf_35 ?_
    refine lv_iload_n hx hb d_F_readEntityOf_38 rfl (lv_at hl 2 rfl) ?_
    obtain ⟨y10, σ11, e12, hf⟩ := gBd_e hf
    refine g_wi (va_runV ⟨hx, hb, hml, hown, hts⟩ (m_E_addText e12) (cwV 2 hts (gG4 (fun _ h => List.mem_cons_of_mem _ h) tb_77 tb_78 tb_79 tb_51 tc_E_addText) rfl rfl rfl (by decide +kernel) ⟨Nat.le_of_ble_eq_true rfl, Nat.le_of_ble_eq_true rfl⟩) (g_preVW (q0 := 20) hE hK hP hD hS hA gc_20 rfl) rfl rfl hl.1 rfl (lv_room (Nat.le_of_ble_eq_true rfl)) d_F_readEntityOf_39 ⟨Nat.zero_le _, Nat.zero_le _⟩) hD hS hA (fun _ => cW_fst) (fun y10 _ H locs hu hP hD hS => ?_)
    subst hu
    obtain ⟨h13, hf⟩ := gNr_e hf
    obtain ⟨rfl, rfl⟩ := gRt_e hf
    exact g_zret hx hb hr hlocks h13 hAe hS () rfl hP d_F_readEntityOf_42
  rw [if_pos c4] at hf
  refine lv_iconst (v := 0) hx hb d_F_readEntityOf_15 (by decide) ?_
  obtain ⟨rfl, rfl⟩ := gRt_e hf
  exact g_zret hx hb hr hlocks rfl hAe hS () rfl hP d_F_readEntityOf_16

def f_F_readEntityOf_S22 (σ : gS) (x2 : Int32) : Option (Int32 × gS) := gBd (f_P_showsAt_S22 σ (σ.1 8)) (fun y1 σ2 => if y1 = 0 then (some (0, σ2)) else (gPut σ2 8 ((σ2.1 8) + 4) (fun σ8 => gBd (f_E_addText σ8 (σ8.1 9) x2) (fun y10 σ11 => gNr .boolean y10 (some (y10, σ11))))))
set_option maxHeartbeats 4000000 in
set_option maxRecDepth 100000 in
theorem m_F_readEntityOf_S22 {l : Launch} {X : va_G} {cI cC cZ : ClassId} {aK aV : Nat → Nat} {a : Nat → Nat} {σ σ' : gS} {r : Int32} {x2 : Int32} (hf : f_F_readEntityOf_S22 σ x2 = some (r, σ')) {sz : Nat} : Met l y_F_readEntityOf w_F_readEntityOf { frames := 5, cells := 0, slots := 0, locals := 108 } (gPc X vwCl (gT cI cC cZ) aK aV (cW cI cC cZ a σ) sz [.ref (a 32), .ref (aK 22), .int x2]) (gQi X vwCl (cW cI cC cZ a σ) sz (fun r' (_ : Unit) => r' = r) (fun _ => cW cI cC cZ a σ')) 0 0 (va_A (cW cI cC cZ a σ) sz) := by
  refine g_met (cc := b_F_readEntityOf) (maxL := 3) (ret := (some .boolean)) (by decide) rfl (Nat.le_of_ble_eq_true rfl) ?_
  intro p e s m below meth c A ls hx hb hr hml hown hts hlocks hnm hsz hAe hA hP hK hD hS hl hE
  have hown : s.vm.findClass R_F = some m.cls := hown
  have u_0 : ∀ w ∈ u_ws R_F T_F 5, w ∈ w_F_readEntityOf := fun w h => List.mem_cons_of_mem _ (tu_F w h)
  have k_0 := hts (.fieldLink R_F 9 "GraphPages$FormReader" "page" "LGraphPages$Page;") (List.mem_cons_of_mem _ tb_41)
  have k_1 := hts (.fieldLink R_F 24 "GraphPages$FormReader" "place" "I") (List.mem_cons_of_mem _ tb_42)
  have k_2 := hts (.fieldLink R_F 15 "GraphPages$FormReader" "elements" "LGraphPages$Elements;") (List.mem_cons_of_mem _ tb_60)
  have k_3 := hts (.fieldLink R_F 28 "GraphPages$FormReader" "open" "I") (List.mem_cons_of_mem _ tb_71)
  unfold f_F_readEntityOf_S22 at hf
  refine lv_aload_n hx hb d_F_readEntityOf_0 rfl (lv_at hl 0 rfl) ?_
  refine va_get (D := X) (ci := 1) (C := R_F) (T := T_F) (N := 5) hx hb hts u_0 hown hK hP 32 gc_32 rfl 0 (by decide) k_0 (fun _ h9 => h9) rfl d_F_readEntityOf_1 ?_
  refine lv_aload_n hx hb d_F_readEntityOf_4 rfl (lv_at hl 0 rfl) ?_
  refine va_get (D := X) (ci := 1) (C := R_F) (T := T_F) (N := 5) hx hb hts u_0 hown hK hP 32 gc_32 rfl 2 (by decide) k_1 (fun _ h9 => h9) rfl d_F_readEntityOf_5 ?_
  refine lv_aload_n hx hb d_F_readEntityOf_8 rfl (lv_at hl 1 rfl) ?_
  obtain ⟨y1, σ2, e3, hf⟩ := gBd_e hf
  refine g_wi (va_runV ⟨hx, hb, hml, hown, hts⟩ (m_P_showsAt_S22 e3) (cwV 2 hts (gG4 (fun _ h => List.mem_cons_of_mem _ h) tb_87 tb_88 tb_89 tb_38 tc_P_showsAt) rfl rfl rfl (by decide +kernel) ⟨Nat.le_of_ble_eq_true rfl, Nat.le_of_ble_eq_true rfl⟩) (g_preVW (q0 := 7) hE hK hP hD hS hA gc_7 rfl) rfl rfl hl.1 rfl (lv_room (Nat.le_of_ble_eq_true rfl)) d_F_readEntityOf_9 ⟨Nat.zero_le _, Nat.zero_le _⟩) hD hS hA (fun _ => cW_fst) (fun y1 _ H locs hu hP hD hS => ?_)
  subst hu
  refine lv_if_ne (tgt := 17) hx hb d_F_readEntityOf_12 rfl (fun c4 => ?_) (fun c4 => ?_)
  · skip
    rw [if_neg c4] at hf
    refine lv_aload_n hx hb d_F_readEntityOf_17 rfl (lv_at hl 0 rfl) ?_
    refine lv_dup hx hb d_F_readEntityOf_18 rfl ?_
    refine va_get (D := X) (ci := 1) (C := R_F) (T := T_F) (N := 5) hx hb hts u_0 hown hK hP 32 gc_32 rfl 2 (by decide) k_1 (fun _ h9 => h9) rfl d_F_readEntityOf_19 ?_
    refine lv_aload_n hx hb d_F_readEntityOf_22 rfl (lv_at hl 1 rfl) ?_
    refine g_wi (va_runV ⟨hx, hb, hml, hown, hts⟩ (m_Q_length gl_22) (cwV 0 hts (gG4 (fun _ h => List.mem_cons_of_mem _ h) tb_90 tb_81 tb_82 tb_6 tc_Q_length) rfl rfl rfl (by decide +kernel) ⟨Nat.le_of_ble_eq_true rfl, Nat.le_of_ble_eq_true rfl⟩) (g_preQ gl_22 hE hK hP hD hS hA) rfl rfl hl.1 rfl (lv_room (Nat.le_of_ble_eq_true rfl)) d_F_readEntityOf_23 ⟨Nat.zero_le _, Nat.zero_le _⟩) hD hS hA (fun _ => rfl) (fun y5 _ H locs hu hP hD hS => ?_)
    have hu : y5 = 4 := hu.trans (by decide)
    subst hu
    refine lv_iadd hx hb d_F_readEntityOf_26 ?_
    obtain ⟨σ8, e9, hf⟩ := gPut_e hf
    refine va_put (D := X) (ci := 1) (ty := .int) (C := R_F) (T := T_F) (N := 5) hx hb hts u_0 t_F t_F_ok n_F hown hK hP hD hS 32 gc_32 rfl 2 (by decide) k_1 (fun _ h9 => h9) rfl (by decide +kernel) rfl rfl (Nat.le_of_ble_eq_true rfl) d_F_readEntityOf_27 (fun H locs hP hD hS => ?_)
    rw [sc_32_2, ← e9] at hP hD
    refine lv_aload_n hx hb d_F_readEntityOf_30 rfl (lv_at hl 0 rfl) ?_
    refine va_get (D := X) (ci := 1) (C := R_F) (T := T_F) (N := 5) hx hb hts u_0 hown hK hP 32 gc_32 rfl 1 (by decide) k_2 (fun _ h9 => h9) rfl d_F_readEntityOf_31 ?_
    refine lv_aload_n hx hb d_F_readEntityOf_34 rfl (lv_at hl 0 rfl) ?_
    refine va_get (D := X) (ci := 1) (C := R_F) (T := T_F) (N := 5) hx hb hts u_0 hown hK hP 32 gc_32 rfl 3 (by decide) k_3 (fun _ h9 => h9) rfl d_F_readEntityOf_35 ?_
    refine lv_iload_n hx hb d_F_readEntityOf_38 rfl (lv_at hl 2 rfl) ?_
    obtain ⟨y10, σ11, e12, hf⟩ := gBd_e hf
    refine g_wi (va_runV ⟨hx, hb, hml, hown, hts⟩ (m_E_addText e12) (cwV 2 hts (gG4 (fun _ h => List.mem_cons_of_mem _ h) tb_77 tb_78 tb_79 tb_51 tc_E_addText) rfl rfl rfl (by decide +kernel) ⟨Nat.le_of_ble_eq_true rfl, Nat.le_of_ble_eq_true rfl⟩) (g_preVW (q0 := 20) hE hK hP hD hS hA gc_20 rfl) rfl rfl hl.1 rfl (lv_room (Nat.le_of_ble_eq_true rfl)) d_F_readEntityOf_39 ⟨Nat.zero_le _, Nat.zero_le _⟩) hD hS hA (fun _ => cW_fst) (fun y10 _ H locs hu hP hD hS => ?_)
    subst hu
    obtain ⟨h13, hf⟩ := gNr_e hf
    obtain ⟨rfl, rfl⟩ := gRt_e hf
    exact g_zret hx hb hr hlocks h13 hAe hS () rfl hP d_F_readEntityOf_42
  rw [if_pos c4] at hf
  refine lv_iconst (v := 0) hx hb d_F_readEntityOf_15 (by decide) ?_
  obtain ⟨rfl, rfl⟩ := gRt_e hf
  exact g_zret hx hb hr hlocks rfl hAe hS () rfl hP d_F_readEntityOf_16

def f_F_readEntityOf_S23 (σ : gS) (x2 : Int32) : Option (Int32 × gS) := gBd (f_P_showsAt_S23 σ (σ.1 8)) (fun y1 σ2 => if y1 = 0 then (some (0, σ2)) else (gPut σ2 8 ((σ2.1 8) + 5) (fun σ8 => gBd (f_E_addText σ8 (σ8.1 9) x2) (fun y10 σ11 => gNr .boolean y10 (some (y10, σ11))))))
set_option maxHeartbeats 4000000 in
set_option maxRecDepth 100000 in
theorem m_F_readEntityOf_S23 {l : Launch} {X : va_G} {cI cC cZ : ClassId} {aK aV : Nat → Nat} {a : Nat → Nat} {σ σ' : gS} {r : Int32} {x2 : Int32} (hf : f_F_readEntityOf_S23 σ x2 = some (r, σ')) {sz : Nat} : Met l y_F_readEntityOf w_F_readEntityOf { frames := 5, cells := 0, slots := 0, locals := 108 } (gPc X vwCl (gT cI cC cZ) aK aV (cW cI cC cZ a σ) sz [.ref (a 32), .ref (aK 23), .int x2]) (gQi X vwCl (cW cI cC cZ a σ) sz (fun r' (_ : Unit) => r' = r) (fun _ => cW cI cC cZ a σ')) 0 0 (va_A (cW cI cC cZ a σ) sz) := by
  refine g_met (cc := b_F_readEntityOf) (maxL := 3) (ret := (some .boolean)) (by decide) rfl (Nat.le_of_ble_eq_true rfl) ?_
  intro p e s m below meth c A ls hx hb hr hml hown hts hlocks hnm hsz hAe hA hP hK hD hS hl hE
  have hown : s.vm.findClass R_F = some m.cls := hown
  have u_0 : ∀ w ∈ u_ws R_F T_F 5, w ∈ w_F_readEntityOf := fun w h => List.mem_cons_of_mem _ (tu_F w h)
  have k_0 := hts (.fieldLink R_F 9 "GraphPages$FormReader" "page" "LGraphPages$Page;") (List.mem_cons_of_mem _ tb_41)
  have k_1 := hts (.fieldLink R_F 24 "GraphPages$FormReader" "place" "I") (List.mem_cons_of_mem _ tb_42)
  have k_2 := hts (.fieldLink R_F 15 "GraphPages$FormReader" "elements" "LGraphPages$Elements;") (List.mem_cons_of_mem _ tb_60)
  have k_3 := hts (.fieldLink R_F 28 "GraphPages$FormReader" "open" "I") (List.mem_cons_of_mem _ tb_71)
  unfold f_F_readEntityOf_S23 at hf
  refine lv_aload_n hx hb d_F_readEntityOf_0 rfl (lv_at hl 0 rfl) ?_
  refine va_get (D := X) (ci := 1) (C := R_F) (T := T_F) (N := 5) hx hb hts u_0 hown hK hP 32 gc_32 rfl 0 (by decide) k_0 (fun _ h9 => h9) rfl d_F_readEntityOf_1 ?_
  refine lv_aload_n hx hb d_F_readEntityOf_4 rfl (lv_at hl 0 rfl) ?_
  refine va_get (D := X) (ci := 1) (C := R_F) (T := T_F) (N := 5) hx hb hts u_0 hown hK hP 32 gc_32 rfl 2 (by decide) k_1 (fun _ h9 => h9) rfl d_F_readEntityOf_5 ?_
  refine lv_aload_n hx hb d_F_readEntityOf_8 rfl (lv_at hl 1 rfl) ?_
  obtain ⟨y1, σ2, e3, hf⟩ := gBd_e hf
  refine g_wi (va_runV ⟨hx, hb, hml, hown, hts⟩ (m_P_showsAt_S23 e3) (cwV 2 hts (gG4 (fun _ h => List.mem_cons_of_mem _ h) tb_87 tb_88 tb_89 tb_38 tc_P_showsAt) rfl rfl rfl (by decide +kernel) ⟨Nat.le_of_ble_eq_true rfl, Nat.le_of_ble_eq_true rfl⟩) (g_preVW (q0 := 7) hE hK hP hD hS hA gc_7 rfl) rfl rfl hl.1 rfl (lv_room (Nat.le_of_ble_eq_true rfl)) d_F_readEntityOf_9 ⟨Nat.zero_le _, Nat.zero_le _⟩) hD hS hA (fun _ => cW_fst) (fun y1 _ H locs hu hP hD hS => ?_)
  subst hu
  refine lv_if_ne (tgt := 17) hx hb d_F_readEntityOf_12 rfl (fun c4 => ?_) (fun c4 => ?_)
  · skip
    rw [if_neg c4] at hf
    refine lv_aload_n hx hb d_F_readEntityOf_17 rfl (lv_at hl 0 rfl) ?_
    refine lv_dup hx hb d_F_readEntityOf_18 rfl ?_
    refine va_get (D := X) (ci := 1) (C := R_F) (T := T_F) (N := 5) hx hb hts u_0 hown hK hP 32 gc_32 rfl 2 (by decide) k_1 (fun _ h9 => h9) rfl d_F_readEntityOf_19 ?_
    refine lv_aload_n hx hb d_F_readEntityOf_22 rfl (lv_at hl 1 rfl) ?_
    refine g_wi (va_runV ⟨hx, hb, hml, hown, hts⟩ (m_Q_length gl_23) (cwV 0 hts (gG4 (fun _ h => List.mem_cons_of_mem _ h) tb_90 tb_81 tb_82 tb_6 tc_Q_length) rfl rfl rfl (by decide +kernel) ⟨Nat.le_of_ble_eq_true rfl, Nat.le_of_ble_eq_true rfl⟩) (g_preQ gl_23 hE hK hP hD hS hA) rfl rfl hl.1 rfl (lv_room (Nat.le_of_ble_eq_true rfl)) d_F_readEntityOf_23 ⟨Nat.zero_le _, Nat.zero_le _⟩) hD hS hA (fun _ => rfl) (fun y5 _ H locs hu hP hD hS => ?_)
    have hu : y5 = 5 := hu.trans (by decide)
    subst hu
    refine lv_iadd hx hb d_F_readEntityOf_26 ?_
    obtain ⟨σ8, e9, hf⟩ := gPut_e hf
    refine va_put (D := X) (ci := 1) (ty := .int) (C := R_F) (T := T_F) (N := 5) hx hb hts u_0 t_F t_F_ok n_F hown hK hP hD hS 32 gc_32 rfl 2 (by decide) k_1 (fun _ h9 => h9) rfl (by decide +kernel) rfl rfl (Nat.le_of_ble_eq_true rfl) d_F_readEntityOf_27 (fun H locs hP hD hS => ?_)
    rw [sc_32_2, ← e9] at hP hD
    refine lv_aload_n hx hb d_F_readEntityOf_30 rfl (lv_at hl 0 rfl) ?_
    refine va_get (D := X) (ci := 1) (C := R_F) (T := T_F) (N := 5) hx hb hts u_0 hown hK hP 32 gc_32 rfl 1 (by decide) k_2 (fun _ h9 => h9) rfl d_F_readEntityOf_31 ?_
    refine lv_aload_n hx hb d_F_readEntityOf_34 rfl (lv_at hl 0 rfl) ?_
    refine va_get (D := X) (ci := 1) (C := R_F) (T := T_F) (N := 5) hx hb hts u_0 hown hK hP 32 gc_32 rfl 3 (by decide) k_3 (fun _ h9 => h9) rfl d_F_readEntityOf_35 ?_
    refine lv_iload_n hx hb d_F_readEntityOf_38 rfl (lv_at hl 2 rfl) ?_
    obtain ⟨y10, σ11, e12, hf⟩ := gBd_e hf
    refine g_wi (va_runV ⟨hx, hb, hml, hown, hts⟩ (m_E_addText e12) (cwV 2 hts (gG4 (fun _ h => List.mem_cons_of_mem _ h) tb_77 tb_78 tb_79 tb_51 tc_E_addText) rfl rfl rfl (by decide +kernel) ⟨Nat.le_of_ble_eq_true rfl, Nat.le_of_ble_eq_true rfl⟩) (g_preVW (q0 := 20) hE hK hP hD hS hA gc_20 rfl) rfl rfl hl.1 rfl (lv_room (Nat.le_of_ble_eq_true rfl)) d_F_readEntityOf_39 ⟨Nat.zero_le _, Nat.zero_le _⟩) hD hS hA (fun _ => cW_fst) (fun y10 _ H locs hu hP hD hS => ?_)
    subst hu
    obtain ⟨h13, hf⟩ := gNr_e hf
    obtain ⟨rfl, rfl⟩ := gRt_e hf
    exact g_zret hx hb hr hlocks h13 hAe hS () rfl hP d_F_readEntityOf_42
  rw [if_pos c4] at hf
  refine lv_iconst (v := 0) hx hb d_F_readEntityOf_15 (by decide) ?_
  obtain ⟨rfl, rfl⟩ := gRt_e hf
  exact g_zret hx hb hr hlocks rfl hAe hS () rfl hP d_F_readEntityOf_16

def f_F_readEntityOf_S24 (σ : gS) (x2 : Int32) : Option (Int32 × gS) := gBd (f_P_showsAt_S24 σ (σ.1 8)) (fun y1 σ2 => if y1 = 0 then (some (0, σ2)) else (gPut σ2 8 ((σ2.1 8) + 6) (fun σ8 => gBd (f_E_addText σ8 (σ8.1 9) x2) (fun y10 σ11 => gNr .boolean y10 (some (y10, σ11))))))
set_option maxHeartbeats 4000000 in
set_option maxRecDepth 100000 in
theorem m_F_readEntityOf_S24 {l : Launch} {X : va_G} {cI cC cZ : ClassId} {aK aV : Nat → Nat} {a : Nat → Nat} {σ σ' : gS} {r : Int32} {x2 : Int32} (hf : f_F_readEntityOf_S24 σ x2 = some (r, σ')) {sz : Nat} : Met l y_F_readEntityOf w_F_readEntityOf { frames := 5, cells := 0, slots := 0, locals := 108 } (gPc X vwCl (gT cI cC cZ) aK aV (cW cI cC cZ a σ) sz [.ref (a 32), .ref (aK 24), .int x2]) (gQi X vwCl (cW cI cC cZ a σ) sz (fun r' (_ : Unit) => r' = r) (fun _ => cW cI cC cZ a σ')) 0 0 (va_A (cW cI cC cZ a σ) sz) := by
  refine g_met (cc := b_F_readEntityOf) (maxL := 3) (ret := (some .boolean)) (by decide) rfl (Nat.le_of_ble_eq_true rfl) ?_
  intro p e s m below meth c A ls hx hb hr hml hown hts hlocks hnm hsz hAe hA hP hK hD hS hl hE
  have hown : s.vm.findClass R_F = some m.cls := hown
  have u_0 : ∀ w ∈ u_ws R_F T_F 5, w ∈ w_F_readEntityOf := fun w h => List.mem_cons_of_mem _ (tu_F w h)
  have k_0 := hts (.fieldLink R_F 9 "GraphPages$FormReader" "page" "LGraphPages$Page;") (List.mem_cons_of_mem _ tb_41)
  have k_1 := hts (.fieldLink R_F 24 "GraphPages$FormReader" "place" "I") (List.mem_cons_of_mem _ tb_42)
  have k_2 := hts (.fieldLink R_F 15 "GraphPages$FormReader" "elements" "LGraphPages$Elements;") (List.mem_cons_of_mem _ tb_60)
  have k_3 := hts (.fieldLink R_F 28 "GraphPages$FormReader" "open" "I") (List.mem_cons_of_mem _ tb_71)
  unfold f_F_readEntityOf_S24 at hf
  refine lv_aload_n hx hb d_F_readEntityOf_0 rfl (lv_at hl 0 rfl) ?_
  refine va_get (D := X) (ci := 1) (C := R_F) (T := T_F) (N := 5) hx hb hts u_0 hown hK hP 32 gc_32 rfl 0 (by decide) k_0 (fun _ h9 => h9) rfl d_F_readEntityOf_1 ?_
  refine lv_aload_n hx hb d_F_readEntityOf_4 rfl (lv_at hl 0 rfl) ?_
  refine va_get (D := X) (ci := 1) (C := R_F) (T := T_F) (N := 5) hx hb hts u_0 hown hK hP 32 gc_32 rfl 2 (by decide) k_1 (fun _ h9 => h9) rfl d_F_readEntityOf_5 ?_
  refine lv_aload_n hx hb d_F_readEntityOf_8 rfl (lv_at hl 1 rfl) ?_
  obtain ⟨y1, σ2, e3, hf⟩ := gBd_e hf
  refine g_wi (va_runV ⟨hx, hb, hml, hown, hts⟩ (m_P_showsAt_S24 e3) (cwV 2 hts (gG4 (fun _ h => List.mem_cons_of_mem _ h) tb_87 tb_88 tb_89 tb_38 tc_P_showsAt) rfl rfl rfl (by decide +kernel) ⟨Nat.le_of_ble_eq_true rfl, Nat.le_of_ble_eq_true rfl⟩) (g_preVW (q0 := 7) hE hK hP hD hS hA gc_7 rfl) rfl rfl hl.1 rfl (lv_room (Nat.le_of_ble_eq_true rfl)) d_F_readEntityOf_9 ⟨Nat.zero_le _, Nat.zero_le _⟩) hD hS hA (fun _ => cW_fst) (fun y1 _ H locs hu hP hD hS => ?_)
  subst hu
  refine lv_if_ne (tgt := 17) hx hb d_F_readEntityOf_12 rfl (fun c4 => ?_) (fun c4 => ?_)
  · skip
    rw [if_neg c4] at hf
    refine lv_aload_n hx hb d_F_readEntityOf_17 rfl (lv_at hl 0 rfl) ?_
    refine lv_dup hx hb d_F_readEntityOf_18 rfl ?_
    refine va_get (D := X) (ci := 1) (C := R_F) (T := T_F) (N := 5) hx hb hts u_0 hown hK hP 32 gc_32 rfl 2 (by decide) k_1 (fun _ h9 => h9) rfl d_F_readEntityOf_19 ?_
    refine lv_aload_n hx hb d_F_readEntityOf_22 rfl (lv_at hl 1 rfl) ?_
    refine g_wi (va_runV ⟨hx, hb, hml, hown, hts⟩ (m_Q_length gl_24) (cwV 0 hts (gG4 (fun _ h => List.mem_cons_of_mem _ h) tb_90 tb_81 tb_82 tb_6 tc_Q_length) rfl rfl rfl (by decide +kernel) ⟨Nat.le_of_ble_eq_true rfl, Nat.le_of_ble_eq_true rfl⟩) (g_preQ gl_24 hE hK hP hD hS hA) rfl rfl hl.1 rfl (lv_room (Nat.le_of_ble_eq_true rfl)) d_F_readEntityOf_23 ⟨Nat.zero_le _, Nat.zero_le _⟩) hD hS hA (fun _ => rfl) (fun y5 _ H locs hu hP hD hS => ?_)
    have hu : y5 = 6 := hu.trans (by decide)
    subst hu
    refine lv_iadd hx hb d_F_readEntityOf_26 ?_
    obtain ⟨σ8, e9, hf⟩ := gPut_e hf
    refine va_put (D := X) (ci := 1) (ty := .int) (C := R_F) (T := T_F) (N := 5) hx hb hts u_0 t_F t_F_ok n_F hown hK hP hD hS 32 gc_32 rfl 2 (by decide) k_1 (fun _ h9 => h9) rfl (by decide +kernel) rfl rfl (Nat.le_of_ble_eq_true rfl) d_F_readEntityOf_27 (fun H locs hP hD hS => ?_)
    rw [sc_32_2, ← e9] at hP hD
    refine lv_aload_n hx hb d_F_readEntityOf_30 rfl (lv_at hl 0 rfl) ?_
    refine va_get (D := X) (ci := 1) (C := R_F) (T := T_F) (N := 5) hx hb hts u_0 hown hK hP 32 gc_32 rfl 1 (by decide) k_2 (fun _ h9 => h9) rfl d_F_readEntityOf_31 ?_
    refine lv_aload_n hx hb d_F_readEntityOf_34 rfl (lv_at hl 0 rfl) ?_
    refine va_get (D := X) (ci := 1) (C := R_F) (T := T_F) (N := 5) hx hb hts u_0 hown hK hP 32 gc_32 rfl 3 (by decide) k_3 (fun _ h9 => h9) rfl d_F_readEntityOf_35 ?_
    refine lv_iload_n hx hb d_F_readEntityOf_38 rfl (lv_at hl 2 rfl) ?_
    obtain ⟨y10, σ11, e12, hf⟩ := gBd_e hf
    refine g_wi (va_runV ⟨hx, hb, hml, hown, hts⟩ (m_E_addText e12) (cwV 2 hts (gG4 (fun _ h => List.mem_cons_of_mem _ h) tb_77 tb_78 tb_79 tb_51 tc_E_addText) rfl rfl rfl (by decide +kernel) ⟨Nat.le_of_ble_eq_true rfl, Nat.le_of_ble_eq_true rfl⟩) (g_preVW (q0 := 20) hE hK hP hD hS hA gc_20 rfl) rfl rfl hl.1 rfl (lv_room (Nat.le_of_ble_eq_true rfl)) d_F_readEntityOf_39 ⟨Nat.zero_le _, Nat.zero_le _⟩) hD hS hA (fun _ => cW_fst) (fun y10 _ H locs hu hP hD hS => ?_)
    subst hu
    obtain ⟨h13, hf⟩ := gNr_e hf
    obtain ⟨rfl, rfl⟩ := gRt_e hf
    exact g_zret hx hb hr hlocks h13 hAe hS () rfl hP d_F_readEntityOf_42
  rw [if_pos c4] at hf
  refine lv_iconst (v := 0) hx hb d_F_readEntityOf_15 (by decide) ?_
  obtain ⟨rfl, rfl⟩ := gRt_e hf
  exact g_zret hx hb hr hlocks rfl hAe hS () rfl hP d_F_readEntityOf_16

def f_F_readEntity (σ : gS) : Option (Int32 × gS) := gBd (f_F_readEntityOf_S21 σ 60) (fun y1 σ2 => if y1 = 0 then (gBd (f_F_readEntityOf_S22 σ2 62) (fun y5 σ6 => if y5 = 0 then (gBd (f_F_readEntityOf_S23 σ6 38) (fun y9 σ10 => if y9 = 0 then (gBd (f_F_readEntityOf_S24 σ10 34) (fun y13 σ14 => if y13 = 0 then (some (0, σ14)) else (some (1, σ14)))) else (some (1, σ10)))) else (some (1, σ6)))) else (some (1, σ2)))
set_option maxHeartbeats 4000000 in
set_option maxRecDepth 100000 in
theorem m_F_readEntity {l : Launch} {X : va_G} {cI cC cZ : ClassId} {aK aV : Nat → Nat} {a : Nat → Nat} {σ σ' : gS} {r : Int32} (hf : f_F_readEntity σ = some (r, σ')) {sz : Nat} : Met l y_F_readEntity w_F_readEntity { frames := 6, cells := 0, slots := 0, locals := 130 } (gPc X vwCl (gT cI cC cZ) aK aV (cW cI cC cZ a σ) sz [.ref (a 32)]) (gQi X vwCl (cW cI cC cZ a σ) sz (fun r' (_ : Unit) => r' = r) (fun _ => cW cI cC cZ a σ')) 0 0 (va_A (cW cI cC cZ a σ) sz) := by
  refine g_met (cc := b_F_readEntity) (maxL := 1) (ret := (some .boolean)) (by decide) rfl (Nat.le_of_ble_eq_true rfl) ?_
  intro p e s m below meth c A ls hx hb hr hml hown hts hlocks hnm hsz hAe hA hP hK hD hS hl hE
  have hown : s.vm.findClass R_F = some m.cls := hown
  unfold f_F_readEntity at hf
  refine lv_aload_n hx hb d_F_readEntity_0 rfl (lv_at hl 0 rfl) ?_
  refine va_ldcS hx hb hown (hE.2.1 _ gl_21).1 d_F_readEntity_1 ?_
  refine lv_bipush (v := 60) hx hb d_F_readEntity_3 (by decide) ?_
  obtain ⟨y1, σ2, e3, hf⟩ := gBd_e hf
  refine g_wi (va_runV ⟨hx, hb, hml, hown, hts⟩ (m_F_readEntityOf_S21 e3) (cwV 2 hts (gG4 (fun _ h => List.mem_cons_of_mem _ h) tb_91 tb_92 tb_93 tb_47 tc_F_readEntityOf) rfl rfl rfl (by decide +kernel) ⟨Nat.le_of_ble_eq_true rfl, Nat.le_of_ble_eq_true rfl⟩) (g_preVW (q0 := 32) hE hK hP hD hS hA gc_32 rfl) rfl rfl hl.1 rfl (lv_room (Nat.le_of_ble_eq_true rfl)) d_F_readEntity_5 ⟨Nat.zero_le _, Nat.zero_le _⟩) hD hS hA (fun _ => cW_fst) (fun y1 _ H locs hu hP hD hS => ?_)
  subst hu
  refine lv_if_ne (tgt := 44) hx hb d_F_readEntity_8 rfl (fun c4 => ?_) (fun c4 => ?_)
  · skip
    rw [if_neg c4] at hf
    refine lv_iconst (v := 1) hx hb d_F_readEntity_44 (by decide) ?_
    refine lv_goto (tgt := 49) hx hb d_F_readEntity_45 rfl ?_
    obtain ⟨rfl, rfl⟩ := gRt_e hf
    exact g_zret hx hb hr hlocks rfl hAe hS () rfl hP d_F_readEntity_49
  rw [if_pos c4] at hf
  refine lv_aload_n hx hb d_F_readEntity_11 rfl (lv_at hl 0 rfl) ?_
  refine va_ldcS hx hb hown (hE.2.1 _ gl_22).1 d_F_readEntity_12 ?_
  refine lv_bipush (v := 62) hx hb d_F_readEntity_14 (by decide) ?_
  obtain ⟨y5, σ6, e7, hf⟩ := gBd_e hf
  refine g_wi (va_runV ⟨hx, hb, hml, hown, hts⟩ (m_F_readEntityOf_S22 e7) (cwV 2 hts (gG4 (fun _ h => List.mem_cons_of_mem _ h) tb_91 tb_92 tb_93 tb_47 tc_F_readEntityOf) rfl rfl rfl (by decide +kernel) ⟨Nat.le_of_ble_eq_true rfl, Nat.le_of_ble_eq_true rfl⟩) (g_preVW (q0 := 32) hE hK hP hD hS hA gc_32 rfl) rfl rfl hl.1 rfl (lv_room (Nat.le_of_ble_eq_true rfl)) d_F_readEntity_16 ⟨Nat.zero_le _, Nat.zero_le _⟩) hD hS hA (fun _ => cW_fst) (fun y5 _ H locs hu hP hD hS => ?_)
  subst hu
  refine lv_if_ne (tgt := 44) hx hb d_F_readEntity_19 rfl (fun c8 => ?_) (fun c8 => ?_)
  · skip
    rw [if_neg c8] at hf
    refine lv_iconst (v := 1) hx hb d_F_readEntity_44 (by decide) ?_
    refine lv_goto (tgt := 49) hx hb d_F_readEntity_45 rfl ?_
    obtain ⟨rfl, rfl⟩ := gRt_e hf
    exact g_zret hx hb hr hlocks rfl hAe hS () rfl hP d_F_readEntity_49
  rw [if_pos c8] at hf
  refine lv_aload_n hx hb d_F_readEntity_22 rfl (lv_at hl 0 rfl) ?_
  refine va_ldcS hx hb hown (hE.2.1 _ gl_23).1 d_F_readEntity_23 ?_
  refine lv_bipush (v := 38) hx hb d_F_readEntity_25 (by decide) ?_
  obtain ⟨y9, σ10, e11, hf⟩ := gBd_e hf
  refine g_wi (va_runV ⟨hx, hb, hml, hown, hts⟩ (m_F_readEntityOf_S23 e11) (cwV 2 hts (gG4 (fun _ h => List.mem_cons_of_mem _ h) tb_91 tb_92 tb_93 tb_47 tc_F_readEntityOf) rfl rfl rfl (by decide +kernel) ⟨Nat.le_of_ble_eq_true rfl, Nat.le_of_ble_eq_true rfl⟩) (g_preVW (q0 := 32) hE hK hP hD hS hA gc_32 rfl) rfl rfl hl.1 rfl (lv_room (Nat.le_of_ble_eq_true rfl)) d_F_readEntity_27 ⟨Nat.zero_le _, Nat.zero_le _⟩) hD hS hA (fun _ => cW_fst) (fun y9 _ H locs hu hP hD hS => ?_)
  subst hu
  refine lv_if_ne (tgt := 44) hx hb d_F_readEntity_30 rfl (fun c12 => ?_) (fun c12 => ?_)
  · skip
    rw [if_neg c12] at hf
    refine lv_iconst (v := 1) hx hb d_F_readEntity_44 (by decide) ?_
    refine lv_goto (tgt := 49) hx hb d_F_readEntity_45 rfl ?_
    obtain ⟨rfl, rfl⟩ := gRt_e hf
    exact g_zret hx hb hr hlocks rfl hAe hS () rfl hP d_F_readEntity_49
  rw [if_pos c12] at hf
  refine lv_aload_n hx hb d_F_readEntity_33 rfl (lv_at hl 0 rfl) ?_
  refine va_ldcS hx hb hown (hE.2.1 _ gl_24).1 d_F_readEntity_34 ?_
  refine lv_bipush (v := 34) hx hb d_F_readEntity_36 (by decide) ?_
  obtain ⟨y13, σ14, e15, hf⟩ := gBd_e hf
  refine g_wi (va_runV ⟨hx, hb, hml, hown, hts⟩ (m_F_readEntityOf_S24 e15) (cwV 2 hts (gG4 (fun _ h => List.mem_cons_of_mem _ h) tb_91 tb_92 tb_93 tb_47 tc_F_readEntityOf) rfl rfl rfl (by decide +kernel) ⟨Nat.le_of_ble_eq_true rfl, Nat.le_of_ble_eq_true rfl⟩) (g_preVW (q0 := 32) hE hK hP hD hS hA gc_32 rfl) rfl rfl hl.1 rfl (lv_room (Nat.le_of_ble_eq_true rfl)) d_F_readEntity_38 ⟨Nat.zero_le _, Nat.zero_le _⟩) hD hS hA (fun _ => cW_fst) (fun y13 _ H locs hu hP hD hS => ?_)
  subst hu
  refine lv_if_eq (tgt := 48) hx hb d_F_readEntity_41 rfl (fun c16 => ?_) (fun c16 => ?_)
  · skip
    rw [if_pos c16] at hf
    refine lv_iconst (v := 0) hx hb d_F_readEntity_48 (by decide) ?_
    obtain ⟨rfl, rfl⟩ := gRt_e hf
    exact g_zret hx hb hr hlocks rfl hAe hS () rfl hP d_F_readEntity_49
  rw [if_neg c16] at hf
  refine lv_iconst (v := 1) hx hb d_F_readEntity_44 (by decide) ?_
  refine lv_goto (tgt := 49) hx hb d_F_readEntity_45 rfl ?_
  obtain ⟨rfl, rfl⟩ := gRt_e hf
  exact g_zret hx hb hr hlocks rfl hAe hS () rfl hP d_F_readEntity_49

def f_F_readPiece (σ : gS) : Option (Int32 × gS) := gBd (f_P_codeAt σ (σ.1 8)) (fun y1 σ2 => if (σ2.1 9) = (-1) then (if (σ2.1 5) = 0 then (if y1 = 60 then (gBd (f_F_readStart σ2) (fun y39 σ40 => if y39 = 0 then (some (0, σ40)) else (some (1, σ40)))) else (some (0, σ2))) else (some (0, σ2))) else (if y1 = 60 then (gBd (f_P_codeAt σ2 ((σ2.1 8) + 1)) (fun y25 σ26 => if y25 = 47 then (gBd (f_F_readEnd σ26) (fun y33 σ34 => gNr .boolean y33 (some (y33, σ34)))) else (gBd (f_F_readStart σ26) (fun y29 σ30 => gNr .boolean y29 (some (y29, σ30)))))) else (if y1 = 38 then (gBd (f_P_codeAt σ2 ((σ2.1 8) + 1)) (fun y13 σ14 => if y13 = 35 then (gBd (f_F_readCode σ14) (fun y21 σ22 => gNr .boolean y21 (some (y21, σ22)))) else (gBd (f_F_readEntity σ14) (fun y17 σ18 => gNr .boolean y17 (some (y17, σ18)))))) else (gPut σ2 8 ((σ2.1 8) + 1) (fun σ7 => gBd (f_E_addText σ7 (σ7.1 9) y1) (fun y9 σ10 => gNr .boolean y9 (some (y9, σ10))))))))
set_option maxHeartbeats 4000000 in
set_option maxRecDepth 100000 in
theorem m_F_readPiece {l : Launch} {X : va_G} {cI cC cZ : ClassId} {aK aV : Nat → Nat} {a : Nat → Nat} {σ σ' : gS} {r : Int32} (hf : f_F_readPiece σ = some (r, σ')) {sz : Nat} : Met l y_F_readPiece w_F_readPiece { frames := 7, cells := 0, slots := 0, locals := 150 } (gPc X vwCl (gT cI cC cZ) aK aV (cW cI cC cZ a σ) sz [.ref (a 32)]) (gQi X vwCl (cW cI cC cZ a σ) sz (fun r' (_ : Unit) => r' = r) (fun _ => cW cI cC cZ a σ')) 0 0 (va_A (cW cI cC cZ a σ) sz) := by
  refine g_met (cc := b_F_readPiece) (maxL := 2) (ret := (some .boolean)) (by decide) rfl (Nat.le_of_ble_eq_true rfl) ?_
  intro p e s m below meth c A ls hx hb hr hml hown hts hlocks hnm hsz hAe hA hP hK hD hS hl hE
  have hown : s.vm.findClass R_F = some m.cls := hown
  have u_0 : ∀ w ∈ u_ws R_F T_F 5, w ∈ w_F_readPiece := fun w h => List.mem_cons_of_mem _ (tu_F w h)
  have u_1 : ∀ w ∈ u_ws R_E T_E 14, w ∈ w_F_readPiece := fun w h => List.mem_cons_of_mem _ (tu_E w h)
  have k_0 := hts (.fieldLink R_F 9 "GraphPages$FormReader" "page" "LGraphPages$Page;") (List.mem_cons_of_mem _ tb_41)
  have k_1 := hts (.fieldLink R_F 24 "GraphPages$FormReader" "place" "I") (List.mem_cons_of_mem _ tb_42)
  have k_2 := hts (.fieldLink R_F 28 "GraphPages$FormReader" "open" "I") (List.mem_cons_of_mem _ tb_71)
  have k_3 := hts (.fieldLink R_F 15 "GraphPages$FormReader" "elements" "LGraphPages$Elements;") (List.mem_cons_of_mem _ tb_60)
  have k_4 := hts (.fieldLink R_F 43 "GraphPages$Elements" "count" "I") (List.mem_cons_of_mem _ tb_72)
  unfold f_F_readPiece at hf
  refine lv_aload_n hx hb d_F_readPiece_0 rfl (lv_at hl 0 rfl) ?_
  refine va_get (D := X) (ci := 1) (C := R_F) (T := T_F) (N := 5) hx hb hts u_0 hown hK hP 32 gc_32 rfl 0 (by decide) k_0 (fun _ h9 => h9) rfl d_F_readPiece_1 ?_
  refine lv_aload_n hx hb d_F_readPiece_4 rfl (lv_at hl 0 rfl) ?_
  refine va_get (D := X) (ci := 1) (C := R_F) (T := T_F) (N := 5) hx hb hts u_0 hown hK hP 32 gc_32 rfl 2 (by decide) k_1 (fun _ h9 => h9) rfl d_F_readPiece_5 ?_
  obtain ⟨y1, σ2, e3, hf⟩ := gBd_e hf
  refine g_wi (va_runV ⟨hx, hb, hml, hown, hts⟩ (m_P_codeAt e3) (cwV 1 hts (gG4 (fun _ h => List.mem_cons_of_mem _ h) tb_35 tb_36 tb_37 tb_38 tc_P_codeAt) rfl rfl rfl (by decide +kernel) ⟨Nat.le_of_ble_eq_true rfl, Nat.le_of_ble_eq_true rfl⟩) (g_preVW (q0 := 7) hE hK hP hD hS hA gc_7 rfl) rfl rfl hl.1 rfl (lv_room (Nat.le_of_ble_eq_true rfl)) d_F_readPiece_8 ⟨Nat.zero_le _, Nat.zero_le _⟩) hD hS hA (fun _ => cW_fst) (fun y1 _ H locs hu hP hD hS => ?_)
  subst hu
  refine lv_istore_n hx hb d_F_readPiece_11 rfl hl (by decide) rfl (fun ls hl => ?_)
  refine lv_aload_n hx hb d_F_readPiece_12 rfl (lv_at hl 1 rfl) ?_
  refine va_get (D := X) (ci := 1) (C := R_F) (T := T_F) (N := 5) hx hb hts u_0 hown hK hP 32 gc_32 rfl 3 (by decide) k_2 (fun _ h9 => h9) rfl d_F_readPiece_13 ?_
  refine lv_iconst (v := (-1)) hx hb d_F_readPiece_16 (by decide) ?_
  refine lv_icmp_ne (tgt := 49) hx hb d_F_readPiece_17 rfl (fun c4 => ?_) (fun c4 => ?_)
  · skip
    rw [if_neg c4] at hf
    refine lv_iload_n hx hb d_F_readPiece_49 rfl (lv_at hl 0 rfl) ?_
    refine lv_bipush (v := 60) hx hb d_F_readPiece_50 (by decide) ?_
    refine lv_icmp_ne (tgt := 85) hx hb d_F_readPiece_52 rfl (fun c5 => ?_) (fun c5 => ?_)
    · skip
      rw [if_neg c5] at hf
      refine lv_iload_n hx hb d_F_readPiece_85 rfl (lv_at hl 0 rfl) ?_
      refine lv_bipush (v := 38) hx hb d_F_readPiece_86 (by decide) ?_
      refine lv_icmp_ne (tgt := 121) hx hb d_F_readPiece_88 rfl (fun c6 => ?_) (fun c6 => ?_)
      · skip
        rw [if_neg c6] at hf
        refine lv_aload_n hx hb d_F_readPiece_121 rfl (lv_at hl 1 rfl) ?_
        refine lv_dup hx hb d_F_readPiece_122 rfl ?_
        refine va_get (D := X) (ci := 1) (C := R_F) (T := T_F) (N := 5) hx hb hts u_0 hown hK hP 32 gc_32 rfl 2 (by decide) k_1 (fun _ h9 => h9) rfl d_F_readPiece_123 ?_
        refine lv_iconst (v := 1) hx hb d_F_readPiece_126 (by decide) ?_
        refine lv_iadd hx hb d_F_readPiece_127 ?_
        obtain ⟨σ7, e8, hf⟩ := gPut_e hf
        refine va_put (D := X) (ci := 1) (ty := .int) (C := R_F) (T := T_F) (N := 5) hx hb hts u_0 t_F t_F_ok n_F hown hK hP hD hS 32 gc_32 rfl 2 (by decide) k_1 (fun _ h9 => h9) rfl (by decide +kernel) rfl rfl (Nat.le_of_ble_eq_true rfl) d_F_readPiece_128 (fun H locs hP hD hS => ?_)
        rw [sc_32_2, ← e8] at hP hD
        refine lv_aload_n hx hb d_F_readPiece_131 rfl (lv_at hl 1 rfl) ?_
        refine va_get (D := X) (ci := 1) (C := R_F) (T := T_F) (N := 5) hx hb hts u_0 hown hK hP 32 gc_32 rfl 1 (by decide) k_3 (fun _ h9 => h9) rfl d_F_readPiece_132 ?_
        refine lv_aload_n hx hb d_F_readPiece_135 rfl (lv_at hl 1 rfl) ?_
        refine va_get (D := X) (ci := 1) (C := R_F) (T := T_F) (N := 5) hx hb hts u_0 hown hK hP 32 gc_32 rfl 3 (by decide) k_2 (fun _ h9 => h9) rfl d_F_readPiece_136 ?_
        refine lv_iload_n hx hb d_F_readPiece_139 rfl (lv_at hl 0 rfl) ?_
        obtain ⟨y9, σ10, e11, hf⟩ := gBd_e hf
        refine g_wi (va_runV ⟨hx, hb, hml, hown, hts⟩ (m_E_addText e11) (cwV 2 hts (gG4 (fun _ h => List.mem_cons_of_mem _ h) tb_77 tb_78 tb_79 tb_51 tc_E_addText) rfl rfl rfl (by decide +kernel) ⟨Nat.le_of_ble_eq_true rfl, Nat.le_of_ble_eq_true rfl⟩) (g_preVW (q0 := 20) hE hK hP hD hS hA gc_20 rfl) rfl rfl hl.1 rfl (lv_room (Nat.le_of_ble_eq_true rfl)) d_F_readPiece_140 ⟨Nat.zero_le _, Nat.zero_le _⟩) hD hS hA (fun _ => cW_fst) (fun y9 _ H locs hu hP hD hS => ?_)
        subst hu
        obtain ⟨h12, hf⟩ := gNr_e hf
        obtain ⟨rfl, rfl⟩ := gRt_e hf
        exact g_zret hx hb hr hlocks h12 hAe hS () rfl hP d_F_readPiece_143
      rw [if_pos c6] at hf
      refine lv_aload_n hx hb d_F_readPiece_91 rfl (lv_at hl 1 rfl) ?_
      refine va_get (D := X) (ci := 1) (C := R_F) (T := T_F) (N := 5) hx hb hts u_0 hown hK hP 32 gc_32 rfl 0 (by decide) k_0 (fun _ h9 => h9) rfl d_F_readPiece_92 ?_
      refine lv_aload_n hx hb d_F_readPiece_95 rfl (lv_at hl 1 rfl) ?_
      refine va_get (D := X) (ci := 1) (C := R_F) (T := T_F) (N := 5) hx hb hts u_0 hown hK hP 32 gc_32 rfl 2 (by decide) k_1 (fun _ h9 => h9) rfl d_F_readPiece_96 ?_
      refine lv_iconst (v := 1) hx hb d_F_readPiece_99 (by decide) ?_
      refine lv_iadd hx hb d_F_readPiece_100 ?_
      obtain ⟨y13, σ14, e15, hf⟩ := gBd_e hf
      refine g_wi (va_runV ⟨hx, hb, hml, hown, hts⟩ (m_P_codeAt e15) (cwV 1 hts (gG4 (fun _ h => List.mem_cons_of_mem _ h) tb_35 tb_36 tb_37 tb_38 tc_P_codeAt) rfl rfl rfl (by decide +kernel) ⟨Nat.le_of_ble_eq_true rfl, Nat.le_of_ble_eq_true rfl⟩) (g_preVW (q0 := 7) hE hK hP hD hS hA gc_7 rfl) rfl rfl hl.1 rfl (lv_room (Nat.le_of_ble_eq_true rfl)) d_F_readPiece_101 ⟨Nat.zero_le _, Nat.zero_le _⟩) hD hS hA (fun _ => cW_fst) (fun y13 _ H locs hu hP hD hS => ?_)
      subst hu
      refine lv_bipush (v := 35) hx hb d_F_readPiece_104 (by decide) ?_
      refine lv_icmp_ne (tgt := 116) hx hb d_F_readPiece_106 rfl (fun c16 => ?_) (fun c16 => ?_)
      · skip
        rw [if_neg c16] at hf
        refine lv_aload_n hx hb d_F_readPiece_116 rfl (lv_at hl 1 rfl) ?_
        obtain ⟨y17, σ18, e19, hf⟩ := gBd_e hf
        refine g_wi (va_runV ⟨hx, hb, hml, hown, hts⟩ (m_F_readEntity e19) (cwV 0 hts (gG4 (fun _ h => List.mem_cons_of_mem _ h) tb_94 tb_95 tb_96 tb_47 tc_F_readEntity) rfl rfl rfl (by decide +kernel) ⟨Nat.le_of_ble_eq_true rfl, Nat.le_of_ble_eq_true rfl⟩) (g_preVW (q0 := 32) hE hK hP hD hS hA gc_32 rfl) rfl rfl hl.1 rfl (lv_room (Nat.le_of_ble_eq_true rfl)) d_F_readPiece_117 ⟨Nat.zero_le _, Nat.zero_le _⟩) hD hS hA (fun _ => cW_fst) (fun y17 _ H locs hu hP hD hS => ?_)
        subst hu
        obtain ⟨h20, hf⟩ := gNr_e hf
        obtain ⟨rfl, rfl⟩ := gRt_e hf
        exact g_zret hx hb hr hlocks h20 hAe hS () rfl hP d_F_readPiece_120
      rw [if_pos c16] at hf
      refine lv_aload_n hx hb d_F_readPiece_109 rfl (lv_at hl 1 rfl) ?_
      obtain ⟨y21, σ22, e23, hf⟩ := gBd_e hf
      refine g_wi (va_runV ⟨hx, hb, hml, hown, hts⟩ (m_F_readCode e23) (cwV 0 hts (gG4 (fun _ h => List.mem_cons_of_mem _ h) tb_97 tb_98 tb_99 tb_47 tc_F_readCode) rfl rfl rfl (by decide +kernel) ⟨Nat.le_of_ble_eq_true rfl, Nat.le_of_ble_eq_true rfl⟩) (g_preVW (q0 := 32) hE hK hP hD hS hA gc_32 rfl) rfl rfl hl.1 rfl (lv_room (Nat.le_of_ble_eq_true rfl)) d_F_readPiece_110 ⟨Nat.zero_le _, Nat.zero_le _⟩) hD hS hA (fun _ => cW_fst) (fun y21 _ H locs hu hP hD hS => ?_)
      subst hu
      refine lv_goto (tgt := 120) hx hb d_F_readPiece_113 rfl ?_
      obtain ⟨h24, hf⟩ := gNr_e hf
      obtain ⟨rfl, rfl⟩ := gRt_e hf
      exact g_zret hx hb hr hlocks h24 hAe hS () rfl hP d_F_readPiece_120
    rw [if_pos c5] at hf
    refine lv_aload_n hx hb d_F_readPiece_55 rfl (lv_at hl 1 rfl) ?_
    refine va_get (D := X) (ci := 1) (C := R_F) (T := T_F) (N := 5) hx hb hts u_0 hown hK hP 32 gc_32 rfl 0 (by decide) k_0 (fun _ h9 => h9) rfl d_F_readPiece_56 ?_
    refine lv_aload_n hx hb d_F_readPiece_59 rfl (lv_at hl 1 rfl) ?_
    refine va_get (D := X) (ci := 1) (C := R_F) (T := T_F) (N := 5) hx hb hts u_0 hown hK hP 32 gc_32 rfl 2 (by decide) k_1 (fun _ h9 => h9) rfl d_F_readPiece_60 ?_
    refine lv_iconst (v := 1) hx hb d_F_readPiece_63 (by decide) ?_
    refine lv_iadd hx hb d_F_readPiece_64 ?_
    obtain ⟨y25, σ26, e27, hf⟩ := gBd_e hf
    refine g_wi (va_runV ⟨hx, hb, hml, hown, hts⟩ (m_P_codeAt e27) (cwV 1 hts (gG4 (fun _ h => List.mem_cons_of_mem _ h) tb_35 tb_36 tb_37 tb_38 tc_P_codeAt) rfl rfl rfl (by decide +kernel) ⟨Nat.le_of_ble_eq_true rfl, Nat.le_of_ble_eq_true rfl⟩) (g_preVW (q0 := 7) hE hK hP hD hS hA gc_7 rfl) rfl rfl hl.1 rfl (lv_room (Nat.le_of_ble_eq_true rfl)) d_F_readPiece_65 ⟨Nat.zero_le _, Nat.zero_le _⟩) hD hS hA (fun _ => cW_fst) (fun y25 _ H locs hu hP hD hS => ?_)
    subst hu
    refine lv_bipush (v := 47) hx hb d_F_readPiece_68 (by decide) ?_
    refine lv_icmp_ne (tgt := 80) hx hb d_F_readPiece_70 rfl (fun c28 => ?_) (fun c28 => ?_)
    · skip
      rw [if_neg c28] at hf
      refine lv_aload_n hx hb d_F_readPiece_80 rfl (lv_at hl 1 rfl) ?_
      obtain ⟨y29, σ30, e31, hf⟩ := gBd_e hf
      refine g_wi (va_runV ⟨hx, hb, hml, hown, hts⟩ (m_F_readStart e31) (cwV 0 hts (gG4 (fun _ h => List.mem_cons_of_mem _ h) tb_100 tb_101 tb_102 tb_47 tc_F_readStart) rfl rfl rfl (by decide +kernel) ⟨Nat.le_of_ble_eq_true rfl, Nat.le_of_ble_eq_true rfl⟩) (g_preVW (q0 := 32) hE hK hP hD hS hA gc_32 rfl) rfl rfl hl.1 rfl (lv_room (Nat.le_of_ble_eq_true rfl)) d_F_readPiece_81 ⟨Nat.zero_le _, Nat.zero_le _⟩) hD hS hA (fun _ => cW_fst) (fun y29 _ H locs hu hP hD hS => ?_)
      subst hu
      obtain ⟨h32, hf⟩ := gNr_e hf
      obtain ⟨rfl, rfl⟩ := gRt_e hf
      exact g_zret hx hb hr hlocks h32 hAe hS () rfl hP d_F_readPiece_84
    rw [if_pos c28] at hf
    refine lv_aload_n hx hb d_F_readPiece_73 rfl (lv_at hl 1 rfl) ?_
    obtain ⟨y33, σ34, e35, hf⟩ := gBd_e hf
    refine g_wi (va_runV ⟨hx, hb, hml, hown, hts⟩ (m_F_readEnd e35) (cwV 0 hts (gG4 (fun _ h => List.mem_cons_of_mem _ h) tb_103 tb_104 tb_105 tb_47 tc_F_readEnd) rfl rfl rfl (by decide +kernel) ⟨Nat.le_of_ble_eq_true rfl, Nat.le_of_ble_eq_true rfl⟩) (g_preVW (q0 := 32) hE hK hP hD hS hA gc_32 rfl) rfl rfl hl.1 rfl (lv_room (Nat.le_of_ble_eq_true rfl)) d_F_readPiece_74 ⟨Nat.zero_le _, Nat.zero_le _⟩) hD hS hA (fun _ => cW_fst) (fun y33 _ H locs hu hP hD hS => ?_)
    subst hu
    refine lv_goto (tgt := 84) hx hb d_F_readPiece_77 rfl ?_
    obtain ⟨h36, hf⟩ := gNr_e hf
    obtain ⟨rfl, rfl⟩ := gRt_e hf
    exact g_zret hx hb hr hlocks h36 hAe hS () rfl hP d_F_readPiece_84
  rw [if_pos c4] at hf
  refine lv_aload_n hx hb d_F_readPiece_20 rfl (lv_at hl 1 rfl) ?_
  refine va_get (D := X) (ci := 1) (C := R_F) (T := T_F) (N := 5) hx hb hts u_0 hown hK hP 32 gc_32 rfl 1 (by decide) k_3 (fun _ h9 => h9) rfl d_F_readPiece_21 ?_
  refine va_get (D := X) (ci := 0) (C := R_E) (T := T_E) (N := 14) hx hb hts u_1 hown hK hP 20 gc_20 rfl 0 (by decide) k_4 (fun _ h9 => h9) rfl d_F_readPiece_24 ?_
  refine lv_if_ne (tgt := 47) hx hb d_F_readPiece_27 rfl (fun c37 => ?_) (fun c37 => ?_)
  · skip
    rw [if_neg c37] at hf
    refine lv_iconst (v := 0) hx hb d_F_readPiece_47 (by decide) ?_
    obtain ⟨rfl, rfl⟩ := gRt_e hf
    exact g_zret hx hb hr hlocks rfl hAe hS () rfl hP d_F_readPiece_48
  rw [if_pos c37] at hf
  refine lv_iload_n hx hb d_F_readPiece_30 rfl (lv_at hl 0 rfl) ?_
  refine lv_bipush (v := 60) hx hb d_F_readPiece_31 (by decide) ?_
  refine lv_icmp_ne (tgt := 47) hx hb d_F_readPiece_33 rfl (fun c38 => ?_) (fun c38 => ?_)
  · skip
    rw [if_neg c38] at hf
    refine lv_iconst (v := 0) hx hb d_F_readPiece_47 (by decide) ?_
    obtain ⟨rfl, rfl⟩ := gRt_e hf
    exact g_zret hx hb hr hlocks rfl hAe hS () rfl hP d_F_readPiece_48
  rw [if_pos c38] at hf
  refine lv_aload_n hx hb d_F_readPiece_36 rfl (lv_at hl 1 rfl) ?_
  obtain ⟨y39, σ40, e41, hf⟩ := gBd_e hf
  refine g_wi (va_runV ⟨hx, hb, hml, hown, hts⟩ (m_F_readStart e41) (cwV 0 hts (gG4 (fun _ h => List.mem_cons_of_mem _ h) tb_100 tb_101 tb_102 tb_47 tc_F_readStart) rfl rfl rfl (by decide +kernel) ⟨Nat.le_of_ble_eq_true rfl, Nat.le_of_ble_eq_true rfl⟩) (g_preVW (q0 := 32) hE hK hP hD hS hA gc_32 rfl) rfl rfl hl.1 rfl (lv_room (Nat.le_of_ble_eq_true rfl)) d_F_readPiece_37 ⟨Nat.zero_le _, Nat.zero_le _⟩) hD hS hA (fun _ => cW_fst) (fun y39 _ H locs hu hP hD hS => ?_)
  subst hu
  refine lv_if_eq (tgt := 47) hx hb d_F_readPiece_40 rfl (fun c42 => ?_) (fun c42 => ?_)
  · skip
    rw [if_pos c42] at hf
    refine lv_iconst (v := 0) hx hb d_F_readPiece_47 (by decide) ?_
    obtain ⟨rfl, rfl⟩ := gRt_e hf
    exact g_zret hx hb hr hlocks rfl hAe hS () rfl hP d_F_readPiece_48
  rw [if_neg c42] at hf
  refine lv_iconst (v := 1) hx hb d_F_readPiece_43 (by decide) ?_
  refine lv_goto (tgt := 48) hx hb d_F_readPiece_44 rfl ?_
  obtain ⟨rfl, rfl⟩ := gRt_e hf
  exact g_zret hx hb hr hlocks rfl hAe hS () rfl hP d_F_readPiece_48

def B_F_isWellFormed_0 (rec : Nat → List Int32 → gS → Option (Int32 × gS)) (σ0 : gS) : Option (Int32 × gS) := gBd (f_E_removeAll σ0) (fun _ σ2 => gPut σ2 8 0 (fun σ4 => gPut σ4 9 (-1) (fun σ6 => gPut σ6 10 0 (fun σ8 => rec 1 [0] σ8))))
def B_F_isWellFormed_1 (rec : Nat → List Int32 → gS → Option (Int32 × gS)) (x1 : Int32) (σ0 : gS) : Option (Int32 × gS) := if 1600 ≤ x1 then (rec 2 [] σ0) else (if (σ0.1 1) ≤ (σ0.1 8) then (rec 2 [] σ0) else (gBd (f_F_readPiece σ0) (fun y12 σ13 => if y12 = 0 then (some (0, σ13)) else (rec 1 [(x1 + 1)] σ13))))
def B_F_isWellFormed_2 (rec : Nat → List Int32 → gS → Option (Int32 × gS)) (σ0 : gS) : Option (Int32 × gS) := if (σ0.1 5) ≤ 0 then (some (0, σ0)) else (if (σ0.1 9) = (-1) then (if (σ0.1 8) < (σ0.1 1) then (some (0, σ0)) else (some (1, σ0))) else (some (0, σ0)))
def S_F_isWellFormed (rec : Nat → List Int32 → gS → Option (Int32 × gS)) (k : Nat) (l : List Int32) (σ0 : gS) : Option (Int32 × gS) := match k, l with
  | 0, [] => B_F_isWellFormed_0 rec  σ0
  | 1, [x1] => B_F_isWellFormed_1 rec x1 σ0
  | 2, [] => B_F_isWellFormed_2 rec  σ0
  | _, _ => none
def R_F_isWellFormed : Nat → Nat → List Int32 → gS → Option (Int32 × gS)
  | 0 => fun _ _ _ => none
  | t + 1 => fun k l σ0 => S_F_isWellFormed (R_F_isWellFormed t) k l σ0
def f_F_isWellFormed (σ : gS) : Option (Int32 × gS) := R_F_isWellFormed gFuel 0 [] σ
set_option maxHeartbeats 4000000 in
set_option maxRecDepth 100000 in
theorem m_F_isWellFormed {l : Launch} {X : va_G} {cI cC cZ : ClassId} {aK aV : Nat → Nat} {a : Nat → Nat} {σ σ' : gS} {r : Int32} (hf : f_F_isWellFormed σ = some (r, σ')) {sz : Nat} : Met l y_F_isWellFormed w_F_isWellFormed { frames := 8, cells := 0, slots := 0, locals := 171 } (gPc X vwCl (gT cI cC cZ) aK aV (cW cI cC cZ a σ) sz [.ref (a 32)]) (gQi X vwCl (cW cI cC cZ a σ) sz (fun r' (_ : Unit) => r' = r) (fun _ => cW cI cC cZ a σ')) 0 0 (va_A (cW cI cC cZ a σ) sz) := by
  refine g_met (cc := b_F_isWellFormed) (maxL := 2) (ret := (some .boolean)) (by decide) rfl (Nat.le_of_ble_eq_true rfl) ?_
  intro p e s m below meth c A ls hx hb hr hml hown hts hlocks hnm hsz hAe hA hP hK hD hS hl hE
  have hown : s.vm.findClass R_F = some m.cls := hown
  have u_0 : ∀ w ∈ u_ws R_F T_F 5, w ∈ w_F_isWellFormed := fun w h => List.mem_cons_of_mem _ (tu_F w h)
  have u_1 : ∀ w ∈ u_ws R_P T_P 2, w ∈ w_F_isWellFormed := fun w h => List.mem_cons_of_mem _ (tu_P w h)
  have u_2 : ∀ w ∈ u_ws R_E T_E 14, w ∈ w_F_isWellFormed := fun w h => List.mem_cons_of_mem _ (tu_E w h)
  have k_0 := hts (.fieldLink R_F 15 "GraphPages$FormReader" "elements" "LGraphPages$Elements;") (List.mem_cons_of_mem _ tb_60)
  have k_1 := hts (.fieldLink R_F 24 "GraphPages$FormReader" "place" "I") (List.mem_cons_of_mem _ tb_42)
  have k_2 := hts (.fieldLink R_F 28 "GraphPages$FormReader" "open" "I") (List.mem_cons_of_mem _ tb_71)
  have k_3 := hts (.fieldLink R_F 31 "GraphPages$FormReader" "depth" "I") (List.mem_cons_of_mem _ tb_70)
  have k_4 := hts (.fieldLink R_F 9 "GraphPages$FormReader" "page" "LGraphPages$Page;") (List.mem_cons_of_mem _ tb_41)
  have k_5 := hts (.fieldLink R_F 34 "GraphPages$Page" "end" "I") (List.mem_cons_of_mem _ tb_43)
  have k_6 := hts (.fieldLink R_F 43 "GraphPages$Elements" "count" "I") (List.mem_cons_of_mem _ tb_72)
  unfold f_F_isWellFormed at hf
  have key : ∀ t : Nat, (∀ (σ0 : gS) (H : Heap) (locs : List Loc) (ls : Array Slot), R_F_isWellFormed t 0 [] σ0 = some (r, σ') → va_P X vwCl (cW cI cC cZ a σ0) H → va_D A (cW cI cC cZ a σ0) → va_S A s.heap H locs → lv_has ls 2 [(0, .ref (a 32))] → W p l e (headSpec w_F_isWellFormed { frames := 8, cells := 0, slots := 0, locals := 171 }).room s m [.ref (a 32)].toArray below meth c H locs 0 0 (MQ below (gQi X vwCl (cW cI cC cZ a σ) sz (fun r' (_ : Unit) => r' = r) (fun _ => cW cI cC cZ a σ')) [.ref (a 32)].toArray s 0 0 (va_A (cW cI cC cZ a σ) sz)) (F0 m 0 ls [])) ∧ (∀ (x1 : Int32) (σ0 : gS) (H : Heap) (locs : List Loc) (ls : Array Slot), R_F_isWellFormed t 1 [x1] σ0 = some (r, σ') → va_P X vwCl (cW cI cC cZ a σ0) H → va_D A (cW cI cC cZ a σ0) → va_S A s.heap H locs → lv_has ls 2 [(0, .ref (a 32)), (1, .int x1)] → W p l e (headSpec w_F_isWellFormed { frames := 8, cells := 0, slots := 0, locals := 171 }).room s m [.ref (a 32)].toArray below meth c H locs 0 0 (MQ below (gQi X vwCl (cW cI cC cZ a σ) sz (fun r' (_ : Unit) => r' = r) (fun _ => cW cI cC cZ a σ')) [.ref (a 32)].toArray s 0 0 (va_A (cW cI cC cZ a σ) sz)) (F0 m 24 ls [])) ∧ (∀ (σ0 : gS) (H : Heap) (locs : List Loc) (ls : Array Slot), R_F_isWellFormed t 2 [] σ0 = some (r, σ') → va_P X vwCl (cW cI cC cZ a σ0) H → va_D A (cW cI cC cZ a σ0) → va_S A s.heap H locs → lv_has ls 2 [(0, .ref (a 32))] → W p l e (headSpec w_F_isWellFormed { frames := 8, cells := 0, slots := 0, locals := 171 }).room s m [.ref (a 32)].toArray below meth c H locs 0 0 (MQ below (gQi X vwCl (cW cI cC cZ a σ) sz (fun r' (_ : Unit) => r' = r) (fun _ => cW cI cC cZ a σ')) [.ref (a 32)].toArray s 0 0 (va_A (cW cI cC cZ a σ) sz)) (F0 m 60 ls [])) := by
    intro t
    induction t with
    | zero => exact ⟨fun  _ _ _ _ hf => (by have hf : (none : Option (Int32 × gS)) = some (r, σ') := hf; cases hf), fun _ _ _ _ _ hf => (by have hf : (none : Option (Int32 × gS)) = some (r, σ') := hf; cases hf), fun  _ _ _ _ hf => (by have hf : (none : Option (Int32 × gS)) = some (r, σ') := hf; cases hf)⟩
    | succ t ih =>
      obtain ⟨ih0, ih1, ih2⟩ := ih
      refine ⟨?_, ?_, ?_⟩
      · intro  σ0 H locs ls hf hP hD hS hl
        have hf : B_F_isWellFormed_0 (R_F_isWellFormed t)  σ0 = some (r, σ') := hf
        unfold B_F_isWellFormed_0 at hf
        refine lv_aload_n hx hb d_F_isWellFormed_0 rfl (lv_at hl 0 rfl) ?_
        refine va_get (D := X) (ci := 1) (C := R_F) (T := T_F) (N := 5) hx hb hts u_0 hown hK hP 32 gc_32 rfl 1 (by decide) k_0 (fun _ h9 => h9) rfl d_F_isWellFormed_1 ?_
        obtain ⟨y1, σ2, e3, hf⟩ := gBd_e hf
        refine g_wv (va_runV ⟨hx, hb, hml, hown, hts⟩ (m_E_removeAll e3) (cwV 0 hts (gG4 (fun _ h => List.mem_cons_of_mem _ h) tb_106 tb_107 tb_108 tb_51 tc_E_removeAll) rfl rfl rfl (by decide +kernel) ⟨Nat.le_of_ble_eq_true rfl, Nat.le_of_ble_eq_true rfl⟩) (g_preVW (q0 := 20) hE hK hP hD hS hA gc_20 rfl) rfl rfl hl.1 rfl (lv_room (Nat.le_of_ble_eq_true rfl)) d_F_isWellFormed_4 ⟨Nat.zero_le _, Nat.zero_le _⟩) hD hS hA (fun _ => cW_fst) (fun _ H locs _ hP hD hS => ?_)
        refine lv_aload_n hx hb d_F_isWellFormed_7 rfl (lv_at hl 0 rfl) ?_
        refine lv_iconst (v := 0) hx hb d_F_isWellFormed_8 (by decide) ?_
        obtain ⟨σ4, e5, hf⟩ := gPut_e hf
        refine va_put (D := X) (ci := 1) (ty := .int) (C := R_F) (T := T_F) (N := 5) hx hb hts u_0 t_F t_F_ok n_F hown hK hP hD hS 32 gc_32 rfl 2 (by decide) k_1 (fun _ h9 => h9) rfl (by decide +kernel) rfl rfl (Nat.le_of_ble_eq_true rfl) d_F_isWellFormed_9 (fun H locs hP hD hS => ?_)
        rw [sc_32_2, ← e5] at hP hD
        refine lv_aload_n hx hb d_F_isWellFormed_12 rfl (lv_at hl 0 rfl) ?_
        refine lv_iconst (v := (-1)) hx hb d_F_isWellFormed_13 (by decide) ?_
        obtain ⟨σ6, e7, hf⟩ := gPut_e hf
        refine va_put (D := X) (ci := 1) (ty := .int) (C := R_F) (T := T_F) (N := 5) hx hb hts u_0 t_F t_F_ok n_F hown hK hP hD hS 32 gc_32 rfl 3 (by decide) k_2 (fun _ h9 => h9) rfl (by decide +kernel) rfl rfl (Nat.le_of_ble_eq_true rfl) d_F_isWellFormed_14 (fun H locs hP hD hS => ?_)
        rw [sc_32_3, ← e7] at hP hD
        refine lv_aload_n hx hb d_F_isWellFormed_17 rfl (lv_at hl 0 rfl) ?_
        refine lv_iconst (v := 0) hx hb d_F_isWellFormed_18 (by decide) ?_
        obtain ⟨σ8, e9, hf⟩ := gPut_e hf
        refine va_put (D := X) (ci := 1) (ty := .int) (C := R_F) (T := T_F) (N := 5) hx hb hts u_0 t_F t_F_ok n_F hown hK hP hD hS 32 gc_32 rfl 4 (by decide) k_3 (fun _ h9 => h9) rfl (by decide +kernel) rfl rfl (Nat.le_of_ble_eq_true rfl) d_F_isWellFormed_19 (fun H locs hP hD hS => ?_)
        rw [sc_32_4, ← e9] at hP hD
        refine lv_iconst (v := 0) hx hb d_F_isWellFormed_22 (by decide) ?_
        refine lv_istore_n hx hb d_F_isWellFormed_23 rfl hl (by decide) rfl (fun ls hl => ?_)
        exact ih1 (0) σ8 _ _ _ hf hP hD hS (lv_sub hl [1, 0] rfl)
      · intro x1 σ0 H locs ls hf hP hD hS hl
        have hf : B_F_isWellFormed_1 (R_F_isWellFormed t) x1 σ0 = some (r, σ') := hf
        unfold B_F_isWellFormed_1 at hf
        refine lv_iload_n hx hb d_F_isWellFormed_24 rfl (lv_at hl 1 rfl) ?_
        refine lv_sipush (v := 1600) hx hb d_F_isWellFormed_25 (by decide) ?_
        refine lv_icmp_ge (tgt := 60) hx hb d_F_isWellFormed_28 rfl (fun c10 => ?_) (fun c10 => ?_)
        · skip
          rw [if_pos c10] at hf
          exact ih2 σ0 _ _ _ hf hP hD hS (lv_sub hl [0] rfl)
        rw [if_neg c10] at hf
        refine lv_aload_n hx hb d_F_isWellFormed_31 rfl (lv_at hl 0 rfl) ?_
        refine va_get (D := X) (ci := 1) (C := R_F) (T := T_F) (N := 5) hx hb hts u_0 hown hK hP 32 gc_32 rfl 2 (by decide) k_1 (fun _ h9 => h9) rfl d_F_isWellFormed_32 ?_
        refine lv_aload_n hx hb d_F_isWellFormed_35 rfl (lv_at hl 0 rfl) ?_
        refine va_get (D := X) (ci := 1) (C := R_F) (T := T_F) (N := 5) hx hb hts u_0 hown hK hP 32 gc_32 rfl 0 (by decide) k_4 (fun _ h9 => h9) rfl d_F_isWellFormed_36 ?_
        refine va_get (D := X) (ci := 5) (C := R_P) (T := T_P) (N := 2) hx hb hts u_1 hown hK hP 7 gc_7 rfl 0 (by decide) k_5 (fun _ h9 => h9) rfl d_F_isWellFormed_39 ?_
        refine lv_icmp_ge (tgt := 60) hx hb d_F_isWellFormed_42 rfl (fun c11 => ?_) (fun c11 => ?_)
        · skip
          rw [if_pos c11] at hf
          exact ih2 σ0 _ _ _ hf hP hD hS (lv_sub hl [0] rfl)
        rw [if_neg c11] at hf
        refine lv_aload_n hx hb d_F_isWellFormed_45 rfl (lv_at hl 0 rfl) ?_
        obtain ⟨y12, σ13, e14, hf⟩ := gBd_e hf
        refine g_wi (va_runV ⟨hx, hb, hml, hown, hts⟩ (m_F_readPiece e14) (cwV 0 hts (gG4 (fun _ h => List.mem_cons_of_mem _ h) tb_109 tb_110 tb_111 tb_47 tc_F_readPiece) rfl rfl rfl (by decide +kernel) ⟨Nat.le_of_ble_eq_true rfl, Nat.le_of_ble_eq_true rfl⟩) (g_preVW (q0 := 32) hE hK hP hD hS hA gc_32 rfl) rfl rfl hl.1 rfl (lv_room (Nat.le_of_ble_eq_true rfl)) d_F_isWellFormed_46 ⟨Nat.zero_le _, Nat.zero_le _⟩) hD hS hA (fun _ => cW_fst) (fun y12 _ H locs hu hP hD hS => ?_)
        subst hu
        refine lv_if_ne (tgt := 54) hx hb d_F_isWellFormed_49 rfl (fun c15 => ?_) (fun c15 => ?_)
        · skip
          rw [if_neg c15] at hf
          refine lv_iinc (k := 1) (v := (x1 + 1)) hx hb d_F_isWellFormed_54 hl rfl (by rw [show Int32.ofInt (1) = (1 : Int32) by decide]) (by decide) rfl (fun ls hl => ?_)
          refine lv_goto (tgt := 24) hx hb d_F_isWellFormed_57 rfl ?_
          exact ih1 ((x1 + 1)) σ13 _ _ _ hf hP hD hS (lv_sub hl [1, 0] rfl)
        rw [if_pos c15] at hf
        refine lv_iconst (v := 0) hx hb d_F_isWellFormed_52 (by decide) ?_
        obtain ⟨rfl, rfl⟩ := gRt_e hf
        exact g_zret hx hb hr hlocks rfl hAe hS () rfl hP d_F_isWellFormed_53
      · intro  σ0 H locs ls hf hP hD hS hl
        have hf : B_F_isWellFormed_2 (R_F_isWellFormed t)  σ0 = some (r, σ') := hf
        unfold B_F_isWellFormed_2 at hf
        refine lv_aload_n hx hb d_F_isWellFormed_60 rfl (lv_at hl 0 rfl) ?_
        refine va_get (D := X) (ci := 1) (C := R_F) (T := T_F) (N := 5) hx hb hts u_0 hown hK hP 32 gc_32 rfl 1 (by decide) k_0 (fun _ h9 => h9) rfl d_F_isWellFormed_61 ?_
        refine va_get (D := X) (ci := 0) (C := R_E) (T := T_E) (N := 14) hx hb hts u_2 hown hK hP 20 gc_20 rfl 0 (by decide) k_6 (fun _ h9 => h9) rfl d_F_isWellFormed_64 ?_
        refine lv_if_le (tgt := 96) hx hb d_F_isWellFormed_67 rfl (fun c16 => ?_) (fun c16 => ?_)
        · skip
          rw [if_pos c16] at hf
          refine lv_iconst (v := 0) hx hb d_F_isWellFormed_96 (by decide) ?_
          obtain ⟨rfl, rfl⟩ := gRt_e hf
          exact g_zret hx hb hr hlocks rfl hAe hS () rfl hP d_F_isWellFormed_97
        rw [if_neg c16] at hf
        refine lv_aload_n hx hb d_F_isWellFormed_70 rfl (lv_at hl 0 rfl) ?_
        refine va_get (D := X) (ci := 1) (C := R_F) (T := T_F) (N := 5) hx hb hts u_0 hown hK hP 32 gc_32 rfl 3 (by decide) k_2 (fun _ h9 => h9) rfl d_F_isWellFormed_71 ?_
        refine lv_iconst (v := (-1)) hx hb d_F_isWellFormed_74 (by decide) ?_
        refine lv_icmp_ne (tgt := 96) hx hb d_F_isWellFormed_75 rfl (fun c17 => ?_) (fun c17 => ?_)
        · skip
          rw [if_neg c17] at hf
          refine lv_iconst (v := 0) hx hb d_F_isWellFormed_96 (by decide) ?_
          obtain ⟨rfl, rfl⟩ := gRt_e hf
          exact g_zret hx hb hr hlocks rfl hAe hS () rfl hP d_F_isWellFormed_97
        rw [if_pos c17] at hf
        refine lv_aload_n hx hb d_F_isWellFormed_78 rfl (lv_at hl 0 rfl) ?_
        refine va_get (D := X) (ci := 1) (C := R_F) (T := T_F) (N := 5) hx hb hts u_0 hown hK hP 32 gc_32 rfl 2 (by decide) k_1 (fun _ h9 => h9) rfl d_F_isWellFormed_79 ?_
        refine lv_aload_n hx hb d_F_isWellFormed_82 rfl (lv_at hl 0 rfl) ?_
        refine va_get (D := X) (ci := 1) (C := R_F) (T := T_F) (N := 5) hx hb hts u_0 hown hK hP 32 gc_32 rfl 0 (by decide) k_4 (fun _ h9 => h9) rfl d_F_isWellFormed_83 ?_
        refine va_get (D := X) (ci := 5) (C := R_P) (T := T_P) (N := 2) hx hb hts u_1 hown hK hP 7 gc_7 rfl 0 (by decide) k_5 (fun _ h9 => h9) rfl d_F_isWellFormed_86 ?_
        refine lv_icmp_lt (tgt := 96) hx hb d_F_isWellFormed_89 rfl (fun c18 => ?_) (fun c18 => ?_)
        · skip
          rw [if_pos c18] at hf
          refine lv_iconst (v := 0) hx hb d_F_isWellFormed_96 (by decide) ?_
          obtain ⟨rfl, rfl⟩ := gRt_e hf
          exact g_zret hx hb hr hlocks rfl hAe hS () rfl hP d_F_isWellFormed_97
        rw [if_neg c18] at hf
        refine lv_iconst (v := 1) hx hb d_F_isWellFormed_92 (by decide) ?_
        refine lv_goto (tgt := 97) hx hb d_F_isWellFormed_93 rfl ?_
        obtain ⟨rfl, rfl⟩ := gRt_e hf
        exact g_zret hx hb hr hlocks rfl hAe hS () rfl hP d_F_isWellFormed_97
  exact (key gFuel).1  σ _ _ _ hf hP hD hS hl
