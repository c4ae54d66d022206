def f_P_codeAt (σ : gS) (x1 : Int32) : Option (Int32 × gS) := if x1 < 0 then (some ((-1), σ)) else (if (σ.1 1) ≤ x1 then (some ((-1), σ)) else (gLd σ 8 1600 x1 (fun y3 => some (y3, σ))))
set_option maxHeartbeats 4000000 in
set_option maxRecDepth 100000 in
theorem m_P_codeAt {l : Launch} {X : va_G} {cI cC cZ : ClassId} {aK aV : Nat → Nat} {a : Nat → Nat} {σ σ' : gS} {r : Int32} {x1 : Int32} (hf : f_P_codeAt σ x1 = some (r, σ')) {sz : Nat} : Met l y_P_codeAt w_P_codeAt { frames := 0, cells := 0, slots := 0, locals := 0 } (gPc X vwCl (gT cI cC cZ) aK aV (cW cI cC cZ a σ) sz [.ref (a 7), .int x1]) (gQi X vwCl (cW cI cC cZ a σ) sz (fun r' (_ : Unit) => r' = r) (fun _ => cW cI cC cZ a σ')) 0 0 (va_A (cW cI cC cZ a σ) sz) := by
  refine g_met (cc := b_P_codeAt) (maxL := 2) (ret := (some .int)) (by decide) rfl (Nat.le_of_ble_eq_true rfl) ?_
  intro p e s m below meth c A ls hx hb hr hml hown hts hlocks hnm hsz hAe hA hP hK hD hS hl hE
  have hown : s.vm.findClass R_P = some m.cls := hown
  have u_0 : ∀ w ∈ u_ws R_P T_P 2, w ∈ w_P_codeAt := fun w h => List.mem_cons_of_mem _ (tu_P w h)
  have k_0 := hts (.fieldLink R_P 15 "GraphPages$Page" "end" "I") (List.mem_cons_of_mem _ tb_33)
  have k_1 := hts (.fieldLink R_P 9 "GraphPages$Page" "characters" "[C") (List.mem_cons_of_mem _ tb_34)
  unfold f_P_codeAt at hf
  refine lv_iload_n hx hb d_P_codeAt_0 rfl (lv_at hl 1 rfl) ?_
  refine lv_if_lt (tgt := 21) hx hb d_P_codeAt_1 rfl (fun c1 => ?_) (fun c1 => ?_)
  · skip
    rw [if_pos c1] at hf
    refine lv_iconst (v := (-1)) hx hb d_P_codeAt_21 (by decide) ?_
    obtain ⟨rfl, rfl⟩ := gRt_e hf
    exact g_zret hx hb hr hlocks rfl hAe hS () rfl hP d_P_codeAt_22
  rw [if_neg c1] at hf
  refine lv_iload_n hx hb d_P_codeAt_4 rfl (lv_at hl 1 rfl) ?_
  refine lv_aload_n hx hb d_P_codeAt_5 rfl (lv_at hl 0 rfl) ?_
  refine va_get (D := X) (ci := 5) (C := R_P) (T := T_P) (N := 2) hx hb hts u_0 hown hK hP 7 gc_7 rfl 0 (by decide) k_0 (fun _ h9 => h9) rfl d_P_codeAt_6 ?_
  refine lv_icmp_ge (tgt := 21) hx hb d_P_codeAt_9 rfl (fun c2 => ?_) (fun c2 => ?_)
  · skip
    rw [if_pos c2] at hf
    refine lv_iconst (v := (-1)) hx hb d_P_codeAt_21 (by decide) ?_
    obtain ⟨rfl, rfl⟩ := gRt_e hf
    exact g_zret hx hb hr hlocks rfl hAe hS () rfl hP d_P_codeAt_22
  rw [if_neg c2] at hf
  refine lv_aload_n hx hb d_P_codeAt_12 rfl (lv_at hl 0 rfl) ?_
  refine va_get (D := X) (ci := 5) (C := R_P) (T := T_P) (N := 2) hx hb hts u_0 hown hK hP 7 gc_7 rfl 1 (by decide) k_1 (fun _ h9 => h9) rfl d_P_codeAt_13 ?_
  refine lv_iload_n hx hb d_P_codeAt_16 rfl (lv_at hl 1 rfl) ?_
  obtain ⟨y3, h4, e5, hf⟩ := gLd_e hf
  refine va_cald hx hb hK hP 8 1 gc_8 rfl h4 d_P_codeAt_17 ?_
  rw [← e5]
  refine lv_goto (tgt := 22) hx hb d_P_codeAt_18 rfl ?_
  obtain ⟨rfl, rfl⟩ := gRt_e hf
  exact g_zret hx hb hr hlocks rfl hAe hS () rfl hP d_P_codeAt_22

def B_P_showsAt_S21_0 (rec : Nat → List Int32 → gS → Option (Int32 × gS)) (x1 : Int32) (σ0 : gS) : Option (Int32 × gS) := rec 1 [x1, 0] σ0
def B_P_showsAt_S21_1 (rec : Nat → List Int32 → gS → Option (Int32 × gS)) (x1 : Int32) (x3 : Int32) (σ0 : gS) : Option (Int32 × gS) := if 4 ≤ x3 then (some (1, σ0)) else (gBd (f_P_codeAt σ0 (x1 + x3)) (fun y5 σ6 => gChr 21 x3 (fun y8 => if y5 = y8 then (rec 1 [x1, (x3 + 1)] σ6) else (some (0, σ6)))))
def S_P_showsAt_S21 (rec : Nat → List Int32 → gS → Option (Int32 × gS)) (k : Nat) (l : List Int32) (σ0 : gS) : Option (Int32 × gS) := match k, l with
  | 0, [x1] => B_P_showsAt_S21_0 rec x1 σ0
  | 1, [x1, x3] => B_P_showsAt_S21_1 rec x1 x3 σ0
  | _, _ => none
def R_P_showsAt_S21 : Nat → Nat → List Int32 → gS → Option (Int32 × gS)
  | 0 => fun _ _ _ => none
  | t + 1 => fun k l σ0 => S_P_showsAt_S21 (R_P_showsAt_S21 t) k l σ0
def f_P_showsAt_S21 (σ : gS) (x1 : Int32) : Option (Int32 × gS) := R_P_showsAt_S21 gFuel 0 [x1] σ
set_option maxHeartbeats 4000000 in
set_option maxRecDepth 100000 in
theorem m_P_showsAt_S21 {l : Launch} {X : va_G} {cI cC cZ : ClassId} {aK aV : Nat → Nat} {a : Nat → Nat} {σ σ' : gS} {r : Int32} {q1 : Int32} (hf : f_P_showsAt_S21 σ q1 = some (r, σ')) {sz : Nat} : Met l y_P_showsAt w_P_showsAt { frames := 4, cells := 0, slots := 0, locals := 85 } (gPc X vwCl (gT cI cC cZ) aK aV (cW cI cC cZ a σ) sz [.ref (a 7), .int q1, .ref (aK 21)]) (gQi X vwCl (cW cI cC cZ a σ) sz (fun r' (_ : Unit) => r' = r) (fun _ => cW cI cC cZ a σ')) 0 0 (va_A (cW cI cC cZ a σ) sz) := by
  refine g_met (cc := b_P_showsAt) (maxL := 4) (ret := (some .boolean)) (by decide) rfl (Nat.le_of_ble_eq_true rfl) ?_
  intro p e s m below meth c A ls hx hb hr hml hown hts hlocks hnm hsz hAe hA hP hK hD hS hl hE
  have hown : s.vm.findClass R_P = some m.cls := hown
  unfold f_P_showsAt_S21 at hf
  have key : ∀ t : Nat, (∀ (x1 : Int32) (σ0 : gS) (H : Heap) (locs : List Loc) (ls : Array Slot), R_P_showsAt_S21 t 0 [x1] σ0 = some (r, σ') → va_P X vwCl (cW cI cC cZ a σ0) H → va_D A (cW cI cC cZ a σ0) → va_S A s.heap H locs → lv_has ls 4 [(0, .ref (a 7)), (1, .int x1), (2, .ref (aK 21))] → W p l e (headSpec w_P_showsAt { frames := 4, cells := 0, slots := 0, locals := 85 }).room s m [.ref (a 7), .int q1, .ref (aK 21)].toArray below meth c H locs 0 0 (MQ below (gQi X vwCl (cW cI cC cZ a σ) sz (fun r' (_ : Unit) => r' = r) (fun _ => cW cI cC cZ a σ')) [.ref (a 7), .int q1, .ref (aK 21)].toArray s 0 0 (va_A (cW cI cC cZ a σ) sz)) (F0 m 0 ls [])) ∧ (∀ (x1 : Int32) (x3 : Int32) (σ0 : gS) (H : Heap) (locs : List Loc) (ls : Array Slot), R_P_showsAt_S21 t 1 [x1, x3] σ0 = some (r, σ') → va_P X vwCl (cW cI cC cZ a σ0) H → va_D A (cW cI cC cZ a σ0) → va_S A s.heap H locs → lv_has ls 4 [(0, .ref (a 7)), (1, .int x1), (2, .ref (aK 21)), (3, .int x3)] → W p l e (headSpec w_P_showsAt { frames := 4, cells := 0, slots := 0, locals := 85 }).room s m [.ref (a 7), .int q1, .ref (aK 21)].toArray below meth c H locs 0 0 (MQ below (gQi X vwCl (cW cI cC cZ a σ) sz (fun r' (_ : Unit) => r' = r) (fun _ => cW cI cC cZ a σ')) [.ref (a 7), .int q1, .ref (aK 21)].toArray s 0 0 (va_A (cW cI cC cZ a σ) sz)) (F0 m 2 ls [])) := by
    intro t
    induction t with
    | zero => exact ⟨fun _ _ _ _ _ hf => (by have hf : (none : Option (Int32 × gS)) = some (r, σ') := hf; cases hf), fun _ _ _ _ _ _ hf => (by have hf : (none : Option (Int32 × gS)) = some (r, σ') := hf; cases hf)⟩
    | succ t ih =>
      obtain ⟨ih0, ih1⟩ := ih
      refine ⟨?_, ?_⟩
      · intro x1 σ0 H locs ls hf hP hD hS hl
        have hf : B_P_showsAt_S21_0 (R_P_showsAt_S21 t) x1 σ0 = some (r, σ') := hf
        unfold B_P_showsAt_S21_0 at hf
        refine lv_iconst (v := 0) hx hb d_P_showsAt_0 (by decide) ?_
        refine lv_istore_n hx hb d_P_showsAt_1 rfl hl (by decide) rfl (fun ls hl => ?_)
        exact ih1 (x1) (0) σ0 _ _ _ hf hP hD hS (lv_sub hl [1, 2, 3, 0] rfl)
      · intro x1 x3 σ0 H locs ls hf hP hD hS hl
        have hf : B_P_showsAt_S21_1 (R_P_showsAt_S21 t) x1 x3 σ0 = some (r, σ') := hf
        unfold B_P_showsAt_S21_1 at hf
        refine lv_iload_n hx hb d_P_showsAt_2 rfl (lv_at hl 3 rfl) ?_
        refine lv_aload_n hx hb d_P_showsAt_3 rfl (lv_at hl 2 rfl) ?_
        refine g_wi (va_runV ⟨hx, hb, hml, hown, hts⟩ (m_Q_length gl_21) (cwV 0 hts (gG4 (fun _ h => List.mem_cons_of_mem _ h) tb_80 tb_81 tb_82 tb_6 tc_Q_length) rfl rfl rfl (by decide +kernel) ⟨Nat.le_of_ble_eq_true rfl, Nat.le_of_ble_eq_true rfl⟩) (g_preQ gl_21 hE hK hP hD hS hA) rfl rfl hl.1 rfl (lv_room (Nat.le_of_ble_eq_true rfl)) d_P_showsAt_4 ⟨Nat.zero_le _, Nat.zero_le _⟩) hD hS hA (fun _ => rfl) (fun y1 _ H locs hu hP hD hS => ?_)
        have hu : y1 = 4 := hu.trans (by decide)
        subst hu
        refine lv_icmp_ge (tgt := 33) hx hb d_P_showsAt_7 rfl (fun c4 => ?_) (fun c4 => ?_)
        · skip
          rw [if_pos c4] at hf
          refine lv_iconst (v := 1) hx hb d_P_showsAt_33 (by decide) ?_
          obtain ⟨rfl, rfl⟩ := gRt_e hf
          exact g_zret hx hb hr hlocks rfl hAe hS () rfl hP d_P_showsAt_34
        rw [if_neg c4] at hf
        refine lv_aload_n hx hb d_P_showsAt_10 rfl (lv_at hl 0 rfl) ?_
        refine lv_iload_n hx hb d_P_showsAt_11 rfl (lv_at hl 1 rfl) ?_
        refine lv_iload_n hx hb d_P_showsAt_12 rfl (lv_at hl 3 rfl) ?_
        refine lv_iadd hx hb d_P_showsAt_13 ?_
        obtain ⟨y5, σ6, e7, hf⟩ := gBd_e hf
        refine g_wi (va_runV ⟨hx, hb, hml, hown, hts⟩ (m_P_codeAt e7) (cwV 1 hts (gG4 (fun _ h => List.mem_cons_of_mem _ h) tb_83 tb_36 tb_37 tb_38 tc_P_codeAt) rfl rfl rfl (by decide +kernel) ⟨Nat.le_of_ble_eq_true rfl, Nat.le_of_ble_eq_true rfl⟩) (g_preVW (q0 := 7) hE hK hP hD hS hA gc_7 rfl) rfl rfl hl.1 rfl (lv_room (Nat.le_of_ble_eq_true rfl)) d_P_showsAt_14 ⟨Nat.zero_le _, Nat.zero_le _⟩) hD hS hA (fun _ => cW_fst) (fun y5 _ H locs hu hP hD hS => ?_)
        subst hu
        refine lv_aload_n hx hb d_P_showsAt_17 rfl (lv_at hl 2 rfl) ?_
        refine lv_iload_n hx hb d_P_showsAt_18 rfl (lv_at hl 3 rfl) ?_
        obtain ⟨y8, j14, h11, h12, h13, hf⟩ := gChr_e hf (by decide)
        rw [h12]
        refine g_wi (va_runV ⟨hx, hb, hml, hown, hts⟩ (m_Q_charAt gl_21 h11) (cwV 1 hts (gG4 (fun _ h => List.mem_cons_of_mem _ h) tb_84 tb_85 tb_86 tb_6 tc_Q_charAt) rfl rfl rfl (by decide +kernel) ⟨Nat.le_of_ble_eq_true rfl, Nat.le_of_ble_eq_true rfl⟩) (g_preQ gl_21 hE hK hP hD hS hA) rfl rfl hl.1 rfl (lv_room (Nat.le_of_ble_eq_true rfl)) d_P_showsAt_19 ⟨Nat.zero_le _, Nat.zero_le _⟩) hD hS hA (fun _ => rfl) (fun y8 _ H locs hu hP hD hS => ?_)
        have hu : y8 = _ := hu.trans h13.symm
        subst hu
        refine lv_icmp_eq (tgt := 27) hx hb d_P_showsAt_22 rfl (fun c15 => ?_) (fun c15 => ?_)
        · skip
          rw [if_pos c15] at hf
          refine lv_iinc (k := 3) (v := (x3 + 1)) hx hb d_P_showsAt_27 hl rfl (by rw [show Int32.ofInt (1) = (1 : Int32) by decide]) (by decide) rfl (fun ls hl => ?_)
          refine lv_goto (tgt := 2) hx hb d_P_showsAt_30 rfl ?_
          exact ih1 (x1) ((x3 + 1)) σ6 _ _ _ hf hP hD hS (lv_sub hl [1, 2, 3, 0] rfl)
        rw [if_neg c15] at hf
        refine lv_iconst (v := 0) hx hb d_P_showsAt_25 (by decide) ?_
        obtain ⟨rfl, rfl⟩ := gRt_e hf
        exact g_zret hx hb hr hlocks rfl hAe hS () rfl hP d_P_showsAt_26
  exact (key gFuel).1 q1 σ _ _ _ hf hP hD hS hl

def B_P_showsAt_S22_0 (rec : Nat → List Int32 → gS → Option (Int32 × gS)) (x1 : Int32) (σ0 : gS) : Option (Int32 × gS) := rec 1 [x1, 0] σ0
def B_P_showsAt_S22_1 (rec : Nat → List Int32 → gS → Option (Int32 × gS)) (x1 : Int32) (x3 : Int32) (σ0 : gS) : Option (Int32 × gS) := if 4 ≤ x3 then (some (1, σ0)) else (gBd (f_P_codeAt σ0 (x1 + x3)) (fun y5 σ6 => gChr 22 x3 (fun y8 => if y5 = y8 then (rec 1 [x1, (x3 + 1)] σ6) else (some (0, σ6)))))
def S_P_showsAt_S22 (rec : Nat → List Int32 → gS → Option (Int32 × gS)) (k : Nat) (l : List Int32) (σ0 : gS) : Option (Int32 × gS) := match k, l with
  | 0, [x1] => B_P_showsAt_S22_0 rec x1 σ0
  | 1, [x1, x3] => B_P_showsAt_S22_1 rec x1 x3 σ0
  | _, _ => none
def R_P_showsAt_S22 : Nat → Nat → List Int32 → gS → Option (Int32 × gS)
  | 0 => fun _ _ _ => none
  | t + 1 => fun k l σ0 => S_P_showsAt_S22 (R_P_showsAt_S22 t) k l σ0
def f_P_showsAt_S22 (σ : gS) (x1 : Int32) : Option (Int32 × gS) := R_P_showsAt_S22 gFuel 0 [x1] σ
set_option maxHeartbeats 4000000 in
set_option maxRecDepth 100000 in
theorem m_P_showsAt_S22 {l : Launch} {X : va_G} {cI cC cZ : ClassId} {aK aV : Nat → Nat} {a : Nat → Nat} {σ σ' : gS} {r : Int32} {q1 : Int32} (hf : f_P_showsAt_S22 σ q1 = some (r, σ')) {sz : Nat} : Met l y_P_showsAt w_P_showsAt { frames := 4, cells := 0, slots := 0, locals := 85 } (gPc X vwCl (gT cI cC cZ) aK aV (cW cI cC cZ a σ) sz [.ref (a 7), .int q1, .ref (aK 22)]) (gQi X vwCl (cW cI cC cZ a σ) sz (fun r' (_ : Unit) => r' = r) (fun _ => cW cI cC cZ a σ')) 0 0 (va_A (cW cI cC cZ a σ) sz) := by
  refine g_met (cc := b_P_showsAt) (maxL := 4) (ret := (some .boolean)) (by decide) rfl (Nat.le_of_ble_eq_true rfl) ?_
  intro p e s m below meth c A ls hx hb hr hml hown hts hlocks hnm hsz hAe hA hP hK hD hS hl hE
  have hown : s.vm.findClass R_P = some m.cls := hown
  unfold f_P_showsAt_S22 at hf
  have key : ∀ t : Nat, (∀ (x1 : Int32) (σ0 : gS) (H : Heap) (locs : List Loc) (ls : Array Slot), R_P_showsAt_S22 t 0 [x1] σ0 = some (r, σ') → va_P X vwCl (cW cI cC cZ a σ0) H → va_D A (cW cI cC cZ a σ0) → va_S A s.heap H locs → lv_has ls 4 [(0, .ref (a 7)), (1, .int x1), (2, .ref (aK 22))] → W p l e (headSpec w_P_showsAt { frames := 4, cells := 0, slots := 0, locals := 85 }).room s m [.ref (a 7), .int q1, .ref (aK 22)].toArray below meth c H locs 0 0 (MQ below (gQi X vwCl (cW cI cC cZ a σ) sz (fun r' (_ : Unit) => r' = r) (fun _ => cW cI cC cZ a σ')) [.ref (a 7), .int q1, .ref (aK 22)].toArray s 0 0 (va_A (cW cI cC cZ a σ) sz)) (F0 m 0 ls [])) ∧ (∀ (x1 : Int32) (x3 : Int32) (σ0 : gS) (H : Heap) (locs : List Loc) (ls : Array Slot), R_P_showsAt_S22 t 1 [x1, x3] σ0 = some (r, σ') → va_P X vwCl (cW cI cC cZ a σ0) H → va_D A (cW cI cC cZ a σ0) → va_S A s.heap H locs → lv_has ls 4 [(0, .ref (a 7)), (1, .int x1), (2, .ref (aK 22)), (3, .int x3)] → W p l e (headSpec w_P_showsAt { frames := 4, cells := 0, slots := 0, locals := 85 }).room s m [.ref (a 7), .int q1, .ref (aK 22)].toArray below meth c H locs 0 0 (MQ below (gQi X vwCl (cW cI cC cZ a σ) sz (fun r' (_ : Unit) => r' = r) (fun _ => cW cI cC cZ a σ')) [.ref (a 7), .int q1, .ref (aK 22)].toArray s 0 0 (va_A (cW cI cC cZ a σ) sz)) (F0 m 2 ls [])) := by
    intro t
    induction t with
    | zero => exact ⟨fun _ _ _ _ _ hf => (by have hf : (none : Option (Int32 × gS)) = some (r, σ') := hf; cases hf), fun _ _ _ _ _ _ hf => (by have hf : (none : Option (Int32 × gS)) = some (r, σ') := hf; cases hf)⟩
    | succ t ih =>
      obtain ⟨ih0, ih1⟩ := ih
      refine ⟨?_, ?_⟩
      · intro x1 σ0 H locs ls hf hP hD hS hl
        have hf : B_P_showsAt_S22_0 (R_P_showsAt_S22 t) x1 σ0 = some (r, σ') := hf
        unfold B_P_showsAt_S22_0 at hf
        refine lv_iconst (v := 0) hx hb d_P_showsAt_0 (by decide) ?_
        refine lv_istore_n hx hb d_P_showsAt_1 rfl hl (by decide) rfl (fun ls hl => ?_)
        exact ih1 (x1) (0) σ0 _ _ _ hf hP hD hS (lv_sub hl [1, 2, 3, 0] rfl)
      · intro x1 x3 σ0 H locs ls hf hP hD hS hl
        have hf : B_P_showsAt_S22_1 (R_P_showsAt_S22 t) x1 x3 σ0 = some (r, σ') := hf
        unfold B_P_showsAt_S22_1 at hf
        refine lv_iload_n hx hb d_P_showsAt_2 rfl (lv_at hl 3 rfl) ?_
        refine lv_aload_n hx hb d_P_showsAt_3 rfl (lv_at hl 2 rfl) ?_
        refine g_wi (va_runV ⟨hx, hb, hml, hown, hts⟩ (m_Q_length gl_22) (cwV 0 hts (gG4 (fun _ h => List.mem_cons_of_mem _ h) tb_80 tb_81 tb_82 tb_6 tc_Q_length) rfl rfl rfl (by decide +kernel) ⟨Nat.le_of_ble_eq_true rfl, Nat.le_of_ble_eq_true rfl⟩) (g_preQ gl_22 hE hK hP hD hS hA) rfl rfl hl.1 rfl (lv_room (Nat.le_of_ble_eq_true rfl)) d_P_showsAt_4 ⟨Nat.zero_le _, Nat.zero_le _⟩) hD hS hA (fun _ => rfl) (fun y1 _ H locs hu hP hD hS => ?_)
        have hu : y1 = 4 := hu.trans (by decide)
        subst hu
        refine lv_icmp_ge (tgt := 33) hx hb d_P_showsAt_7 rfl (fun c4 => ?_) (fun c4 => ?_)
        · skip
          rw [if_pos c4] at hf
          refine lv_iconst (v := 1) hx hb d_P_showsAt_33 (by decide) ?_
          obtain ⟨rfl, rfl⟩ := gRt_e hf
          exact g_zret hx hb hr hlocks rfl hAe hS () rfl hP d_P_showsAt_34
        rw [if_neg c4] at hf
        refine lv_aload_n hx hb d_P_showsAt_10 rfl (lv_at hl 0 rfl) ?_
        refine lv_iload_n hx hb d_P_showsAt_11 rfl (lv_at hl 1 rfl) ?_
        refine lv_iload_n hx hb d_P_showsAt_12 rfl (lv_at hl 3 rfl) ?_
        refine lv_iadd hx hb d_P_showsAt_13 ?_
        obtain ⟨y5, σ6, e7, hf⟩ := gBd_e hf
        refine g_wi (va_runV ⟨hx, hb, hml, hown, hts⟩ (m_P_codeAt e7) (cwV 1 hts (gG4 (fun _ h => List.mem_cons_of_mem _ h) tb_83 tb_36 tb_37 tb_38 tc_P_codeAt) rfl rfl rfl (by decide +kernel) ⟨Nat.le_of_ble_eq_true rfl, Nat.le_of_ble_eq_true rfl⟩) (g_preVW (q0 := 7) hE hK hP hD hS hA gc_7 rfl) rfl rfl hl.1 rfl (lv_room (Nat.le_of_ble_eq_true rfl)) d_P_showsAt_14 ⟨Nat.zero_le _, Nat.zero_le _⟩) hD hS hA (fun _ => cW_fst) (fun y5 _ H locs hu hP hD hS => ?_)
        subst hu
        refine lv_aload_n hx hb d_P_showsAt_17 rfl (lv_at hl 2 rfl) ?_
        refine lv_iload_n hx hb d_P_showsAt_18 rfl (lv_at hl 3 rfl) ?_
        obtain ⟨y8, j14, h11, h12, h13, hf⟩ := gChr_e hf (by decide)
        rw [h12]
        refine g_wi (va_runV ⟨hx, hb, hml, hown, hts⟩ (m_Q_charAt gl_22 h11) (cwV 1 hts (gG4 (fun _ h => List.mem_cons_of_mem _ h) tb_84 tb_85 tb_86 tb_6 tc_Q_charAt) rfl rfl rfl (by decide +kernel) ⟨Nat.le_of_ble_eq_true rfl, Nat.le_of_ble_eq_true rfl⟩) (g_preQ gl_22 hE hK hP hD hS hA) rfl rfl hl.1 rfl (lv_room (Nat.le_of_ble_eq_true rfl)) d_P_showsAt_19 ⟨Nat.zero_le _, Nat.zero_le _⟩) hD hS hA (fun _ => rfl) (fun y8 _ H locs hu hP hD hS => ?_)
        have hu : y8 = _ := hu.trans h13.symm
        subst hu
        refine lv_icmp_eq (tgt := 27) hx hb d_P_showsAt_22 rfl (fun c15 => ?_) (fun c15 => ?_)
        · skip
          rw [if_pos c15] at hf
          refine lv_iinc (k := 3) (v := (x3 + 1)) hx hb d_P_showsAt_27 hl rfl (by rw [show Int32.ofInt (1) = (1 : Int32) by decide]) (by decide) rfl (fun ls hl => ?_)
          refine lv_goto (tgt := 2) hx hb d_P_showsAt_30 rfl ?_
          exact ih1 (x1) ((x3 + 1)) σ6 _ _ _ hf hP hD hS (lv_sub hl [1, 2, 3, 0] rfl)
        rw [if_neg c15] at hf
        refine lv_iconst (v := 0) hx hb d_P_showsAt_25 (by decide) ?_
        obtain ⟨rfl, rfl⟩ := gRt_e hf
        exact g_zret hx hb hr hlocks rfl hAe hS () rfl hP d_P_showsAt_26
  exact (key gFuel).1 q1 σ _ _ _ hf hP hD hS hl

def B_P_showsAt_S23_0 (rec : Nat → List Int32 → gS → Option (Int32 × gS)) (x1 : Int32) (σ0 : gS) : Option (Int32 × gS) := rec 1 [x1, 0] σ0
def B_P_showsAt_S23_1 (rec : Nat → List Int32 → gS → Option (Int32 × gS)) (x1 : Int32) (x3 : Int32) (σ0 : gS) : Option (Int32 × gS) := if 5 ≤ x3 then (some (1, σ0)) else (gBd (f_P_codeAt σ0 (x1 + x3)) (fun y5 σ6 => gChr 23 x3 (fun y8 => if y5 = y8 then (rec 1 [x1, (x3 + 1)] σ6) else (some (0, σ6)))))
def S_P_showsAt_S23 (rec : Nat → List Int32 → gS → Option (Int32 × gS)) (k : Nat) (l : List Int32) (σ0 : gS) : Option (Int32 × gS) := match k, l with
  | 0, [x1] => B_P_showsAt_S23_0 rec x1 σ0
  | 1, [x1, x3] => B_P_showsAt_S23_1 rec x1 x3 σ0
  | _, _ => none
def R_P_showsAt_S23 : Nat → Nat → List Int32 → gS → Option (Int32 × gS)
  | 0 => fun _ _ _ => none
  | t + 1 => fun k l σ0 => S_P_showsAt_S23 (R_P_showsAt_S23 t) k l σ0
def f_P_showsAt_S23 (σ : gS) (x1 : Int32) : Option (Int32 × gS) := R_P_showsAt_S23 gFuel 0 [x1] σ
set_option maxHeartbeats 4000000 in
set_option maxRecDepth 100000 in
theorem m_P_showsAt_S23 {l : Launch} {X : va_G} {cI cC cZ : ClassId} {aK aV : Nat → Nat} {a : Nat → Nat} {σ σ' : gS} {r : Int32} {q1 : Int32} (hf : f_P_showsAt_S23 σ q1 = some (r, σ')) {sz : Nat} : Met l y_P_showsAt w_P_showsAt { frames := 4, cells := 0, slots := 0, locals := 85 } (gPc X vwCl (gT cI cC cZ) aK aV (cW cI cC cZ a σ) sz [.ref (a 7), .int q1, .ref (aK 23)]) (gQi X vwCl (cW cI cC cZ a σ) sz (fun r' (_ : Unit) => r' = r) (fun _ => cW cI cC cZ a σ')) 0 0 (va_A (cW cI cC cZ a σ) sz) := by
  refine g_met (cc := b_P_showsAt) (maxL := 4) (ret := (some .boolean)) (by decide) rfl (Nat.le_of_ble_eq_true rfl) ?_
  intro p e s m below meth c A ls hx hb hr hml hown hts hlocks hnm hsz hAe hA hP hK hD hS hl hE
  have hown : s.vm.findClass R_P = some m.cls := hown
  unfold f_P_showsAt_S23 at hf
  have key : ∀ t : Nat, (∀ (x1 : Int32) (σ0 : gS) (H : Heap) (locs : List Loc) (ls : Array Slot), R_P_showsAt_S23 t 0 [x1] σ0 = some (r, σ') → va_P X vwCl (cW cI cC cZ a σ0) H → va_D A (cW cI cC cZ a σ0) → va_S A s.heap H locs → lv_has ls 4 [(0, .ref (a 7)), (1, .int x1), (2, .ref (aK 23))] → W p l e (headSpec w_P_showsAt { frames := 4, cells := 0, slots := 0, locals := 85 }).room s m [.ref (a 7), .int q1, .ref (aK 23)].toArray below meth c H locs 0 0 (MQ below (gQi X vwCl (cW cI cC cZ a σ) sz (fun r' (_ : Unit) => r' = r) (fun _ => cW cI cC cZ a σ')) [.ref (a 7), .int q1, .ref (aK 23)].toArray s 0 0 (va_A (cW cI cC cZ a σ) sz)) (F0 m 0 ls [])) ∧ (∀ (x1 : Int32) (x3 : Int32) (σ0 : gS) (H : Heap) (locs : List Loc) (ls : Array Slot), R_P_showsAt_S23 t 1 [x1, x3] σ0 = some (r, σ') → va_P X vwCl (cW cI cC cZ a σ0) H → va_D A (cW cI cC cZ a σ0) → va_S A s.heap H locs → lv_has ls 4 [(0, .ref (a 7)), (1, .int x1), (2, .ref (aK 23)), (3, .int x3)] → W p l e (headSpec w_P_showsAt { frames := 4, cells := 0, slots := 0, locals := 85 }).room s m [.ref (a 7), .int q1, .ref (aK 23)].toArray below meth c H locs 0 0 (MQ below (gQi X vwCl (cW cI cC cZ a σ) sz (fun r' (_ : Unit) => r' = r) (fun _ => cW cI cC cZ a σ')) [.ref (a 7), .int q1, .ref (aK 23)].toArray s 0 0 (va_A (cW cI cC cZ a σ) sz)) (F0 m 2 ls [])) := by
    intro t
    induction t with
    | zero => exact ⟨fun _ _ _ _ _ hf => (by have hf : (none : Option (Int32 × gS)) = some (r, σ') := hf; cases hf), fun _ _ _ _ _ _ hf => (by have hf : (none : Option (Int32 × gS)) = some (r, σ') := hf; cases hf)⟩
    | succ t ih =>
      obtain ⟨ih0, ih1⟩ := ih
      refine ⟨?_, ?_⟩
      · intro x1 σ0 H locs ls hf hP hD hS hl
        have hf : B_P_showsAt_S23_0 (R_P_showsAt_S23 t) x1 σ0 = some (r, σ') := hf
        unfold B_P_showsAt_S23_0 at hf
        refine lv_iconst (v := 0) hx hb d_P_showsAt_0 (by decide) ?_
        refine lv_istore_n hx hb d_P_showsAt_1 rfl hl (by decide) rfl (fun ls hl => ?_)
        exact ih1 (x1) (0) σ0 _ _ _ hf hP hD hS (lv_sub hl [1, 2, 3, 0] rfl)
      · intro x1 x3 σ0 H locs ls hf hP hD hS hl
        have hf : B_P_showsAt_S23_1 (R_P_showsAt_S23 t) x1 x3 σ0 = some (r, σ') := hf
        unfold B_P_showsAt_S23_1 at hf
        refine lv_iload_n hx hb d_P_showsAt_2 rfl (lv_at hl 3 rfl) ?_
        refine lv_aload_n hx hb d_P_showsAt_3 rfl (lv_at hl 2 rfl) ?_
        refine g_wi (va_runV ⟨hx, hb, hml, hown, hts⟩ (m_Q_length gl_23) (cwV 0 hts (gG4 (fun _ h => List.mem_cons_of_mem _ h) tb_80 tb_81 tb_82 tb_6 tc_Q_length) rfl rfl rfl (by decide +kernel) ⟨Nat.le_of_ble_eq_true rfl, Nat.le_of_ble_eq_true rfl⟩) (g_preQ gl_23 hE hK hP hD hS hA) rfl rfl hl.1 rfl (lv_room (Nat.le_of_ble_eq_true rfl)) d_P_showsAt_4 ⟨Nat.zero_le _, Nat.zero_le _⟩) hD hS hA (fun _ => rfl) (fun y1 _ H locs hu hP hD hS => ?_)
        have hu : y1 = 5 := hu.trans (by decide)
        subst hu
        refine lv_icmp_ge (tgt := 33) hx hb d_P_showsAt_7 rfl (fun c4 => ?_) (fun c4 => ?_)
        · skip
          rw [if_pos c4] at hf
          refine lv_iconst (v := 1) hx hb d_P_showsAt_33 (by decide) ?_
          obtain ⟨rfl, rfl⟩ := gRt_e hf
          exact g_zret hx hb hr hlocks rfl hAe hS () rfl hP d_P_showsAt_34
        rw [if_neg c4] at hf
        refine lv_aload_n hx hb d_P_showsAt_10 rfl (lv_at hl 0 rfl) ?_
        refine lv_iload_n hx hb d_P_showsAt_11 rfl (lv_at hl 1 rfl) ?_
        refine lv_iload_n hx hb d_P_showsAt_12 rfl (lv_at hl 3 rfl) ?_
        refine lv_iadd hx hb d_P_showsAt_13 ?_
        obtain ⟨y5, σ6, e7, hf⟩ := gBd_e hf
        refine g_wi (va_runV ⟨hx, hb, hml, hown, hts⟩ (m_P_codeAt e7) (cwV 1 hts (gG4 (fun _ h => List.mem_cons_of_mem _ h) tb_83 tb_36 tb_37 tb_38 tc_P_codeAt) rfl rfl rfl (by decide +kernel) ⟨Nat.le_of_ble_eq_true rfl, Nat.le_of_ble_eq_true rfl⟩) (g_preVW (q0 := 7) hE hK hP hD hS hA gc_7 rfl) rfl rfl hl.1 rfl (lv_room (Nat.le_of_ble_eq_true rfl)) d_P_showsAt_14 ⟨Nat.zero_le _, Nat.zero_le _⟩) hD hS hA (fun _ => cW_fst) (fun y5 _ H locs hu hP hD hS => ?_)
        subst hu
        refine lv_aload_n hx hb d_P_showsAt_17 rfl (lv_at hl 2 rfl) ?_
        refine lv_iload_n hx hb d_P_showsAt_18 rfl (lv_at hl 3 rfl) ?_
        obtain ⟨y8, j14, h11, h12, h13, hf⟩ := gChr_e hf (by decide)
        rw [h12]
        refine g_wi (va_runV ⟨hx, hb, hml, hown, hts⟩ (m_Q_charAt gl_23 h11) (cwV 1 hts (gG4 (fun _ h => List.mem_cons_of_mem _ h) tb_84 tb_85 tb_86 tb_6 tc_Q_charAt) rfl rfl rfl (by decide +kernel) ⟨Nat.le_of_ble_eq_true rfl, Nat.le_of_ble_eq_true rfl⟩) (g_preQ gl_23 hE hK hP hD hS hA) rfl rfl hl.1 rfl (lv_room (Nat.le_of_ble_eq_true rfl)) d_P_showsAt_19 ⟨Nat.zero_le _, Nat.zero_le _⟩) hD hS hA (fun _ => rfl) (fun y8 _ H locs hu hP hD hS => ?_)
        have hu : y8 = _ := hu.trans h13.symm
        subst hu
        refine lv_icmp_eq (tgt := 27) hx hb d_P_showsAt_22 rfl (fun c15 => ?_) (fun c15 => ?_)
        · skip
          rw [if_pos c15] at hf
          refine lv_iinc (k := 3) (v := (x3 + 1)) hx hb d_P_showsAt_27 hl rfl (by rw [show Int32.ofInt (1) = (1 : Int32) by decide]) (by decide) rfl (fun ls hl => ?_)
          refine lv_goto (tgt := 2) hx hb d_P_showsAt_30 rfl ?_
          exact ih1 (x1) ((x3 + 1)) σ6 _ _ _ hf hP hD hS (lv_sub hl [1, 2, 3, 0] rfl)
        rw [if_neg c15] at hf
        refine lv_iconst (v := 0) hx hb d_P_showsAt_25 (by decide) ?_
        obtain ⟨rfl, rfl⟩ := gRt_e hf
        exact g_zret hx hb hr hlocks rfl hAe hS () rfl hP d_P_showsAt_26
  exact (key gFuel).1 q1 σ _ _ _ hf hP hD hS hl

def B_P_showsAt_S24_0 (rec : Nat → List Int32 → gS → Option (Int32 × gS)) (x1 : Int32) (σ0 : gS) : Option (Int32 × gS) := rec 1 [x1, 0] σ0
def B_P_showsAt_S24_1 (rec : Nat → List Int32 → gS → Option (Int32 × gS)) (x1 : Int32) (x3 : Int32) (σ0 : gS) : Option (Int32 × gS) := if 6 ≤ x3 then (some (1, σ0)) else (gBd (f_P_codeAt σ0 (x1 + x3)) (fun y5 σ6 => gChr 24 x3 (fun y8 => if y5 = y8 then (rec 1 [x1, (x3 + 1)] σ6) else (some (0, σ6)))))
def S_P_showsAt_S24 (rec : Nat → List Int32 → gS → Option (Int32 × gS)) (k : Nat) (l : List Int32) (σ0 : gS) : Option (Int32 × gS) := match k, l with
  | 0, [x1] => B_P_showsAt_S24_0 rec x1 σ0
  | 1, [x1, x3] => B_P_showsAt_S24_1 rec x1 x3 σ0
  | _, _ => none
def R_P_showsAt_S24 : Nat → Nat → List Int32 → gS → Option (Int32 × gS)
  | 0 => fun _ _ _ => none
  | t + 1 => fun k l σ0 => S_P_showsAt_S24 (R_P_showsAt_S24 t) k l σ0
def f_P_showsAt_S24 (σ : gS) (x1 : Int32) : Option (Int32 × gS) := R_P_showsAt_S24 gFuel 0 [x1] σ
set_option maxHeartbeats 4000000 in
set_option maxRecDepth 100000 in
theorem m_P_showsAt_S24 {l : Launch} {X : va_G} {cI cC cZ : ClassId} {aK aV : Nat → Nat} {a : Nat → Nat} {σ σ' : gS} {r : Int32} {q1 : Int32} (hf : f_P_showsAt_S24 σ q1 = some (r, σ')) {sz : Nat} : Met l y_P_showsAt w_P_showsAt { frames := 4, cells := 0, slots := 0, locals := 85 } (gPc X vwCl (gT cI cC cZ) aK aV (cW cI cC cZ a σ) sz [.ref (a 7), .int q1, .ref (aK 24)]) (gQi X vwCl (cW cI cC cZ a σ) sz (fun r' (_ : Unit) => r' = r) (fun _ => cW cI cC cZ a σ')) 0 0 (va_A (cW cI cC cZ a σ) sz) := by
  refine g_met (cc := b_P_showsAt) (maxL := 4) (ret := (some .boolean)) (by decide) rfl (Nat.le_of_ble_eq_true rfl) ?_
  intro p e s m below meth c A ls hx hb hr hml hown hts hlocks hnm hsz hAe hA hP hK hD hS hl hE
  have hown : s.vm.findClass R_P = some m.cls := hown
  unfold f_P_showsAt_S24 at hf
  have key : ∀ t : Nat, (∀ (x1 : Int32) (σ0 : gS) (H : Heap) (locs : List Loc) (ls : Array Slot), R_P_showsAt_S24 t 0 [x1] σ0 = some (r, σ') → va_P X vwCl (cW cI cC cZ a σ0) H → va_D A (cW cI cC cZ a σ0) → va_S A s.heap H locs → lv_has ls 4 [(0, .ref (a 7)), (1, .int x1), (2, .ref (aK 24))] → W p l e (headSpec w_P_showsAt { frames := 4, cells := 0, slots := 0, locals := 85 }).room s m [.ref (a 7), .int q1, .ref (aK 24)].toArray below meth c H locs 0 0 (MQ below (gQi X vwCl (cW cI cC cZ a σ) sz (fun r' (_ : Unit) => r' = r) (fun _ => cW cI cC cZ a σ')) [.ref (a 7), .int q1, .ref (aK 24)].toArray s 0 0 (va_A (cW cI cC cZ a σ) sz)) (F0 m 0 ls [])) ∧ (∀ (x1 : Int32) (x3 : Int32) (σ0 : gS) (H : Heap) (locs : List Loc) (ls : Array Slot), R_P_showsAt_S24 t 1 [x1, x3] σ0 = some (r, σ') → va_P X vwCl (cW cI cC cZ a σ0) H → va_D A (cW cI cC cZ a σ0) → va_S A s.heap H locs → lv_has ls 4 [(0, .ref (a 7)), (1, .int x1), (2, .ref (aK 24)), (3, .int x3)] → W p l e (headSpec w_P_showsAt { frames := 4, cells := 0, slots := 0, locals := 85 }).room s m [.ref (a 7), .int q1, .ref (aK 24)].toArray below meth c H locs 0 0 (MQ below (gQi X vwCl (cW cI cC cZ a σ) sz (fun r' (_ : Unit) => r' = r) (fun _ => cW cI cC cZ a σ')) [.ref (a 7), .int q1, .ref (aK 24)].toArray s 0 0 (va_A (cW cI cC cZ a σ) sz)) (F0 m 2 ls [])) := by
    intro t
    induction t with
    | zero => exact ⟨fun _ _ _ _ _ hf => (by have hf : (none : Option (Int32 × gS)) = some (r, σ') := hf; cases hf), fun _ _ _ _ _ _ hf => (by have hf : (none : Option (Int32 × gS)) = some (r, σ') := hf; cases hf)⟩
    | succ t ih =>
      obtain ⟨ih0, ih1⟩ := ih
      refine ⟨?_, ?_⟩
      · intro x1 σ0 H locs ls hf hP hD hS hl
        have hf : B_P_showsAt_S24_0 (R_P_showsAt_S24 t) x1 σ0 = some (r, σ') := hf
        unfold B_P_showsAt_S24_0 at hf
        refine lv_iconst (v := 0) hx hb d_P_showsAt_0 (by decide) ?_
        refine lv_istore_n hx hb d_P_showsAt_1 rfl hl (by decide) rfl (fun ls hl => ?_)
        exact ih1 (x1) (0) σ0 _ _ _ hf hP hD hS (lv_sub hl [1, 2, 3, 0] rfl)
      · intro x1 x3 σ0 H locs ls hf hP hD hS hl
        have hf : B_P_showsAt_S24_1 (R_P_showsAt_S24 t) x1 x3 σ0 = some (r, σ') := hf
        unfold B_P_showsAt_S24_1 at hf
        refine lv_iload_n hx hb d_P_showsAt_2 rfl (lv_at hl 3 rfl) ?_
        refine lv_aload_n hx hb d_P_showsAt_3 rfl (lv_at hl 2 rfl) ?_
        refine g_wi (va_runV ⟨hx, hb, hml, hown, hts⟩ (m_Q_length gl_24) (cwV 0 hts (gG4 (fun _ h => List.mem_cons_of_mem _ h) tb_80 tb_81 tb_82 tb_6 tc_Q_length) rfl rfl rfl (by decide +kernel) ⟨Nat.le_of_ble_eq_true rfl, Nat.le_of_ble_eq_true rfl⟩) (g_preQ gl_24 hE hK hP hD hS hA) rfl rfl hl.1 rfl (lv_room (Nat.le_of_ble_eq_true rfl)) d_P_showsAt_4 ⟨Nat.zero_le _, Nat.zero_le _⟩) hD hS hA (fun _ => rfl) (fun y1 _ H locs hu hP hD hS => ?_)
        have hu : y1 = 6 := hu.trans (by decide)
        subst hu
        refine lv_icmp_ge (tgt := 33) hx hb d_P_showsAt_7 rfl (fun c4 => ?_) (fun c4 => ?_)
        · skip
          rw [if_pos c4] at hf
          refine lv_iconst (v := 1) hx hb d_P_showsAt_33 (by decide) ?_
          obtain ⟨rfl, rfl⟩ := gRt_e hf
          exact g_zret hx hb hr hlocks rfl hAe hS () rfl hP d_P_showsAt_34
        rw [if_neg c4] at hf
        refine lv_aload_n hx hb d_P_showsAt_10 rfl (lv_at hl 0 rfl) ?_
        refine lv_iload_n hx hb d_P_showsAt_11 rfl (lv_at hl 1 rfl) ?_
        refine lv_iload_n hx hb d_P_showsAt_12 rfl (lv_at hl 3 rfl) ?_
        refine lv_iadd hx hb d_P_showsAt_13 ?_
        obtain ⟨y5, σ6, e7, hf⟩ := gBd_e hf
        refine g_wi (va_runV ⟨hx, hb, hml, hown, hts⟩ (m_P_codeAt e7) (cwV 1 hts (gG4 (fun _ h => List.mem_cons_of_mem _ h) tb_83 tb_36 tb_37 tb_38 tc_P_codeAt) rfl rfl rfl (by decide +kernel) ⟨Nat.le_of_ble_eq_true rfl, Nat.le_of_ble_eq_true rfl⟩) (g_preVW (q0 := 7) hE hK hP hD hS hA gc_7 rfl) rfl rfl hl.1 rfl (lv_room (Nat.le_of_ble_eq_true rfl)) d_P_showsAt_14 ⟨Nat.zero_le _, Nat.zero_le _⟩) hD hS hA (fun _ => cW_fst) (fun y5 _ H locs hu hP hD hS => ?_)
        subst hu
        refine lv_aload_n hx hb d_P_showsAt_17 rfl (lv_at hl 2 rfl) ?_
        refine lv_iload_n hx hb d_P_showsAt_18 rfl (lv_at hl 3 rfl) ?_
        obtain ⟨y8, j14, h11, h12, h13, hf⟩ := gChr_e hf (by decide)
        rw [h12]
        refine g_wi (va_runV ⟨hx, hb, hml, hown, hts⟩ (m_Q_charAt gl_24 h11) (cwV 1 hts (gG4 (fun _ h => List.mem_cons_of_mem _ h) tb_84 tb_85 tb_86 tb_6 tc_Q_charAt) rfl rfl rfl (by decide +kernel) ⟨Nat.le_of_ble_eq_true rfl, Nat.le_of_ble_eq_true rfl⟩) (g_preQ gl_24 hE hK hP hD hS hA) rfl rfl hl.1 rfl (lv_room (Nat.le_of_ble_eq_true rfl)) d_P_showsAt_19 ⟨Nat.zero_le _, Nat.zero_le _⟩) hD hS hA (fun _ => rfl) (fun y8 _ H locs hu hP hD hS => ?_)
        have hu : y8 = _ := hu.trans h13.symm
        subst hu
        refine lv_icmp_eq (tgt := 27) hx hb d_P_showsAt_22 rfl (fun c15 => ?_) (fun c15 => ?_)
        · skip
          rw [if_pos c15] at hf
          refine lv_iinc (k := 3) (v := (x3 + 1)) hx hb d_P_showsAt_27 hl rfl (by rw [show Int32.ofInt (1) = (1 : Int32) by decide]) (by decide) rfl (fun ls hl => ?_)
          refine lv_goto (tgt := 2) hx hb d_P_showsAt_30 rfl ?_
          exact ih1 (x1) ((x3 + 1)) σ6 _ _ _ hf hP hD hS (lv_sub hl [1, 2, 3, 0] rfl)
        rw [if_neg c15] at hf
        refine lv_iconst (v := 0) hx hb d_P_showsAt_25 (by decide) ?_
        obtain ⟨rfl, rfl⟩ := gRt_e hf
        exact g_zret hx hb hr hlocks rfl hAe hS () rfl hP d_P_showsAt_26
  exact (key gFuel).1 q1 σ _ _ _ hf hP hD hS hl

def f_P_append (σ : gS) (x1 : Int32) : Option (Int32 × gS) := if (σ.1 1) < 1600 then (gSt σ 8 1600 (σ.1 1) (vp_nar .char x1) (fun σ2 => gPut σ2 1 ((σ2.1 1) + 1) (fun σ5 => some (1, σ5)))) else (some (0, σ))
set_option maxHeartbeats 4000000 in
set_option maxRecDepth 100000 in
theorem m_P_append {l : Launch} {X : va_G} {cI cC cZ : ClassId} {aK aV : Nat → Nat} {a : Nat → Nat} {σ σ' : gS} {r : Int32} {x1 : Int32} (hf : f_P_append σ x1 = some (r, σ')) {sz : Nat} : Met l y_P_append w_P_append { frames := 0, cells := 0, slots := 0, locals := 0 } (gPc X vwCl (gT cI cC cZ) aK aV (cW cI cC cZ a σ) sz [.ref (a 7), .int x1]) (gQi X vwCl (cW cI cC cZ a σ) sz (fun r' (_ : Unit) => r' = r) (fun _ => cW cI cC cZ a σ')) 0 0 (va_A (cW cI cC cZ a σ) sz) := by
  refine g_met (cc := b_P_append) (maxL := 2) (ret := (some .boolean)) (by decide) rfl (Nat.le_of_ble_eq_true rfl) ?_
  intro p e s m below meth c A ls hx hb hr hml hown hts hlocks hnm hsz hAe hA hP hK hD hS hl hE
  have hown : s.vm.findClass R_P = some m.cls := hown
  have u_0 : ∀ w ∈ u_ws R_P T_P 2, w ∈ w_P_append := fun w h => List.mem_cons_of_mem _ (tu_P w h)
  have k_0 := hts (.fieldLink R_P 15 "GraphPages$Page" "end" "I") (List.mem_cons_of_mem _ tb_33)
  have k_1 := hts (.fieldLink R_P 9 "GraphPages$Page" "characters" "[C") (List.mem_cons_of_mem _ tb_34)
  unfold f_P_append at hf
  refine lv_aload_n hx hb d_P_append_0 rfl (lv_at hl 0 rfl) ?_
  refine va_get (D := X) (ci := 5) (C := R_P) (T := T_P) (N := 2) hx hb hts u_0 hown hK hP 7 gc_7 rfl 0 (by decide) k_0 (fun _ h9 => h9) rfl d_P_append_1 ?_
  refine lv_sipush (v := 1600) hx hb d_P_append_4 (by decide) ?_
  refine lv_icmp_lt (tgt := 12) hx hb d_P_append_7 rfl (fun c1 => ?_) (fun c1 => ?_)
  · skip
    rw [if_pos c1] at hf
    refine lv_aload_n hx hb d_P_append_12 rfl (lv_at hl 0 rfl) ?_
    refine va_get (D := X) (ci := 5) (C := R_P) (T := T_P) (N := 2) hx hb hts u_0 hown hK hP 7 gc_7 rfl 1 (by decide) k_1 (fun _ h9 => h9) rfl d_P_append_13 ?_
    refine lv_aload_n hx hb d_P_append_16 rfl (lv_at hl 0 rfl) ?_
    refine va_get (D := X) (ci := 5) (C := R_P) (T := T_P) (N := 2) hx hb hts u_0 hown hK hP 7 gc_7 rfl 0 (by decide) k_0 (fun _ h9 => h9) rfl d_P_append_17 ?_
    refine lv_iload_n hx hb d_P_append_20 rfl (lv_at hl 1 rfl) ?_
    obtain ⟨σ2, h3, e4, hf⟩ := gSt_e hf
    refine va_cast hx hb hK hP hD hS 8 1 gc_8 rfl h3 d_P_append_21 (fun H locs hP hD hS => ?_)
    rw [sc_8, ← e4] at hP hD
    refine lv_aload_n hx hb d_P_append_22 rfl (lv_at hl 0 rfl) ?_
    refine lv_dup hx hb d_P_append_23 rfl ?_
    refine va_get (D := X) (ci := 5) (C := R_P) (T := T_P) (N := 2) hx hb hts u_0 hown hK hP 7 gc_7 rfl 0 (by decide) k_0 (fun _ h9 => h9) rfl d_P_append_24 ?_
    refine lv_iconst (v := 1) hx hb d_P_append_27 (by decide) ?_
    refine lv_iadd hx hb d_P_append_28 ?_
    obtain ⟨σ5, e6, hf⟩ := gPut_e hf
    refine va_put (D := X) (ci := 5) (ty := .int) (C := R_P) (T := T_P) (N := 2) hx hb hts u_0 t_P t_P_ok n_P hown hK hP hD hS 7 gc_7 rfl 0 (by decide) k_0 (fun _ h9 => h9) rfl (by decide +kernel) rfl rfl (Nat.le_of_ble_eq_true rfl) d_P_append_29 (fun H locs hP hD hS => ?_)
    rw [sc_7_0, ← e6] at hP hD
    refine lv_iconst (v := 1) hx hb d_P_append_32 (by decide) ?_
    obtain ⟨rfl, rfl⟩ := gRt_e hf
    exact g_zret hx hb hr hlocks rfl hAe hS () rfl hP d_P_append_33
  rw [if_neg c1] at hf
  refine lv_iconst (v := 0) hx hb d_P_append_10 (by decide) ?_
  obtain ⟨rfl, rfl⟩ := gRt_e hf
  exact g_zret hx hb hr hlocks rfl hAe hS () rfl hP d_P_append_11
