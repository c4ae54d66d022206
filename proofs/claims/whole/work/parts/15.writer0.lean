def B_W_writeRow_S0_0 (rec : Nat → List Int32 → gS → Option (Int32 × gS)) (σ0 : gS) : Option (Int32 × gS) := rec 1 [0] σ0
def B_W_writeRow_S0_1 (rec : Nat → List Int32 → gS → Option (Int32 × gS)) (x2 : Int32) (σ0 : gS) : Option (Int32 × gS) := if 12 ≤ x2 then (some (0, σ0)) else (gChr 0 x2 (fun y5 => gBd (f_P_append σ0 y5) (fun y12 σ13 => rec 1 [(x2 + 1)] σ13)))
def S_W_writeRow_S0 (rec : Nat → List Int32 → gS → Option (Int32 × gS)) (k : Nat) (l : List Int32) (σ0 : gS) : Option (Int32 × gS) := match k, l with
  | 0, [] => B_W_writeRow_S0_0 rec  σ0
  | 1, [x2] => B_W_writeRow_S0_1 rec x2 σ0
  | _, _ => none
def R_W_writeRow_S0 : Nat → Nat → List Int32 → gS → Option (Int32 × gS)
  | 0 => fun _ _ _ => none
  | t + 1 => fun k l σ0 => S_W_writeRow_S0 (R_W_writeRow_S0 t) k l σ0
def f_W_writeRow_S0 (σ : gS) : Option (Int32 × gS) := R_W_writeRow_S0 gFuel 0 [] σ
set_option maxHeartbeats 4000000 in
set_option maxRecDepth 100000 in
theorem m_W_writeRow_S0 {l : Launch} {X : va_G} {cI cC cZ : ClassId} {aK aV : Nat → Nat} {a : Nat → Nat} {σ σ' : gS} {r : Int32} (hf : f_W_writeRow_S0 σ = some (r, σ')) {sz : Nat} : Met l y_W_writeRow w_W_writeRow { frames := 4, cells := 0, slots := 0, locals := 85 } (gPc X vwCl (gT cI cC cZ) aK aV (cW cI cC cZ a σ) sz [.ref (a 17), .ref (aK 0)]) (gQv X vwCl (cW cI cC cZ a σ) sz (fun (_ : Unit) => True) (fun _ => cW cI cC cZ a σ')) 0 0 (va_A (cW cI cC cZ a σ) sz) := by
  refine g_met (cc := b_W_writeRow) (maxL := 3) (ret := none) (by decide) rfl (Nat.le_of_ble_eq_true rfl) ?_
  intro p e s m below meth c A ls hx hb hr hml hown hts hlocks hnm hsz hAe hA hP hK hD hS hl hE
  have hown : s.vm.findClass R_W = some m.cls := hown
  have u_0 : ∀ w ∈ u_ws R_W T_W 6, w ∈ w_W_writeRow := fun w h => List.mem_cons_of_mem _ (tu_W w h)
  have k_0 := hts (.fieldLink R_W 26 "GraphPages$Writer" "page" "LGraphPages$Page;") (List.mem_cons_of_mem _ tb_287)
  unfold f_W_writeRow_S0 at hf
  have key : ∀ t : Nat, (∀ (σ0 : gS) (H : Heap) (locs : List Loc) (ls : Array Slot), R_W_writeRow_S0 t 0 [] σ0 = some (r, σ') → va_P X vwCl (cW cI cC cZ a σ0) H → va_D A (cW cI cC cZ a σ0) → va_S A s.heap H locs → lv_has ls 3 [(0, .ref (a 17)), (1, .ref (aK 0))] → W p l e (headSpec w_W_writeRow { frames := 4, cells := 0, slots := 0, locals := 85 }).room s m [.ref (a 17), .ref (aK 0)].toArray below meth c H locs 0 0 (MQ below (gQv X vwCl (cW cI cC cZ a σ) sz (fun (_ : Unit) => True) (fun _ => cW cI cC cZ a σ')) [.ref (a 17), .ref (aK 0)].toArray s 0 0 (va_A (cW cI cC cZ a σ) sz)) (F0 m 0 ls [])) ∧ (∀ (x2 : Int32) (σ0 : gS) (H : Heap) (locs : List Loc) (ls : Array Slot), R_W_writeRow_S0 t 1 [x2] σ0 = some (r, σ') → va_P X vwCl (cW cI cC cZ a σ0) H → va_D A (cW cI cC cZ a σ0) → va_S A s.heap H locs → lv_has ls 3 [(0, .ref (a 17)), (1, .ref (aK 0)), (2, .int x2)] → W p l e (headSpec w_W_writeRow { frames := 4, cells := 0, slots := 0, locals := 85 }).room s m [.ref (a 17), .ref (aK 0)].toArray below meth c H locs 0 0 (MQ below (gQv X vwCl (cW cI cC cZ a σ) sz (fun (_ : Unit) => True) (fun _ => cW cI cC cZ a σ')) [.ref (a 17), .ref (aK 0)].toArray s 0 0 (va_A (cW cI cC cZ a σ) sz)) (F0 m 2 ls [])) := by
    intro t
    induction t with
    | zero => exact ⟨fun  _ _ _ _ hf => (by have hf : (none : Option (Int32 × gS)) = some (r, σ') := hf; cases hf), fun _ _ _ _ _ hf => (by have hf : (none : Option (Int32 × gS)) = some (r, σ') := hf; cases hf)⟩
    | succ t ih =>
      obtain ⟨ih0, ih1⟩ := ih
      refine ⟨?_, ?_⟩
      · intro  σ0 H locs ls hf hP hD hS hl
        have hf : B_W_writeRow_S0_0 (R_W_writeRow_S0 t)  σ0 = some (r, σ') := hf
        unfold B_W_writeRow_S0_0 at hf
        refine lv_iconst (v := 0) hx hb d_W_writeRow_0 (by decide) ?_
        refine lv_istore_n hx hb d_W_writeRow_1 rfl hl (by decide) rfl (fun ls hl => ?_)
        exact ih1 (0) σ0 _ _ _ hf hP hD hS (lv_sub hl [1, 2, 0] rfl)
      · intro x2 σ0 H locs ls hf hP hD hS hl
        have hf : B_W_writeRow_S0_1 (R_W_writeRow_S0 t) x2 σ0 = some (r, σ') := hf
        unfold B_W_writeRow_S0_1 at hf
        refine lv_iload_n hx hb d_W_writeRow_2 rfl (lv_at hl 2 rfl) ?_
        refine lv_aload_n hx hb d_W_writeRow_3 rfl (lv_at hl 1 rfl) ?_
        refine g_wi (va_runV ⟨hx, hb, hml, hown, hts⟩ (m_Q_length gl_0) (cwV 0 hts (gG4 (fun _ h => List.mem_cons_of_mem _ h) tb_282 tb_81 tb_82 tb_6 tc_Q_length) rfl rfl rfl (by decide +kernel) ⟨Nat.le_of_ble_eq_true rfl, Nat.le_of_ble_eq_true rfl⟩) (g_preQ gl_0 hE hK hP hD hS hA) rfl rfl hl.1 rfl (lv_room (Nat.le_of_ble_eq_true rfl)) d_W_writeRow_4 ⟨Nat.zero_le _, Nat.zero_le _⟩) hD hS hA (fun _ => rfl) (fun y1 _ H locs hu hP hD hS => ?_)
        have hu : y1 = 12 := hu.trans (by decide)
        subst hu
        refine lv_icmp_ge (tgt := 29) hx hb d_W_writeRow_7 rfl (fun c4 => ?_) (fun c4 => ?_)
        · skip
          rw [if_pos c4] at hf
          obtain ⟨-, rfl⟩ := gRt_e hf
          exact g_vret hx hb hr hlocks hAe hS () trivial hP d_W_writeRow_29
        rw [if_neg c4] at hf
        refine lv_aload_n hx hb d_W_writeRow_10 rfl (lv_at hl 0 rfl) ?_
        refine va_get (D := X) (ci := 7) (C := R_W) (T := T_W) (N := 6) hx hb hts u_0 hown hK hP 17 gc_17 rfl 2 (by decide) k_0 (fun _ h9 => h9) rfl d_W_writeRow_11 ?_
        refine lv_aload_n hx hb d_W_writeRow_14 rfl (lv_at hl 1 rfl) ?_
        refine lv_iload_n hx hb d_W_writeRow_15 rfl (lv_at hl 2 rfl) ?_
        obtain ⟨y5, j11, h8, h9, h10, hf⟩ := gChr_e hf (by decide)
        rw [h9]
        refine g_wi (va_runV ⟨hx, hb, hml, hown, hts⟩ (m_Q_charAt gl_0 h8) (cwV 1 hts (gG4 (fun _ h => List.mem_cons_of_mem _ h) tb_283 tb_85 tb_86 tb_6 tc_Q_charAt) rfl rfl rfl (by decide +kernel) ⟨Nat.le_of_ble_eq_true rfl, Nat.le_of_ble_eq_true rfl⟩) (g_preQ gl_0 hE hK hP hD hS hA) rfl rfl hl.1 rfl (lv_room (Nat.le_of_ble_eq_true rfl)) d_W_writeRow_16 ⟨Nat.zero_le _, Nat.zero_le _⟩) hD hS hA (fun _ => rfl) (fun y5 _ H locs hu hP hD hS => ?_)
        have hu : y5 = _ := hu.trans h10.symm
        subst hu
        obtain ⟨y12, σ13, e14, hf⟩ := gBd_e hf
        refine g_wi (va_runV ⟨hx, hb, hml, hown, hts⟩ (m_P_append e14) (cwV 1 hts (gG4 (fun _ h => List.mem_cons_of_mem _ h) tb_284 tb_285 tb_286 tb_38 tc_P_append) rfl rfl rfl (by decide +kernel) ⟨Nat.le_of_ble_eq_true rfl, Nat.le_of_ble_eq_true rfl⟩) (g_preVW (q0 := 7) hE hK hP hD hS hA gc_7 rfl) rfl rfl hl.1 rfl (lv_room (Nat.le_of_ble_eq_true rfl)) d_W_writeRow_19 ⟨Nat.zero_le _, Nat.zero_le _⟩) hD hS hA (fun _ => cW_fst) (fun y12 _ H locs hu hP hD hS => ?_)
        subst hu
        refine lv_pop hx hb d_W_writeRow_22 rfl ?_
        refine lv_iinc (k := 2) (v := (x2 + 1)) hx hb d_W_writeRow_23 hl rfl (by rw [show Int32.ofInt (1) = (1 : Int32) by decide]) (by decide) rfl (fun ls hl => ?_)
        refine lv_goto (tgt := 2) hx hb d_W_writeRow_26 rfl ?_
        exact ih1 ((x2 + 1)) σ13 _ _ _ hf hP hD hS (lv_sub hl [1, 2, 0] rfl)
  exact (key gFuel).1  σ _ _ _ hf hP hD hS hl

def B_W_writeRow_S1_0 (rec : Nat → List Int32 → gS → Option (Int32 × gS)) (σ0 : gS) : Option (Int32 × gS) := rec 1 [0] σ0
def B_W_writeRow_S1_1 (rec : Nat → List Int32 → gS → Option (Int32 × gS)) (x2 : Int32) (σ0 : gS) : Option (Int32 × gS) := if 2 ≤ x2 then (some (0, σ0)) else (gChr 1 x2 (fun y5 => gBd (f_P_append σ0 y5) (fun y12 σ13 => rec 1 [(x2 + 1)] σ13)))
def S_W_writeRow_S1 (rec : Nat → List Int32 → gS → Option (Int32 × gS)) (k : Nat) (l : List Int32) (σ0 : gS) : Option (Int32 × gS) := match k, l with
  | 0, [] => B_W_writeRow_S1_0 rec  σ0
  | 1, [x2] => B_W_writeRow_S1_1 rec x2 σ0
  | _, _ => none
def R_W_writeRow_S1 : Nat → Nat → List Int32 → gS → Option (Int32 × gS)
  | 0 => fun _ _ _ => none
  | t + 1 => fun k l σ0 => S_W_writeRow_S1 (R_W_writeRow_S1 t) k l σ0
def f_W_writeRow_S1 (σ : gS) : Option (Int32 × gS) := R_W_writeRow_S1 gFuel 0 [] σ
set_option maxHeartbeats 4000000 in
set_option maxRecDepth 100000 in
theorem m_W_writeRow_S1 {l : Launch} {X : va_G} {cI cC cZ : ClassId} {aK aV : Nat → Nat} {a : Nat → Nat} {σ σ' : gS} {r : Int32} (hf : f_W_writeRow_S1 σ = some (r, σ')) {sz : Nat} : Met l y_W_writeRow w_W_writeRow { frames := 4, cells := 0, slots := 0, locals := 85 } (gPc X vwCl (gT cI cC cZ) aK aV (cW cI cC cZ a σ) sz [.ref (a 17), .ref (aK 1)]) (gQv X vwCl (cW cI cC cZ a σ) sz (fun (_ : Unit) => True) (fun _ => cW cI cC cZ a σ')) 0 0 (va_A (cW cI cC cZ a σ) sz) := by
  refine g_met (cc := b_W_writeRow) (maxL := 3) (ret := none) (by decide) rfl (Nat.le_of_ble_eq_true rfl) ?_
  intro p e s m below meth c A ls hx hb hr hml hown hts hlocks hnm hsz hAe hA hP hK hD hS hl hE
  have hown : s.vm.findClass R_W = some m.cls := hown
  have u_0 : ∀ w ∈ u_ws R_W T_W 6, w ∈ w_W_writeRow := fun w h => List.mem_cons_of_mem _ (tu_W w h)
  have k_0 := hts (.fieldLink R_W 26 "GraphPages$Writer" "page" "LGraphPages$Page;") (List.mem_cons_of_mem _ tb_287)
  unfold f_W_writeRow_S1 at hf
  have key : ∀ t : Nat, (∀ (σ0 : gS) (H : Heap) (locs : List Loc) (ls : Array Slot), R_W_writeRow_S1 t 0 [] σ0 = some (r, σ') → va_P X vwCl (cW cI cC cZ a σ0) H → va_D A (cW cI cC cZ a σ0) → va_S A s.heap H locs → lv_has ls 3 [(0, .ref (a 17)), (1, .ref (aK 1))] → W p l e (headSpec w_W_writeRow { frames := 4, cells := 0, slots := 0, locals := 85 }).room s m [.ref (a 17), .ref (aK 1)].toArray below meth c H locs 0 0 (MQ below (gQv X vwCl (cW cI cC cZ a σ) sz (fun (_ : Unit) => True) (fun _ => cW cI cC cZ a σ')) [.ref (a 17), .ref (aK 1)].toArray s 0 0 (va_A (cW cI cC cZ a σ) sz)) (F0 m 0 ls [])) ∧ (∀ (x2 : Int32) (σ0 : gS) (H : Heap) (locs : List Loc) (ls : Array Slot), R_W_writeRow_S1 t 1 [x2] σ0 = some (r, σ') → va_P X vwCl (cW cI cC cZ a σ0) H → va_D A (cW cI cC cZ a σ0) → va_S A s.heap H locs → lv_has ls 3 [(0, .ref (a 17)), (1, .ref (aK 1)), (2, .int x2)] → W p l e (headSpec w_W_writeRow { frames := 4, cells := 0, slots := 0, locals := 85 }).room s m [.ref (a 17), .ref (aK 1)].toArray below meth c H locs 0 0 (MQ below (gQv X vwCl (cW cI cC cZ a σ) sz (fun (_ : Unit) => True) (fun _ => cW cI cC cZ a σ')) [.ref (a 17), .ref (aK 1)].toArray s 0 0 (va_A (cW cI cC cZ a σ) sz)) (F0 m 2 ls [])) := by
    intro t
    induction t with
    | zero => exact ⟨fun  _ _ _ _ hf => (by have hf : (none : Option (Int32 × gS)) = some (r, σ') := hf; cases hf), fun _ _ _ _ _ hf => (by have hf : (none : Option (Int32 × gS)) = some (r, σ') := hf; cases hf)⟩
    | succ t ih =>
      obtain ⟨ih0, ih1⟩ := ih
      refine ⟨?_, ?_⟩
      · intro  σ0 H locs ls hf hP hD hS hl
        have hf : B_W_writeRow_S1_0 (R_W_writeRow_S1 t)  σ0 = some (r, σ') := hf
        unfold B_W_writeRow_S1_0 at hf
        refine lv_iconst (v := 0) hx hb d_W_writeRow_0 (by decide) ?_
        refine lv_istore_n hx hb d_W_writeRow_1 rfl hl (by decide) rfl (fun ls hl => ?_)
        exact ih1 (0) σ0 _ _ _ hf hP hD hS (lv_sub hl [1, 2, 0] rfl)
      · intro x2 σ0 H locs ls hf hP hD hS hl
        have hf : B_W_writeRow_S1_1 (R_W_writeRow_S1 t) x2 σ0 = some (r, σ') := hf
        unfold B_W_writeRow_S1_1 at hf
        refine lv_iload_n hx hb d_W_writeRow_2 rfl (lv_at hl 2 rfl) ?_
        refine lv_aload_n hx hb d_W_writeRow_3 rfl (lv_at hl 1 rfl) ?_
        refine g_wi (va_runV ⟨hx, hb, hml, hown, hts⟩ (m_Q_length gl_1) (cwV 0 hts (gG4 (fun _ h => List.mem_cons_of_mem _ h) tb_282 tb_81 tb_82 tb_6 tc_Q_length) rfl rfl rfl (by decide +kernel) ⟨Nat.le_of_ble_eq_true rfl, Nat.le_of_ble_eq_true rfl⟩) (g_preQ gl_1 hE hK hP hD hS hA) rfl rfl hl.1 rfl (lv_room (Nat.le_of_ble_eq_true rfl)) d_W_writeRow_4 ⟨Nat.zero_le _, Nat.zero_le _⟩) hD hS hA (fun _ => rfl) (fun y1 _ H locs hu hP hD hS => ?_)
        have hu : y1 = 2 := hu.trans (by decide)
        subst hu
        refine lv_icmp_ge (tgt := 29) hx hb d_W_writeRow_7 rfl (fun c4 => ?_) (fun c4 => ?_)
        · skip
          rw [if_pos c4] at hf
          obtain ⟨-, rfl⟩ := gRt_e hf
          exact g_vret hx hb hr hlocks hAe hS () trivial hP d_W_writeRow_29
        rw [if_neg c4] at hf
        refine lv_aload_n hx hb d_W_writeRow_10 rfl (lv_at hl 0 rfl) ?_
        refine va_get (D := X) (ci := 7) (C := R_W) (T := T_W) (N := 6) hx hb hts u_0 hown hK hP 17 gc_17 rfl 2 (by decide) k_0 (fun _ h9 => h9) rfl d_W_writeRow_11 ?_
        refine lv_aload_n hx hb d_W_writeRow_14 rfl (lv_at hl 1 rfl) ?_
        refine lv_iload_n hx hb d_W_writeRow_15 rfl (lv_at hl 2 rfl) ?_
        obtain ⟨y5, j11, h8, h9, h10, hf⟩ := gChr_e hf (by decide)
        rw [h9]
        refine g_wi (va_runV ⟨hx, hb, hml, hown, hts⟩ (m_Q_charAt gl_1 h8) (cwV 1 hts (gG4 (fun _ h => List.mem_cons_of_mem _ h) tb_283 tb_85 tb_86 tb_6 tc_Q_charAt) rfl rfl rfl (by decide +kernel) ⟨Nat.le_of_ble_eq_true rfl, Nat.le_of_ble_eq_true rfl⟩) (g_preQ gl_1 hE hK hP hD hS hA) rfl rfl hl.1 rfl (lv_room (Nat.le_of_ble_eq_true rfl)) d_W_writeRow_16 ⟨Nat.zero_le _, Nat.zero_le _⟩) hD hS hA (fun _ => rfl) (fun y5 _ H locs hu hP hD hS => ?_)
        have hu : y5 = _ := hu.trans h10.symm
        subst hu
        obtain ⟨y12, σ13, e14, hf⟩ := gBd_e hf
        refine g_wi (va_runV ⟨hx, hb, hml, hown, hts⟩ (m_P_append e14) (cwV 1 hts (gG4 (fun _ h => List.mem_cons_of_mem _ h) tb_284 tb_285 tb_286 tb_38 tc_P_append) rfl rfl rfl (by decide +kernel) ⟨Nat.le_of_ble_eq_true rfl, Nat.le_of_ble_eq_true rfl⟩) (g_preVW (q0 := 7) hE hK hP hD hS hA gc_7 rfl) rfl rfl hl.1 rfl (lv_room (Nat.le_of_ble_eq_true rfl)) d_W_writeRow_19 ⟨Nat.zero_le _, Nat.zero_le _⟩) hD hS hA (fun _ => cW_fst) (fun y12 _ H locs hu hP hD hS => ?_)
        subst hu
        refine lv_pop hx hb d_W_writeRow_22 rfl ?_
        refine lv_iinc (k := 2) (v := (x2 + 1)) hx hb d_W_writeRow_23 hl rfl (by rw [show Int32.ofInt (1) = (1 : Int32) by decide]) (by decide) rfl (fun ls hl => ?_)
        refine lv_goto (tgt := 2) hx hb d_W_writeRow_26 rfl ?_
        exact ih1 ((x2 + 1)) σ13 _ _ _ hf hP hD hS (lv_sub hl [1, 2, 0] rfl)
  exact (key gFuel).1  σ _ _ _ hf hP hD hS hl

def B_W_writeRow_S2_0 (rec : Nat → List Int32 → gS → Option (Int32 × gS)) (σ0 : gS) : Option (Int32 × gS) := rec 1 [0] σ0
def B_W_writeRow_S2_1 (rec : Nat → List Int32 → gS → Option (Int32 × gS)) (x2 : Int32) (σ0 : gS) : Option (Int32 × gS) := if 1 ≤ x2 then (some (0, σ0)) else (gChr 2 x2 (fun y5 => gBd (f_P_append σ0 y5) (fun y12 σ13 => rec 1 [(x2 + 1)] σ13)))
def S_W_writeRow_S2 (rec : Nat → List Int32 → gS → Option (Int32 × gS)) (k : Nat) (l : List Int32) (σ0 : gS) : Option (Int32 × gS) := match k, l with
  | 0, [] => B_W_writeRow_S2_0 rec  σ0
  | 1, [x2] => B_W_writeRow_S2_1 rec x2 σ0
  | _, _ => none
def R_W_writeRow_S2 : Nat → Nat → List Int32 → gS → Option (Int32 × gS)
  | 0 => fun _ _ _ => none
  | t + 1 => fun k l σ0 => S_W_writeRow_S2 (R_W_writeRow_S2 t) k l σ0
def f_W_writeRow_S2 (σ : gS) : Option (Int32 × gS) := R_W_writeRow_S2 gFuel 0 [] σ
set_option maxHeartbeats 4000000 in
set_option maxRecDepth 100000 in
theorem m_W_writeRow_S2 {l : Launch} {X : va_G} {cI cC cZ : ClassId} {aK aV : Nat → Nat} {a : Nat → Nat} {σ σ' : gS} {r : Int32} (hf : f_W_writeRow_S2 σ = some (r, σ')) {sz : Nat} : Met l y_W_writeRow w_W_writeRow { frames := 4, cells := 0, slots := 0, locals := 85 } (gPc X vwCl (gT cI cC cZ) aK aV (cW cI cC cZ a σ) sz [.ref (a 17), .ref (aK 2)]) (gQv X vwCl (cW cI cC cZ a σ) sz (fun (_ : Unit) => True) (fun _ => cW cI cC cZ a σ')) 0 0 (va_A (cW cI cC cZ a σ) sz) := by
  refine g_met (cc := b_W_writeRow) (maxL := 3) (ret := none) (by decide) rfl (Nat.le_of_ble_eq_true rfl) ?_
  intro p e s m below meth c A ls hx hb hr hml hown hts hlocks hnm hsz hAe hA hP hK hD hS hl hE
  have hown : s.vm.findClass R_W = some m.cls := hown
  have u_0 : ∀ w ∈ u_ws R_W T_W 6, w ∈ w_W_writeRow := fun w h => List.mem_cons_of_mem _ (tu_W w h)
  have k_0 := hts (.fieldLink R_W 26 "GraphPages$Writer" "page" "LGraphPages$Page;") (List.mem_cons_of_mem _ tb_287)
  unfold f_W_writeRow_S2 at hf
  have key : ∀ t : Nat, (∀ (σ0 : gS) (H : Heap) (locs : List Loc) (ls : Array Slot), R_W_writeRow_S2 t 0 [] σ0 = some (r, σ') → va_P X vwCl (cW cI cC cZ a σ0) H → va_D A (cW cI cC cZ a σ0) → va_S A s.heap H locs → lv_has ls 3 [(0, .ref (a 17)), (1, .ref (aK 2))] → W p l e (headSpec w_W_writeRow { frames := 4, cells := 0, slots := 0, locals := 85 }).room s m [.ref (a 17), .ref (aK 2)].toArray below meth c H locs 0 0 (MQ below (gQv X vwCl (cW cI cC cZ a σ) sz (fun (_ : Unit) => True) (fun _ => cW cI cC cZ a σ')) [.ref (a 17), .ref (aK 2)].toArray s 0 0 (va_A (cW cI cC cZ a σ) sz)) (F0 m 0 ls [])) ∧ (∀ (x2 : Int32) (σ0 : gS) (H : Heap) (locs : List Loc) (ls : Array Slot), R_W_writeRow_S2 t 1 [x2] σ0 = some (r, σ') → va_P X vwCl (cW cI cC cZ a σ0) H → va_D A (cW cI cC cZ a σ0) → va_S A s.heap H locs → lv_has ls 3 [(0, .ref (a 17)), (1, .ref (aK 2)), (2, .int x2)] → W p l e (headSpec w_W_writeRow { frames := 4, cells := 0, slots := 0, locals := 85 }).room s m [.ref (a 17), .ref (aK 2)].toArray below meth c H locs 0 0 (MQ below (gQv X vwCl (cW cI cC cZ a σ) sz (fun (_ : Unit) => True) (fun _ => cW cI cC cZ a σ')) [.ref (a 17), .ref (aK 2)].toArray s 0 0 (va_A (cW cI cC cZ a σ) sz)) (F0 m 2 ls [])) := by
    intro t
    induction t with
    | zero => exact ⟨fun  _ _ _ _ hf => (by have hf : (none : Option (Int32 × gS)) = some (r, σ') := hf; cases hf), fun _ _ _ _ _ hf => (by have hf : (none : Option (Int32 × gS)) = some (r, σ') := hf; cases hf)⟩
    | succ t ih =>
      obtain ⟨ih0, ih1⟩ := ih
      refine ⟨?_, ?_⟩
      · intro  σ0 H locs ls hf hP hD hS hl
        have hf : B_W_writeRow_S2_0 (R_W_writeRow_S2 t)  σ0 = some (r, σ') := hf
        unfold B_W_writeRow_S2_0 at hf
        refine lv_iconst (v := 0) hx hb d_W_writeRow_0 (by decide) ?_
        refine lv_istore_n hx hb d_W_writeRow_1 rfl hl (by decide) rfl (fun ls hl => ?_)
        exact ih1 (0) σ0 _ _ _ hf hP hD hS (lv_sub hl [1, 2, 0] rfl)
      · intro x2 σ0 H locs ls hf hP hD hS hl
        have hf : B_W_writeRow_S2_1 (R_W_writeRow_S2 t) x2 σ0 = some (r, σ') := hf
        unfold B_W_writeRow_S2_1 at hf
        refine lv_iload_n hx hb d_W_writeRow_2 rfl (lv_at hl 2 rfl) ?_
        refine lv_aload_n hx hb d_W_writeRow_3 rfl (lv_at hl 1 rfl) ?_
        refine g_wi (va_runV ⟨hx, hb, hml, hown, hts⟩ (m_Q_length gl_2) (cwV 0 hts (gG4 (fun _ h => List.mem_cons_of_mem _ h) tb_282 tb_81 tb_82 tb_6 tc_Q_length) rfl rfl rfl (by decide +kernel) ⟨Nat.le_of_ble_eq_true rfl, Nat.le_of_ble_eq_true rfl⟩) (g_preQ gl_2 hE hK hP hD hS hA) rfl rfl hl.1 rfl (lv_room (Nat.le_of_ble_eq_true rfl)) d_W_writeRow_4 ⟨Nat.zero_le _, Nat.zero_le _⟩) hD hS hA (fun _ => rfl) (fun y1 _ H locs hu hP hD hS => ?_)
        have hu : y1 = 1 := hu.trans (by decide)
        subst hu
        refine lv_icmp_ge (tgt := 29) hx hb d_W_writeRow_7 rfl (fun c4 => ?_) (fun c4 => ?_)
        · skip
          rw [if_pos c4] at hf
          obtain ⟨-, rfl⟩ := gRt_e hf
          exact g_vret hx hb hr hlocks hAe hS () trivial hP d_W_writeRow_29
        rw [if_neg c4] at hf
        refine lv_aload_n hx hb d_W_writeRow_10 rfl (lv_at hl 0 rfl) ?_
        refine va_get (D := X) (ci := 7) (C := R_W) (T := T_W) (N := 6) hx hb hts u_0 hown hK hP 17 gc_17 rfl 2 (by decide) k_0 (fun _ h9 => h9) rfl d_W_writeRow_11 ?_
        refine lv_aload_n hx hb d_W_writeRow_14 rfl (lv_at hl 1 rfl) ?_
        refine lv_iload_n hx hb d_W_writeRow_15 rfl (lv_at hl 2 rfl) ?_
        obtain ⟨y5, j11, h8, h9, h10, hf⟩ := gChr_e hf (by decide)
        rw [h9]
        refine g_wi (va_runV ⟨hx, hb, hml, hown, hts⟩ (m_Q_charAt gl_2 h8) (cwV 1 hts (gG4 (fun _ h => List.mem_cons_of_mem _ h) tb_283 tb_85 tb_86 tb_6 tc_Q_charAt) rfl rfl rfl (by decide +kernel) ⟨Nat.le_of_ble_eq_true rfl, Nat.le_of_ble_eq_true rfl⟩) (g_preQ gl_2 hE hK hP hD hS hA) rfl rfl hl.1 rfl (lv_room (Nat.le_of_ble_eq_true rfl)) d_W_writeRow_16 ⟨Nat.zero_le _, Nat.zero_le _⟩) hD hS hA (fun _ => rfl) (fun y5 _ H locs hu hP hD hS => ?_)
        have hu : y5 = _ := hu.trans h10.symm
        subst hu
        obtain ⟨y12, σ13, e14, hf⟩ := gBd_e hf
        refine g_wi (va_runV ⟨hx, hb, hml, hown, hts⟩ (m_P_append e14) (cwV 1 hts (gG4 (fun _ h => List.mem_cons_of_mem _ h) tb_284 tb_285 tb_286 tb_38 tc_P_append) rfl rfl rfl (by decide +kernel) ⟨Nat.le_of_ble_eq_true rfl, Nat.le_of_ble_eq_true rfl⟩) (g_preVW (q0 := 7) hE hK hP hD hS hA gc_7 rfl) rfl rfl hl.1 rfl (lv_room (Nat.le_of_ble_eq_true rfl)) d_W_writeRow_19 ⟨Nat.zero_le _, Nat.zero_le _⟩) hD hS hA (fun _ => cW_fst) (fun y12 _ H locs hu hP hD hS => ?_)
        subst hu
        refine lv_pop hx hb d_W_writeRow_22 rfl ?_
        refine lv_iinc (k := 2) (v := (x2 + 1)) hx hb d_W_writeRow_23 hl rfl (by rw [show Int32.ofInt (1) = (1 : Int32) by decide]) (by decide) rfl (fun ls hl => ?_)
        refine lv_goto (tgt := 2) hx hb d_W_writeRow_26 rfl ?_
        exact ih1 ((x2 + 1)) σ13 _ _ _ hf hP hD hS (lv_sub hl [1, 2, 0] rfl)
  exact (key gFuel).1  σ _ _ _ hf hP hD hS hl

def B_W_writeRow_S3_0 (rec : Nat → List Int32 → gS → Option (Int32 × gS)) (σ0 : gS) : Option (Int32 × gS) := rec 1 [0] σ0
def B_W_writeRow_S3_1 (rec : Nat → List Int32 → gS → Option (Int32 × gS)) (x2 : Int32) (σ0 : gS) : Option (Int32 × gS) := if 2 ≤ x2 then (some (0, σ0)) else (gChr 3 x2 (fun y5 => gBd (f_P_append σ0 y5) (fun y12 σ13 => rec 1 [(x2 + 1)] σ13)))
def S_W_writeRow_S3 (rec : Nat → List Int32 → gS → Option (Int32 × gS)) (k : Nat) (l : List Int32) (σ0 : gS) : Option (Int32 × gS) := match k, l with
  | 0, [] => B_W_writeRow_S3_0 rec  σ0
  | 1, [x2] => B_W_writeRow_S3_1 rec x2 σ0
  | _, _ => none
def R_W_writeRow_S3 : Nat → Nat → List Int32 → gS → Option (Int32 × gS)
  | 0 => fun _ _ _ => none
  | t + 1 => fun k l σ0 => S_W_writeRow_S3 (R_W_writeRow_S3 t) k l σ0
def f_W_writeRow_S3 (σ : gS) : Option (Int32 × gS) := R_W_writeRow_S3 gFuel 0 [] σ
set_option maxHeartbeats 4000000 in
set_option maxRecDepth 100000 in
theorem m_W_writeRow_S3 {l : Launch} {X : va_G} {cI cC cZ : ClassId} {aK aV : Nat → Nat} {a : Nat → Nat} {σ σ' : gS} {r : Int32} (hf : f_W_writeRow_S3 σ = some (r, σ')) {sz : Nat} : Met l y_W_writeRow w_W_writeRow { frames := 4, cells := 0, slots := 0, locals := 85 } (gPc X vwCl (gT cI cC cZ) aK aV (cW cI cC cZ a σ) sz [.ref (a 17), .ref (aK 3)]) (gQv X vwCl (cW cI cC cZ a σ) sz (fun (_ : Unit) => True) (fun _ => cW cI cC cZ a σ')) 0 0 (va_A (cW cI cC cZ a σ) sz) := by
  refine g_met (cc := b_W_writeRow) (maxL := 3) (ret := none) (by decide) rfl (Nat.le_of_ble_eq_true rfl) ?_
  intro p e s m below meth c A ls hx hb hr hml hown hts hlocks hnm hsz hAe hA hP hK hD hS hl hE
  have hown : s.vm.findClass R_W = some m.cls := hown
  have u_0 : ∀ w ∈ u_ws R_W T_W 6, w ∈ w_W_writeRow := fun w h => List.mem_cons_of_mem _ (tu_W w h)
  have k_0 := hts (.fieldLink R_W 26 "GraphPages$Writer" "page" "LGraphPages$Page;") (List.mem_cons_of_mem _ tb_287)
  unfold f_W_writeRow_S3 at hf
  have key : ∀ t : Nat, (∀ (σ0 : gS) (H : Heap) (locs : List Loc) (ls : Array Slot), R_W_writeRow_S3 t 0 [] σ0 = some (r, σ') → va_P X vwCl (cW cI cC cZ a σ0) H → va_D A (cW cI cC cZ a σ0) → va_S A s.heap H locs → lv_has ls 3 [(0, .ref (a 17)), (1, .ref (aK 3))] → W p l e (headSpec w_W_writeRow { frames := 4, cells := 0, slots := 0, locals := 85 }).room s m [.ref (a 17), .ref (aK 3)].toArray below meth c H locs 0 0 (MQ below (gQv X vwCl (cW cI cC cZ a σ) sz (fun (_ : Unit) => True) (fun _ => cW cI cC cZ a σ')) [.ref (a 17), .ref (aK 3)].toArray s 0 0 (va_A (cW cI cC cZ a σ) sz)) (F0 m 0 ls [])) ∧ (∀ (x2 : Int32) (σ0 : gS) (H : Heap) (locs : List Loc) (ls : Array Slot), R_W_writeRow_S3 t 1 [x2] σ0 = some (r, σ') → va_P X vwCl (cW cI cC cZ a σ0) H → va_D A (cW cI cC cZ a σ0) → va_S A s.heap H locs → lv_has ls 3 [(0, .ref (a 17)), (1, .ref (aK 3)), (2, .int x2)] → W p l e (headSpec w_W_writeRow { frames := 4, cells := 0, slots := 0, locals := 85 }).room s m [.ref (a 17), .ref (aK 3)].toArray below meth c H locs 0 0 (MQ below (gQv X vwCl (cW cI cC cZ a σ) sz (fun (_ : Unit) => True) (fun _ => cW cI cC cZ a σ')) [.ref (a 17), .ref (aK 3)].toArray s 0 0 (va_A (cW cI cC cZ a σ) sz)) (F0 m 2 ls [])) := by
    intro t
    induction t with
    | zero => exact ⟨fun  _ _ _ _ hf => (by have hf : (none : Option (Int32 × gS)) = some (r, σ') := hf; cases hf), fun _ _ _ _ _ hf => (by have hf : (none : Option (Int32 × gS)) = some (r, σ') := hf; cases hf)⟩
    | succ t ih =>
      obtain ⟨ih0, ih1⟩ := ih
      refine ⟨?_, ?_⟩
      · intro  σ0 H locs ls hf hP hD hS hl
        have hf : B_W_writeRow_S3_0 (R_W_writeRow_S3 t)  σ0 = some (r, σ') := hf
        unfold B_W_writeRow_S3_0 at hf
        refine lv_iconst (v := 0) hx hb d_W_writeRow_0 (by decide) ?_
        refine lv_istore_n hx hb d_W_writeRow_1 rfl hl (by decide) rfl (fun ls hl => ?_)
        exact ih1 (0) σ0 _ _ _ hf hP hD hS (lv_sub hl [1, 2, 0] rfl)
      · intro x2 σ0 H locs ls hf hP hD hS hl
        have hf : B_W_writeRow_S3_1 (R_W_writeRow_S3 t) x2 σ0 = some (r, σ') := hf
        unfold B_W_writeRow_S3_1 at hf
        refine lv_iload_n hx hb d_W_writeRow_2 rfl (lv_at hl 2 rfl) ?_
        refine lv_aload_n hx hb d_W_writeRow_3 rfl (lv_at hl 1 rfl) ?_
        refine g_wi (va_runV ⟨hx, hb, hml, hown, hts⟩ (m_Q_length gl_3) (cwV 0 hts (gG4 (fun _ h => List.mem_cons_of_mem _ h) tb_282 tb_81 tb_82 tb_6 tc_Q_length) rfl rfl rfl (by decide +kernel) ⟨Nat.le_of_ble_eq_true rfl, Nat.le_of_ble_eq_true rfl⟩) (g_preQ gl_3 hE hK hP hD hS hA) rfl rfl hl.1 rfl (lv_room (Nat.le_of_ble_eq_true rfl)) d_W_writeRow_4 ⟨Nat.zero_le _, Nat.zero_le _⟩) hD hS hA (fun _ => rfl) (fun y1 _ H locs hu hP hD hS => ?_)
        have hu : y1 = 2 := hu.trans (by decide)
        subst hu
        refine lv_icmp_ge (tgt := 29) hx hb d_W_writeRow_7 rfl (fun c4 => ?_) (fun c4 => ?_)
        · skip
          rw [if_pos c4] at hf
          obtain ⟨-, rfl⟩ := gRt_e hf
          exact g_vret hx hb hr hlocks hAe hS () trivial hP d_W_writeRow_29
        rw [if_neg c4] at hf
        refine lv_aload_n hx hb d_W_writeRow_10 rfl (lv_at hl 0 rfl) ?_
        refine va_get (D := X) (ci := 7) (C := R_W) (T := T_W) (N := 6) hx hb hts u_0 hown hK hP 17 gc_17 rfl 2 (by decide) k_0 (fun _ h9 => h9) rfl d_W_writeRow_11 ?_
        refine lv_aload_n hx hb d_W_writeRow_14 rfl (lv_at hl 1 rfl) ?_
        refine lv_iload_n hx hb d_W_writeRow_15 rfl (lv_at hl 2 rfl) ?_
        obtain ⟨y5, j11, h8, h9, h10, hf⟩ := gChr_e hf (by decide)
        rw [h9]
        refine g_wi (va_runV ⟨hx, hb, hml, hown, hts⟩ (m_Q_charAt gl_3 h8) (cwV 1 hts (gG4 (fun _ h => List.mem_cons_of_mem _ h) tb_283 tb_85 tb_86 tb_6 tc_Q_charAt) rfl rfl rfl (by decide +kernel) ⟨Nat.le_of_ble_eq_true rfl, Nat.le_of_ble_eq_true rfl⟩) (g_preQ gl_3 hE hK hP hD hS hA) rfl rfl hl.1 rfl (lv_room (Nat.le_of_ble_eq_true rfl)) d_W_writeRow_16 ⟨Nat.zero_le _, Nat.zero_le _⟩) hD hS hA (fun _ => rfl) (fun y5 _ H locs hu hP hD hS => ?_)
        have hu : y5 = _ := hu.trans h10.symm
        subst hu
        obtain ⟨y12, σ13, e14, hf⟩ := gBd_e hf
        refine g_wi (va_runV ⟨hx, hb, hml, hown, hts⟩ (m_P_append e14) (cwV 1 hts (gG4 (fun _ h => List.mem_cons_of_mem _ h) tb_284 tb_285 tb_286 tb_38 tc_P_append) rfl rfl rfl (by decide +kernel) ⟨Nat.le_of_ble_eq_true rfl, Nat.le_of_ble_eq_true rfl⟩) (g_preVW (q0 := 7) hE hK hP hD hS hA gc_7 rfl) rfl rfl hl.1 rfl (lv_room (Nat.le_of_ble_eq_true rfl)) d_W_writeRow_19 ⟨Nat.zero_le _, Nat.zero_le _⟩) hD hS hA (fun _ => cW_fst) (fun y12 _ H locs hu hP hD hS => ?_)
        subst hu
        refine lv_pop hx hb d_W_writeRow_22 rfl ?_
        refine lv_iinc (k := 2) (v := (x2 + 1)) hx hb d_W_writeRow_23 hl rfl (by rw [show Int32.ofInt (1) = (1 : Int32) by decide]) (by decide) rfl (fun ls hl => ?_)
        refine lv_goto (tgt := 2) hx hb d_W_writeRow_26 rfl ?_
        exact ih1 ((x2 + 1)) σ13 _ _ _ hf hP hD hS (lv_sub hl [1, 2, 0] rfl)
  exact (key gFuel).1  σ _ _ _ hf hP hD hS hl

def B_W_writeRow_S4_0 (rec : Nat → List Int32 → gS → Option (Int32 × gS)) (σ0 : gS) : Option (Int32 × gS) := rec 1 [0] σ0
def B_W_writeRow_S4_1 (rec : Nat → List Int32 → gS → Option (Int32 × gS)) (x2 : Int32) (σ0 : gS) : Option (Int32 × gS) := if 2 ≤ x2 then (some (0, σ0)) else (gChr 4 x2 (fun y5 => gBd (f_P_append σ0 y5) (fun y12 σ13 => rec 1 [(x2 + 1)] σ13)))
def S_W_writeRow_S4 (rec : Nat → List Int32 → gS → Option (Int32 × gS)) (k : Nat) (l : List Int32) (σ0 : gS) : Option (Int32 × gS) := match k, l with
  | 0, [] => B_W_writeRow_S4_0 rec  σ0
  | 1, [x2] => B_W_writeRow_S4_1 rec x2 σ0
  | _, _ => none
def R_W_writeRow_S4 : Nat → Nat → List Int32 → gS → Option (Int32 × gS)
  | 0 => fun _ _ _ => none
  | t + 1 => fun k l σ0 => S_W_writeRow_S4 (R_W_writeRow_S4 t) k l σ0
def f_W_writeRow_S4 (σ : gS) : Option (Int32 × gS) := R_W_writeRow_S4 gFuel 0 [] σ
set_option maxHeartbeats 4000000 in
set_option maxRecDepth 100000 in
theorem m_W_writeRow_S4 {l : Launch} {X : va_G} {cI cC cZ : ClassId} {aK aV : Nat → Nat} {a : Nat → Nat} {σ σ' : gS} {r : Int32} (hf : f_W_writeRow_S4 σ = some (r, σ')) {sz : Nat} : Met l y_W_writeRow w_W_writeRow { frames := 4, cells := 0, slots := 0, locals := 85 } (gPc X vwCl (gT cI cC cZ) aK aV (cW cI cC cZ a σ) sz [.ref (a 17), .ref (aK 4)]) (gQv X vwCl (cW cI cC cZ a σ) sz (fun (_ : Unit) => True) (fun _ => cW cI cC cZ a σ')) 0 0 (va_A (cW cI cC cZ a σ) sz) := by
  refine g_met (cc := b_W_writeRow) (maxL := 3) (ret := none) (by decide) rfl (Nat.le_of_ble_eq_true rfl) ?_
  intro p e s m below meth c A ls hx hb hr hml hown hts hlocks hnm hsz hAe hA hP hK hD hS hl hE
  have hown : s.vm.findClass R_W = some m.cls := hown
  have u_0 : ∀ w ∈ u_ws R_W T_W 6, w ∈ w_W_writeRow := fun w h => List.mem_cons_of_mem _ (tu_W w h)
  have k_0 := hts (.fieldLink R_W 26 "GraphPages$Writer" "page" "LGraphPages$Page;") (List.mem_cons_of_mem _ tb_287)
  unfold f_W_writeRow_S4 at hf
  have key : ∀ t : Nat, (∀ (σ0 : gS) (H : Heap) (locs : List Loc) (ls : Array Slot), R_W_writeRow_S4 t 0 [] σ0 = some (r, σ') → va_P X vwCl (cW cI cC cZ a σ0) H → va_D A (cW cI cC cZ a σ0) → va_S A s.heap H locs → lv_has ls 3 [(0, .ref (a 17)), (1, .ref (aK 4))] → W p l e (headSpec w_W_writeRow { frames := 4, cells := 0, slots := 0, locals := 85 }).room s m [.ref (a 17), .ref (aK 4)].toArray below meth c H locs 0 0 (MQ below (gQv X vwCl (cW cI cC cZ a σ) sz (fun (_ : Unit) => True) (fun _ => cW cI cC cZ a σ')) [.ref (a 17), .ref (aK 4)].toArray s 0 0 (va_A (cW cI cC cZ a σ) sz)) (F0 m 0 ls [])) ∧ (∀ (x2 : Int32) (σ0 : gS) (H : Heap) (locs : List Loc) (ls : Array Slot), R_W_writeRow_S4 t 1 [x2] σ0 = some (r, σ') → va_P X vwCl (cW cI cC cZ a σ0) H → va_D A (cW cI cC cZ a σ0) → va_S A s.heap H locs → lv_has ls 3 [(0, .ref (a 17)), (1, .ref (aK 4)), (2, .int x2)] → W p l e (headSpec w_W_writeRow { frames := 4, cells := 0, slots := 0, locals := 85 }).room s m [.ref (a 17), .ref (aK 4)].toArray below meth c H locs 0 0 (MQ below (gQv X vwCl (cW cI cC cZ a σ) sz (fun (_ : Unit) => True) (fun _ => cW cI cC cZ a σ')) [.ref (a 17), .ref (aK 4)].toArray s 0 0 (va_A (cW cI cC cZ a σ) sz)) (F0 m 2 ls [])) := by
    intro t
    induction t with
    | zero => exact ⟨fun  _ _ _ _ hf => (by have hf : (none : Option (Int32 × gS)) = some (r, σ') := hf; cases hf), fun _ _ _ _ _ hf => (by have hf : (none : Option (Int32 × gS)) = some (r, σ') := hf; cases hf)⟩
    | succ t ih =>
      obtain ⟨ih0, ih1⟩ := ih
      refine ⟨?_, ?_⟩
      · intro  σ0 H locs ls hf hP hD hS hl
        have hf : B_W_writeRow_S4_0 (R_W_writeRow_S4 t)  σ0 = some (r, σ') := hf
        unfold B_W_writeRow_S4_0 at hf
        refine lv_iconst (v := 0) hx hb d_W_writeRow_0 (by decide) ?_
        refine lv_istore_n hx hb d_W_writeRow_1 rfl hl (by decide) rfl (fun ls hl => ?_)
        exact ih1 (0) σ0 _ _ _ hf hP hD hS (lv_sub hl [1, 2, 0] rfl)
      · intro x2 σ0 H locs ls hf hP hD hS hl
        have hf : B_W_writeRow_S4_1 (R_W_writeRow_S4 t) x2 σ0 = some (r, σ') := hf
        unfold B_W_writeRow_S4_1 at hf
        refine lv_iload_n hx hb d_W_writeRow_2 rfl (lv_at hl 2 rfl) ?_
        refine lv_aload_n hx hb d_W_writeRow_3 rfl (lv_at hl 1 rfl) ?_
        refine g_wi (va_runV ⟨hx, hb, hml, hown, hts⟩ (m_Q_length gl_4) (cwV 0 hts (gG4 (fun _ h => List.mem_cons_of_mem _ h) tb_282 tb_81 tb_82 tb_6 tc_Q_length) rfl rfl rfl (by decide +kernel) ⟨Nat.le_of_ble_eq_true rfl, Nat.le_of_ble_eq_true rfl⟩) (g_preQ gl_4 hE hK hP hD hS hA) rfl rfl hl.1 rfl (lv_room (Nat.le_of_ble_eq_true rfl)) d_W_writeRow_4 ⟨Nat.zero_le _, Nat.zero_le _⟩) hD hS hA (fun _ => rfl) (fun y1 _ H locs hu hP hD hS => ?_)
        have hu : y1 = 2 := hu.trans (by decide)
        subst hu
        refine lv_icmp_ge (tgt := 29) hx hb d_W_writeRow_7 rfl (fun c4 => ?_) (fun c4 => ?_)
        · skip
          rw [if_pos c4] at hf
          obtain ⟨-, rfl⟩ := gRt_e hf
          exact g_vret hx hb hr hlocks hAe hS () trivial hP d_W_writeRow_29
        rw [if_neg c4] at hf
        refine lv_aload_n hx hb d_W_writeRow_10 rfl (lv_at hl 0 rfl) ?_
        refine va_get (D := X) (ci := 7) (C := R_W) (T := T_W) (N := 6) hx hb hts u_0 hown hK hP 17 gc_17 rfl 2 (by decide) k_0 (fun _ h9 => h9) rfl d_W_writeRow_11 ?_
        refine lv_aload_n hx hb d_W_writeRow_14 rfl (lv_at hl 1 rfl) ?_
        refine lv_iload_n hx hb d_W_writeRow_15 rfl (lv_at hl 2 rfl) ?_
        obtain ⟨y5, j11, h8, h9, h10, hf⟩ := gChr_e hf (by decide)
        rw [h9]
        refine g_wi (va_runV ⟨hx, hb, hml, hown, hts⟩ (m_Q_charAt gl_4 h8) (cwV 1 hts (gG4 (fun _ h => List.mem_cons_of_mem _ h) tb_283 tb_85 tb_86 tb_6 tc_Q_charAt) rfl rfl rfl (by decide +kernel) ⟨Nat.le_of_ble_eq_true rfl, Nat.le_of_ble_eq_true rfl⟩) (g_preQ gl_4 hE hK hP hD hS hA) rfl rfl hl.1 rfl (lv_room (Nat.le_of_ble_eq_true rfl)) d_W_writeRow_16 ⟨Nat.zero_le _, Nat.zero_le _⟩) hD hS hA (fun _ => rfl) (fun y5 _ H locs hu hP hD hS => ?_)
        have hu : y5 = _ := hu.trans h10.symm
        subst hu
        obtain ⟨y12, σ13, e14, hf⟩ := gBd_e hf
        refine g_wi (va_runV ⟨hx, hb, hml, hown, hts⟩ (m_P_append e14) (cwV 1 hts (gG4 (fun _ h => List.mem_cons_of_mem _ h) tb_284 tb_285 tb_286 tb_38 tc_P_append) rfl rfl rfl (by decide +kernel) ⟨Nat.le_of_ble_eq_true rfl, Nat.le_of_ble_eq_true rfl⟩) (g_preVW (q0 := 7) hE hK hP hD hS hA gc_7 rfl) rfl rfl hl.1 rfl (lv_room (Nat.le_of_ble_eq_true rfl)) d_W_writeRow_19 ⟨Nat.zero_le _, Nat.zero_le _⟩) hD hS hA (fun _ => cW_fst) (fun y12 _ H locs hu hP hD hS => ?_)
        subst hu
        refine lv_pop hx hb d_W_writeRow_22 rfl ?_
        refine lv_iinc (k := 2) (v := (x2 + 1)) hx hb d_W_writeRow_23 hl rfl (by rw [show Int32.ofInt (1) = (1 : Int32) by decide]) (by decide) rfl (fun ls hl => ?_)
        refine lv_goto (tgt := 2) hx hb d_W_writeRow_26 rfl ?_
        exact ih1 ((x2 + 1)) σ13 _ _ _ hf hP hD hS (lv_sub hl [1, 2, 0] rfl)
  exact (key gFuel).1  σ _ _ _ hf hP hD hS hl

def B_W_writeRow_S5_0 (rec : Nat → List Int32 → gS → Option (Int32 × gS)) (σ0 : gS) : Option (Int32 × gS) := rec 1 [0] σ0
def B_W_writeRow_S5_1 (rec : Nat → List Int32 → gS → Option (Int32 × gS)) (x2 : Int32) (σ0 : gS) : Option (Int32 × gS) := if 2 ≤ x2 then (some (0, σ0)) else (gChr 5 x2 (fun y5 => gBd (f_P_append σ0 y5) (fun y12 σ13 => rec 1 [(x2 + 1)] σ13)))
def S_W_writeRow_S5 (rec : Nat → List Int32 → gS → Option (Int32 × gS)) (k : Nat) (l : List Int32) (σ0 : gS) : Option (Int32 × gS) := match k, l with
  | 0, [] => B_W_writeRow_S5_0 rec  σ0
  | 1, [x2] => B_W_writeRow_S5_1 rec x2 σ0
  | _, _ => none
def R_W_writeRow_S5 : Nat → Nat → List Int32 → gS → Option (Int32 × gS)
  | 0 => fun _ _ _ => none
  | t + 1 => fun k l σ0 => S_W_writeRow_S5 (R_W_writeRow_S5 t) k l σ0
def f_W_writeRow_S5 (σ : gS) : Option (Int32 × gS) := R_W_writeRow_S5 gFuel 0 [] σ
set_option maxHeartbeats 4000000 in
set_option maxRecDepth 100000 in
theorem m_W_writeRow_S5 {l : Launch} {X : va_G} {cI cC cZ : ClassId} {aK aV : Nat → Nat} {a : Nat → Nat} {σ σ' : gS} {r : Int32} (hf : f_W_writeRow_S5 σ = some (r, σ')) {sz : Nat} : Met l y_W_writeRow w_W_writeRow { frames := 4, cells := 0, slots := 0, locals := 85 } (gPc X vwCl (gT cI cC cZ) aK aV (cW cI cC cZ a σ) sz [.ref (a 17), .ref (aK 5)]) (gQv X vwCl (cW cI cC cZ a σ) sz (fun (_ : Unit) => True) (fun _ => cW cI cC cZ a σ')) 0 0 (va_A (cW cI cC cZ a σ) sz) := by
  refine g_met (cc := b_W_writeRow) (maxL := 3) (ret := none) (by decide) rfl (Nat.le_of_ble_eq_true rfl) ?_
  intro p e s m below meth c A ls hx hb hr hml hown hts hlocks hnm hsz hAe hA hP hK hD hS hl hE
  have hown : s.vm.findClass R_W = some m.cls := hown
  have u_0 : ∀ w ∈ u_ws R_W T_W 6, w ∈ w_W_writeRow := fun w h => List.mem_cons_of_mem _ (tu_W w h)
  have k_0 := hts (.fieldLink R_W 26 "GraphPages$Writer" "page" "LGraphPages$Page;") (List.mem_cons_of_mem _ tb_287)
  unfold f_W_writeRow_S5 at hf
  have key : ∀ t : Nat, (∀ (σ0 : gS) (H : Heap) (locs : List Loc) (ls : Array Slot), R_W_writeRow_S5 t 0 [] σ0 = some (r, σ') → va_P X vwCl (cW cI cC cZ a σ0) H → va_D A (cW cI cC cZ a σ0) → va_S A s.heap H locs → lv_has ls 3 [(0, .ref (a 17)), (1, .ref (aK 5))] → W p l e (headSpec w_W_writeRow { frames := 4, cells := 0, slots := 0, locals := 85 }).room s m [.ref (a 17), .ref (aK 5)].toArray below meth c H locs 0 0 (MQ below (gQv X vwCl (cW cI cC cZ a σ) sz (fun (_ : Unit) => True) (fun _ => cW cI cC cZ a σ')) [.ref (a 17), .ref (aK 5)].toArray s 0 0 (va_A (cW cI cC cZ a σ) sz)) (F0 m 0 ls [])) ∧ (∀ (x2 : Int32) (σ0 : gS) (H : Heap) (locs : List Loc) (ls : Array Slot), R_W_writeRow_S5 t 1 [x2] σ0 = some (r, σ') → va_P X vwCl (cW cI cC cZ a σ0) H → va_D A (cW cI cC cZ a σ0) → va_S A s.heap H locs → lv_has ls 3 [(0, .ref (a 17)), (1, .ref (aK 5)), (2, .int x2)] → W p l e (headSpec w_W_writeRow { frames := 4, cells := 0, slots := 0, locals := 85 }).room s m [.ref (a 17), .ref (aK 5)].toArray below meth c H locs 0 0 (MQ below (gQv X vwCl (cW cI cC cZ a σ) sz (fun (_ : Unit) => True) (fun _ => cW cI cC cZ a σ')) [.ref (a 17), .ref (aK 5)].toArray s 0 0 (va_A (cW cI cC cZ a σ) sz)) (F0 m 2 ls [])) := by
    intro t
    induction t with
    | zero => exact ⟨fun  _ _ _ _ hf => (by have hf : (none : Option (Int32 × gS)) = some (r, σ') := hf; cases hf), fun _ _ _ _ _ hf => (by have hf : (none : Option (Int32 × gS)) = some (r, σ') := hf; cases hf)⟩
    | succ t ih =>
      obtain ⟨ih0, ih1⟩ := ih
      refine ⟨?_, ?_⟩
      · intro  σ0 H locs ls hf hP hD hS hl
        have hf : B_W_writeRow_S5_0 (R_W_writeRow_S5 t)  σ0 = some (r, σ') := hf
        unfold B_W_writeRow_S5_0 at hf
        refine lv_iconst (v := 0) hx hb d_W_writeRow_0 (by decide) ?_
        refine lv_istore_n hx hb d_W_writeRow_1 rfl hl (by decide) rfl (fun ls hl => ?_)
        exact ih1 (0) σ0 _ _ _ hf hP hD hS (lv_sub hl [1, 2, 0] rfl)
      · intro x2 σ0 H locs ls hf hP hD hS hl
        have hf : B_W_writeRow_S5_1 (R_W_writeRow_S5 t) x2 σ0 = some (r, σ') := hf
        unfold B_W_writeRow_S5_1 at hf
        refine lv_iload_n hx hb d_W_writeRow_2 rfl (lv_at hl 2 rfl) ?_
        refine lv_aload_n hx hb d_W_writeRow_3 rfl (lv_at hl 1 rfl) ?_
        refine g_wi (va_runV ⟨hx, hb, hml, hown, hts⟩ (m_Q_length gl_5) (cwV 0 hts (gG4 (fun _ h => List.mem_cons_of_mem _ h) tb_282 tb_81 tb_82 tb_6 tc_Q_length) rfl rfl rfl (by decide +kernel) ⟨Nat.le_of_ble_eq_true rfl, Nat.le_of_ble_eq_true rfl⟩) (g_preQ gl_5 hE hK hP hD hS hA) rfl rfl hl.1 rfl (lv_room (Nat.le_of_ble_eq_true rfl)) d_W_writeRow_4 ⟨Nat.zero_le _, Nat.zero_le _⟩) hD hS hA (fun _ => rfl) (fun y1 _ H locs hu hP hD hS => ?_)
        have hu : y1 = 2 := hu.trans (by decide)
        subst hu
        refine lv_icmp_ge (tgt := 29) hx hb d_W_writeRow_7 rfl (fun c4 => ?_) (fun c4 => ?_)
        · skip
          rw [if_pos c4] at hf
          obtain ⟨-, rfl⟩ := gRt_e hf
          exact g_vret hx hb hr hlocks hAe hS () trivial hP d_W_writeRow_29
        rw [if_neg c4] at hf
        refine lv_aload_n hx hb d_W_writeRow_10 rfl (lv_at hl 0 rfl) ?_
        refine va_get (D := X) (ci := 7) (C := R_W) (T := T_W) (N := 6) hx hb hts u_0 hown hK hP 17 gc_17 rfl 2 (by decide) k_0 (fun _ h9 => h9) rfl d_W_writeRow_11 ?_
        refine lv_aload_n hx hb d_W_writeRow_14 rfl (lv_at hl 1 rfl) ?_
        refine lv_iload_n hx hb d_W_writeRow_15 rfl (lv_at hl 2 rfl) ?_
        obtain ⟨y5, j11, h8, h9, h10, hf⟩ := gChr_e hf (by decide)
        rw [h9]
        refine g_wi (va_runV ⟨hx, hb, hml, hown, hts⟩ (m_Q_charAt gl_5 h8) (cwV 1 hts (gG4 (fun _ h => List.mem_cons_of_mem _ h) tb_283 tb_85 tb_86 tb_6 tc_Q_charAt) rfl rfl rfl (by decide +kernel) ⟨Nat.le_of_ble_eq_true rfl, Nat.le_of_ble_eq_true rfl⟩) (g_preQ gl_5 hE hK hP hD hS hA) rfl rfl hl.1 rfl (lv_room (Nat.le_of_ble_eq_true rfl)) d_W_writeRow_16 ⟨Nat.zero_le _, Nat.zero_le _⟩) hD hS hA (fun _ => rfl) (fun y5 _ H locs hu hP hD hS => ?_)
        have hu : y5 = _ := hu.trans h10.symm
        subst hu
        obtain ⟨y12, σ13, e14, hf⟩ := gBd_e hf
        refine g_wi (va_runV ⟨hx, hb, hml, hown, hts⟩ (m_P_append e14) (cwV 1 hts (gG4 (fun _ h => List.mem_cons_of_mem _ h) tb_284 tb_285 tb_286 tb_38 tc_P_append) rfl rfl rfl (by decide +kernel) ⟨Nat.le_of_ble_eq_true rfl, Nat.le_of_ble_eq_true rfl⟩) (g_preVW (q0 := 7) hE hK hP hD hS hA gc_7 rfl) rfl rfl hl.1 rfl (lv_room (Nat.le_of_ble_eq_true rfl)) d_W_writeRow_19 ⟨Nat.zero_le _, Nat.zero_le _⟩) hD hS hA (fun _ => cW_fst) (fun y12 _ H locs hu hP hD hS => ?_)
        subst hu
        refine lv_pop hx hb d_W_writeRow_22 rfl ?_
        refine lv_iinc (k := 2) (v := (x2 + 1)) hx hb d_W_writeRow_23 hl rfl (by rw [show Int32.ofInt (1) = (1 : Int32) by decide]) (by decide) rfl (fun ls hl => ?_)
        refine lv_goto (tgt := 2) hx hb d_W_writeRow_26 rfl ?_
        exact ih1 ((x2 + 1)) σ13 _ _ _ hf hP hD hS (lv_sub hl [1, 2, 0] rfl)
  exact (key gFuel).1  σ _ _ _ hf hP hD hS hl

def B_W_writeRow_S6_0 (rec : Nat → List Int32 → gS → Option (Int32 × gS)) (σ0 : gS) : Option (Int32 × gS) := rec 1 [0] σ0
def B_W_writeRow_S6_1 (rec : Nat → List Int32 → gS → Option (Int32 × gS)) (x2 : Int32) (σ0 : gS) : Option (Int32 × gS) := if 2 ≤ x2 then (some (0, σ0)) else (gChr 6 x2 (fun y5 => gBd (f_P_append σ0 y5) (fun y12 σ13 => rec 1 [(x2 + 1)] σ13)))
def S_W_writeRow_S6 (rec : Nat → List Int32 → gS → Option (Int32 × gS)) (k : Nat) (l : List Int32) (σ0 : gS) : Option (Int32 × gS) := match k, l with
  | 0, [] => B_W_writeRow_S6_0 rec  σ0
  | 1, [x2] => B_W_writeRow_S6_1 rec x2 σ0
  | _, _ => none
def R_W_writeRow_S6 : Nat → Nat → List Int32 → gS → Option (Int32 × gS)
  | 0 => fun _ _ _ => none
  | t + 1 => fun k l σ0 => S_W_writeRow_S6 (R_W_writeRow_S6 t) k l σ0
def f_W_writeRow_S6 (σ : gS) : Option (Int32 × gS) := R_W_writeRow_S6 gFuel 0 [] σ
set_option maxHeartbeats 4000000 in
set_option maxRecDepth 100000 in
theorem m_W_writeRow_S6 {l : Launch} {X : va_G} {cI cC cZ : ClassId} {aK aV : Nat → Nat} {a : Nat → Nat} {σ σ' : gS} {r : Int32} (hf : f_W_writeRow_S6 σ = some (r, σ')) {sz : Nat} : Met l y_W_writeRow w_W_writeRow { frames := 4, cells := 0, slots := 0, locals := 85 } (gPc X vwCl (gT cI cC cZ) aK aV (cW cI cC cZ a σ) sz [.ref (a 17), .ref (aK 6)]) (gQv X vwCl (cW cI cC cZ a σ) sz (fun (_ : Unit) => True) (fun _ => cW cI cC cZ a σ')) 0 0 (va_A (cW cI cC cZ a σ) sz) := by
  refine g_met (cc := b_W_writeRow) (maxL := 3) (ret := none) (by decide) rfl (Nat.le_of_ble_eq_true rfl) ?_
  intro p e s m below meth c A ls hx hb hr hml hown hts hlocks hnm hsz hAe hA hP hK hD hS hl hE
  have hown : s.vm.findClass R_W = some m.cls := hown
  have u_0 : ∀ w ∈ u_ws R_W T_W 6, w ∈ w_W_writeRow := fun w h => List.mem_cons_of_mem _ (tu_W w h)
  have k_0 := hts (.fieldLink R_W 26 "GraphPages$Writer" "page" "LGraphPages$Page;") (List.mem_cons_of_mem _ tb_287)
  unfold f_W_writeRow_S6 at hf
  have key : ∀ t : Nat, (∀ (σ0 : gS) (H : Heap) (locs : List Loc) (ls : Array Slot), R_W_writeRow_S6 t 0 [] σ0 = some (r, σ') → va_P X vwCl (cW cI cC cZ a σ0) H → va_D A (cW cI cC cZ a σ0) → va_S A s.heap H locs → lv_has ls 3 [(0, .ref (a 17)), (1, .ref (aK 6))] → W p l e (headSpec w_W_writeRow { frames := 4, cells := 0, slots := 0, locals := 85 }).room s m [.ref (a 17), .ref (aK 6)].toArray below meth c H locs 0 0 (MQ below (gQv X vwCl (cW cI cC cZ a σ) sz (fun (_ : Unit) => True) (fun _ => cW cI cC cZ a σ')) [.ref (a 17), .ref (aK 6)].toArray s 0 0 (va_A (cW cI cC cZ a σ) sz)) (F0 m 0 ls [])) ∧ (∀ (x2 : Int32) (σ0 : gS) (H : Heap) (locs : List Loc) (ls : Array Slot), R_W_writeRow_S6 t 1 [x2] σ0 = some (r, σ') → va_P X vwCl (cW cI cC cZ a σ0) H → va_D A (cW cI cC cZ a σ0) → va_S A s.heap H locs → lv_has ls 3 [(0, .ref (a 17)), (1, .ref (aK 6)), (2, .int x2)] → W p l e (headSpec w_W_writeRow { frames := 4, cells := 0, slots := 0, locals := 85 }).room s m [.ref (a 17), .ref (aK 6)].toArray below meth c H locs 0 0 (MQ below (gQv X vwCl (cW cI cC cZ a σ) sz (fun (_ : Unit) => True) (fun _ => cW cI cC cZ a σ')) [.ref (a 17), .ref (aK 6)].toArray s 0 0 (va_A (cW cI cC cZ a σ) sz)) (F0 m 2 ls [])) := by
    intro t
    induction t with
    | zero => exact ⟨fun  _ _ _ _ hf => (by have hf : (none : Option (Int32 × gS)) = some (r, σ') := hf; cases hf), fun _ _ _ _ _ hf => (by have hf : (none : Option (Int32 × gS)) = some (r, σ') := hf; cases hf)⟩
    | succ t ih =>
      obtain ⟨ih0, ih1⟩ := ih
      refine ⟨?_, ?_⟩
      · intro  σ0 H locs ls hf hP hD hS hl
        have hf : B_W_writeRow_S6_0 (R_W_writeRow_S6 t)  σ0 = some (r, σ') := hf
        unfold B_W_writeRow_S6_0 at hf
        refine lv_iconst (v := 0) hx hb d_W_writeRow_0 (by decide) ?_
        refine lv_istore_n hx hb d_W_writeRow_1 rfl hl (by decide) rfl (fun ls hl => ?_)
        exact ih1 (0) σ0 _ _ _ hf hP hD hS (lv_sub hl [1, 2, 0] rfl)
      · intro x2 σ0 H locs ls hf hP hD hS hl
        have hf : B_W_writeRow_S6_1 (R_W_writeRow_S6 t) x2 σ0 = some (r, σ') := hf
        unfold B_W_writeRow_S6_1 at hf
        refine lv_iload_n hx hb d_W_writeRow_2 rfl (lv_at hl 2 rfl) ?_
        refine lv_aload_n hx hb d_W_writeRow_3 rfl (lv_at hl 1 rfl) ?_
        refine g_wi (va_runV ⟨hx, hb, hml, hown, hts⟩ (m_Q_length gl_6) (cwV 0 hts (gG4 (fun _ h => List.mem_cons_of_mem _ h) tb_282 tb_81 tb_82 tb_6 tc_Q_length) rfl rfl rfl (by decide +kernel) ⟨Nat.le_of_ble_eq_true rfl, Nat.le_of_ble_eq_true rfl⟩) (g_preQ gl_6 hE hK hP hD hS hA) rfl rfl hl.1 rfl (lv_room (Nat.le_of_ble_eq_true rfl)) d_W_writeRow_4 ⟨Nat.zero_le _, Nat.zero_le _⟩) hD hS hA (fun _ => rfl) (fun y1 _ H locs hu hP hD hS => ?_)
        have hu : y1 = 2 := hu.trans (by decide)
        subst hu
        refine lv_icmp_ge (tgt := 29) hx hb d_W_writeRow_7 rfl (fun c4 => ?_) (fun c4 => ?_)
        · skip
          rw [if_pos c4] at hf
          obtain ⟨-, rfl⟩ := gRt_e hf
          exact g_vret hx hb hr hlocks hAe hS () trivial hP d_W_writeRow_29
        rw [if_neg c4] at hf
        refine lv_aload_n hx hb d_W_writeRow_10 rfl (lv_at hl 0 rfl) ?_
        refine va_get (D := X) (ci := 7) (C := R_W) (T := T_W) (N := 6) hx hb hts u_0 hown hK hP 17 gc_17 rfl 2 (by decide) k_0 (fun _ h9 => h9) rfl d_W_writeRow_11 ?_
        refine lv_aload_n hx hb d_W_writeRow_14 rfl (lv_at hl 1 rfl) ?_
        refine lv_iload_n hx hb d_W_writeRow_15 rfl (lv_at hl 2 rfl) ?_
        obtain ⟨y5, j11, h8, h9, h10, hf⟩ := gChr_e hf (by decide)
        rw [h9]
        refine g_wi (va_runV ⟨hx, hb, hml, hown, hts⟩ (m_Q_charAt gl_6 h8) (cwV 1 hts (gG4 (fun _ h => List.mem_cons_of_mem _ h) tb_283 tb_85 tb_86 tb_6 tc_Q_charAt) rfl rfl rfl (by decide +kernel) ⟨Nat.le_of_ble_eq_true rfl, Nat.le_of_ble_eq_true rfl⟩) (g_preQ gl_6 hE hK hP hD hS hA) rfl rfl hl.1 rfl (lv_room (Nat.le_of_ble_eq_true rfl)) d_W_writeRow_16 ⟨Nat.zero_le _, Nat.zero_le _⟩) hD hS hA (fun _ => rfl) (fun y5 _ H locs hu hP hD hS => ?_)
        have hu : y5 = _ := hu.trans h10.symm
        subst hu
        obtain ⟨y12, σ13, e14, hf⟩ := gBd_e hf
        refine g_wi (va_runV ⟨hx, hb, hml, hown, hts⟩ (m_P_append e14) (cwV 1 hts (gG4 (fun _ h => List.mem_cons_of_mem _ h) tb_284 tb_285 tb_286 tb_38 tc_P_append) rfl rfl rfl (by decide +kernel) ⟨Nat.le_of_ble_eq_true rfl, Nat.le_of_ble_eq_true rfl⟩) (g_preVW (q0 := 7) hE hK hP hD hS hA gc_7 rfl) rfl rfl hl.1 rfl (lv_room (Nat.le_of_ble_eq_true rfl)) d_W_writeRow_19 ⟨Nat.zero_le _, Nat.zero_le _⟩) hD hS hA (fun _ => cW_fst) (fun y12 _ H locs hu hP hD hS => ?_)
        subst hu
        refine lv_pop hx hb d_W_writeRow_22 rfl ?_
        refine lv_iinc (k := 2) (v := (x2 + 1)) hx hb d_W_writeRow_23 hl rfl (by rw [show Int32.ofInt (1) = (1 : Int32) by decide]) (by decide) rfl (fun ls hl => ?_)
        refine lv_goto (tgt := 2) hx hb d_W_writeRow_26 rfl ?_
        exact ih1 ((x2 + 1)) σ13 _ _ _ hf hP hD hS (lv_sub hl [1, 2, 0] rfl)
  exact (key gFuel).1  σ _ _ _ hf hP hD hS hl

def B_W_writeRow_S7_0 (rec : Nat → List Int32 → gS → Option (Int32 × gS)) (σ0 : gS) : Option (Int32 × gS) := rec 1 [0] σ0
def B_W_writeRow_S7_1 (rec : Nat → List Int32 → gS → Option (Int32 × gS)) (x2 : Int32) (σ0 : gS) : Option (Int32 × gS) := if 2 ≤ x2 then (some (0, σ0)) else (gChr 7 x2 (fun y5 => gBd (f_P_append σ0 y5) (fun y12 σ13 => rec 1 [(x2 + 1)] σ13)))
def S_W_writeRow_S7 (rec : Nat → List Int32 → gS → Option (Int32 × gS)) (k : Nat) (l : List Int32) (σ0 : gS) : Option (Int32 × gS) := match k, l with
  | 0, [] => B_W_writeRow_S7_0 rec  σ0
  | 1, [x2] => B_W_writeRow_S7_1 rec x2 σ0
  | _, _ => none
def R_W_writeRow_S7 : Nat → Nat → List Int32 → gS → Option (Int32 × gS)
  | 0 => fun _ _ _ => none
  | t + 1 => fun k l σ0 => S_W_writeRow_S7 (R_W_writeRow_S7 t) k l σ0
def f_W_writeRow_S7 (σ : gS) : Option (Int32 × gS) := R_W_writeRow_S7 gFuel 0 [] σ
set_option maxHeartbeats 4000000 in
set_option maxRecDepth 100000 in
theorem m_W_writeRow_S7 {l : Launch} {X : va_G} {cI cC cZ : ClassId} {aK aV : Nat → Nat} {a : Nat → Nat} {σ σ' : gS} {r : Int32} (hf : f_W_writeRow_S7 σ = some (r, σ')) {sz : Nat} : Met l y_W_writeRow w_W_writeRow { frames := 4, cells := 0, slots := 0, locals := 85 } (gPc X vwCl (gT cI cC cZ) aK aV (cW cI cC cZ a σ) sz [.ref (a 17), .ref (aK 7)]) (gQv X vwCl (cW cI cC cZ a σ) sz (fun (_ : Unit) => True) (fun _ => cW cI cC cZ a σ')) 0 0 (va_A (cW cI cC cZ a σ) sz) := by
  refine g_met (cc := b_W_writeRow) (maxL := 3) (ret := none) (by decide) rfl (Nat.le_of_ble_eq_true rfl) ?_
  intro p e s m below meth c A ls hx hb hr hml hown hts hlocks hnm hsz hAe hA hP hK hD hS hl hE
  have hown : s.vm.findClass R_W = some m.cls := hown
  have u_0 : ∀ w ∈ u_ws R_W T_W 6, w ∈ w_W_writeRow := fun w h => List.mem_cons_of_mem _ (tu_W w h)
  have k_0 := hts (.fieldLink R_W 26 "GraphPages$Writer" "page" "LGraphPages$Page;") (List.mem_cons_of_mem _ tb_287)
  unfold f_W_writeRow_S7 at hf
  have key : ∀ t : Nat, (∀ (σ0 : gS) (H : Heap) (locs : List Loc) (ls : Array Slot), R_W_writeRow_S7 t 0 [] σ0 = some (r, σ') → va_P X vwCl (cW cI cC cZ a σ0) H → va_D A (cW cI cC cZ a σ0) → va_S A s.heap H locs → lv_has ls 3 [(0, .ref (a 17)), (1, .ref (aK 7))] → W p l e (headSpec w_W_writeRow { frames := 4, cells := 0, slots := 0, locals := 85 }).room s m [.ref (a 17), .ref (aK 7)].toArray below meth c H locs 0 0 (MQ below (gQv X vwCl (cW cI cC cZ a σ) sz (fun (_ : Unit) => True) (fun _ => cW cI cC cZ a σ')) [.ref (a 17), .ref (aK 7)].toArray s 0 0 (va_A (cW cI cC cZ a σ) sz)) (F0 m 0 ls [])) ∧ (∀ (x2 : Int32) (σ0 : gS) (H : Heap) (locs : List Loc) (ls : Array Slot), R_W_writeRow_S7 t 1 [x2] σ0 = some (r, σ') → va_P X vwCl (cW cI cC cZ a σ0) H → va_D A (cW cI cC cZ a σ0) → va_S A s.heap H locs → lv_has ls 3 [(0, .ref (a 17)), (1, .ref (aK 7)), (2, .int x2)] → W p l e (headSpec w_W_writeRow { frames := 4, cells := 0, slots := 0, locals := 85 }).room s m [.ref (a 17), .ref (aK 7)].toArray below meth c H locs 0 0 (MQ below (gQv X vwCl (cW cI cC cZ a σ) sz (fun (_ : Unit) => True) (fun _ => cW cI cC cZ a σ')) [.ref (a 17), .ref (aK 7)].toArray s 0 0 (va_A (cW cI cC cZ a σ) sz)) (F0 m 2 ls [])) := by
    intro t
    induction t with
    | zero => exact ⟨fun  _ _ _ _ hf => (by have hf : (none : Option (Int32 × gS)) = some (r, σ') := hf; cases hf), fun _ _ _ _ _ hf => (by have hf : (none : Option (Int32 × gS)) = some (r, σ') := hf; cases hf)⟩
    | succ t ih =>
      obtain ⟨ih0, ih1⟩ := ih
      refine ⟨?_, ?_⟩
      · intro  σ0 H locs ls hf hP hD hS hl
        have hf : B_W_writeRow_S7_0 (R_W_writeRow_S7 t)  σ0 = some (r, σ') := hf
        unfold B_W_writeRow_S7_0 at hf
        refine lv_iconst (v := 0) hx hb d_W_writeRow_0 (by decide) ?_
        refine lv_istore_n hx hb d_W_writeRow_1 rfl hl (by decide) rfl (fun ls hl => ?_)
        exact ih1 (0) σ0 _ _ _ hf hP hD hS (lv_sub hl [1, 2, 0] rfl)
      · intro x2 σ0 H locs ls hf hP hD hS hl
        have hf : B_W_writeRow_S7_1 (R_W_writeRow_S7 t) x2 σ0 = some (r, σ') := hf
        unfold B_W_writeRow_S7_1 at hf
        refine lv_iload_n hx hb d_W_writeRow_2 rfl (lv_at hl 2 rfl) ?_
        refine lv_aload_n hx hb d_W_writeRow_3 rfl (lv_at hl 1 rfl) ?_
        refine g_wi (va_runV ⟨hx, hb, hml, hown, hts⟩ (m_Q_length gl_7) (cwV 0 hts (gG4 (fun _ h => List.mem_cons_of_mem _ h) tb_282 tb_81 tb_82 tb_6 tc_Q_length) rfl rfl rfl (by decide +kernel) ⟨Nat.le_of_ble_eq_true rfl, Nat.le_of_ble_eq_true rfl⟩) (g_preQ gl_7 hE hK hP hD hS hA) rfl rfl hl.1 rfl (lv_room (Nat.le_of_ble_eq_true rfl)) d_W_writeRow_4 ⟨Nat.zero_le _, Nat.zero_le _⟩) hD hS hA (fun _ => rfl) (fun y1 _ H locs hu hP hD hS => ?_)
        have hu : y1 = 2 := hu.trans (by decide)
        subst hu
        refine lv_icmp_ge (tgt := 29) hx hb d_W_writeRow_7 rfl (fun c4 => ?_) (fun c4 => ?_)
        · skip
          rw [if_pos c4] at hf
          obtain ⟨-, rfl⟩ := gRt_e hf
          exact g_vret hx hb hr hlocks hAe hS () trivial hP d_W_writeRow_29
        rw [if_neg c4] at hf
        refine lv_aload_n hx hb d_W_writeRow_10 rfl (lv_at hl 0 rfl) ?_
        refine va_get (D := X) (ci := 7) (C := R_W) (T := T_W) (N := 6) hx hb hts u_0 hown hK hP 17 gc_17 rfl 2 (by decide) k_0 (fun _ h9 => h9) rfl d_W_writeRow_11 ?_
        refine lv_aload_n hx hb d_W_writeRow_14 rfl (lv_at hl 1 rfl) ?_
        refine lv_iload_n hx hb d_W_writeRow_15 rfl (lv_at hl 2 rfl) ?_
        obtain ⟨y5, j11, h8, h9, h10, hf⟩ := gChr_e hf (by decide)
        rw [h9]
        refine g_wi (va_runV ⟨hx, hb, hml, hown, hts⟩ (m_Q_charAt gl_7 h8) (cwV 1 hts (gG4 (fun _ h => List.mem_cons_of_mem _ h) tb_283 tb_85 tb_86 tb_6 tc_Q_charAt) rfl rfl rfl (by decide +kernel) ⟨Nat.le_of_ble_eq_true rfl, Nat.le_of_ble_eq_true rfl⟩) (g_preQ gl_7 hE hK hP hD hS hA) rfl rfl hl.1 rfl (lv_room (Nat.le_of_ble_eq_true rfl)) d_W_writeRow_16 ⟨Nat.zero_le _, Nat.zero_le _⟩) hD hS hA (fun _ => rfl) (fun y5 _ H locs hu hP hD hS => ?_)
        have hu : y5 = _ := hu.trans h10.symm
        subst hu
        obtain ⟨y12, σ13, e14, hf⟩ := gBd_e hf
        refine g_wi (va_runV ⟨hx, hb, hml, hown, hts⟩ (m_P_append e14) (cwV 1 hts (gG4 (fun _ h => List.mem_cons_of_mem _ h) tb_284 tb_285 tb_286 tb_38 tc_P_append) rfl rfl rfl (by decide +kernel) ⟨Nat.le_of_ble_eq_true rfl, Nat.le_of_ble_eq_true rfl⟩) (g_preVW (q0 := 7) hE hK hP hD hS hA gc_7 rfl) rfl rfl hl.1 rfl (lv_room (Nat.le_of_ble_eq_true rfl)) d_W_writeRow_19 ⟨Nat.zero_le _, Nat.zero_le _⟩) hD hS hA (fun _ => cW_fst) (fun y12 _ H locs hu hP hD hS => ?_)
        subst hu
        refine lv_pop hx hb d_W_writeRow_22 rfl ?_
        refine lv_iinc (k := 2) (v := (x2 + 1)) hx hb d_W_writeRow_23 hl rfl (by rw [show Int32.ofInt (1) = (1 : Int32) by decide]) (by decide) rfl (fun ls hl => ?_)
        refine lv_goto (tgt := 2) hx hb d_W_writeRow_26 rfl ?_
        exact ih1 ((x2 + 1)) σ13 _ _ _ hf hP hD hS (lv_sub hl [1, 2, 0] rfl)
  exact (key gFuel).1  σ _ _ _ hf hP hD hS hl

def B_W_writeRow_S8_0 (rec : Nat → List Int32 → gS → Option (Int32 × gS)) (σ0 : gS) : Option (Int32 × gS) := rec 1 [0] σ0
def B_W_writeRow_S8_1 (rec : Nat → List Int32 → gS → Option (Int32 × gS)) (x2 : Int32) (σ0 : gS) : Option (Int32 × gS) := if 2 ≤ x2 then (some (0, σ0)) else (gChr 8 x2 (fun y5 => gBd (f_P_append σ0 y5) (fun y12 σ13 => rec 1 [(x2 + 1)] σ13)))
def S_W_writeRow_S8 (rec : Nat → List Int32 → gS → Option (Int32 × gS)) (k : Nat) (l : List Int32) (σ0 : gS) : Option (Int32 × gS) := match k, l with
  | 0, [] => B_W_writeRow_S8_0 rec  σ0
  | 1, [x2] => B_W_writeRow_S8_1 rec x2 σ0
  | _, _ => none
def R_W_writeRow_S8 : Nat → Nat → List Int32 → gS → Option (Int32 × gS)
  | 0 => fun _ _ _ => none
  | t + 1 => fun k l σ0 => S_W_writeRow_S8 (R_W_writeRow_S8 t) k l σ0
def f_W_writeRow_S8 (σ : gS) : Option (Int32 × gS) := R_W_writeRow_S8 gFuel 0 [] σ
set_option maxHeartbeats 4000000 in
set_option maxRecDepth 100000 in
theorem m_W_writeRow_S8 {l : Launch} {X : va_G} {cI cC cZ : ClassId} {aK aV : Nat → Nat} {a : Nat → Nat} {σ σ' : gS} {r : Int32} (hf : f_W_writeRow_S8 σ = some (r, σ')) {sz : Nat} : Met l y_W_writeRow w_W_writeRow { frames := 4, cells := 0, slots := 0, locals := 85 } (gPc X vwCl (gT cI cC cZ) aK aV (cW cI cC cZ a σ) sz [.ref (a 17), .ref (aK 8)]) (gQv X vwCl (cW cI cC cZ a σ) sz (fun (_ : Unit) => True) (fun _ => cW cI cC cZ a σ')) 0 0 (va_A (cW cI cC cZ a σ) sz) := by
  refine g_met (cc := b_W_writeRow) (maxL := 3) (ret := none) (by decide) rfl (Nat.le_of_ble_eq_true rfl) ?_
  intro p e s m below meth c A ls hx hb hr hml hown hts hlocks hnm hsz hAe hA hP hK hD hS hl hE
  have hown : s.vm.findClass R_W = some m.cls := hown
  have u_0 : ∀ w ∈ u_ws R_W T_W 6, w ∈ w_W_writeRow := fun w h => List.mem_cons_of_mem _ (tu_W w h)
  have k_0 := hts (.fieldLink R_W 26 "GraphPages$Writer" "page" "LGraphPages$Page;") (List.mem_cons_of_mem _ tb_287)
  unfold f_W_writeRow_S8 at hf
  have key : ∀ t : Nat, (∀ (σ0 : gS) (H : Heap) (locs : List Loc) (ls : Array Slot), R_W_writeRow_S8 t 0 [] σ0 = some (r, σ') → va_P X vwCl (cW cI cC cZ a σ0) H → va_D A (cW cI cC cZ a σ0) → va_S A s.heap H locs → lv_has ls 3 [(0, .ref (a 17)), (1, .ref (aK 8))] → W p l e (headSpec w_W_writeRow { frames := 4, cells := 0, slots := 0, locals := 85 }).room s m [.ref (a 17), .ref (aK 8)].toArray below meth c H locs 0 0 (MQ below (gQv X vwCl (cW cI cC cZ a σ) sz (fun (_ : Unit) => True) (fun _ => cW cI cC cZ a σ')) [.ref (a 17), .ref (aK 8)].toArray s 0 0 (va_A (cW cI cC cZ a σ) sz)) (F0 m 0 ls [])) ∧ (∀ (x2 : Int32) (σ0 : gS) (H : Heap) (locs : List Loc) (ls : Array Slot), R_W_writeRow_S8 t 1 [x2] σ0 = some (r, σ') → va_P X vwCl (cW cI cC cZ a σ0) H → va_D A (cW cI cC cZ a σ0) → va_S A s.heap H locs → lv_has ls 3 [(0, .ref (a 17)), (1, .ref (aK 8)), (2, .int x2)] → W p l e (headSpec w_W_writeRow { frames := 4, cells := 0, slots := 0, locals := 85 }).room s m [.ref (a 17), .ref (aK 8)].toArray below meth c H locs 0 0 (MQ below (gQv X vwCl (cW cI cC cZ a σ) sz (fun (_ : Unit) => True) (fun _ => cW cI cC cZ a σ')) [.ref (a 17), .ref (aK 8)].toArray s 0 0 (va_A (cW cI cC cZ a σ) sz)) (F0 m 2 ls [])) := by
    intro t
    induction t with
    | zero => exact ⟨fun  _ _ _ _ hf => (by have hf : (none : Option (Int32 × gS)) = some (r, σ') := hf; cases hf), fun _ _ _ _ _ hf => (by have hf : (none : Option (Int32 × gS)) = some (r, σ') := hf; cases hf)⟩
    | succ t ih =>
      obtain ⟨ih0, ih1⟩ := ih
      refine ⟨?_, ?_⟩
      · intro  σ0 H locs ls hf hP hD hS hl
        have hf : B_W_writeRow_S8_0 (R_W_writeRow_S8 t)  σ0 = some (r, σ') := hf
        unfold B_W_writeRow_S8_0 at hf
        refine lv_iconst (v := 0) hx hb d_W_writeRow_0 (by decide) ?_
        refine lv_istore_n hx hb d_W_writeRow_1 rfl hl (by decide) rfl (fun ls hl => ?_)
        exact ih1 (0) σ0 _ _ _ hf hP hD hS (lv_sub hl [1, 2, 0] rfl)
      · intro x2 σ0 H locs ls hf hP hD hS hl
        have hf : B_W_writeRow_S8_1 (R_W_writeRow_S8 t) x2 σ0 = some (r, σ') := hf
        unfold B_W_writeRow_S8_1 at hf
        refine lv_iload_n hx hb d_W_writeRow_2 rfl (lv_at hl 2 rfl) ?_
        refine lv_aload_n hx hb d_W_writeRow_3 rfl (lv_at hl 1 rfl) ?_
        refine g_wi (va_runV ⟨hx, hb, hml, hown, hts⟩ (m_Q_length gl_8) (cwV 0 hts (gG4 (fun _ h => List.mem_cons_of_mem _ h) tb_282 tb_81 tb_82 tb_6 tc_Q_length) rfl rfl rfl (by decide +kernel) ⟨Nat.le_of_ble_eq_true rfl, Nat.le_of_ble_eq_true rfl⟩) (g_preQ gl_8 hE hK hP hD hS hA) rfl rfl hl.1 rfl (lv_room (Nat.le_of_ble_eq_true rfl)) d_W_writeRow_4 ⟨Nat.zero_le _, Nat.zero_le _⟩) hD hS hA (fun _ => rfl) (fun y1 _ H locs hu hP hD hS => ?_)
        have hu : y1 = 2 := hu.trans (by decide)
        subst hu
        refine lv_icmp_ge (tgt := 29) hx hb d_W_writeRow_7 rfl (fun c4 => ?_) (fun c4 => ?_)
        · skip
          rw [if_pos c4] at hf
          obtain ⟨-, rfl⟩ := gRt_e hf
          exact g_vret hx hb hr hlocks hAe hS () trivial hP d_W_writeRow_29
        rw [if_neg c4] at hf
        refine lv_aload_n hx hb d_W_writeRow_10 rfl (lv_at hl 0 rfl) ?_
        refine va_get (D := X) (ci := 7) (C := R_W) (T := T_W) (N := 6) hx hb hts u_0 hown hK hP 17 gc_17 rfl 2 (by decide) k_0 (fun _ h9 => h9) rfl d_W_writeRow_11 ?_
        refine lv_aload_n hx hb d_W_writeRow_14 rfl (lv_at hl 1 rfl) ?_
        refine lv_iload_n hx hb d_W_writeRow_15 rfl (lv_at hl 2 rfl) ?_
        obtain ⟨y5, j11, h8, h9, h10, hf⟩ := gChr_e hf (by decide)
        rw [h9]
        refine g_wi (va_runV ⟨hx, hb, hml, hown, hts⟩ (m_Q_charAt gl_8 h8) (cwV 1 hts (gG4 (fun _ h => List.mem_cons_of_mem _ h) tb_283 tb_85 tb_86 tb_6 tc_Q_charAt) rfl rfl rfl (by decide +kernel) ⟨Nat.le_of_ble_eq_true rfl, Nat.le_of_ble_eq_true rfl⟩) (g_preQ gl_8 hE hK hP hD hS hA) rfl rfl hl.1 rfl (lv_room (Nat.le_of_ble_eq_true rfl)) d_W_writeRow_16 ⟨Nat.zero_le _, Nat.zero_le _⟩) hD hS hA (fun _ => rfl) (fun y5 _ H locs hu hP hD hS => ?_)
        have hu : y5 = _ := hu.trans h10.symm
        subst hu
        obtain ⟨y12, σ13, e14, hf⟩ := gBd_e hf
        refine g_wi (va_runV ⟨hx, hb, hml, hown, hts⟩ (m_P_append e14) (cwV 1 hts (gG4 (fun _ h => List.mem_cons_of_mem _ h) tb_284 tb_285 tb_286 tb_38 tc_P_append) rfl rfl rfl (by decide +kernel) ⟨Nat.le_of_ble_eq_true rfl, Nat.le_of_ble_eq_true rfl⟩) (g_preVW (q0 := 7) hE hK hP hD hS hA gc_7 rfl) rfl rfl hl.1 rfl (lv_room (Nat.le_of_ble_eq_true rfl)) d_W_writeRow_19 ⟨Nat.zero_le _, Nat.zero_le _⟩) hD hS hA (fun _ => cW_fst) (fun y12 _ H locs hu hP hD hS => ?_)
        subst hu
        refine lv_pop hx hb d_W_writeRow_22 rfl ?_
        refine lv_iinc (k := 2) (v := (x2 + 1)) hx hb d_W_writeRow_23 hl rfl (by rw [show Int32.ofInt (1) = (1 : Int32) by decide]) (by decide) rfl (fun ls hl => ?_)
        refine lv_goto (tgt := 2) hx hb d_W_writeRow_26 rfl ?_
        exact ih1 ((x2 + 1)) σ13 _ _ _ hf hP hD hS (lv_sub hl [1, 2, 0] rfl)
  exact (key gFuel).1  σ _ _ _ hf hP hD hS hl

def B_W_writeRow_S9_0 (rec : Nat → List Int32 → gS → Option (Int32 × gS)) (σ0 : gS) : Option (Int32 × gS) := rec 1 [0] σ0
def B_W_writeRow_S9_1 (rec : Nat → List Int32 → gS → Option (Int32 × gS)) (x2 : Int32) (σ0 : gS) : Option (Int32 × gS) := if 1 ≤ x2 then (some (0, σ0)) else (gChr 9 x2 (fun y5 => gBd (f_P_append σ0 y5) (fun y12 σ13 => rec 1 [(x2 + 1)] σ13)))
def S_W_writeRow_S9 (rec : Nat → List Int32 → gS → Option (Int32 × gS)) (k : Nat) (l : List Int32) (σ0 : gS) : Option (Int32 × gS) := match k, l with
  | 0, [] => B_W_writeRow_S9_0 rec  σ0
  | 1, [x2] => B_W_writeRow_S9_1 rec x2 σ0
  | _, _ => none
def R_W_writeRow_S9 : Nat → Nat → List Int32 → gS → Option (Int32 × gS)
  | 0 => fun _ _ _ => none
  | t + 1 => fun k l σ0 => S_W_writeRow_S9 (R_W_writeRow_S9 t) k l σ0
def f_W_writeRow_S9 (σ : gS) : Option (Int32 × gS) := R_W_writeRow_S9 gFuel 0 [] σ
set_option maxHeartbeats 4000000 in
set_option maxRecDepth 100000 in
theorem m_W_writeRow_S9 {l : Launch} {X : va_G} {cI cC cZ : ClassId} {aK aV : Nat → Nat} {a : Nat → Nat} {σ σ' : gS} {r : Int32} (hf : f_W_writeRow_S9 σ = some (r, σ')) {sz : Nat} : Met l y_W_writeRow w_W_writeRow { frames := 4, cells := 0, slots := 0, locals := 85 } (gPc X vwCl (gT cI cC cZ) aK aV (cW cI cC cZ a σ) sz [.ref (a 17), .ref (aK 9)]) (gQv X vwCl (cW cI cC cZ a σ) sz (fun (_ : Unit) => True) (fun _ => cW cI cC cZ a σ')) 0 0 (va_A (cW cI cC cZ a σ) sz) := by
  refine g_met (cc := b_W_writeRow) (maxL := 3) (ret := none) (by decide) rfl (Nat.le_of_ble_eq_true rfl) ?_
  intro p e s m below meth c A ls hx hb hr hml hown hts hlocks hnm hsz hAe hA hP hK hD hS hl hE
  have hown : s.vm.findClass R_W = some m.cls := hown
  have u_0 : ∀ w ∈ u_ws R_W T_W 6, w ∈ w_W_writeRow := fun w h => List.mem_cons_of_mem _ (tu_W w h)
  have k_0 := hts (.fieldLink R_W 26 "GraphPages$Writer" "page" "LGraphPages$Page;") (List.mem_cons_of_mem _ tb_287)
  unfold f_W_writeRow_S9 at hf
  have key : ∀ t : Nat, (∀ (σ0 : gS) (H : Heap) (locs : List Loc) (ls : Array Slot), R_W_writeRow_S9 t 0 [] σ0 = some (r, σ') → va_P X vwCl (cW cI cC cZ a σ0) H → va_D A (cW cI cC cZ a σ0) → va_S A s.heap H locs → lv_has ls 3 [(0, .ref (a 17)), (1, .ref (aK 9))] → W p l e (headSpec w_W_writeRow { frames := 4, cells := 0, slots := 0, locals := 85 }).room s m [.ref (a 17), .ref (aK 9)].toArray below meth c H locs 0 0 (MQ below (gQv X vwCl (cW cI cC cZ a σ) sz (fun (_ : Unit) => True) (fun _ => cW cI cC cZ a σ')) [.ref (a 17), .ref (aK 9)].toArray s 0 0 (va_A (cW cI cC cZ a σ) sz)) (F0 m 0 ls [])) ∧ (∀ (x2 : Int32) (σ0 : gS) (H : Heap) (locs : List Loc) (ls : Array Slot), R_W_writeRow_S9 t 1 [x2] σ0 = some (r, σ') → va_P X vwCl (cW cI cC cZ a σ0) H → va_D A (cW cI cC cZ a σ0) → va_S A s.heap H locs → lv_has ls 3 [(0, .ref (a 17)), (1, .ref (aK 9)), (2, .int x2)] → W p l e (headSpec w_W_writeRow { frames := 4, cells := 0, slots := 0, locals := 85 }).room s m [.ref (a 17), .ref (aK 9)].toArray below meth c H locs 0 0 (MQ below (gQv X vwCl (cW cI cC cZ a σ) sz (fun (_ : Unit) => True) (fun _ => cW cI cC cZ a σ')) [.ref (a 17), .ref (aK 9)].toArray s 0 0 (va_A (cW cI cC cZ a σ) sz)) (F0 m 2 ls [])) := by
    intro t
    induction t with
    | zero => exact ⟨fun  _ _ _ _ hf => (by have hf : (none : Option (Int32 × gS)) = some (r, σ') := hf; cases hf), fun _ _ _ _ _ hf => (by have hf : (none : Option (Int32 × gS)) = some (r, σ') := hf; cases hf)⟩
    | succ t ih =>
      obtain ⟨ih0, ih1⟩ := ih
      refine ⟨?_, ?_⟩
      · intro  σ0 H locs ls hf hP hD hS hl
        have hf : B_W_writeRow_S9_0 (R_W_writeRow_S9 t)  σ0 = some (r, σ') := hf
        unfold B_W_writeRow_S9_0 at hf
        refine lv_iconst (v := 0) hx hb d_W_writeRow_0 (by decide) ?_
        refine lv_istore_n hx hb d_W_writeRow_1 rfl hl (by decide) rfl (fun ls hl => ?_)
        exact ih1 (0) σ0 _ _ _ hf hP hD hS (lv_sub hl [1, 2, 0] rfl)
      · intro x2 σ0 H locs ls hf hP hD hS hl
        have hf : B_W_writeRow_S9_1 (R_W_writeRow_S9 t) x2 σ0 = some (r, σ') := hf
        unfold B_W_writeRow_S9_1 at hf
        refine lv_iload_n hx hb d_W_writeRow_2 rfl (lv_at hl 2 rfl) ?_
        refine lv_aload_n hx hb d_W_writeRow_3 rfl (lv_at hl 1 rfl) ?_
        refine g_wi (va_runV ⟨hx, hb, hml, hown, hts⟩ (m_Q_length gl_9) (cwV 0 hts (gG4 (fun _ h => List.mem_cons_of_mem _ h) tb_282 tb_81 tb_82 tb_6 tc_Q_length) rfl rfl rfl (by decide +kernel) ⟨Nat.le_of_ble_eq_true rfl, Nat.le_of_ble_eq_true rfl⟩) (g_preQ gl_9 hE hK hP hD hS hA) rfl rfl hl.1 rfl (lv_room (Nat.le_of_ble_eq_true rfl)) d_W_writeRow_4 ⟨Nat.zero_le _, Nat.zero_le _⟩) hD hS hA (fun _ => rfl) (fun y1 _ H locs hu hP hD hS => ?_)
        have hu : y1 = 1 := hu.trans (by decide)
        subst hu
        refine lv_icmp_ge (tgt := 29) hx hb d_W_writeRow_7 rfl (fun c4 => ?_) (fun c4 => ?_)
        · skip
          rw [if_pos c4] at hf
          obtain ⟨-, rfl⟩ := gRt_e hf
          exact g_vret hx hb hr hlocks hAe hS () trivial hP d_W_writeRow_29
        rw [if_neg c4] at hf
        refine lv_aload_n hx hb d_W_writeRow_10 rfl (lv_at hl 0 rfl) ?_
        refine va_get (D := X) (ci := 7) (C := R_W) (T := T_W) (N := 6) hx hb hts u_0 hown hK hP 17 gc_17 rfl 2 (by decide) k_0 (fun _ h9 => h9) rfl d_W_writeRow_11 ?_
        refine lv_aload_n hx hb d_W_writeRow_14 rfl (lv_at hl 1 rfl) ?_
        refine lv_iload_n hx hb d_W_writeRow_15 rfl (lv_at hl 2 rfl) ?_
        obtain ⟨y5, j11, h8, h9, h10, hf⟩ := gChr_e hf (by decide)
        rw [h9]
        refine g_wi (va_runV ⟨hx, hb, hml, hown, hts⟩ (m_Q_charAt gl_9 h8) (cwV 1 hts (gG4 (fun _ h => List.mem_cons_of_mem _ h) tb_283 tb_85 tb_86 tb_6 tc_Q_charAt) rfl rfl rfl (by decide +kernel) ⟨Nat.le_of_ble_eq_true rfl, Nat.le_of_ble_eq_true rfl⟩) (g_preQ gl_9 hE hK hP hD hS hA) rfl rfl hl.1 rfl (lv_room (Nat.le_of_ble_eq_true rfl)) d_W_writeRow_16 ⟨Nat.zero_le _, Nat.zero_le _⟩) hD hS hA (fun _ => rfl) (fun y5 _ H locs hu hP hD hS => ?_)
        have hu : y5 = _ := hu.trans h10.symm
        subst hu
        obtain ⟨y12, σ13, e14, hf⟩ := gBd_e hf
        refine g_wi (va_runV ⟨hx, hb, hml, hown, hts⟩ (m_P_append e14) (cwV 1 hts (gG4 (fun _ h => List.mem_cons_of_mem _ h) tb_284 tb_285 tb_286 tb_38 tc_P_append) rfl rfl rfl (by decide +kernel) ⟨Nat.le_of_ble_eq_true rfl, Nat.le_of_ble_eq_true rfl⟩) (g_preVW (q0 := 7) hE hK hP hD hS hA gc_7 rfl) rfl rfl hl.1 rfl (lv_room (Nat.le_of_ble_eq_true rfl)) d_W_writeRow_19 ⟨Nat.zero_le _, Nat.zero_le _⟩) hD hS hA (fun _ => cW_fst) (fun y12 _ H locs hu hP hD hS => ?_)
        subst hu
        refine lv_pop hx hb d_W_writeRow_22 rfl ?_
        refine lv_iinc (k := 2) (v := (x2 + 1)) hx hb d_W_writeRow_23 hl rfl (by rw [show Int32.ofInt (1) = (1 : Int32) by decide]) (by decide) rfl (fun ls hl => ?_)
        refine lv_goto (tgt := 2) hx hb d_W_writeRow_26 rfl ?_
        exact ih1 ((x2 + 1)) σ13 _ _ _ hf hP hD hS (lv_sub hl [1, 2, 0] rfl)
  exact (key gFuel).1  σ _ _ _ hf hP hD hS hl

def B_W_writeRow_S10_0 (rec : Nat → List Int32 → gS → Option (Int32 × gS)) (σ0 : gS) : Option (Int32 × gS) := rec 1 [0] σ0
def B_W_writeRow_S10_1 (rec : Nat → List Int32 → gS → Option (Int32 × gS)) (x2 : Int32) (σ0 : gS) : Option (Int32 × gS) := if 1 ≤ x2 then (some (0, σ0)) else (gChr 10 x2 (fun y5 => gBd (f_P_append σ0 y5) (fun y12 σ13 => rec 1 [(x2 + 1)] σ13)))
def S_W_writeRow_S10 (rec : Nat → List Int32 → gS → Option (Int32 × gS)) (k : Nat) (l : List Int32) (σ0 : gS) : Option (Int32 × gS) := match k, l with
  | 0, [] => B_W_writeRow_S10_0 rec  σ0
  | 1, [x2] => B_W_writeRow_S10_1 rec x2 σ0
  | _, _ => none
def R_W_writeRow_S10 : Nat → Nat → List Int32 → gS → Option (Int32 × gS)
  | 0 => fun _ _ _ => none
  | t + 1 => fun k l σ0 => S_W_writeRow_S10 (R_W_writeRow_S10 t) k l σ0
def f_W_writeRow_S10 (σ : gS) : Option (Int32 × gS) := R_W_writeRow_S10 gFuel 0 [] σ
set_option maxHeartbeats 4000000 in
set_option maxRecDepth 100000 in
theorem m_W_writeRow_S10 {l : Launch} {X : va_G} {cI cC cZ : ClassId} {aK aV : Nat → Nat} {a : Nat → Nat} {σ σ' : gS} {r : Int32} (hf : f_W_writeRow_S10 σ = some (r, σ')) {sz : Nat} : Met l y_W_writeRow w_W_writeRow { frames := 4, cells := 0, slots := 0, locals := 85 } (gPc X vwCl (gT cI cC cZ) aK aV (cW cI cC cZ a σ) sz [.ref (a 17), .ref (aK 10)]) (gQv X vwCl (cW cI cC cZ a σ) sz (fun (_ : Unit) => True) (fun _ => cW cI cC cZ a σ')) 0 0 (va_A (cW cI cC cZ a σ) sz) := by
  refine g_met (cc := b_W_writeRow) (maxL := 3) (ret := none) (by decide) rfl (Nat.le_of_ble_eq_true rfl) ?_
  intro p e s m below meth c A ls hx hb hr hml hown hts hlocks hnm hsz hAe hA hP hK hD hS hl hE
  have hown : s.vm.findClass R_W = some m.cls := hown
  have u_0 : ∀ w ∈ u_ws R_W T_W 6, w ∈ w_W_writeRow := fun w h => List.mem_cons_of_mem _ (tu_W w h)
  have k_0 := hts (.fieldLink R_W 26 "GraphPages$Writer" "page" "LGraphPages$Page;") (List.mem_cons_of_mem _ tb_287)
  unfold f_W_writeRow_S10 at hf
  have key : ∀ t : Nat, (∀ (σ0 : gS) (H : Heap) (locs : List Loc) (ls : Array Slot), R_W_writeRow_S10 t 0 [] σ0 = some (r, σ') → va_P X vwCl (cW cI cC cZ a σ0) H → va_D A (cW cI cC cZ a σ0) → va_S A s.heap H locs → lv_has ls 3 [(0, .ref (a 17)), (1, .ref (aK 10))] → W p l e (headSpec w_W_writeRow { frames := 4, cells := 0, slots := 0, locals := 85 }).room s m [.ref (a 17), .ref (aK 10)].toArray below meth c H locs 0 0 (MQ below (gQv X vwCl (cW cI cC cZ a σ) sz (fun (_ : Unit) => True) (fun _ => cW cI cC cZ a σ')) [.ref (a 17), .ref (aK 10)].toArray s 0 0 (va_A (cW cI cC cZ a σ) sz)) (F0 m 0 ls [])) ∧ (∀ (x2 : Int32) (σ0 : gS) (H : Heap) (locs : List Loc) (ls : Array Slot), R_W_writeRow_S10 t 1 [x2] σ0 = some (r, σ') → va_P X vwCl (cW cI cC cZ a σ0) H → va_D A (cW cI cC cZ a σ0) → va_S A s.heap H locs → lv_has ls 3 [(0, .ref (a 17)), (1, .ref (aK 10)), (2, .int x2)] → W p l e (headSpec w_W_writeRow { frames := 4, cells := 0, slots := 0, locals := 85 }).room s m [.ref (a 17), .ref (aK 10)].toArray below meth c H locs 0 0 (MQ below (gQv X vwCl (cW cI cC cZ a σ) sz (fun (_ : Unit) => True) (fun _ => cW cI cC cZ a σ')) [.ref (a 17), .ref (aK 10)].toArray s 0 0 (va_A (cW cI cC cZ a σ) sz)) (F0 m 2 ls [])) := by
    intro t
    induction t with
    | zero => exact ⟨fun  _ _ _ _ hf => (by have hf : (none : Option (Int32 × gS)) = some (r, σ') := hf; cases hf), fun _ _ _ _ _ hf => (by have hf : (none : Option (Int32 × gS)) = some (r, σ') := hf; cases hf)⟩
    | succ t ih =>
      obtain ⟨ih0, ih1⟩ := ih
      refine ⟨?_, ?_⟩
      · intro  σ0 H locs ls hf hP hD hS hl
        have hf : B_W_writeRow_S10_0 (R_W_writeRow_S10 t)  σ0 = some (r, σ') := hf
        unfold B_W_writeRow_S10_0 at hf
        refine lv_iconst (v := 0) hx hb d_W_writeRow_0 (by decide) ?_
        refine lv_istore_n hx hb d_W_writeRow_1 rfl hl (by decide) rfl (fun ls hl => ?_)
        exact ih1 (0) σ0 _ _ _ hf hP hD hS (lv_sub hl [1, 2, 0] rfl)
      · intro x2 σ0 H locs ls hf hP hD hS hl
        have hf : B_W_writeRow_S10_1 (R_W_writeRow_S10 t) x2 σ0 = some (r, σ') := hf
        unfold B_W_writeRow_S10_1 at hf
        refine lv_iload_n hx hb d_W_writeRow_2 rfl (lv_at hl 2 rfl) ?_
        refine lv_aload_n hx hb d_W_writeRow_3 rfl (lv_at hl 1 rfl) ?_
        refine g_wi (va_runV ⟨hx, hb, hml, hown, hts⟩ (m_Q_length gl_10) (cwV 0 hts (gG4 (fun _ h => List.mem_cons_of_mem _ h) tb_282 tb_81 tb_82 tb_6 tc_Q_length) rfl rfl rfl (by decide +kernel) ⟨Nat.le_of_ble_eq_true rfl, Nat.le_of_ble_eq_true rfl⟩) (g_preQ gl_10 hE hK hP hD hS hA) rfl rfl hl.1 rfl (lv_room (Nat.le_of_ble_eq_true rfl)) d_W_writeRow_4 ⟨Nat.zero_le _, Nat.zero_le _⟩) hD hS hA (fun _ => rfl) (fun y1 _ H locs hu hP hD hS => ?_)
        have hu : y1 = 1 := hu.trans (by decide)
        subst hu
        refine lv_icmp_ge (tgt := 29) hx hb d_W_writeRow_7 rfl (fun c4 => ?_) (fun c4 => ?_)
        · skip
          rw [if_pos c4] at hf
          obtain ⟨-, rfl⟩ := gRt_e hf
          exact g_vret hx hb hr hlocks hAe hS () trivial hP d_W_writeRow_29
        rw [if_neg c4] at hf
        refine lv_aload_n hx hb d_W_writeRow_10 rfl (lv_at hl 0 rfl) ?_
        refine va_get (D := X) (ci := 7) (C := R_W) (T := T_W) (N := 6) hx hb hts u_0 hown hK hP 17 gc_17 rfl 2 (by decide) k_0 (fun _ h9 => h9) rfl d_W_writeRow_11 ?_
        refine lv_aload_n hx hb d_W_writeRow_14 rfl (lv_at hl 1 rfl) ?_
        refine lv_iload_n hx hb d_W_writeRow_15 rfl (lv_at hl 2 rfl) ?_
        obtain ⟨y5, j11, h8, h9, h10, hf⟩ := gChr_e hf (by decide)
        rw [h9]
        refine g_wi (va_runV ⟨hx, hb, hml, hown, hts⟩ (m_Q_charAt gl_10 h8) (cwV 1 hts (gG4 (fun _ h => List.mem_cons_of_mem _ h) tb_283 tb_85 tb_86 tb_6 tc_Q_charAt) rfl rfl rfl (by decide +kernel) ⟨Nat.le_of_ble_eq_true rfl, Nat.le_of_ble_eq_true rfl⟩) (g_preQ gl_10 hE hK hP hD hS hA) rfl rfl hl.1 rfl (lv_room (Nat.le_of_ble_eq_true rfl)) d_W_writeRow_16 ⟨Nat.zero_le _, Nat.zero_le _⟩) hD hS hA (fun _ => rfl) (fun y5 _ H locs hu hP hD hS => ?_)
        have hu : y5 = _ := hu.trans h10.symm
        subst hu
        obtain ⟨y12, σ13, e14, hf⟩ := gBd_e hf
        refine g_wi (va_runV ⟨hx, hb, hml, hown, hts⟩ (m_P_append e14) (cwV 1 hts (gG4 (fun _ h => List.mem_cons_of_mem _ h) tb_284 tb_285 tb_286 tb_38 tc_P_append) rfl rfl rfl (by decide +kernel) ⟨Nat.le_of_ble_eq_true rfl, Nat.le_of_ble_eq_true rfl⟩) (g_preVW (q0 := 7) hE hK hP hD hS hA gc_7 rfl) rfl rfl hl.1 rfl (lv_room (Nat.le_of_ble_eq_true rfl)) d_W_writeRow_19 ⟨Nat.zero_le _, Nat.zero_le _⟩) hD hS hA (fun _ => cW_fst) (fun y12 _ H locs hu hP hD hS => ?_)
        subst hu
        refine lv_pop hx hb d_W_writeRow_22 rfl ?_
        refine lv_iinc (k := 2) (v := (x2 + 1)) hx hb d_W_writeRow_23 hl rfl (by rw [show Int32.ofInt (1) = (1 : Int32) by decide]) (by decide) rfl (fun ls hl => ?_)
        refine lv_goto (tgt := 2) hx hb d_W_writeRow_26 rfl ?_
        exact ih1 ((x2 + 1)) σ13 _ _ _ hf hP hD hS (lv_sub hl [1, 2, 0] rfl)
  exact (key gFuel).1  σ _ _ _ hf hP hD hS hl

def B_W_writeRow_S11_0 (rec : Nat → List Int32 → gS → Option (Int32 × gS)) (σ0 : gS) : Option (Int32 × gS) := rec 1 [0] σ0
def B_W_writeRow_S11_1 (rec : Nat → List Int32 → gS → Option (Int32 × gS)) (x2 : Int32) (σ0 : gS) : Option (Int32 × gS) := if 4 ≤ x2 then (some (0, σ0)) else (gChr 11 x2 (fun y5 => gBd (f_P_append σ0 y5) (fun y12 σ13 => rec 1 [(x2 + 1)] σ13)))
def S_W_writeRow_S11 (rec : Nat → List Int32 → gS → Option (Int32 × gS)) (k : Nat) (l : List Int32) (σ0 : gS) : Option (Int32 × gS) := match k, l with
  | 0, [] => B_W_writeRow_S11_0 rec  σ0
  | 1, [x2] => B_W_writeRow_S11_1 rec x2 σ0
  | _, _ => none
def R_W_writeRow_S11 : Nat → Nat → List Int32 → gS → Option (Int32 × gS)
  | 0 => fun _ _ _ => none
  | t + 1 => fun k l σ0 => S_W_writeRow_S11 (R_W_writeRow_S11 t) k l σ0
def f_W_writeRow_S11 (σ : gS) : Option (Int32 × gS) := R_W_writeRow_S11 gFuel 0 [] σ
set_option maxHeartbeats 4000000 in
set_option maxRecDepth 100000 in
theorem m_W_writeRow_S11 {l : Launch} {X : va_G} {cI cC cZ : ClassId} {aK aV : Nat → Nat} {a : Nat → Nat} {σ σ' : gS} {r : Int32} (hf : f_W_writeRow_S11 σ = some (r, σ')) {sz : Nat} : Met l y_W_writeRow w_W_writeRow { frames := 4, cells := 0, slots := 0, locals := 85 } (gPc X vwCl (gT cI cC cZ) aK aV (cW cI cC cZ a σ) sz [.ref (a 17), .ref (aK 11)]) (gQv X vwCl (cW cI cC cZ a σ) sz (fun (_ : Unit) => True) (fun _ => cW cI cC cZ a σ')) 0 0 (va_A (cW cI cC cZ a σ) sz) := by
  refine g_met (cc := b_W_writeRow) (maxL := 3) (ret := none) (by decide) rfl (Nat.le_of_ble_eq_true rfl) ?_
  intro p e s m below meth c A ls hx hb hr hml hown hts hlocks hnm hsz hAe hA hP hK hD hS hl hE
  have hown : s.vm.findClass R_W = some m.cls := hown
  have u_0 : ∀ w ∈ u_ws R_W T_W 6, w ∈ w_W_writeRow := fun w h => List.mem_cons_of_mem _ (tu_W w h)
  have k_0 := hts (.fieldLink R_W 26 "GraphPages$Writer" "page" "LGraphPages$Page;") (List.mem_cons_of_mem _ tb_287)
  unfold f_W_writeRow_S11 at hf
  have key : ∀ t : Nat, (∀ (σ0 : gS) (H : Heap) (locs : List Loc) (ls : Array Slot), R_W_writeRow_S11 t 0 [] σ0 = some (r, σ') → va_P X vwCl (cW cI cC cZ a σ0) H → va_D A (cW cI cC cZ a σ0) → va_S A s.heap H locs → lv_has ls 3 [(0, .ref (a 17)), (1, .ref (aK 11))] → W p l e (headSpec w_W_writeRow { frames := 4, cells := 0, slots := 0, locals := 85 }).room s m [.ref (a 17), .ref (aK 11)].toArray below meth c H locs 0 0 (MQ below (gQv X vwCl (cW cI cC cZ a σ) sz (fun (_ : Unit) => True) (fun _ => cW cI cC cZ a σ')) [.ref (a 17), .ref (aK 11)].toArray s 0 0 (va_A (cW cI cC cZ a σ) sz)) (F0 m 0 ls [])) ∧ (∀ (x2 : Int32) (σ0 : gS) (H : Heap) (locs : List Loc) (ls : Array Slot), R_W_writeRow_S11 t 1 [x2] σ0 = some (r, σ') → va_P X vwCl (cW cI cC cZ a σ0) H → va_D A (cW cI cC cZ a σ0) → va_S A s.heap H locs → lv_has ls 3 [(0, .ref (a 17)), (1, .ref (aK 11)), (2, .int x2)] → W p l e (headSpec w_W_writeRow { frames := 4, cells := 0, slots := 0, locals := 85 }).room s m [.ref (a 17), .ref (aK 11)].toArray below meth c H locs 0 0 (MQ below (gQv X vwCl (cW cI cC cZ a σ) sz (fun (_ : Unit) => True) (fun _ => cW cI cC cZ a σ')) [.ref (a 17), .ref (aK 11)].toArray s 0 0 (va_A (cW cI cC cZ a σ) sz)) (F0 m 2 ls [])) := by
    intro t
    induction t with
    | zero => exact ⟨fun  _ _ _ _ hf => (by have hf : (none : Option (Int32 × gS)) = some (r, σ') := hf; cases hf), fun _ _ _ _ _ hf => (by have hf : (none : Option (Int32 × gS)) = some (r, σ') := hf; cases hf)⟩
    | succ t ih =>
      obtain ⟨ih0, ih1⟩ := ih
      refine ⟨?_, ?_⟩
      · intro  σ0 H locs ls hf hP hD hS hl
        have hf : B_W_writeRow_S11_0 (R_W_writeRow_S11 t)  σ0 = some (r, σ') := hf
        unfold B_W_writeRow_S11_0 at hf
        refine lv_iconst (v := 0) hx hb d_W_writeRow_0 (by decide) ?_
        refine lv_istore_n hx hb d_W_writeRow_1 rfl hl (by decide) rfl (fun ls hl => ?_)
        exact ih1 (0) σ0 _ _ _ hf hP hD hS (lv_sub hl [1, 2, 0] rfl)
      · intro x2 σ0 H locs ls hf hP hD hS hl
        have hf : B_W_writeRow_S11_1 (R_W_writeRow_S11 t) x2 σ0 = some (r, σ') := hf
        unfold B_W_writeRow_S11_1 at hf
        refine lv_iload_n hx hb d_W_writeRow_2 rfl (lv_at hl 2 rfl) ?_
        refine lv_aload_n hx hb d_W_writeRow_3 rfl (lv_at hl 1 rfl) ?_
        refine g_wi (va_runV ⟨hx, hb, hml, hown, hts⟩ (m_Q_length gl_11) (cwV 0 hts (gG4 (fun _ h => List.mem_cons_of_mem _ h) tb_282 tb_81 tb_82 tb_6 tc_Q_length) rfl rfl rfl (by decide +kernel) ⟨Nat.le_of_ble_eq_true rfl, Nat.le_of_ble_eq_true rfl⟩) (g_preQ gl_11 hE hK hP hD hS hA) rfl rfl hl.1 rfl (lv_room (Nat.le_of_ble_eq_true rfl)) d_W_writeRow_4 ⟨Nat.zero_le _, Nat.zero_le _⟩) hD hS hA (fun _ => rfl) (fun y1 _ H locs hu hP hD hS => ?_)
        have hu : y1 = 4 := hu.trans (by decide)
        subst hu
        refine lv_icmp_ge (tgt := 29) hx hb d_W_writeRow_7 rfl (fun c4 => ?_) (fun c4 => ?_)
        · skip
          rw [if_pos c4] at hf
          obtain ⟨-, rfl⟩ := gRt_e hf
          exact g_vret hx hb hr hlocks hAe hS () trivial hP d_W_writeRow_29
        rw [if_neg c4] at hf
        refine lv_aload_n hx hb d_W_writeRow_10 rfl (lv_at hl 0 rfl) ?_
        refine va_get (D := X) (ci := 7) (C := R_W) (T := T_W) (N := 6) hx hb hts u_0 hown hK hP 17 gc_17 rfl 2 (by decide) k_0 (fun _ h9 => h9) rfl d_W_writeRow_11 ?_
        refine lv_aload_n hx hb d_W_writeRow_14 rfl (lv_at hl 1 rfl) ?_
        refine lv_iload_n hx hb d_W_writeRow_15 rfl (lv_at hl 2 rfl) ?_
        obtain ⟨y5, j11, h8, h9, h10, hf⟩ := gChr_e hf (by decide)
        rw [h9]
        refine g_wi (va_runV ⟨hx, hb, hml, hown, hts⟩ (m_Q_charAt gl_11 h8) (cwV 1 hts (gG4 (fun _ h => List.mem_cons_of_mem _ h) tb_283 tb_85 tb_86 tb_6 tc_Q_charAt) rfl rfl rfl (by decide +kernel) ⟨Nat.le_of_ble_eq_true rfl, Nat.le_of_ble_eq_true rfl⟩) (g_preQ gl_11 hE hK hP hD hS hA) rfl rfl hl.1 rfl (lv_room (Nat.le_of_ble_eq_true rfl)) d_W_writeRow_16 ⟨Nat.zero_le _, Nat.zero_le _⟩) hD hS hA (fun _ => rfl) (fun y5 _ H locs hu hP hD hS => ?_)
        have hu : y5 = _ := hu.trans h10.symm
        subst hu
        obtain ⟨y12, σ13, e14, hf⟩ := gBd_e hf
        refine g_wi (va_runV ⟨hx, hb, hml, hown, hts⟩ (m_P_append e14) (cwV 1 hts (gG4 (fun _ h => List.mem_cons_of_mem _ h) tb_284 tb_285 tb_286 tb_38 tc_P_append) rfl rfl rfl (by decide +kernel) ⟨Nat.le_of_ble_eq_true rfl, Nat.le_of_ble_eq_true rfl⟩) (g_preVW (q0 := 7) hE hK hP hD hS hA gc_7 rfl) rfl rfl hl.1 rfl (lv_room (Nat.le_of_ble_eq_true rfl)) d_W_writeRow_19 ⟨Nat.zero_le _, Nat.zero_le _⟩) hD hS hA (fun _ => cW_fst) (fun y12 _ H locs hu hP hD hS => ?_)
        subst hu
        refine lv_pop hx hb d_W_writeRow_22 rfl ?_
        refine lv_iinc (k := 2) (v := (x2 + 1)) hx hb d_W_writeRow_23 hl rfl (by rw [show Int32.ofInt (1) = (1 : Int32) by decide]) (by decide) rfl (fun ls hl => ?_)
        refine lv_goto (tgt := 2) hx hb d_W_writeRow_26 rfl ?_
        exact ih1 ((x2 + 1)) σ13 _ _ _ hf hP hD hS (lv_sub hl [1, 2, 0] rfl)
  exact (key gFuel).1  σ _ _ _ hf hP hD hS hl

def B_W_writeRow_S12_0 (rec : Nat → List Int32 → gS → Option (Int32 × gS)) (σ0 : gS) : Option (Int32 × gS) := rec 1 [0] σ0
def B_W_writeRow_S12_1 (rec : Nat → List Int32 → gS → Option (Int32 × gS)) (x2 : Int32) (σ0 : gS) : Option (Int32 × gS) := if 4 ≤ x2 then (some (0, σ0)) else (gChr 12 x2 (fun y5 => gBd (f_P_append σ0 y5) (fun y12 σ13 => rec 1 [(x2 + 1)] σ13)))
def S_W_writeRow_S12 (rec : Nat → List Int32 → gS → Option (Int32 × gS)) (k : Nat) (l : List Int32) (σ0 : gS) : Option (Int32 × gS) := match k, l with
  | 0, [] => B_W_writeRow_S12_0 rec  σ0
  | 1, [x2] => B_W_writeRow_S12_1 rec x2 σ0
  | _, _ => none
def R_W_writeRow_S12 : Nat → Nat → List Int32 → gS → Option (Int32 × gS)
  | 0 => fun _ _ _ => none
  | t + 1 => fun k l σ0 => S_W_writeRow_S12 (R_W_writeRow_S12 t) k l σ0
def f_W_writeRow_S12 (σ : gS) : Option (Int32 × gS) := R_W_writeRow_S12 gFuel 0 [] σ
set_option maxHeartbeats 4000000 in
set_option maxRecDepth 100000 in
theorem m_W_writeRow_S12 {l : Launch} {X : va_G} {cI cC cZ : ClassId} {aK aV : Nat → Nat} {a : Nat → Nat} {σ σ' : gS} {r : Int32} (hf : f_W_writeRow_S12 σ = some (r, σ')) {sz : Nat} : Met l y_W_writeRow w_W_writeRow { frames := 4, cells := 0, slots := 0, locals := 85 } (gPc X vwCl (gT cI cC cZ) aK aV (cW cI cC cZ a σ) sz [.ref (a 17), .ref (aK 12)]) (gQv X vwCl (cW cI cC cZ a σ) sz (fun (_ : Unit) => True) (fun _ => cW cI cC cZ a σ')) 0 0 (va_A (cW cI cC cZ a σ) sz) := by
  refine g_met (cc := b_W_writeRow) (maxL := 3) (ret := none) (by decide) rfl (Nat.le_of_ble_eq_true rfl) ?_
  intro p e s m below meth c A ls hx hb hr hml hown hts hlocks hnm hsz hAe hA hP hK hD hS hl hE
  have hown : s.vm.findClass R_W = some m.cls := hown
  have u_0 : ∀ w ∈ u_ws R_W T_W 6, w ∈ w_W_writeRow := fun w h => List.mem_cons_of_mem _ (tu_W w h)
  have k_0 := hts (.fieldLink R_W 26 "GraphPages$Writer" "page" "LGraphPages$Page;") (List.mem_cons_of_mem _ tb_287)
  unfold f_W_writeRow_S12 at hf
  have key : ∀ t : Nat, (∀ (σ0 : gS) (H : Heap) (locs : List Loc) (ls : Array Slot), R_W_writeRow_S12 t 0 [] σ0 = some (r, σ') → va_P X vwCl (cW cI cC cZ a σ0) H → va_D A (cW cI cC cZ a σ0) → va_S A s.heap H locs → lv_has ls 3 [(0, .ref (a 17)), (1, .ref (aK 12))] → W p l e (headSpec w_W_writeRow { frames := 4, cells := 0, slots := 0, locals := 85 }).room s m [.ref (a 17), .ref (aK 12)].toArray below meth c H locs 0 0 (MQ below (gQv X vwCl (cW cI cC cZ a σ) sz (fun (_ : Unit) => True) (fun _ => cW cI cC cZ a σ')) [.ref (a 17), .ref (aK 12)].toArray s 0 0 (va_A (cW cI cC cZ a σ) sz)) (F0 m 0 ls [])) ∧ (∀ (x2 : Int32) (σ0 : gS) (H : Heap) (locs : List Loc) (ls : Array Slot), R_W_writeRow_S12 t 1 [x2] σ0 = some (r, σ') → va_P X vwCl (cW cI cC cZ a σ0) H → va_D A (cW cI cC cZ a σ0) → va_S A s.heap H locs → lv_has ls 3 [(0, .ref (a 17)), (1, .ref (aK 12)), (2, .int x2)] → W p l e (headSpec w_W_writeRow { frames := 4, cells := 0, slots := 0, locals := 85 }).room s m [.ref (a 17), .ref (aK 12)].toArray below meth c H locs 0 0 (MQ below (gQv X vwCl (cW cI cC cZ a σ) sz (fun (_ : Unit) => True) (fun _ => cW cI cC cZ a σ')) [.ref (a 17), .ref (aK 12)].toArray s 0 0 (va_A (cW cI cC cZ a σ) sz)) (F0 m 2 ls [])) := by
    intro t
    induction t with
    | zero => exact ⟨fun  _ _ _ _ hf => (by have hf : (none : Option (Int32 × gS)) = some (r, σ') := hf; cases hf), fun _ _ _ _ _ hf => (by have hf : (none : Option (Int32 × gS)) = some (r, σ') := hf; cases hf)⟩
    | succ t ih =>
      obtain ⟨ih0, ih1⟩ := ih
      refine ⟨?_, ?_⟩
      · intro  σ0 H locs ls hf hP hD hS hl
        have hf : B_W_writeRow_S12_0 (R_W_writeRow_S12 t)  σ0 = some (r, σ') := hf
        unfold B_W_writeRow_S12_0 at hf
        refine lv_iconst (v := 0) hx hb d_W_writeRow_0 (by decide) ?_
        refine lv_istore_n hx hb d_W_writeRow_1 rfl hl (by decide) rfl (fun ls hl => ?_)
        exact ih1 (0) σ0 _ _ _ hf hP hD hS (lv_sub hl [1, 2, 0] rfl)
      · intro x2 σ0 H locs ls hf hP hD hS hl
        have hf : B_W_writeRow_S12_1 (R_W_writeRow_S12 t) x2 σ0 = some (r, σ') := hf
        unfold B_W_writeRow_S12_1 at hf
        refine lv_iload_n hx hb d_W_writeRow_2 rfl (lv_at hl 2 rfl) ?_
        refine lv_aload_n hx hb d_W_writeRow_3 rfl (lv_at hl 1 rfl) ?_
        refine g_wi (va_runV ⟨hx, hb, hml, hown, hts⟩ (m_Q_length gl_12) (cwV 0 hts (gG4 (fun _ h => List.mem_cons_of_mem _ h) tb_282 tb_81 tb_82 tb_6 tc_Q_length) rfl rfl rfl (by decide +kernel) ⟨Nat.le_of_ble_eq_true rfl, Nat.le_of_ble_eq_true rfl⟩) (g_preQ gl_12 hE hK hP hD hS hA) rfl rfl hl.1 rfl (lv_room (Nat.le_of_ble_eq_true rfl)) d_W_writeRow_4 ⟨Nat.zero_le _, Nat.zero_le _⟩) hD hS hA (fun _ => rfl) (fun y1 _ H locs hu hP hD hS => ?_)
        have hu : y1 = 4 := hu.trans (by decide)
        subst hu
        refine lv_icmp_ge (tgt := 29) hx hb d_W_writeRow_7 rfl (fun c4 => ?_) (fun c4 => ?_)
        · skip
          rw [if_pos c4] at hf
          obtain ⟨-, rfl⟩ := gRt_e hf
          exact g_vret hx hb hr hlocks hAe hS () trivial hP d_W_writeRow_29
        rw [if_neg c4] at hf
        refine lv_aload_n hx hb d_W_writeRow_10 rfl (lv_at hl 0 rfl) ?_
        refine va_get (D := X) (ci := 7) (C := R_W) (T := T_W) (N := 6) hx hb hts u_0 hown hK hP 17 gc_17 rfl 2 (by decide) k_0 (fun _ h9 => h9) rfl d_W_writeRow_11 ?_
        refine lv_aload_n hx hb d_W_writeRow_14 rfl (lv_at hl 1 rfl) ?_
        refine lv_iload_n hx hb d_W_writeRow_15 rfl (lv_at hl 2 rfl) ?_
        obtain ⟨y5, j11, h8, h9, h10, hf⟩ := gChr_e hf (by decide)
        rw [h9]
        refine g_wi (va_runV ⟨hx, hb, hml, hown, hts⟩ (m_Q_charAt gl_12 h8) (cwV 1 hts (gG4 (fun _ h => List.mem_cons_of_mem _ h) tb_283 tb_85 tb_86 tb_6 tc_Q_charAt) rfl rfl rfl (by decide +kernel) ⟨Nat.le_of_ble_eq_true rfl, Nat.le_of_ble_eq_true rfl⟩) (g_preQ gl_12 hE hK hP hD hS hA) rfl rfl hl.1 rfl (lv_room (Nat.le_of_ble_eq_true rfl)) d_W_writeRow_16 ⟨Nat.zero_le _, Nat.zero_le _⟩) hD hS hA (fun _ => rfl) (fun y5 _ H locs hu hP hD hS => ?_)
        have hu : y5 = _ := hu.trans h10.symm
        subst hu
        obtain ⟨y12, σ13, e14, hf⟩ := gBd_e hf
        refine g_wi (va_runV ⟨hx, hb, hml, hown, hts⟩ (m_P_append e14) (cwV 1 hts (gG4 (fun _ h => List.mem_cons_of_mem _ h) tb_284 tb_285 tb_286 tb_38 tc_P_append) rfl rfl rfl (by decide +kernel) ⟨Nat.le_of_ble_eq_true rfl, Nat.le_of_ble_eq_true rfl⟩) (g_preVW (q0 := 7) hE hK hP hD hS hA gc_7 rfl) rfl rfl hl.1 rfl (lv_room (Nat.le_of_ble_eq_true rfl)) d_W_writeRow_19 ⟨Nat.zero_le _, Nat.zero_le _⟩) hD hS hA (fun _ => cW_fst) (fun y12 _ H locs hu hP hD hS => ?_)
        subst hu
        refine lv_pop hx hb d_W_writeRow_22 rfl ?_
        refine lv_iinc (k := 2) (v := (x2 + 1)) hx hb d_W_writeRow_23 hl rfl (by rw [show Int32.ofInt (1) = (1 : Int32) by decide]) (by decide) rfl (fun ls hl => ?_)
        refine lv_goto (tgt := 2) hx hb d_W_writeRow_26 rfl ?_
        exact ih1 ((x2 + 1)) σ13 _ _ _ hf hP hD hS (lv_sub hl [1, 2, 0] rfl)
  exact (key gFuel).1  σ _ _ _ hf hP hD hS hl

def B_W_writeRow_S13_0 (rec : Nat → List Int32 → gS → Option (Int32 × gS)) (σ0 : gS) : Option (Int32 × gS) := rec 1 [0] σ0
def B_W_writeRow_S13_1 (rec : Nat → List Int32 → gS → Option (Int32 × gS)) (x2 : Int32) (σ0 : gS) : Option (Int32 × gS) := if 5 ≤ x2 then (some (0, σ0)) else (gChr 13 x2 (fun y5 => gBd (f_P_append σ0 y5) (fun y12 σ13 => rec 1 [(x2 + 1)] σ13)))
def S_W_writeRow_S13 (rec : Nat → List Int32 → gS → Option (Int32 × gS)) (k : Nat) (l : List Int32) (σ0 : gS) : Option (Int32 × gS) := match k, l with
  | 0, [] => B_W_writeRow_S13_0 rec  σ0
  | 1, [x2] => B_W_writeRow_S13_1 rec x2 σ0
  | _, _ => none
def R_W_writeRow_S13 : Nat → Nat → List Int32 → gS → Option (Int32 × gS)
  | 0 => fun _ _ _ => none
  | t + 1 => fun k l σ0 => S_W_writeRow_S13 (R_W_writeRow_S13 t) k l σ0
def f_W_writeRow_S13 (σ : gS) : Option (Int32 × gS) := R_W_writeRow_S13 gFuel 0 [] σ
set_option maxHeartbeats 4000000 in
set_option maxRecDepth 100000 in
theorem m_W_writeRow_S13 {l : Launch} {X : va_G} {cI cC cZ : ClassId} {aK aV : Nat → Nat} {a : Nat → Nat} {σ σ' : gS} {r : Int32} (hf : f_W_writeRow_S13 σ = some (r, σ')) {sz : Nat} : Met l y_W_writeRow w_W_writeRow { frames := 4, cells := 0, slots := 0, locals := 85 } (gPc X vwCl (gT cI cC cZ) aK aV (cW cI cC cZ a σ) sz [.ref (a 17), .ref (aK 13)]) (gQv X vwCl (cW cI cC cZ a σ) sz (fun (_ : Unit) => True) (fun _ => cW cI cC cZ a σ')) 0 0 (va_A (cW cI cC cZ a σ) sz) := by
  refine g_met (cc := b_W_writeRow) (maxL := 3) (ret := none) (by decide) rfl (Nat.le_of_ble_eq_true rfl) ?_
  intro p e s m below meth c A ls hx hb hr hml hown hts hlocks hnm hsz hAe hA hP hK hD hS hl hE
  have hown : s.vm.findClass R_W = some m.cls := hown
  have u_0 : ∀ w ∈ u_ws R_W T_W 6, w ∈ w_W_writeRow := fun w h => List.mem_cons_of_mem _ (tu_W w h)
  have k_0 := hts (.fieldLink R_W 26 "GraphPages$Writer" "page" "LGraphPages$Page;") (List.mem_cons_of_mem _ tb_287)
  unfold f_W_writeRow_S13 at hf
  have key : ∀ t : Nat, (∀ (σ0 : gS) (H : Heap) (locs : List Loc) (ls : Array Slot), R_W_writeRow_S13 t 0 [] σ0 = some (r, σ') → va_P X vwCl (cW cI cC cZ a σ0) H → va_D A (cW cI cC cZ a σ0) → va_S A s.heap H locs → lv_has ls 3 [(0, .ref (a 17)), (1, .ref (aK 13))] → W p l e (headSpec w_W_writeRow { frames := 4, cells := 0, slots := 0, locals := 85 }).room s m [.ref (a 17), .ref (aK 13)].toArray below meth c H locs 0 0 (MQ below (gQv X vwCl (cW cI cC cZ a σ) sz (fun (_ : Unit) => True) (fun _ => cW cI cC cZ a σ')) [.ref (a 17), .ref (aK 13)].toArray s 0 0 (va_A (cW cI cC cZ a σ) sz)) (F0 m 0 ls [])) ∧ (∀ (x2 : Int32) (σ0 : gS) (H : Heap) (locs : List Loc) (ls : Array Slot), R_W_writeRow_S13 t 1 [x2] σ0 = some (r, σ') → va_P X vwCl (cW cI cC cZ a σ0) H → va_D A (cW cI cC cZ a σ0) → va_S A s.heap H locs → lv_has ls 3 [(0, .ref (a 17)), (1, .ref (aK 13)), (2, .int x2)] → W p l e (headSpec w_W_writeRow { frames := 4, cells := 0, slots := 0, locals := 85 }).room s m [.ref (a 17), .ref (aK 13)].toArray below meth c H locs 0 0 (MQ below (gQv X vwCl (cW cI cC cZ a σ) sz (fun (_ : Unit) => True) (fun _ => cW cI cC cZ a σ')) [.ref (a 17), .ref (aK 13)].toArray s 0 0 (va_A (cW cI cC cZ a σ) sz)) (F0 m 2 ls [])) := by
    intro t
    induction t with
    | zero => exact ⟨fun  _ _ _ _ hf => (by have hf : (none : Option (Int32 × gS)) = some (r, σ') := hf; cases hf), fun _ _ _ _ _ hf => (by have hf : (none : Option (Int32 × gS)) = some (r, σ') := hf; cases hf)⟩
    | succ t ih =>
      obtain ⟨ih0, ih1⟩ := ih
      refine ⟨?_, ?_⟩
      · intro  σ0 H locs ls hf hP hD hS hl
        have hf : B_W_writeRow_S13_0 (R_W_writeRow_S13 t)  σ0 = some (r, σ') := hf
        unfold B_W_writeRow_S13_0 at hf
        refine lv_iconst (v := 0) hx hb d_W_writeRow_0 (by decide) ?_
        refine lv_istore_n hx hb d_W_writeRow_1 rfl hl (by decide) rfl (fun ls hl => ?_)
        exact ih1 (0) σ0 _ _ _ hf hP hD hS (lv_sub hl [1, 2, 0] rfl)
      · intro x2 σ0 H locs ls hf hP hD hS hl
        have hf : B_W_writeRow_S13_1 (R_W_writeRow_S13 t) x2 σ0 = some (r, σ') := hf
        unfold B_W_writeRow_S13_1 at hf
        refine lv_iload_n hx hb d_W_writeRow_2 rfl (lv_at hl 2 rfl) ?_
        refine lv_aload_n hx hb d_W_writeRow_3 rfl (lv_at hl 1 rfl) ?_
        refine g_wi (va_runV ⟨hx, hb, hml, hown, hts⟩ (m_Q_length gl_13) (cwV 0 hts (gG4 (fun _ h => List.mem_cons_of_mem _ h) tb_282 tb_81 tb_82 tb_6 tc_Q_length) rfl rfl rfl (by decide +kernel) ⟨Nat.le_of_ble_eq_true rfl, Nat.le_of_ble_eq_true rfl⟩) (g_preQ gl_13 hE hK hP hD hS hA) rfl rfl hl.1 rfl (lv_room (Nat.le_of_ble_eq_true rfl)) d_W_writeRow_4 ⟨Nat.zero_le _, Nat.zero_le _⟩) hD hS hA (fun _ => rfl) (fun y1 _ H locs hu hP hD hS => ?_)
        have hu : y1 = 5 := hu.trans (by decide)
        subst hu
        refine lv_icmp_ge (tgt := 29) hx hb d_W_writeRow_7 rfl (fun c4 => ?_) (fun c4 => ?_)
        · skip
          rw [if_pos c4] at hf
          obtain ⟨-, rfl⟩ := gRt_e hf
          exact g_vret hx hb hr hlocks hAe hS () trivial hP d_W_writeRow_29
        rw [if_neg c4] at hf
        refine lv_aload_n hx hb d_W_writeRow_10 rfl (lv_at hl 0 rfl) ?_
        refine va_get (D := X) (ci := 7) (C := R_W) (T := T_W) (N := 6) hx hb hts u_0 hown hK hP 17 gc_17 rfl 2 (by decide) k_0 (fun _ h9 => h9) rfl d_W_writeRow_11 ?_
        refine lv_aload_n hx hb d_W_writeRow_14 rfl (lv_at hl 1 rfl) ?_
        refine lv_iload_n hx hb d_W_writeRow_15 rfl (lv_at hl 2 rfl) ?_
        obtain ⟨y5, j11, h8, h9, h10, hf⟩ := gChr_e hf (by decide)
        rw [h9]
        refine g_wi (va_runV ⟨hx, hb, hml, hown, hts⟩ (m_Q_charAt gl_13 h8) (cwV 1 hts (gG4 (fun _ h => List.mem_cons_of_mem _ h) tb_283 tb_85 tb_86 tb_6 tc_Q_charAt) rfl rfl rfl (by decide +kernel) ⟨Nat.le_of_ble_eq_true rfl, Nat.le_of_ble_eq_true rfl⟩) (g_preQ gl_13 hE hK hP hD hS hA) rfl rfl hl.1 rfl (lv_room (Nat.le_of_ble_eq_true rfl)) d_W_writeRow_16 ⟨Nat.zero_le _, Nat.zero_le _⟩) hD hS hA (fun _ => rfl) (fun y5 _ H locs hu hP hD hS => ?_)
        have hu : y5 = _ := hu.trans h10.symm
        subst hu
        obtain ⟨y12, σ13, e14, hf⟩ := gBd_e hf
        refine g_wi (va_runV ⟨hx, hb, hml, hown, hts⟩ (m_P_append e14) (cwV 1 hts (gG4 (fun _ h => List.mem_cons_of_mem _ h) tb_284 tb_285 tb_286 tb_38 tc_P_append) rfl rfl rfl (by decide +kernel) ⟨Nat.le_of_ble_eq_true rfl, Nat.le_of_ble_eq_true rfl⟩) (g_preVW (q0 := 7) hE hK hP hD hS hA gc_7 rfl) rfl rfl hl.1 rfl (lv_room (Nat.le_of_ble_eq_true rfl)) d_W_writeRow_19 ⟨Nat.zero_le _, Nat.zero_le _⟩) hD hS hA (fun _ => cW_fst) (fun y12 _ H locs hu hP hD hS => ?_)
        subst hu
        refine lv_pop hx hb d_W_writeRow_22 rfl ?_
        refine lv_iinc (k := 2) (v := (x2 + 1)) hx hb d_W_writeRow_23 hl rfl (by rw [show Int32.ofInt (1) = (1 : Int32) by decide]) (by decide) rfl (fun ls hl => ?_)
        refine lv_goto (tgt := 2) hx hb d_W_writeRow_26 rfl ?_
        exact ih1 ((x2 + 1)) σ13 _ _ _ hf hP hD hS (lv_sub hl [1, 2, 0] rfl)
  exact (key gFuel).1  σ _ _ _ hf hP hD hS hl

def B_W_writeRow_S14_0 (rec : Nat → List Int32 → gS → Option (Int32 × gS)) (σ0 : gS) : Option (Int32 × gS) := rec 1 [0] σ0
def B_W_writeRow_S14_1 (rec : Nat → List Int32 → gS → Option (Int32 × gS)) (x2 : Int32) (σ0 : gS) : Option (Int32 × gS) := if 4 ≤ x2 then (some (0, σ0)) else (gChr 14 x2 (fun y5 => gBd (f_P_append σ0 y5) (fun y12 σ13 => rec 1 [(x2 + 1)] σ13)))
def S_W_writeRow_S14 (rec : Nat → List Int32 → gS → Option (Int32 × gS)) (k : Nat) (l : List Int32) (σ0 : gS) : Option (Int32 × gS) := match k, l with
  | 0, [] => B_W_writeRow_S14_0 rec  σ0
  | 1, [x2] => B_W_writeRow_S14_1 rec x2 σ0
  | _, _ => none
def R_W_writeRow_S14 : Nat → Nat → List Int32 → gS → Option (Int32 × gS)
  | 0 => fun _ _ _ => none
  | t + 1 => fun k l σ0 => S_W_writeRow_S14 (R_W_writeRow_S14 t) k l σ0
def f_W_writeRow_S14 (σ : gS) : Option (Int32 × gS) := R_W_writeRow_S14 gFuel 0 [] σ
set_option maxHeartbeats 4000000 in
set_option maxRecDepth 100000 in
theorem m_W_writeRow_S14 {l : Launch} {X : va_G} {cI cC cZ : ClassId} {aK aV : Nat → Nat} {a : Nat → Nat} {σ σ' : gS} {r : Int32} (hf : f_W_writeRow_S14 σ = some (r, σ')) {sz : Nat} : Met l y_W_writeRow w_W_writeRow { frames := 4, cells := 0, slots := 0, locals := 85 } (gPc X vwCl (gT cI cC cZ) aK aV (cW cI cC cZ a σ) sz [.ref (a 17), .ref (aK 14)]) (gQv X vwCl (cW cI cC cZ a σ) sz (fun (_ : Unit) => True) (fun _ => cW cI cC cZ a σ')) 0 0 (va_A (cW cI cC cZ a σ) sz) := by
  refine g_met (cc := b_W_writeRow) (maxL := 3) (ret := none) (by decide) rfl (Nat.le_of_ble_eq_true rfl) ?_
  intro p e s m below meth c A ls hx hb hr hml hown hts hlocks hnm hsz hAe hA hP hK hD hS hl hE
  have hown : s.vm.findClass R_W = some m.cls := hown
  have u_0 : ∀ w ∈ u_ws R_W T_W 6, w ∈ w_W_writeRow := fun w h => List.mem_cons_of_mem _ (tu_W w h)
  have k_0 := hts (.fieldLink R_W 26 "GraphPages$Writer" "page" "LGraphPages$Page;") (List.mem_cons_of_mem _ tb_287)
  unfold f_W_writeRow_S14 at hf
  have key : ∀ t : Nat, (∀ (σ0 : gS) (H : Heap) (locs : List Loc) (ls : Array Slot), R_W_writeRow_S14 t 0 [] σ0 = some (r, σ') → va_P X vwCl (cW cI cC cZ a σ0) H → va_D A (cW cI cC cZ a σ0) → va_S A s.heap H locs → lv_has ls 3 [(0, .ref (a 17)), (1, .ref (aK 14))] → W p l e (headSpec w_W_writeRow { frames := 4, cells := 0, slots := 0, locals := 85 }).room s m [.ref (a 17), .ref (aK 14)].toArray below meth c H locs 0 0 (MQ below (gQv X vwCl (cW cI cC cZ a σ) sz (fun (_ : Unit) => True) (fun _ => cW cI cC cZ a σ')) [.ref (a 17), .ref (aK 14)].toArray s 0 0 (va_A (cW cI cC cZ a σ) sz)) (F0 m 0 ls [])) ∧ (∀ (x2 : Int32) (σ0 : gS) (H : Heap) (locs : List Loc) (ls : Array Slot), R_W_writeRow_S14 t 1 [x2] σ0 = some (r, σ') → va_P X vwCl (cW cI cC cZ a σ0) H → va_D A (cW cI cC cZ a σ0) → va_S A s.heap H locs → lv_has ls 3 [(0, .ref (a 17)), (1, .ref (aK 14)), (2, .int x2)] → W p l e (headSpec w_W_writeRow { frames := 4, cells := 0, slots := 0, locals := 85 }).room s m [.ref (a 17), .ref (aK 14)].toArray below meth c H locs 0 0 (MQ below (gQv X vwCl (cW cI cC cZ a σ) sz (fun (_ : Unit) => True) (fun _ => cW cI cC cZ a σ')) [.ref (a 17), .ref (aK 14)].toArray s 0 0 (va_A (cW cI cC cZ a σ) sz)) (F0 m 2 ls [])) := by
    intro t
    induction t with
    | zero => exact ⟨fun  _ _ _ _ hf => (by have hf : (none : Option (Int32 × gS)) = some (r, σ') := hf; cases hf), fun _ _ _ _ _ hf => (by have hf : (none : Option (Int32 × gS)) = some (r, σ') := hf; cases hf)⟩
    | succ t ih =>
      obtain ⟨ih0, ih1⟩ := ih
      refine ⟨?_, ?_⟩
      · intro  σ0 H locs ls hf hP hD hS hl
        have hf : B_W_writeRow_S14_0 (R_W_writeRow_S14 t)  σ0 = some (r, σ') := hf
        unfold B_W_writeRow_S14_0 at hf
        refine lv_iconst (v := 0) hx hb d_W_writeRow_0 (by decide) ?_
        refine lv_istore_n hx hb d_W_writeRow_1 rfl hl (by decide) rfl (fun ls hl => ?_)
        exact ih1 (0) σ0 _ _ _ hf hP hD hS (lv_sub hl [1, 2, 0] rfl)
      · intro x2 σ0 H locs ls hf hP hD hS hl
        have hf : B_W_writeRow_S14_1 (R_W_writeRow_S14 t) x2 σ0 = some (r, σ') := hf
        unfold B_W_writeRow_S14_1 at hf
        refine lv_iload_n hx hb d_W_writeRow_2 rfl (lv_at hl 2 rfl) ?_
        refine lv_aload_n hx hb d_W_writeRow_3 rfl (lv_at hl 1 rfl) ?_
        refine g_wi (va_runV ⟨hx, hb, hml, hown, hts⟩ (m_Q_length gl_14) (cwV 0 hts (gG4 (fun _ h => List.mem_cons_of_mem _ h) tb_282 tb_81 tb_82 tb_6 tc_Q_length) rfl rfl rfl (by decide +kernel) ⟨Nat.le_of_ble_eq_true rfl, Nat.le_of_ble_eq_true rfl⟩) (g_preQ gl_14 hE hK hP hD hS hA) rfl rfl hl.1 rfl (lv_room (Nat.le_of_ble_eq_true rfl)) d_W_writeRow_4 ⟨Nat.zero_le _, Nat.zero_le _⟩) hD hS hA (fun _ => rfl) (fun y1 _ H locs hu hP hD hS => ?_)
        have hu : y1 = 4 := hu.trans (by decide)
        subst hu
        refine lv_icmp_ge (tgt := 29) hx hb d_W_writeRow_7 rfl (fun c4 => ?_) (fun c4 => ?_)
        · skip
          rw [if_pos c4] at hf
          obtain ⟨-, rfl⟩ := gRt_e hf
          exact g_vret hx hb hr hlocks hAe hS () trivial hP d_W_writeRow_29
        rw [if_neg c4] at hf
        refine lv_aload_n hx hb d_W_writeRow_10 rfl (lv_at hl 0 rfl) ?_
        refine va_get (D := X) (ci := 7) (C := R_W) (T := T_W) (N := 6) hx hb hts u_0 hown hK hP 17 gc_17 rfl 2 (by decide) k_0 (fun _ h9 => h9) rfl d_W_writeRow_11 ?_
        refine lv_aload_n hx hb d_W_writeRow_14 rfl (lv_at hl 1 rfl) ?_
        refine lv_iload_n hx hb d_W_writeRow_15 rfl (lv_at hl 2 rfl) ?_
        obtain ⟨y5, j11, h8, h9, h10, hf⟩ := gChr_e hf (by decide)
        rw [h9]
        refine g_wi (va_runV ⟨hx, hb, hml, hown, hts⟩ (m_Q_charAt gl_14 h8) (cwV 1 hts (gG4 (fun _ h => List.mem_cons_of_mem _ h) tb_283 tb_85 tb_86 tb_6 tc_Q_charAt) rfl rfl rfl (by decide +kernel) ⟨Nat.le_of_ble_eq_true rfl, Nat.le_of_ble_eq_true rfl⟩) (g_preQ gl_14 hE hK hP hD hS hA) rfl rfl hl.1 rfl (lv_room (Nat.le_of_ble_eq_true rfl)) d_W_writeRow_16 ⟨Nat.zero_le _, Nat.zero_le _⟩) hD hS hA (fun _ => rfl) (fun y5 _ H locs hu hP hD hS => ?_)
        have hu : y5 = _ := hu.trans h10.symm
        subst hu
        obtain ⟨y12, σ13, e14, hf⟩ := gBd_e hf
        refine g_wi (va_runV ⟨hx, hb, hml, hown, hts⟩ (m_P_append e14) (cwV 1 hts (gG4 (fun _ h => List.mem_cons_of_mem _ h) tb_284 tb_285 tb_286 tb_38 tc_P_append) rfl rfl rfl (by decide +kernel) ⟨Nat.le_of_ble_eq_true rfl, Nat.le_of_ble_eq_true rfl⟩) (g_preVW (q0 := 7) hE hK hP hD hS hA gc_7 rfl) rfl rfl hl.1 rfl (lv_room (Nat.le_of_ble_eq_true rfl)) d_W_writeRow_19 ⟨Nat.zero_le _, Nat.zero_le _⟩) hD hS hA (fun _ => cW_fst) (fun y12 _ H locs hu hP hD hS => ?_)
        subst hu
        refine lv_pop hx hb d_W_writeRow_22 rfl ?_
        refine lv_iinc (k := 2) (v := (x2 + 1)) hx hb d_W_writeRow_23 hl rfl (by rw [show Int32.ofInt (1) = (1 : Int32) by decide]) (by decide) rfl (fun ls hl => ?_)
        refine lv_goto (tgt := 2) hx hb d_W_writeRow_26 rfl ?_
        exact ih1 ((x2 + 1)) σ13 _ _ _ hf hP hD hS (lv_sub hl [1, 2, 0] rfl)
  exact (key gFuel).1  σ _ _ _ hf hP hD hS hl

def B_W_writeRow_S15_0 (rec : Nat → List Int32 → gS → Option (Int32 × gS)) (σ0 : gS) : Option (Int32 × gS) := rec 1 [0] σ0
def B_W_writeRow_S15_1 (rec : Nat → List Int32 → gS → Option (Int32 × gS)) (x2 : Int32) (σ0 : gS) : Option (Int32 × gS) := if 3 ≤ x2 then (some (0, σ0)) else (gChr 15 x2 (fun y5 => gBd (f_P_append σ0 y5) (fun y12 σ13 => rec 1 [(x2 + 1)] σ13)))
def S_W_writeRow_S15 (rec : Nat → List Int32 → gS → Option (Int32 × gS)) (k : Nat) (l : List Int32) (σ0 : gS) : Option (Int32 × gS) := match k, l with
  | 0, [] => B_W_writeRow_S15_0 rec  σ0
  | 1, [x2] => B_W_writeRow_S15_1 rec x2 σ0
  | _, _ => none
def R_W_writeRow_S15 : Nat → Nat → List Int32 → gS → Option (Int32 × gS)
  | 0 => fun _ _ _ => none
  | t + 1 => fun k l σ0 => S_W_writeRow_S15 (R_W_writeRow_S15 t) k l σ0
def f_W_writeRow_S15 (σ : gS) : Option (Int32 × gS) := R_W_writeRow_S15 gFuel 0 [] σ
set_option maxHeartbeats 4000000 in
set_option maxRecDepth 100000 in
theorem m_W_writeRow_S15 {l : Launch} {X : va_G} {cI cC cZ : ClassId} {aK aV : Nat → Nat} {a : Nat → Nat} {σ σ' : gS} {r : Int32} (hf : f_W_writeRow_S15 σ = some (r, σ')) {sz : Nat} : Met l y_W_writeRow w_W_writeRow { frames := 4, cells := 0, slots := 0, locals := 85 } (gPc X vwCl (gT cI cC cZ) aK aV (cW cI cC cZ a σ) sz [.ref (a 17), .ref (aK 15)]) (gQv X vwCl (cW cI cC cZ a σ) sz (fun (_ : Unit) => True) (fun _ => cW cI cC cZ a σ')) 0 0 (va_A (cW cI cC cZ a σ) sz) := by
  refine g_met (cc := b_W_writeRow) (maxL := 3) (ret := none) (by decide) rfl (Nat.le_of_ble_eq_true rfl) ?_
  intro p e s m below meth c A ls hx hb hr hml hown hts hlocks hnm hsz hAe hA hP hK hD hS hl hE
  have hown : s.vm.findClass R_W = some m.cls := hown
  have u_0 : ∀ w ∈ u_ws R_W T_W 6, w ∈ w_W_writeRow := fun w h => List.mem_cons_of_mem _ (tu_W w h)
  have k_0 := hts (.fieldLink R_W 26 "GraphPages$Writer" "page" "LGraphPages$Page;") (List.mem_cons_of_mem _ tb_287)
  unfold f_W_writeRow_S15 at hf
  have key : ∀ t : Nat, (∀ (σ0 : gS) (H : Heap) (locs : List Loc) (ls : Array Slot), R_W_writeRow_S15 t 0 [] σ0 = some (r, σ') → va_P X vwCl (cW cI cC cZ a σ0) H → va_D A (cW cI cC cZ a σ0) → va_S A s.heap H locs → lv_has ls 3 [(0, .ref (a 17)), (1, .ref (aK 15))] → W p l e (headSpec w_W_writeRow { frames := 4, cells := 0, slots := 0, locals := 85 }).room s m [.ref (a 17), .ref (aK 15)].toArray below meth c H locs 0 0 (MQ below (gQv X vwCl (cW cI cC cZ a σ) sz (fun (_ : Unit) => True) (fun _ => cW cI cC cZ a σ')) [.ref (a 17), .ref (aK 15)].toArray s 0 0 (va_A (cW cI cC cZ a σ) sz)) (F0 m 0 ls [])) ∧ (∀ (x2 : Int32) (σ0 : gS) (H : Heap) (locs : List Loc) (ls : Array Slot), R_W_writeRow_S15 t 1 [x2] σ0 = some (r, σ') → va_P X vwCl (cW cI cC cZ a σ0) H → va_D A (cW cI cC cZ a σ0) → va_S A s.heap H locs → lv_has ls 3 [(0, .ref (a 17)), (1, .ref (aK 15)), (2, .int x2)] → W p l e (headSpec w_W_writeRow { frames := 4, cells := 0, slots := 0, locals := 85 }).room s m [.ref (a 17), .ref (aK 15)].toArray below meth c H locs 0 0 (MQ below (gQv X vwCl (cW cI cC cZ a σ) sz (fun (_ : Unit) => True) (fun _ => cW cI cC cZ a σ')) [.ref (a 17), .ref (aK 15)].toArray s 0 0 (va_A (cW cI cC cZ a σ) sz)) (F0 m 2 ls [])) := by
    intro t
    induction t with
    | zero => exact ⟨fun  _ _ _ _ hf => (by have hf : (none : Option (Int32 × gS)) = some (r, σ') := hf; cases hf), fun _ _ _ _ _ hf => (by have hf : (none : Option (Int32 × gS)) = some (r, σ') := hf; cases hf)⟩
    | succ t ih =>
      obtain ⟨ih0, ih1⟩ := ih
      refine ⟨?_, ?_⟩
      · intro  σ0 H locs ls hf hP hD hS hl
        have hf : B_W_writeRow_S15_0 (R_W_writeRow_S15 t)  σ0 = some (r, σ') := hf
        unfold B_W_writeRow_S15_0 at hf
        refine lv_iconst (v := 0) hx hb d_W_writeRow_0 (by decide) ?_
        refine lv_istore_n hx hb d_W_writeRow_1 rfl hl (by decide) rfl (fun ls hl => ?_)
        exact ih1 (0) σ0 _ _ _ hf hP hD hS (lv_sub hl [1, 2, 0] rfl)
      · intro x2 σ0 H locs ls hf hP hD hS hl
        have hf : B_W_writeRow_S15_1 (R_W_writeRow_S15 t) x2 σ0 = some (r, σ') := hf
        unfold B_W_writeRow_S15_1 at hf
        refine lv_iload_n hx hb d_W_writeRow_2 rfl (lv_at hl 2 rfl) ?_
        refine lv_aload_n hx hb d_W_writeRow_3 rfl (lv_at hl 1 rfl) ?_
        refine g_wi (va_runV ⟨hx, hb, hml, hown, hts⟩ (m_Q_length gl_15) (cwV 0 hts (gG4 (fun _ h => List.mem_cons_of_mem _ h) tb_282 tb_81 tb_82 tb_6 tc_Q_length) rfl rfl rfl (by decide +kernel) ⟨Nat.le_of_ble_eq_true rfl, Nat.le_of_ble_eq_true rfl⟩) (g_preQ gl_15 hE hK hP hD hS hA) rfl rfl hl.1 rfl (lv_room (Nat.le_of_ble_eq_true rfl)) d_W_writeRow_4 ⟨Nat.zero_le _, Nat.zero_le _⟩) hD hS hA (fun _ => rfl) (fun y1 _ H locs hu hP hD hS => ?_)
        have hu : y1 = 3 := hu.trans (by decide)
        subst hu
        refine lv_icmp_ge (tgt := 29) hx hb d_W_writeRow_7 rfl (fun c4 => ?_) (fun c4 => ?_)
        · skip
          rw [if_pos c4] at hf
          obtain ⟨-, rfl⟩ := gRt_e hf
          exact g_vret hx hb hr hlocks hAe hS () trivial hP d_W_writeRow_29
        rw [if_neg c4] at hf
        refine lv_aload_n hx hb d_W_writeRow_10 rfl (lv_at hl 0 rfl) ?_
        refine va_get (D := X) (ci := 7) (C := R_W) (T := T_W) (N := 6) hx hb hts u_0 hown hK hP 17 gc_17 rfl 2 (by decide) k_0 (fun _ h9 => h9) rfl d_W_writeRow_11 ?_
        refine lv_aload_n hx hb d_W_writeRow_14 rfl (lv_at hl 1 rfl) ?_
        refine lv_iload_n hx hb d_W_writeRow_15 rfl (lv_at hl 2 rfl) ?_
        obtain ⟨y5, j11, h8, h9, h10, hf⟩ := gChr_e hf (by decide)
        rw [h9]
        refine g_wi (va_runV ⟨hx, hb, hml, hown, hts⟩ (m_Q_charAt gl_15 h8) (cwV 1 hts (gG4 (fun _ h => List.mem_cons_of_mem _ h) tb_283 tb_85 tb_86 tb_6 tc_Q_charAt) rfl rfl rfl (by decide +kernel) ⟨Nat.le_of_ble_eq_true rfl, Nat.le_of_ble_eq_true rfl⟩) (g_preQ gl_15 hE hK hP hD hS hA) rfl rfl hl.1 rfl (lv_room (Nat.le_of_ble_eq_true rfl)) d_W_writeRow_16 ⟨Nat.zero_le _, Nat.zero_le _⟩) hD hS hA (fun _ => rfl) (fun y5 _ H locs hu hP hD hS => ?_)
        have hu : y5 = _ := hu.trans h10.symm
        subst hu
        obtain ⟨y12, σ13, e14, hf⟩ := gBd_e hf
        refine g_wi (va_runV ⟨hx, hb, hml, hown, hts⟩ (m_P_append e14) (cwV 1 hts (gG4 (fun _ h => List.mem_cons_of_mem _ h) tb_284 tb_285 tb_286 tb_38 tc_P_append) rfl rfl rfl (by decide +kernel) ⟨Nat.le_of_ble_eq_true rfl, Nat.le_of_ble_eq_true rfl⟩) (g_preVW (q0 := 7) hE hK hP hD hS hA gc_7 rfl) rfl rfl hl.1 rfl (lv_room (Nat.le_of_ble_eq_true rfl)) d_W_writeRow_19 ⟨Nat.zero_le _, Nat.zero_le _⟩) hD hS hA (fun _ => cW_fst) (fun y12 _ H locs hu hP hD hS => ?_)
        subst hu
        refine lv_pop hx hb d_W_writeRow_22 rfl ?_
        refine lv_iinc (k := 2) (v := (x2 + 1)) hx hb d_W_writeRow_23 hl rfl (by rw [show Int32.ofInt (1) = (1 : Int32) by decide]) (by decide) rfl (fun ls hl => ?_)
        refine lv_goto (tgt := 2) hx hb d_W_writeRow_26 rfl ?_
        exact ih1 ((x2 + 1)) σ13 _ _ _ hf hP hD hS (lv_sub hl [1, 2, 0] rfl)
  exact (key gFuel).1  σ _ _ _ hf hP hD hS hl

def B_W_writeRow_S16_0 (rec : Nat → List Int32 → gS → Option (Int32 × gS)) (σ0 : gS) : Option (Int32 × gS) := rec 1 [0] σ0
def B_W_writeRow_S16_1 (rec : Nat → List Int32 → gS → Option (Int32 × gS)) (x2 : Int32) (σ0 : gS) : Option (Int32 × gS) := if 4 ≤ x2 then (some (0, σ0)) else (gChr 16 x2 (fun y5 => gBd (f_P_append σ0 y5) (fun y12 σ13 => rec 1 [(x2 + 1)] σ13)))
def S_W_writeRow_S16 (rec : Nat → List Int32 → gS → Option (Int32 × gS)) (k : Nat) (l : List Int32) (σ0 : gS) : Option (Int32 × gS) := match k, l with
  | 0, [] => B_W_writeRow_S16_0 rec  σ0
  | 1, [x2] => B_W_writeRow_S16_1 rec x2 σ0
  | _, _ => none
def R_W_writeRow_S16 : Nat → Nat → List Int32 → gS → Option (Int32 × gS)
  | 0 => fun _ _ _ => none
  | t + 1 => fun k l σ0 => S_W_writeRow_S16 (R_W_writeRow_S16 t) k l σ0
def f_W_writeRow_S16 (σ : gS) : Option (Int32 × gS) := R_W_writeRow_S16 gFuel 0 [] σ
set_option maxHeartbeats 4000000 in
set_option maxRecDepth 100000 in
theorem m_W_writeRow_S16 {l : Launch} {X : va_G} {cI cC cZ : ClassId} {aK aV : Nat → Nat} {a : Nat → Nat} {σ σ' : gS} {r : Int32} (hf : f_W_writeRow_S16 σ = some (r, σ')) {sz : Nat} : Met l y_W_writeRow w_W_writeRow { frames := 4, cells := 0, slots := 0, locals := 85 } (gPc X vwCl (gT cI cC cZ) aK aV (cW cI cC cZ a σ) sz [.ref (a 17), .ref (aK 16)]) (gQv X vwCl (cW cI cC cZ a σ) sz (fun (_ : Unit) => True) (fun _ => cW cI cC cZ a σ')) 0 0 (va_A (cW cI cC cZ a σ) sz) := by
  refine g_met (cc := b_W_writeRow) (maxL := 3) (ret := none) (by decide) rfl (Nat.le_of_ble_eq_true rfl) ?_
  intro p e s m below meth c A ls hx hb hr hml hown hts hlocks hnm hsz hAe hA hP hK hD hS hl hE
  have hown : s.vm.findClass R_W = some m.cls := hown
  have u_0 : ∀ w ∈ u_ws R_W T_W 6, w ∈ w_W_writeRow := fun w h => List.mem_cons_of_mem _ (tu_W w h)
  have k_0 := hts (.fieldLink R_W 26 "GraphPages$Writer" "page" "LGraphPages$Page;") (List.mem_cons_of_mem _ tb_287)
  unfold f_W_writeRow_S16 at hf
  have key : ∀ t : Nat, (∀ (σ0 : gS) (H : Heap) (locs : List Loc) (ls : Array Slot), R_W_writeRow_S16 t 0 [] σ0 = some (r, σ') → va_P X vwCl (cW cI cC cZ a σ0) H → va_D A (cW cI cC cZ a σ0) → va_S A s.heap H locs → lv_has ls 3 [(0, .ref (a 17)), (1, .ref (aK 16))] → W p l e (headSpec w_W_writeRow { frames := 4, cells := 0, slots := 0, locals := 85 }).room s m [.ref (a 17), .ref (aK 16)].toArray below meth c H locs 0 0 (MQ below (gQv X vwCl (cW cI cC cZ a σ) sz (fun (_ : Unit) => True) (fun _ => cW cI cC cZ a σ')) [.ref (a 17), .ref (aK 16)].toArray s 0 0 (va_A (cW cI cC cZ a σ) sz)) (F0 m 0 ls [])) ∧ (∀ (x2 : Int32) (σ0 : gS) (H : Heap) (locs : List Loc) (ls : Array Slot), R_W_writeRow_S16 t 1 [x2] σ0 = some (r, σ') → va_P X vwCl (cW cI cC cZ a σ0) H → va_D A (cW cI cC cZ a σ0) → va_S A s.heap H locs → lv_has ls 3 [(0, .ref (a 17)), (1, .ref (aK 16)), (2, .int x2)] → W p l e (headSpec w_W_writeRow { frames := 4, cells := 0, slots := 0, locals := 85 }).room s m [.ref (a 17), .ref (aK 16)].toArray below meth c H locs 0 0 (MQ below (gQv X vwCl (cW cI cC cZ a σ) sz (fun (_ : Unit) => True) (fun _ => cW cI cC cZ a σ')) [.ref (a 17), .ref (aK 16)].toArray s 0 0 (va_A (cW cI cC cZ a σ) sz)) (F0 m 2 ls [])) := by
    intro t
    induction t with
    | zero => exact ⟨fun  _ _ _ _ hf => (by have hf : (none : Option (Int32 × gS)) = some (r, σ') := hf; cases hf), fun _ _ _ _ _ hf => (by have hf : (none : Option (Int32 × gS)) = some (r, σ') := hf; cases hf)⟩
    | succ t ih =>
      obtain ⟨ih0, ih1⟩ := ih
      refine ⟨?_, ?_⟩
      · intro  σ0 H locs ls hf hP hD hS hl
        have hf : B_W_writeRow_S16_0 (R_W_writeRow_S16 t)  σ0 = some (r, σ') := hf
        unfold B_W_writeRow_S16_0 at hf
        refine lv_iconst (v := 0) hx hb d_W_writeRow_0 (by decide) ?_
        refine lv_istore_n hx hb d_W_writeRow_1 rfl hl (by decide) rfl (fun ls hl => ?_)
        exact ih1 (0) σ0 _ _ _ hf hP hD hS (lv_sub hl [1, 2, 0] rfl)
      · intro x2 σ0 H locs ls hf hP hD hS hl
        have hf : B_W_writeRow_S16_1 (R_W_writeRow_S16 t) x2 σ0 = some (r, σ') := hf
        unfold B_W_writeRow_S16_1 at hf
        refine lv_iload_n hx hb d_W_writeRow_2 rfl (lv_at hl 2 rfl) ?_
        refine lv_aload_n hx hb d_W_writeRow_3 rfl (lv_at hl 1 rfl) ?_
        refine g_wi (va_runV ⟨hx, hb, hml, hown, hts⟩ (m_Q_length gl_16) (cwV 0 hts (gG4 (fun _ h => List.mem_cons_of_mem _ h) tb_282 tb_81 tb_82 tb_6 tc_Q_length) rfl rfl rfl (by decide +kernel) ⟨Nat.le_of_ble_eq_true rfl, Nat.le_of_ble_eq_true rfl⟩) (g_preQ gl_16 hE hK hP hD hS hA) rfl rfl hl.1 rfl (lv_room (Nat.le_of_ble_eq_true rfl)) d_W_writeRow_4 ⟨Nat.zero_le _, Nat.zero_le _⟩) hD hS hA (fun _ => rfl) (fun y1 _ H locs hu hP hD hS => ?_)
        have hu : y1 = 4 := hu.trans (by decide)
        subst hu
        refine lv_icmp_ge (tgt := 29) hx hb d_W_writeRow_7 rfl (fun c4 => ?_) (fun c4 => ?_)
        · skip
          rw [if_pos c4] at hf
          obtain ⟨-, rfl⟩ := gRt_e hf
          exact g_vret hx hb hr hlocks hAe hS () trivial hP d_W_writeRow_29
        rw [if_neg c4] at hf
        refine lv_aload_n hx hb d_W_writeRow_10 rfl (lv_at hl 0 rfl) ?_
        refine va_get (D := X) (ci := 7) (C := R_W) (T := T_W) (N := 6) hx hb hts u_0 hown hK hP 17 gc_17 rfl 2 (by decide) k_0 (fun _ h9 => h9) rfl d_W_writeRow_11 ?_
        refine lv_aload_n hx hb d_W_writeRow_14 rfl (lv_at hl 1 rfl) ?_
        refine lv_iload_n hx hb d_W_writeRow_15 rfl (lv_at hl 2 rfl) ?_
        obtain ⟨y5, j11, h8, h9, h10, hf⟩ := gChr_e hf (by decide)
        rw [h9]
        refine g_wi (va_runV ⟨hx, hb, hml, hown, hts⟩ (m_Q_charAt gl_16 h8) (cwV 1 hts (gG4 (fun _ h => List.mem_cons_of_mem _ h) tb_283 tb_85 tb_86 tb_6 tc_Q_charAt) rfl rfl rfl (by decide +kernel) ⟨Nat.le_of_ble_eq_true rfl, Nat.le_of_ble_eq_true rfl⟩) (g_preQ gl_16 hE hK hP hD hS hA) rfl rfl hl.1 rfl (lv_room (Nat.le_of_ble_eq_true rfl)) d_W_writeRow_16 ⟨Nat.zero_le _, Nat.zero_le _⟩) hD hS hA (fun _ => rfl) (fun y5 _ H locs hu hP hD hS => ?_)
        have hu : y5 = _ := hu.trans h10.symm
        subst hu
        obtain ⟨y12, σ13, e14, hf⟩ := gBd_e hf
        refine g_wi (va_runV ⟨hx, hb, hml, hown, hts⟩ (m_P_append e14) (cwV 1 hts (gG4 (fun _ h => List.mem_cons_of_mem _ h) tb_284 tb_285 tb_286 tb_38 tc_P_append) rfl rfl rfl (by decide +kernel) ⟨Nat.le_of_ble_eq_true rfl, Nat.le_of_ble_eq_true rfl⟩) (g_preVW (q0 := 7) hE hK hP hD hS hA gc_7 rfl) rfl rfl hl.1 rfl (lv_room (Nat.le_of_ble_eq_true rfl)) d_W_writeRow_19 ⟨Nat.zero_le _, Nat.zero_le _⟩) hD hS hA (fun _ => cW_fst) (fun y12 _ H locs hu hP hD hS => ?_)
        subst hu
        refine lv_pop hx hb d_W_writeRow_22 rfl ?_
        refine lv_iinc (k := 2) (v := (x2 + 1)) hx hb d_W_writeRow_23 hl rfl (by rw [show Int32.ofInt (1) = (1 : Int32) by decide]) (by decide) rfl (fun ls hl => ?_)
        refine lv_goto (tgt := 2) hx hb d_W_writeRow_26 rfl ?_
        exact ih1 ((x2 + 1)) σ13 _ _ _ hf hP hD hS (lv_sub hl [1, 2, 0] rfl)
  exact (key gFuel).1  σ _ _ _ hf hP hD hS hl

def B_W_writeRow_S17_0 (rec : Nat → List Int32 → gS → Option (Int32 × gS)) (σ0 : gS) : Option (Int32 × gS) := rec 1 [0] σ0
def B_W_writeRow_S17_1 (rec : Nat → List Int32 → gS → Option (Int32 × gS)) (x2 : Int32) (σ0 : gS) : Option (Int32 × gS) := if 4 ≤ x2 then (some (0, σ0)) else (gChr 17 x2 (fun y5 => gBd (f_P_append σ0 y5) (fun y12 σ13 => rec 1 [(x2 + 1)] σ13)))
def S_W_writeRow_S17 (rec : Nat → List Int32 → gS → Option (Int32 × gS)) (k : Nat) (l : List Int32) (σ0 : gS) : Option (Int32 × gS) := match k, l with
  | 0, [] => B_W_writeRow_S17_0 rec  σ0
  | 1, [x2] => B_W_writeRow_S17_1 rec x2 σ0
  | _, _ => none
def R_W_writeRow_S17 : Nat → Nat → List Int32 → gS → Option (Int32 × gS)
  | 0 => fun _ _ _ => none
  | t + 1 => fun k l σ0 => S_W_writeRow_S17 (R_W_writeRow_S17 t) k l σ0
def f_W_writeRow_S17 (σ : gS) : Option (Int32 × gS) := R_W_writeRow_S17 gFuel 0 [] σ
set_option maxHeartbeats 4000000 in
set_option maxRecDepth 100000 in
theorem m_W_writeRow_S17 {l : Launch} {X : va_G} {cI cC cZ : ClassId} {aK aV : Nat → Nat} {a : Nat → Nat} {σ σ' : gS} {r : Int32} (hf : f_W_writeRow_S17 σ = some (r, σ')) {sz : Nat} : Met l y_W_writeRow w_W_writeRow { frames := 4, cells := 0, slots := 0, locals := 85 } (gPc X vwCl (gT cI cC cZ) aK aV (cW cI cC cZ a σ) sz [.ref (a 17), .ref (aK 17)]) (gQv X vwCl (cW cI cC cZ a σ) sz (fun (_ : Unit) => True) (fun _ => cW cI cC cZ a σ')) 0 0 (va_A (cW cI cC cZ a σ) sz) := by
  refine g_met (cc := b_W_writeRow) (maxL := 3) (ret := none) (by decide) rfl (Nat.le_of_ble_eq_true rfl) ?_
  intro p e s m below meth c A ls hx hb hr hml hown hts hlocks hnm hsz hAe hA hP hK hD hS hl hE
  have hown : s.vm.findClass R_W = some m.cls := hown
  have u_0 : ∀ w ∈ u_ws R_W T_W 6, w ∈ w_W_writeRow := fun w h => List.mem_cons_of_mem _ (tu_W w h)
  have k_0 := hts (.fieldLink R_W 26 "GraphPages$Writer" "page" "LGraphPages$Page;") (List.mem_cons_of_mem _ tb_287)
  unfold f_W_writeRow_S17 at hf
  have key : ∀ t : Nat, (∀ (σ0 : gS) (H : Heap) (locs : List Loc) (ls : Array Slot), R_W_writeRow_S17 t 0 [] σ0 = some (r, σ') → va_P X vwCl (cW cI cC cZ a σ0) H → va_D A (cW cI cC cZ a σ0) → va_S A s.heap H locs → lv_has ls 3 [(0, .ref (a 17)), (1, .ref (aK 17))] → W p l e (headSpec w_W_writeRow { frames := 4, cells := 0, slots := 0, locals := 85 }).room s m [.ref (a 17), .ref (aK 17)].toArray below meth c H locs 0 0 (MQ below (gQv X vwCl (cW cI cC cZ a σ) sz (fun (_ : Unit) => True) (fun _ => cW cI cC cZ a σ')) [.ref (a 17), .ref (aK 17)].toArray s 0 0 (va_A (cW cI cC cZ a σ) sz)) (F0 m 0 ls [])) ∧ (∀ (x2 : Int32) (σ0 : gS) (H : Heap) (locs : List Loc) (ls : Array Slot), R_W_writeRow_S17 t 1 [x2] σ0 = some (r, σ') → va_P X vwCl (cW cI cC cZ a σ0) H → va_D A (cW cI cC cZ a σ0) → va_S A s.heap H locs → lv_has ls 3 [(0, .ref (a 17)), (1, .ref (aK 17)), (2, .int x2)] → W p l e (headSpec w_W_writeRow { frames := 4, cells := 0, slots := 0, locals := 85 }).room s m [.ref (a 17), .ref (aK 17)].toArray below meth c H locs 0 0 (MQ below (gQv X vwCl (cW cI cC cZ a σ) sz (fun (_ : Unit) => True) (fun _ => cW cI cC cZ a σ')) [.ref (a 17), .ref (aK 17)].toArray s 0 0 (va_A (cW cI cC cZ a σ) sz)) (F0 m 2 ls [])) := by
    intro t
    induction t with
    | zero => exact ⟨fun  _ _ _ _ hf => (by have hf : (none : Option (Int32 × gS)) = some (r, σ') := hf; cases hf), fun _ _ _ _ _ hf => (by have hf : (none : Option (Int32 × gS)) = some (r, σ') := hf; cases hf)⟩
    | succ t ih =>
      obtain ⟨ih0, ih1⟩ := ih
      refine ⟨?_, ?_⟩
      · intro  σ0 H locs ls hf hP hD hS hl
        have hf : B_W_writeRow_S17_0 (R_W_writeRow_S17 t)  σ0 = some (r, σ') := hf
        unfold B_W_writeRow_S17_0 at hf
        refine lv_iconst (v := 0) hx hb d_W_writeRow_0 (by decide) ?_
        refine lv_istore_n hx hb d_W_writeRow_1 rfl hl (by decide) rfl (fun ls hl => ?_)
        exact ih1 (0) σ0 _ _ _ hf hP hD hS (lv_sub hl [1, 2, 0] rfl)
      · intro x2 σ0 H locs ls hf hP hD hS hl
        have hf : B_W_writeRow_S17_1 (R_W_writeRow_S17 t) x2 σ0 = some (r, σ') := hf
        unfold B_W_writeRow_S17_1 at hf
        refine lv_iload_n hx hb d_W_writeRow_2 rfl (lv_at hl 2 rfl) ?_
        refine lv_aload_n hx hb d_W_writeRow_3 rfl (lv_at hl 1 rfl) ?_
        refine g_wi (va_runV ⟨hx, hb, hml, hown, hts⟩ (m_Q_length gl_17) (cwV 0 hts (gG4 (fun _ h => List.mem_cons_of_mem _ h) tb_282 tb_81 tb_82 tb_6 tc_Q_length) rfl rfl rfl (by decide +kernel) ⟨Nat.le_of_ble_eq_true rfl, Nat.le_of_ble_eq_true rfl⟩) (g_preQ gl_17 hE hK hP hD hS hA) rfl rfl hl.1 rfl (lv_room (Nat.le_of_ble_eq_true rfl)) d_W_writeRow_4 ⟨Nat.zero_le _, Nat.zero_le _⟩) hD hS hA (fun _ => rfl) (fun y1 _ H locs hu hP hD hS => ?_)
        have hu : y1 = 4 := hu.trans (by decide)
        subst hu
        refine lv_icmp_ge (tgt := 29) hx hb d_W_writeRow_7 rfl (fun c4 => ?_) (fun c4 => ?_)
        · skip
          rw [if_pos c4] at hf
          obtain ⟨-, rfl⟩ := gRt_e hf
          exact g_vret hx hb hr hlocks hAe hS () trivial hP d_W_writeRow_29
        rw [if_neg c4] at hf
        refine lv_aload_n hx hb d_W_writeRow_10 rfl (lv_at hl 0 rfl) ?_
        refine va_get (D := X) (ci := 7) (C := R_W) (T := T_W) (N := 6) hx hb hts u_0 hown hK hP 17 gc_17 rfl 2 (by decide) k_0 (fun _ h9 => h9) rfl d_W_writeRow_11 ?_
        refine lv_aload_n hx hb d_W_writeRow_14 rfl (lv_at hl 1 rfl) ?_
        refine lv_iload_n hx hb d_W_writeRow_15 rfl (lv_at hl 2 rfl) ?_
        obtain ⟨y5, j11, h8, h9, h10, hf⟩ := gChr_e hf (by decide)
        rw [h9]
        refine g_wi (va_runV ⟨hx, hb, hml, hown, hts⟩ (m_Q_charAt gl_17 h8) (cwV 1 hts (gG4 (fun _ h => List.mem_cons_of_mem _ h) tb_283 tb_85 tb_86 tb_6 tc_Q_charAt) rfl rfl rfl (by decide +kernel) ⟨Nat.le_of_ble_eq_true rfl, Nat.le_of_ble_eq_true rfl⟩) (g_preQ gl_17 hE hK hP hD hS hA) rfl rfl hl.1 rfl (lv_room (Nat.le_of_ble_eq_true rfl)) d_W_writeRow_16 ⟨Nat.zero_le _, Nat.zero_le _⟩) hD hS hA (fun _ => rfl) (fun y5 _ H locs hu hP hD hS => ?_)
        have hu : y5 = _ := hu.trans h10.symm
        subst hu
        obtain ⟨y12, σ13, e14, hf⟩ := gBd_e hf
        refine g_wi (va_runV ⟨hx, hb, hml, hown, hts⟩ (m_P_append e14) (cwV 1 hts (gG4 (fun _ h => List.mem_cons_of_mem _ h) tb_284 tb_285 tb_286 tb_38 tc_P_append) rfl rfl rfl (by decide +kernel) ⟨Nat.le_of_ble_eq_true rfl, Nat.le_of_ble_eq_true rfl⟩) (g_preVW (q0 := 7) hE hK hP hD hS hA gc_7 rfl) rfl rfl hl.1 rfl (lv_room (Nat.le_of_ble_eq_true rfl)) d_W_writeRow_19 ⟨Nat.zero_le _, Nat.zero_le _⟩) hD hS hA (fun _ => cW_fst) (fun y12 _ H locs hu hP hD hS => ?_)
        subst hu
        refine lv_pop hx hb d_W_writeRow_22 rfl ?_
        refine lv_iinc (k := 2) (v := (x2 + 1)) hx hb d_W_writeRow_23 hl rfl (by rw [show Int32.ofInt (1) = (1 : Int32) by decide]) (by decide) rfl (fun ls hl => ?_)
        refine lv_goto (tgt := 2) hx hb d_W_writeRow_26 rfl ?_
        exact ih1 ((x2 + 1)) σ13 _ _ _ hf hP hD hS (lv_sub hl [1, 2, 0] rfl)
  exact (key gFuel).1  σ _ _ _ hf hP hD hS hl

def B_W_writeRow_S18_0 (rec : Nat → List Int32 → gS → Option (Int32 × gS)) (σ0 : gS) : Option (Int32 × gS) := rec 1 [0] σ0
def B_W_writeRow_S18_1 (rec : Nat → List Int32 → gS → Option (Int32 × gS)) (x2 : Int32) (σ0 : gS) : Option (Int32 × gS) := if 4 ≤ x2 then (some (0, σ0)) else (gChr 18 x2 (fun y5 => gBd (f_P_append σ0 y5) (fun y12 σ13 => rec 1 [(x2 + 1)] σ13)))
def S_W_writeRow_S18 (rec : Nat → List Int32 → gS → Option (Int32 × gS)) (k : Nat) (l : List Int32) (σ0 : gS) : Option (Int32 × gS) := match k, l with
  | 0, [] => B_W_writeRow_S18_0 rec  σ0
  | 1, [x2] => B_W_writeRow_S18_1 rec x2 σ0
  | _, _ => none
def R_W_writeRow_S18 : Nat → Nat → List Int32 → gS → Option (Int32 × gS)
  | 0 => fun _ _ _ => none
  | t + 1 => fun k l σ0 => S_W_writeRow_S18 (R_W_writeRow_S18 t) k l σ0
def f_W_writeRow_S18 (σ : gS) : Option (Int32 × gS) := R_W_writeRow_S18 gFuel 0 [] σ
set_option maxHeartbeats 4000000 in
set_option maxRecDepth 100000 in
theorem m_W_writeRow_S18 {l : Launch} {X : va_G} {cI cC cZ : ClassId} {aK aV : Nat → Nat} {a : Nat → Nat} {σ σ' : gS} {r : Int32} (hf : f_W_writeRow_S18 σ = some (r, σ')) {sz : Nat} : Met l y_W_writeRow w_W_writeRow { frames := 4, cells := 0, slots := 0, locals := 85 } (gPc X vwCl (gT cI cC cZ) aK aV (cW cI cC cZ a σ) sz [.ref (a 17), .ref (aK 18)]) (gQv X vwCl (cW cI cC cZ a σ) sz (fun (_ : Unit) => True) (fun _ => cW cI cC cZ a σ')) 0 0 (va_A (cW cI cC cZ a σ) sz) := by
  refine g_met (cc := b_W_writeRow) (maxL := 3) (ret := none) (by decide) rfl (Nat.le_of_ble_eq_true rfl) ?_
  intro p e s m below meth c A ls hx hb hr hml hown hts hlocks hnm hsz hAe hA hP hK hD hS hl hE
  have hown : s.vm.findClass R_W = some m.cls := hown
  have u_0 : ∀ w ∈ u_ws R_W T_W 6, w ∈ w_W_writeRow := fun w h => List.mem_cons_of_mem _ (tu_W w h)
  have k_0 := hts (.fieldLink R_W 26 "GraphPages$Writer" "page" "LGraphPages$Page;") (List.mem_cons_of_mem _ tb_287)
  unfold f_W_writeRow_S18 at hf
  have key : ∀ t : Nat, (∀ (σ0 : gS) (H : Heap) (locs : List Loc) (ls : Array Slot), R_W_writeRow_S18 t 0 [] σ0 = some (r, σ') → va_P X vwCl (cW cI cC cZ a σ0) H → va_D A (cW cI cC cZ a σ0) → va_S A s.heap H locs → lv_has ls 3 [(0, .ref (a 17)), (1, .ref (aK 18))] → W p l e (headSpec w_W_writeRow { frames := 4, cells := 0, slots := 0, locals := 85 }).room s m [.ref (a 17), .ref (aK 18)].toArray below meth c H locs 0 0 (MQ below (gQv X vwCl (cW cI cC cZ a σ) sz (fun (_ : Unit) => True) (fun _ => cW cI cC cZ a σ')) [.ref (a 17), .ref (aK 18)].toArray s 0 0 (va_A (cW cI cC cZ a σ) sz)) (F0 m 0 ls [])) ∧ (∀ (x2 : Int32) (σ0 : gS) (H : Heap) (locs : List Loc) (ls : Array Slot), R_W_writeRow_S18 t 1 [x2] σ0 = some (r, σ') → va_P X vwCl (cW cI cC cZ a σ0) H → va_D A (cW cI cC cZ a σ0) → va_S A s.heap H locs → lv_has ls 3 [(0, .ref (a 17)), (1, .ref (aK 18)), (2, .int x2)] → W p l e (headSpec w_W_writeRow { frames := 4, cells := 0, slots := 0, locals := 85 }).room s m [.ref (a 17), .ref (aK 18)].toArray below meth c H locs 0 0 (MQ below (gQv X vwCl (cW cI cC cZ a σ) sz (fun (_ : Unit) => True) (fun _ => cW cI cC cZ a σ')) [.ref (a 17), .ref (aK 18)].toArray s 0 0 (va_A (cW cI cC cZ a σ) sz)) (F0 m 2 ls [])) := by
    intro t
    induction t with
    | zero => exact ⟨fun  _ _ _ _ hf => (by have hf : (none : Option (Int32 × gS)) = some (r, σ') := hf; cases hf), fun _ _ _ _ _ hf => (by have hf : (none : Option (Int32 × gS)) = some (r, σ') := hf; cases hf)⟩
    | succ t ih =>
      obtain ⟨ih0, ih1⟩ := ih
      refine ⟨?_, ?_⟩
      · intro  σ0 H locs ls hf hP hD hS hl
        have hf : B_W_writeRow_S18_0 (R_W_writeRow_S18 t)  σ0 = some (r, σ') := hf
        unfold B_W_writeRow_S18_0 at hf
        refine lv_iconst (v := 0) hx hb d_W_writeRow_0 (by decide) ?_
        refine lv_istore_n hx hb d_W_writeRow_1 rfl hl (by decide) rfl (fun ls hl => ?_)
        exact ih1 (0) σ0 _ _ _ hf hP hD hS (lv_sub hl [1, 2, 0] rfl)
      · intro x2 σ0 H locs ls hf hP hD hS hl
        have hf : B_W_writeRow_S18_1 (R_W_writeRow_S18 t) x2 σ0 = some (r, σ') := hf
        unfold B_W_writeRow_S18_1 at hf
        refine lv_iload_n hx hb d_W_writeRow_2 rfl (lv_at hl 2 rfl) ?_
        refine lv_aload_n hx hb d_W_writeRow_3 rfl (lv_at hl 1 rfl) ?_
        refine g_wi (va_runV ⟨hx, hb, hml, hown, hts⟩ (m_Q_length gl_18) (cwV 0 hts (gG4 (fun _ h => List.mem_cons_of_mem _ h) tb_282 tb_81 tb_82 tb_6 tc_Q_length) rfl rfl rfl (by decide +kernel) ⟨Nat.le_of_ble_eq_true rfl, Nat.le_of_ble_eq_true rfl⟩) (g_preQ gl_18 hE hK hP hD hS hA) rfl rfl hl.1 rfl (lv_room (Nat.le_of_ble_eq_true rfl)) d_W_writeRow_4 ⟨Nat.zero_le _, Nat.zero_le _⟩) hD hS hA (fun _ => rfl) (fun y1 _ H locs hu hP hD hS => ?_)
        have hu : y1 = 4 := hu.trans (by decide)
        subst hu
        refine lv_icmp_ge (tgt := 29) hx hb d_W_writeRow_7 rfl (fun c4 => ?_) (fun c4 => ?_)
        · skip
          rw [if_pos c4] at hf
          obtain ⟨-, rfl⟩ := gRt_e hf
          exact g_vret hx hb hr hlocks hAe hS () trivial hP d_W_writeRow_29
        rw [if_neg c4] at hf
        refine lv_aload_n hx hb d_W_writeRow_10 rfl (lv_at hl 0 rfl) ?_
        refine va_get (D := X) (ci := 7) (C := R_W) (T := T_W) (N := 6) hx hb hts u_0 hown hK hP 17 gc_17 rfl 2 (by decide) k_0 (fun _ h9 => h9) rfl d_W_writeRow_11 ?_
        refine lv_aload_n hx hb d_W_writeRow_14 rfl (lv_at hl 1 rfl) ?_
        refine lv_iload_n hx hb d_W_writeRow_15 rfl (lv_at hl 2 rfl) ?_
        obtain ⟨y5, j11, h8, h9, h10, hf⟩ := gChr_e hf (by decide)
        rw [h9]
        refine g_wi (va_runV ⟨hx, hb, hml, hown, hts⟩ (m_Q_charAt gl_18 h8) (cwV 1 hts (gG4 (fun _ h => List.mem_cons_of_mem _ h) tb_283 tb_85 tb_86 tb_6 tc_Q_charAt) rfl rfl rfl (by decide +kernel) ⟨Nat.le_of_ble_eq_true rfl, Nat.le_of_ble_eq_true rfl⟩) (g_preQ gl_18 hE hK hP hD hS hA) rfl rfl hl.1 rfl (lv_room (Nat.le_of_ble_eq_true rfl)) d_W_writeRow_16 ⟨Nat.zero_le _, Nat.zero_le _⟩) hD hS hA (fun _ => rfl) (fun y5 _ H locs hu hP hD hS => ?_)
        have hu : y5 = _ := hu.trans h10.symm
        subst hu
        obtain ⟨y12, σ13, e14, hf⟩ := gBd_e hf
        refine g_wi (va_runV ⟨hx, hb, hml, hown, hts⟩ (m_P_append e14) (cwV 1 hts (gG4 (fun _ h => List.mem_cons_of_mem _ h) tb_284 tb_285 tb_286 tb_38 tc_P_append) rfl rfl rfl (by decide +kernel) ⟨Nat.le_of_ble_eq_true rfl, Nat.le_of_ble_eq_true rfl⟩) (g_preVW (q0 := 7) hE hK hP hD hS hA gc_7 rfl) rfl rfl hl.1 rfl (lv_room (Nat.le_of_ble_eq_true rfl)) d_W_writeRow_19 ⟨Nat.zero_le _, Nat.zero_le _⟩) hD hS hA (fun _ => cW_fst) (fun y12 _ H locs hu hP hD hS => ?_)
        subst hu
        refine lv_pop hx hb d_W_writeRow_22 rfl ?_
        refine lv_iinc (k := 2) (v := (x2 + 1)) hx hb d_W_writeRow_23 hl rfl (by rw [show Int32.ofInt (1) = (1 : Int32) by decide]) (by decide) rfl (fun ls hl => ?_)
        refine lv_goto (tgt := 2) hx hb d_W_writeRow_26 rfl ?_
        exact ih1 ((x2 + 1)) σ13 _ _ _ hf hP hD hS (lv_sub hl [1, 2, 0] rfl)
  exact (key gFuel).1  σ _ _ _ hf hP hD hS hl

def B_W_writeRow_S19_0 (rec : Nat → List Int32 → gS → Option (Int32 × gS)) (σ0 : gS) : Option (Int32 × gS) := rec 1 [0] σ0
def B_W_writeRow_S19_1 (rec : Nat → List Int32 → gS → Option (Int32 × gS)) (x2 : Int32) (σ0 : gS) : Option (Int32 × gS) := if 4 ≤ x2 then (some (0, σ0)) else (gChr 19 x2 (fun y5 => gBd (f_P_append σ0 y5) (fun y12 σ13 => rec 1 [(x2 + 1)] σ13)))
def S_W_writeRow_S19 (rec : Nat → List Int32 → gS → Option (Int32 × gS)) (k : Nat) (l : List Int32) (σ0 : gS) : Option (Int32 × gS) := match k, l with
  | 0, [] => B_W_writeRow_S19_0 rec  σ0
  | 1, [x2] => B_W_writeRow_S19_1 rec x2 σ0
  | _, _ => none
def R_W_writeRow_S19 : Nat → Nat → List Int32 → gS → Option (Int32 × gS)
  | 0 => fun _ _ _ => none
  | t + 1 => fun k l σ0 => S_W_writeRow_S19 (R_W_writeRow_S19 t) k l σ0
def f_W_writeRow_S19 (σ : gS) : Option (Int32 × gS) := R_W_writeRow_S19 gFuel 0 [] σ
set_option maxHeartbeats 4000000 in
set_option maxRecDepth 100000 in
theorem m_W_writeRow_S19 {l : Launch} {X : va_G} {cI cC cZ : ClassId} {aK aV : Nat → Nat} {a : Nat → Nat} {σ σ' : gS} {r : Int32} (hf : f_W_writeRow_S19 σ = some (r, σ')) {sz : Nat} : Met l y_W_writeRow w_W_writeRow { frames := 4, cells := 0, slots := 0, locals := 85 } (gPc X vwCl (gT cI cC cZ) aK aV (cW cI cC cZ a σ) sz [.ref (a 17), .ref (aK 19)]) (gQv X vwCl (cW cI cC cZ a σ) sz (fun (_ : Unit) => True) (fun _ => cW cI cC cZ a σ')) 0 0 (va_A (cW cI cC cZ a σ) sz) := by
  refine g_met (cc := b_W_writeRow) (maxL := 3) (ret := none) (by decide) rfl (Nat.le_of_ble_eq_true rfl) ?_
  intro p e s m below meth c A ls hx hb hr hml hown hts hlocks hnm hsz hAe hA hP hK hD hS hl hE
  have hown : s.vm.findClass R_W = some m.cls := hown
  have u_0 : ∀ w ∈ u_ws R_W T_W 6, w ∈ w_W_writeRow := fun w h => List.mem_cons_of_mem _ (tu_W w h)
  have k_0 := hts (.fieldLink R_W 26 "GraphPages$Writer" "page" "LGraphPages$Page;") (List.mem_cons_of_mem _ tb_287)
  unfold f_W_writeRow_S19 at hf
  have key : ∀ t : Nat, (∀ (σ0 : gS) (H : Heap) (locs : List Loc) (ls : Array Slot), R_W_writeRow_S19 t 0 [] σ0 = some (r, σ') → va_P X vwCl (cW cI cC cZ a σ0) H → va_D A (cW cI cC cZ a σ0) → va_S A s.heap H locs → lv_has ls 3 [(0, .ref (a 17)), (1, .ref (aK 19))] → W p l e (headSpec w_W_writeRow { frames := 4, cells := 0, slots := 0, locals := 85 }).room s m [.ref (a 17), .ref (aK 19)].toArray below meth c H locs 0 0 (MQ below (gQv X vwCl (cW cI cC cZ a σ) sz (fun (_ : Unit) => True) (fun _ => cW cI cC cZ a σ')) [.ref (a 17), .ref (aK 19)].toArray s 0 0 (va_A (cW cI cC cZ a σ) sz)) (F0 m 0 ls [])) ∧ (∀ (x2 : Int32) (σ0 : gS) (H : Heap) (locs : List Loc) (ls : Array Slot), R_W_writeRow_S19 t 1 [x2] σ0 = some (r, σ') → va_P X vwCl (cW cI cC cZ a σ0) H → va_D A (cW cI cC cZ a σ0) → va_S A s.heap H locs → lv_has ls 3 [(0, .ref (a 17)), (1, .ref (aK 19)), (2, .int x2)] → W p l e (headSpec w_W_writeRow { frames := 4, cells := 0, slots := 0, locals := 85 }).room s m [.ref (a 17), .ref (aK 19)].toArray below meth c H locs 0 0 (MQ below (gQv X vwCl (cW cI cC cZ a σ) sz (fun (_ : Unit) => True) (fun _ => cW cI cC cZ a σ')) [.ref (a 17), .ref (aK 19)].toArray s 0 0 (va_A (cW cI cC cZ a σ) sz)) (F0 m 2 ls [])) := by
    intro t
    induction t with
    | zero => exact ⟨fun  _ _ _ _ hf => (by have hf : (none : Option (Int32 × gS)) = some (r, σ') := hf; cases hf), fun _ _ _ _ _ hf => (by have hf : (none : Option (Int32 × gS)) = some (r, σ') := hf; cases hf)⟩
    | succ t ih =>
      obtain ⟨ih0, ih1⟩ := ih
      refine ⟨?_, ?_⟩
      · intro  σ0 H locs ls hf hP hD hS hl
        have hf : B_W_writeRow_S19_0 (R_W_writeRow_S19 t)  σ0 = some (r, σ') := hf
        unfold B_W_writeRow_S19_0 at hf
        refine lv_iconst (v := 0) hx hb d_W_writeRow_0 (by decide) ?_
        refine lv_istore_n hx hb d_W_writeRow_1 rfl hl (by decide) rfl (fun ls hl => ?_)
        exact ih1 (0) σ0 _ _ _ hf hP hD hS (lv_sub hl [1, 2, 0] rfl)
      · intro x2 σ0 H locs ls hf hP hD hS hl
        have hf : B_W_writeRow_S19_1 (R_W_writeRow_S19 t) x2 σ0 = some (r, σ') := hf
        unfold B_W_writeRow_S19_1 at hf
        refine lv_iload_n hx hb d_W_writeRow_2 rfl (lv_at hl 2 rfl) ?_
        refine lv_aload_n hx hb d_W_writeRow_3 rfl (lv_at hl 1 rfl) ?_
        refine g_wi (va_runV ⟨hx, hb, hml, hown, hts⟩ (m_Q_length gl_19) (cwV 0 hts (gG4 (fun _ h => List.mem_cons_of_mem _ h) tb_282 tb_81 tb_82 tb_6 tc_Q_length) rfl rfl rfl (by decide +kernel) ⟨Nat.le_of_ble_eq_true rfl, Nat.le_of_ble_eq_true rfl⟩) (g_preQ gl_19 hE hK hP hD hS hA) rfl rfl hl.1 rfl (lv_room (Nat.le_of_ble_eq_true rfl)) d_W_writeRow_4 ⟨Nat.zero_le _, Nat.zero_le _⟩) hD hS hA (fun _ => rfl) (fun y1 _ H locs hu hP hD hS => ?_)
        have hu : y1 = 4 := hu.trans (by decide)
        subst hu
        refine lv_icmp_ge (tgt := 29) hx hb d_W_writeRow_7 rfl (fun c4 => ?_) (fun c4 => ?_)
        · skip
          rw [if_pos c4] at hf
          obtain ⟨-, rfl⟩ := gRt_e hf
          exact g_vret hx hb hr hlocks hAe hS () trivial hP d_W_writeRow_29
        rw [if_neg c4] at hf
        refine lv_aload_n hx hb d_W_writeRow_10 rfl (lv_at hl 0 rfl) ?_
        refine va_get (D := X) (ci := 7) (C := R_W) (T := T_W) (N := 6) hx hb hts u_0 hown hK hP 17 gc_17 rfl 2 (by decide) k_0 (fun _ h9 => h9) rfl d_W_writeRow_11 ?_
        refine lv_aload_n hx hb d_W_writeRow_14 rfl (lv_at hl 1 rfl) ?_
        refine lv_iload_n hx hb d_W_writeRow_15 rfl (lv_at hl 2 rfl) ?_
        obtain ⟨y5, j11, h8, h9, h10, hf⟩ := gChr_e hf (by decide)
        rw [h9]
        refine g_wi (va_runV ⟨hx, hb, hml, hown, hts⟩ (m_Q_charAt gl_19 h8) (cwV 1 hts (gG4 (fun _ h => List.mem_cons_of_mem _ h) tb_283 tb_85 tb_86 tb_6 tc_Q_charAt) rfl rfl rfl (by decide +kernel) ⟨Nat.le_of_ble_eq_true rfl, Nat.le_of_ble_eq_true rfl⟩) (g_preQ gl_19 hE hK hP hD hS hA) rfl rfl hl.1 rfl (lv_room (Nat.le_of_ble_eq_true rfl)) d_W_writeRow_16 ⟨Nat.zero_le _, Nat.zero_le _⟩) hD hS hA (fun _ => rfl) (fun y5 _ H locs hu hP hD hS => ?_)
        have hu : y5 = _ := hu.trans h10.symm
        subst hu
        obtain ⟨y12, σ13, e14, hf⟩ := gBd_e hf
        refine g_wi (va_runV ⟨hx, hb, hml, hown, hts⟩ (m_P_append e14) (cwV 1 hts (gG4 (fun _ h => List.mem_cons_of_mem _ h) tb_284 tb_285 tb_286 tb_38 tc_P_append) rfl rfl rfl (by decide +kernel) ⟨Nat.le_of_ble_eq_true rfl, Nat.le_of_ble_eq_true rfl⟩) (g_preVW (q0 := 7) hE hK hP hD hS hA gc_7 rfl) rfl rfl hl.1 rfl (lv_room (Nat.le_of_ble_eq_true rfl)) d_W_writeRow_19 ⟨Nat.zero_le _, Nat.zero_le _⟩) hD hS hA (fun _ => cW_fst) (fun y12 _ H locs hu hP hD hS => ?_)
        subst hu
        refine lv_pop hx hb d_W_writeRow_22 rfl ?_
        refine lv_iinc (k := 2) (v := (x2 + 1)) hx hb d_W_writeRow_23 hl rfl (by rw [show Int32.ofInt (1) = (1 : Int32) by decide]) (by decide) rfl (fun ls hl => ?_)
        refine lv_goto (tgt := 2) hx hb d_W_writeRow_26 rfl ?_
        exact ih1 ((x2 + 1)) σ13 _ _ _ hf hP hD hS (lv_sub hl [1, 2, 0] rfl)
  exact (key gFuel).1  σ _ _ _ hf hP hD hS hl

def B_W_writeRow_S20_0 (rec : Nat → List Int32 → gS → Option (Int32 × gS)) (σ0 : gS) : Option (Int32 × gS) := rec 1 [0] σ0
def B_W_writeRow_S20_1 (rec : Nat → List Int32 → gS → Option (Int32 × gS)) (x2 : Int32) (σ0 : gS) : Option (Int32 × gS) := if 8 ≤ x2 then (some (0, σ0)) else (gChr 20 x2 (fun y5 => gBd (f_P_append σ0 y5) (fun y12 σ13 => rec 1 [(x2 + 1)] σ13)))
def S_W_writeRow_S20 (rec : Nat → List Int32 → gS → Option (Int32 × gS)) (k : Nat) (l : List Int32) (σ0 : gS) : Option (Int32 × gS) := match k, l with
  | 0, [] => B_W_writeRow_S20_0 rec  σ0
  | 1, [x2] => B_W_writeRow_S20_1 rec x2 σ0
  | _, _ => none
def R_W_writeRow_S20 : Nat → Nat → List Int32 → gS → Option (Int32 × gS)
  | 0 => fun _ _ _ => none
  | t + 1 => fun k l σ0 => S_W_writeRow_S20 (R_W_writeRow_S20 t) k l σ0
def f_W_writeRow_S20 (σ : gS) : Option (Int32 × gS) := R_W_writeRow_S20 gFuel 0 [] σ
set_option maxHeartbeats 4000000 in
set_option maxRecDepth 100000 in
theorem m_W_writeRow_S20 {l : Launch} {X : va_G} {cI cC cZ : ClassId} {aK aV : Nat → Nat} {a : Nat → Nat} {σ σ' : gS} {r : Int32} (hf : f_W_writeRow_S20 σ = some (r, σ')) {sz : Nat} : Met l y_W_writeRow w_W_writeRow { frames := 4, cells := 0, slots := 0, locals := 85 } (gPc X vwCl (gT cI cC cZ) aK aV (cW cI cC cZ a σ) sz [.ref (a 17), .ref (aK 20)]) (gQv X vwCl (cW cI cC cZ a σ) sz (fun (_ : Unit) => True) (fun _ => cW cI cC cZ a σ')) 0 0 (va_A (cW cI cC cZ a σ) sz) := by
  refine g_met (cc := b_W_writeRow) (maxL := 3) (ret := none) (by decide) rfl (Nat.le_of_ble_eq_true rfl) ?_
  intro p e s m below meth c A ls hx hb hr hml hown hts hlocks hnm hsz hAe hA hP hK hD hS hl hE
  have hown : s.vm.findClass R_W = some m.cls := hown
  have u_0 : ∀ w ∈ u_ws R_W T_W 6, w ∈ w_W_writeRow := fun w h => List.mem_cons_of_mem _ (tu_W w h)
  have k_0 := hts (.fieldLink R_W 26 "GraphPages$Writer" "page" "LGraphPages$Page;") (List.mem_cons_of_mem _ tb_287)
  unfold f_W_writeRow_S20 at hf
  have key : ∀ t : Nat, (∀ (σ0 : gS) (H : Heap) (locs : List Loc) (ls : Array Slot), R_W_writeRow_S20 t 0 [] σ0 = some (r, σ') → va_P X vwCl (cW cI cC cZ a σ0) H → va_D A (cW cI cC cZ a σ0) → va_S A s.heap H locs → lv_has ls 3 [(0, .ref (a 17)), (1, .ref (aK 20))] → W p l e (headSpec w_W_writeRow { frames := 4, cells := 0, slots := 0, locals := 85 }).room s m [.ref (a 17), .ref (aK 20)].toArray below meth c H locs 0 0 (MQ below (gQv X vwCl (cW cI cC cZ a σ) sz (fun (_ : Unit) => True) (fun _ => cW cI cC cZ a σ')) [.ref (a 17), .ref (aK 20)].toArray s 0 0 (va_A (cW cI cC cZ a σ) sz)) (F0 m 0 ls [])) ∧ (∀ (x2 : Int32) (σ0 : gS) (H : Heap) (locs : List Loc) (ls : Array Slot), R_W_writeRow_S20 t 1 [x2] σ0 = some (r, σ') → va_P X vwCl (cW cI cC cZ a σ0) H → va_D A (cW cI cC cZ a σ0) → va_S A s.heap H locs → lv_has ls 3 [(0, .ref (a 17)), (1, .ref (aK 20)), (2, .int x2)] → W p l e (headSpec w_W_writeRow { frames := 4, cells := 0, slots := 0, locals := 85 }).room s m [.ref (a 17), .ref (aK 20)].toArray below meth c H locs 0 0 (MQ below (gQv X vwCl (cW cI cC cZ a σ) sz (fun (_ : Unit) => True) (fun _ => cW cI cC cZ a σ')) [.ref (a 17), .ref (aK 20)].toArray s 0 0 (va_A (cW cI cC cZ a σ) sz)) (F0 m 2 ls [])) := by
    intro t
    induction t with
    | zero => exact ⟨fun  _ _ _ _ hf => (by have hf : (none : Option (Int32 × gS)) = some (r, σ') := hf; cases hf), fun _ _ _ _ _ hf => (by have hf : (none : Option (Int32 × gS)) = some (r, σ') := hf; cases hf)⟩
    | succ t ih =>
      obtain ⟨ih0, ih1⟩ := ih
      refine ⟨?_, ?_⟩
      · intro  σ0 H locs ls hf hP hD hS hl
        have hf : B_W_writeRow_S20_0 (R_W_writeRow_S20 t)  σ0 = some (r, σ') := hf
        unfold B_W_writeRow_S20_0 at hf
        refine lv_iconst (v := 0) hx hb d_W_writeRow_0 (by decide) ?_
        refine lv_istore_n hx hb d_W_writeRow_1 rfl hl (by decide) rfl (fun ls hl => ?_)
        exact ih1 (0) σ0 _ _ _ hf hP hD hS (lv_sub hl [1, 2, 0] rfl)
      · intro x2 σ0 H locs ls hf hP hD hS hl
        have hf : B_W_writeRow_S20_1 (R_W_writeRow_S20 t) x2 σ0 = some (r, σ') := hf
        unfold B_W_writeRow_S20_1 at hf
        refine lv_iload_n hx hb d_W_writeRow_2 rfl (lv_at hl 2 rfl) ?_
        refine lv_aload_n hx hb d_W_writeRow_3 rfl (lv_at hl 1 rfl) ?_
        refine g_wi (va_runV ⟨hx, hb, hml, hown, hts⟩ (m_Q_length gl_20) (cwV 0 hts (gG4 (fun _ h => List.mem_cons_of_mem _ h) tb_282 tb_81 tb_82 tb_6 tc_Q_length) rfl rfl rfl (by decide +kernel) ⟨Nat.le_of_ble_eq_true rfl, Nat.le_of_ble_eq_true rfl⟩) (g_preQ gl_20 hE hK hP hD hS hA) rfl rfl hl.1 rfl (lv_room (Nat.le_of_ble_eq_true rfl)) d_W_writeRow_4 ⟨Nat.zero_le _, Nat.zero_le _⟩) hD hS hA (fun _ => rfl) (fun y1 _ H locs hu hP hD hS => ?_)
        have hu : y1 = 8 := hu.trans (by decide)
        subst hu
        refine lv_icmp_ge (tgt := 29) hx hb d_W_writeRow_7 rfl (fun c4 => ?_) (fun c4 => ?_)
        · skip
          rw [if_pos c4] at hf
          obtain ⟨-, rfl⟩ := gRt_e hf
          exact g_vret hx hb hr hlocks hAe hS () trivial hP d_W_writeRow_29
        rw [if_neg c4] at hf
        refine lv_aload_n hx hb d_W_writeRow_10 rfl (lv_at hl 0 rfl) ?_
        refine va_get (D := X) (ci := 7) (C := R_W) (T := T_W) (N := 6) hx hb hts u_0 hown hK hP 17 gc_17 rfl 2 (by decide) k_0 (fun _ h9 => h9) rfl d_W_writeRow_11 ?_
        refine lv_aload_n hx hb d_W_writeRow_14 rfl (lv_at hl 1 rfl) ?_
        refine lv_iload_n hx hb d_W_writeRow_15 rfl (lv_at hl 2 rfl) ?_
        obtain ⟨y5, j11, h8, h9, h10, hf⟩ := gChr_e hf (by decide)
        rw [h9]
        refine g_wi (va_runV ⟨hx, hb, hml, hown, hts⟩ (m_Q_charAt gl_20 h8) (cwV 1 hts (gG4 (fun _ h => List.mem_cons_of_mem _ h) tb_283 tb_85 tb_86 tb_6 tc_Q_charAt) rfl rfl rfl (by decide +kernel) ⟨Nat.le_of_ble_eq_true rfl, Nat.le_of_ble_eq_true rfl⟩) (g_preQ gl_20 hE hK hP hD hS hA) rfl rfl hl.1 rfl (lv_room (Nat.le_of_ble_eq_true rfl)) d_W_writeRow_16 ⟨Nat.zero_le _, Nat.zero_le _⟩) hD hS hA (fun _ => rfl) (fun y5 _ H locs hu hP hD hS => ?_)
        have hu : y5 = _ := hu.trans h10.symm
        subst hu
        obtain ⟨y12, σ13, e14, hf⟩ := gBd_e hf
        refine g_wi (va_runV ⟨hx, hb, hml, hown, hts⟩ (m_P_append e14) (cwV 1 hts (gG4 (fun _ h => List.mem_cons_of_mem _ h) tb_284 tb_285 tb_286 tb_38 tc_P_append) rfl rfl rfl (by decide +kernel) ⟨Nat.le_of_ble_eq_true rfl, Nat.le_of_ble_eq_true rfl⟩) (g_preVW (q0 := 7) hE hK hP hD hS hA gc_7 rfl) rfl rfl hl.1 rfl (lv_room (Nat.le_of_ble_eq_true rfl)) d_W_writeRow_19 ⟨Nat.zero_le _, Nat.zero_le _⟩) hD hS hA (fun _ => cW_fst) (fun y12 _ H locs hu hP hD hS => ?_)
        subst hu
        refine lv_pop hx hb d_W_writeRow_22 rfl ?_
        refine lv_iinc (k := 2) (v := (x2 + 1)) hx hb d_W_writeRow_23 hl rfl (by rw [show Int32.ofInt (1) = (1 : Int32) by decide]) (by decide) rfl (fun ls hl => ?_)
        refine lv_goto (tgt := 2) hx hb d_W_writeRow_26 rfl ?_
        exact ih1 ((x2 + 1)) σ13 _ _ _ hf hP hD hS (lv_sub hl [1, 2, 0] rfl)
  exact (key gFuel).1  σ _ _ _ hf hP hD hS hl

def f_W_giveId (σ : gS) (x1 : Int32) : Option (Int32 × gS) := gLd σ 18 16 x1 (fun y1 => if y1 = 0 then (gSt σ 19 16 (σ.1 4) x1 (fun σ5 => gPut σ5 4 ((σ5.1 4) + 1) (fun σ8 => gSt σ8 18 16 x1 (σ8.1 4) (fun σ10 => some (0, σ10))))) else (some (0, σ)))
set_option maxHeartbeats 4000000 in
set_option maxRecDepth 100000 in
theorem m_W_giveId {l : Launch} {X : va_G} {cI cC cZ : ClassId} {aK aV : Nat → Nat} {a : Nat → Nat} {σ σ' : gS} {r : Int32} {x1 : Int32} (hf : f_W_giveId σ x1 = some (r, σ')) {sz : Nat} : Met l y_W_giveId w_W_giveId { frames := 0, cells := 0, slots := 0, locals := 0 } (gPc X vwCl (gT cI cC cZ) aK aV (cW cI cC cZ a σ) sz [.ref (a 17), .int x1]) (gQv X vwCl (cW cI cC cZ a σ) sz (fun (_ : Unit) => True) (fun _ => cW cI cC cZ a σ')) 0 0 (va_A (cW cI cC cZ a σ) sz) := by
  refine g_met (cc := b_W_giveId) (maxL := 2) (ret := none) (by decide) rfl (Nat.le_of_ble_eq_true rfl) ?_
  intro p e s m below meth c A ls hx hb hr hml hown hts hlocks hnm hsz hAe hA hP hK hD hS hl hE
  have hown : s.vm.findClass R_W = some m.cls := hown
  have u_0 : ∀ w ∈ u_ws R_W T_W 6, w ∈ w_W_giveId := fun w h => List.mem_cons_of_mem _ (tu_W w h)
  have k_0 := hts (.fieldLink R_W 9 "GraphPages$Writer" "ids" "[I") (List.mem_cons_of_mem _ tb_288)
  have k_1 := hts (.fieldLink R_W 15 "GraphPages$Writer" "order" "[I") (List.mem_cons_of_mem _ tb_289)
  have k_2 := hts (.fieldLink R_W 42 "GraphPages$Writer" "count" "I") (List.mem_cons_of_mem _ tb_290)
  unfold f_W_giveId at hf
  refine lv_aload_n hx hb d_W_giveId_0 rfl (lv_at hl 0 rfl) ?_
  refine va_get (D := X) (ci := 7) (C := R_W) (T := T_W) (N := 6) hx hb hts u_0 hown hK hP 17 gc_17 rfl 3 (by decide) k_0 (fun _ h9 => h9) rfl d_W_giveId_1 ?_
  refine lv_iload_n hx hb d_W_giveId_4 rfl (lv_at hl 1 rfl) ?_
  obtain ⟨y1, h2, e3, hf⟩ := gLd_e hf
  refine va_iald hx hb hK hP 18 0 gc_18 rfl h2 d_W_giveId_5 ?_
  rw [← e3]
  refine lv_if_ne (tgt := 39) hx hb d_W_giveId_6 rfl (fun c4 => ?_) (fun c4 => ?_)
  · skip
    rw [if_neg c4] at hf
    obtain ⟨-, rfl⟩ := gRt_e hf
    exact g_vret hx hb hr hlocks hAe hS () trivial hP d_W_giveId_39
  rw [if_pos c4] at hf
  refine lv_aload_n hx hb d_W_giveId_9 rfl (lv_at hl 0 rfl) ?_
  refine va_get (D := X) (ci := 7) (C := R_W) (T := T_W) (N := 6) hx hb hts u_0 hown hK hP 17 gc_17 rfl 4 (by decide) k_1 (fun _ h9 => h9) rfl d_W_giveId_10 ?_
  refine lv_aload_n hx hb d_W_giveId_13 rfl (lv_at hl 0 rfl) ?_
  refine va_get (D := X) (ci := 7) (C := R_W) (T := T_W) (N := 6) hx hb hts u_0 hown hK hP 17 gc_17 rfl 5 (by decide) k_2 (fun _ h9 => h9) rfl d_W_giveId_14 ?_
  refine lv_iload_n hx hb d_W_giveId_17 rfl (lv_at hl 1 rfl) ?_
  obtain ⟨σ5, h6, e7, hf⟩ := gSt_e hf
  refine va_iast hx hb hK hP hD hS 19 0 gc_19 rfl h6 d_W_giveId_18 (fun H locs hP hD hS => ?_)
  rw [sc_19, ← e7] at hP hD
  refine lv_aload_n hx hb d_W_giveId_19 rfl (lv_at hl 0 rfl) ?_
  refine lv_dup hx hb d_W_giveId_20 rfl ?_
  refine va_get (D := X) (ci := 7) (C := R_W) (T := T_W) (N := 6) hx hb hts u_0 hown hK hP 17 gc_17 rfl 5 (by decide) k_2 (fun _ h9 => h9) rfl d_W_giveId_21 ?_
  refine lv_iconst (v := 1) hx hb d_W_giveId_24 (by decide) ?_
  refine lv_iadd hx hb d_W_giveId_25 ?_
  obtain ⟨σ8, e9, hf⟩ := gPut_e hf
  refine va_put (D := X) (ci := 7) (ty := .int) (C := R_W) (T := T_W) (N := 6) hx hb hts u_0 t_W t_W_ok n_W hown hK hP hD hS 17 gc_17 rfl 5 (by decide) k_2 (fun _ h9 => h9) rfl (by decide +kernel) rfl rfl (Nat.le_of_ble_eq_true rfl) d_W_giveId_26 (fun H locs hP hD hS => ?_)
  rw [sc_17_5, ← e9] at hP hD
  refine lv_aload_n hx hb d_W_giveId_29 rfl (lv_at hl 0 rfl) ?_
  refine va_get (D := X) (ci := 7) (C := R_W) (T := T_W) (N := 6) hx hb hts u_0 hown hK hP 17 gc_17 rfl 3 (by decide) k_0 (fun _ h9 => h9) rfl d_W_giveId_30 ?_
  refine lv_iload_n hx hb d_W_giveId_33 rfl (lv_at hl 1 rfl) ?_
  refine lv_aload_n hx hb d_W_giveId_34 rfl (lv_at hl 0 rfl) ?_
  refine va_get (D := X) (ci := 7) (C := R_W) (T := T_W) (N := 6) hx hb hts u_0 hown hK hP 17 gc_17 rfl 5 (by decide) k_2 (fun _ h9 => h9) rfl d_W_giveId_35 ?_
  obtain ⟨σ10, h11, e12, hf⟩ := gSt_e hf
  refine va_iast hx hb hK hP hD hS 18 0 gc_18 rfl h11 d_W_giveId_38 (fun H locs hP hD hS => ?_)
  rw [sc_18, ← e12] at hP hD
  obtain ⟨-, rfl⟩ := gRt_e hf
  exact g_vret hx hb hr hlocks hAe hS () trivial hP d_W_giveId_39

def B_W_writeNumber_0 (rec : Nat → List Int32 → List Int64 → gS → Option (Int32 × gS)) (x1 : Int32) (σ0 : gS) : Option (Int32 × gS) := if 0 ≤ (lg_cmp x1.toInt64 0) then (rec 1 [] [x1.toInt64] σ0) else (gBd (f_P_append σ0 45) (fun y2 σ3 => rec 1 [] [(-x1.toInt64)] σ3))
def B_W_writeNumber_1 (rec : Nat → List Int32 → List Int64 → gS → Option (Int32 × gS)) (x2 : Int64) (σ0 : gS) : Option (Int32 × gS) := rec 2 [1] [x2, 1] σ0
def B_W_writeNumber_2 (rec : Nat → List Int32 → List Int64 → gS → Option (Int32 × gS)) (x6 : Int32) (x2 : Int64) (x4 : Int64) (σ0 : gS) : Option (Int32 × gS) := if 10 ≤ x6 then (rec 3 [] [x2, x4] σ0) else (if 0 < (lg_cmp x4 (x2 / 10)) then (rec 3 [] [x2, x4] σ0) else (rec 2 [(x6 + 1)] [x2, (x4 * 10)] σ0))
def B_W_writeNumber_3 (rec : Nat → List Int32 → List Int64 → gS → Option (Int32 × gS)) (x2 : Int64) (x4 : Int64) (σ0 : gS) : Option (Int32 × gS) := if (lg_cmp x4 0) ≤ 0 then (some (0, σ0)) else (gNel (x4) (gBd (f_P_append σ0 ((48 + ((x2 / x4) - (x2 / x4) / 10 * 10).toInt32).toUInt32 % 65536).toInt32) (fun y9 σ10 => rec 3 [] [x2, (x4 / 10)] σ10)))
def S_W_writeNumber (rec : Nat → List Int32 → List Int64 → gS → Option (Int32 × gS)) (k : Nat) (l : List Int32) (w : List Int64) (σ0 : gS) : Option (Int32 × gS) := match k, l, w with
  | 0, [x1], [] => B_W_writeNumber_0 rec x1 σ0
  | 1, [], [x2] => B_W_writeNumber_1 rec x2 σ0
  | 2, [x6], [x2, x4] => B_W_writeNumber_2 rec x6 x2 x4 σ0
  | 3, [], [x2, x4] => B_W_writeNumber_3 rec x2 x4 σ0
  | _, _, _ => none
def R_W_writeNumber : Nat → Nat → List Int32 → List Int64 → gS → Option (Int32 × gS)
  | 0 => fun _ _ _ _ => none
  | t + 1 => fun k l w σ0 => S_W_writeNumber (R_W_writeNumber t) k l w σ0
def f_W_writeNumber (σ : gS) (x1 : Int32) : Option (Int32 × gS) := R_W_writeNumber gFuel 0 [x1] [] σ
set_option maxHeartbeats 4000000 in
set_option maxRecDepth 100000 in
theorem m_W_writeNumber {l : Launch} {X : va_G} {cI cC cZ : ClassId} {aK aV : Nat → Nat} {a : Nat → Nat} {σ σ' : gS} {r : Int32} {q1 : Int32} (hf : f_W_writeNumber σ q1 = some (r, σ')) {sz : Nat} : Met l y_W_writeNumber w_W_writeNumber { frames := 1, cells := 0, slots := 0, locals := 21 } (gPc X vwCl (gT cI cC cZ) aK aV (cW cI cC cZ a σ) sz [.ref (a 17), .int q1]) (gQv X vwCl (cW cI cC cZ a σ) sz (fun (_ : Unit) => True) (fun _ => cW cI cC cZ a σ')) 0 0 (va_A (cW cI cC cZ a σ) sz) := by
  refine g_met (cc := b_W_writeNumber) (maxL := 7) (ret := none) (by decide) rfl (Nat.le_of_ble_eq_true rfl) ?_
  intro p e s m below meth c A ls hx hb hr hml hown hts hlocks hnm hsz hAe hA hP hK hD hS hl hE
  have hown : s.vm.findClass R_W = some m.cls := hown
  have u_0 : ∀ w ∈ u_ws R_W T_W 6, w ∈ w_W_writeNumber := fun w h => List.mem_cons_of_mem _ (tu_W w h)
  have k_0 := hts (.fieldLink R_W 26 "GraphPages$Writer" "page" "LGraphPages$Page;") (List.mem_cons_of_mem _ tb_287)
  have k_1 := hts (.constantLong R_W 155 10) (List.mem_cons_of_mem _ tb_291)
  unfold f_W_writeNumber at hf
  have key : ∀ t : Nat, (∀ (x1 : Int32) (σ0 : gS) (H : Heap) (locs : List Loc) (ls : Array Slot), R_W_writeNumber t 0 [x1] [] σ0 = some (r, σ') → va_P X vwCl (cW cI cC cZ a σ0) H → va_D A (cW cI cC cZ a σ0) → va_S A s.heap H locs → lv_has ls 7 [(0, .ref (a 17)), (1, .int x1)] → W p l e (headSpec w_W_writeNumber { frames := 1, cells := 0, slots := 0, locals := 21 }).room s m [.ref (a 17), .int q1].toArray below meth c H locs 0 0 (MQ below (gQv X vwCl (cW cI cC cZ a σ) sz (fun (_ : Unit) => True) (fun _ => cW cI cC cZ a σ')) [.ref (a 17), .int q1].toArray s 0 0 (va_A (cW cI cC cZ a σ) sz)) (F0 m 0 ls [])) ∧ (∀ (x2 : Int64) (σ0 : gS) (H : Heap) (locs : List Loc) (ls : Array Slot), R_W_writeNumber t 1 [] [x2] σ0 = some (r, σ') → va_P X vwCl (cW cI cC cZ a σ0) H → va_D A (cW cI cC cZ a σ0) → va_S A s.heap H locs → lv_has ls 7 [(0, .ref (a 17)), (2, .long x2)] → W p l e (headSpec w_W_writeNumber { frames := 1, cells := 0, slots := 0, locals := 21 }).room s m [.ref (a 17), .int q1].toArray below meth c H locs 0 0 (MQ below (gQv X vwCl (cW cI cC cZ a σ) sz (fun (_ : Unit) => True) (fun _ => cW cI cC cZ a σ')) [.ref (a 17), .int q1].toArray s 0 0 (va_A (cW cI cC cZ a σ) sz)) (F0 m 22 ls [])) ∧ (∀ (x6 : Int32) (x2 : Int64) (x4 : Int64) (σ0 : gS) (H : Heap) (locs : List Loc) (ls : Array Slot), R_W_writeNumber t 2 [x6] [x2, x4] σ0 = some (r, σ') → va_P X vwCl (cW cI cC cZ a σ0) H → va_D A (cW cI cC cZ a σ0) → va_S A s.heap H locs → lv_has ls 7 [(0, .ref (a 17)), (2, .long x2), (4, .long x4), (6, .int x6)] → W p l e (headSpec w_W_writeNumber { frames := 1, cells := 0, slots := 0, locals := 21 }).room s m [.ref (a 17), .int q1].toArray below meth c H locs 0 0 (MQ below (gQv X vwCl (cW cI cC cZ a σ) sz (fun (_ : Unit) => True) (fun _ => cW cI cC cZ a σ')) [.ref (a 17), .int q1].toArray s 0 0 (va_A (cW cI cC cZ a σ) sz)) (F0 m 28 ls [])) ∧ (∀ (x2 : Int64) (x4 : Int64) (σ0 : gS) (H : Heap) (locs : List Loc) (ls : Array Slot), R_W_writeNumber t 3 [] [x2, x4] σ0 = some (r, σ') → va_P X vwCl (cW cI cC cZ a σ0) H → va_D A (cW cI cC cZ a σ0) → va_S A s.heap H locs → lv_has ls 7 [(0, .ref (a 17)), (2, .long x2), (4, .long x4)] → W p l e (headSpec w_W_writeNumber { frames := 1, cells := 0, slots := 0, locals := 21 }).room s m [.ref (a 17), .int q1].toArray below meth c H locs 0 0 (MQ below (gQv X vwCl (cW cI cC cZ a σ) sz (fun (_ : Unit) => True) (fun _ => cW cI cC cZ a σ')) [.ref (a 17), .int q1].toArray s 0 0 (va_A (cW cI cC cZ a σ) sz)) (F0 m 60 ls [])) := by
    intro t
    induction t with
    | zero => exact ⟨fun _ _ _ _ _ hf => (by have hf : (none : Option (Int32 × gS)) = some (r, σ') := hf; cases hf), fun _ _ _ _ _ hf => (by have hf : (none : Option (Int32 × gS)) = some (r, σ') := hf; cases hf), fun _ _ _ _ _ _ _ hf => (by have hf : (none : Option (Int32 × gS)) = some (r, σ') := hf; cases hf), fun _ _ _ _ _ _ hf => (by have hf : (none : Option (Int32 × gS)) = some (r, σ') := hf; cases hf)⟩
    | succ t ih =>
      obtain ⟨ih0, ih1, ih2, ih3⟩ := ih
      refine ⟨?_, ?_, ?_, ?_⟩
      · intro x1 σ0 H locs ls hf hP hD hS hl
        have hf : B_W_writeNumber_0 (R_W_writeNumber t) x1 σ0 = some (r, σ') := hf
        unfold B_W_writeNumber_0 at hf
        refine lv_iload_n hx hb d_W_writeNumber_0 rfl (lv_at hl 1 rfl) ?_
        refine lv_i2l hx hb d_W_writeNumber_1 rfl ?_
        refine lv_lstore_n hx hb d_W_writeNumber_2 rfl hl (by decide) rfl (fun ls hl => ?_)
        refine lv_lload_n hx hb d_W_writeNumber_3 rfl (lv_at hl 0 rfl) ?_
        refine lv_lconst (v := 0) hx hb d_W_writeNumber_4 (by decide) ?_
        refine W.lcmp hx hb d_W_writeNumber_5 ?_
        refine lv_if_ge (tgt := 22) hx hb d_W_writeNumber_6 rfl (fun c1 => ?_) (fun c1 => ?_)
        · skip
          rw [if_pos c1] at hf
          exact ih1 (x1.toInt64) σ0 _ _ _ hf hP hD hS (lv_sub hl [1, 0] rfl)
        rw [if_neg c1] at hf
        refine lv_aload_n hx hb d_W_writeNumber_9 rfl (lv_at hl 1 rfl) ?_
        refine va_get (D := X) (ci := 7) (C := R_W) (T := T_W) (N := 6) hx hb hts u_0 hown hK hP 17 gc_17 rfl 2 (by decide) k_0 (fun _ h9 => h9) rfl d_W_writeNumber_10 ?_
        refine lv_bipush (v := 45) hx hb d_W_writeNumber_13 (by decide) ?_
        obtain ⟨y2, σ3, e4, hf⟩ := gBd_e hf
        refine g_wi (va_runV ⟨hx, hb, hml, hown, hts⟩ (m_P_append e4) (cwV 1 hts (gG4 (fun _ h => List.mem_cons_of_mem _ h) tb_284 tb_285 tb_286 tb_38 tc_P_append) rfl rfl rfl (by decide +kernel) ⟨Nat.le_of_ble_eq_true rfl, Nat.le_of_ble_eq_true rfl⟩) (g_preVW (q0 := 7) hE hK hP hD hS hA gc_7 rfl) rfl rfl hl.1 rfl (lv_room (Nat.le_of_ble_eq_true rfl)) d_W_writeNumber_15 ⟨Nat.zero_le _, Nat.zero_le _⟩) hD hS hA (fun _ => cW_fst) (fun y2 _ H locs hu hP hD hS => ?_)
        subst hu
        refine lv_pop hx hb d_W_writeNumber_18 rfl ?_
        refine lv_lload_n hx hb d_W_writeNumber_19 rfl (lv_at hl 0 rfl) ?_
        refine lv_lneg hx hb d_W_writeNumber_20 ?_
        refine lv_lstore_n hx hb d_W_writeNumber_21 rfl hl (by decide) rfl (fun ls hl => ?_)
        exact ih1 ((-x1.toInt64)) σ3 _ _ _ hf hP hD hS (lv_sub hl [1, 0] rfl)
      · intro x2 σ0 H locs ls hf hP hD hS hl
        have hf : B_W_writeNumber_1 (R_W_writeNumber t) x2 σ0 = some (r, σ') := hf
        unfold B_W_writeNumber_1 at hf
        refine lv_lconst (v := 1) hx hb d_W_writeNumber_22 (by decide) ?_
        refine lv_lstore hx hb d_W_writeNumber_23 hl (by decide) rfl (fun ls hl => ?_)
        refine lv_iconst (v := 1) hx hb d_W_writeNumber_25 (by decide) ?_
        refine lv_istore hx hb d_W_writeNumber_26 hl (by decide) rfl (fun ls hl => ?_)
        exact ih2 (1) (x2) (1) σ0 _ _ _ hf hP hD hS (lv_sub hl [2, 3, 1, 0] rfl)
      · intro x6 x2 x4 σ0 H locs ls hf hP hD hS hl
        have hf : B_W_writeNumber_2 (R_W_writeNumber t) x6 x2 x4 σ0 = some (r, σ') := hf
        unfold B_W_writeNumber_2 at hf
        refine lv_iload hx hb d_W_writeNumber_28 (lv_at hl 3 rfl) ?_
        refine lv_bipush (v := 10) hx hb d_W_writeNumber_30 (by decide) ?_
        refine lv_icmp_ge (tgt := 60) hx hb d_W_writeNumber_32 rfl (fun c5 => ?_) (fun c5 => ?_)
        · skip
          rw [if_pos c5] at hf
          exact ih3 (x2) (x4) σ0 _ _ _ hf hP hD hS (lv_sub hl [0, 1, 2] rfl)
        rw [if_neg c5] at hf
        refine lv_lload hx hb d_W_writeNumber_35 (lv_at hl 2 rfl) ?_
        refine lv_lload_n hx hb d_W_writeNumber_37 rfl (lv_at hl 1 rfl) ?_
        refine lv_ldc2 (v := 10) hx hb hown k_1 d_W_writeNumber_38 ?_
        refine lv_ldiv hx hb d_W_writeNumber_41 (by decide) ?_
        refine W.lcmp hx hb d_W_writeNumber_42 ?_
        refine lv_if_gt (tgt := 60) hx hb d_W_writeNumber_43 rfl (fun c6 => ?_) (fun c6 => ?_)
        · skip
          rw [if_pos c6] at hf
          exact ih3 (x2) (x4) σ0 _ _ _ hf hP hD hS (lv_sub hl [0, 1, 2] rfl)
        rw [if_neg c6] at hf
        refine lv_lload hx hb d_W_writeNumber_46 (lv_at hl 2 rfl) ?_
        refine lv_ldc2 (v := 10) hx hb hown k_1 d_W_writeNumber_48 ?_
        refine lv_lmul hx hb d_W_writeNumber_51 ?_
        refine lv_lstore hx hb d_W_writeNumber_52 hl (by decide) rfl (fun ls hl => ?_)
        refine lv_iinc (k := 3) (v := (x6 + 1)) hx hb d_W_writeNumber_54 hl rfl (by rw [show Int32.ofInt (1) = (1 : Int32) by decide]) (by decide) rfl (fun ls hl => ?_)
        refine lv_goto (tgt := 28) hx hb d_W_writeNumber_57 rfl ?_
        exact ih2 ((x6 + 1)) (x2) ((x4 * 10)) σ0 _ _ _ hf hP hD hS (lv_sub hl [2, 3, 1, 0] rfl)
      · intro x2 x4 σ0 H locs ls hf hP hD hS hl
        have hf : B_W_writeNumber_3 (R_W_writeNumber t) x2 x4 σ0 = some (r, σ') := hf
        unfold B_W_writeNumber_3 at hf
        refine lv_lload hx hb d_W_writeNumber_60 (lv_at hl 2 rfl) ?_
        refine lv_lconst (v := 0) hx hb d_W_writeNumber_62 (by decide) ?_
        refine W.lcmp hx hb d_W_writeNumber_63 ?_
        refine lv_if_le (tgt := 99) hx hb d_W_writeNumber_64 rfl (fun c7 => ?_) (fun c7 => ?_)
        · skip
          rw [if_pos c7] at hf
          obtain ⟨-, rfl⟩ := gRt_e hf
          exact g_vret hx hb hr hlocks hAe hS () trivial hP d_W_writeNumber_99
        rw [if_neg c7] at hf
        refine lv_aload_n hx hb d_W_writeNumber_67 rfl (lv_at hl 0 rfl) ?_
        refine va_get (D := X) (ci := 7) (C := R_W) (T := T_W) (N := 6) hx hb hts u_0 hown hK hP 17 gc_17 rfl 2 (by decide) k_0 (fun _ h9 => h9) rfl d_W_writeNumber_68 ?_
        refine lv_bipush (v := 48) hx hb d_W_writeNumber_71 (by decide) ?_
        refine lv_lload_n hx hb d_W_writeNumber_73 rfl (lv_at hl 1 rfl) ?_
        refine lv_lload hx hb d_W_writeNumber_74 (lv_at hl 2 rfl) ?_
        obtain ⟨hz8, hf⟩ := gNel_e hf
        refine lv_ldiv hx hb d_W_writeNumber_76 hz8 ?_
        refine lv_ldc2 (v := 10) hx hb hown k_1 d_W_writeNumber_77 ?_
        refine lv_lrem hx hb d_W_writeNumber_80 (by decide) ?_
        refine lv_l2i hx hb d_W_writeNumber_81 rfl ?_
        refine lv_iadd hx hb d_W_writeNumber_82 ?_
        refine lv_i2c hx hb d_W_writeNumber_83 rfl ?_
        obtain ⟨y9, σ10, e11, hf⟩ := gBd_e hf
        refine g_wi (va_runV ⟨hx, hb, hml, hown, hts⟩ (m_P_append e11) (cwV 1 hts (gG4 (fun _ h => List.mem_cons_of_mem _ h) tb_284 tb_285 tb_286 tb_38 tc_P_append) rfl rfl rfl (by decide +kernel) ⟨Nat.le_of_ble_eq_true rfl, Nat.le_of_ble_eq_true rfl⟩) (g_preVW (q0 := 7) hE hK hP hD hS hA gc_7 rfl) rfl rfl hl.1 rfl (lv_room (Nat.le_of_ble_eq_true rfl)) d_W_writeNumber_84 ⟨Nat.zero_le _, Nat.zero_le _⟩) hD hS hA (fun _ => cW_fst) (fun y9 _ H locs hu hP hD hS => ?_)
        subst hu
        refine lv_pop hx hb d_W_writeNumber_87 rfl ?_
        refine lv_lload hx hb d_W_writeNumber_88 (lv_at hl 2 rfl) ?_
        refine lv_ldc2 (v := 10) hx hb hown k_1 d_W_writeNumber_90 ?_
        refine lv_ldiv hx hb d_W_writeNumber_93 (by decide) ?_
        refine lv_lstore hx hb d_W_writeNumber_94 hl (by decide) rfl (fun ls hl => ?_)
        refine lv_goto (tgt := 60) hx hb d_W_writeNumber_96 rfl ?_
        exact ih3 (x2) ((x4 / 10)) σ10 _ _ _ hf hP hD hS (lv_sub hl [1, 2, 0] rfl)
  exact (key gFuel).1 q1 σ _ _ _ hf hP hD hS hl
