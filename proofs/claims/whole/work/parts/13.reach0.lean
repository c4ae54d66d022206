def f_R_refer (σ : gS) (x1 : Int32) : Option (Int32 × gS) := gLd σ 11 16 x1 (fun y1 => gSt σ 11 16 x1 (y1 + 1) (fun σ4 => gLd σ4 11 16 x1 (fun y7 => if y7 = 1 then (gSt σ4 12 16 (σ4.1 2) x1 (fun σ11 => gPut σ11 2 ((σ11.1 2) + 1) (fun σ14 => some (0, σ14)))) else (some (0, σ4)))))
set_option maxHeartbeats 4000000 in
set_option maxRecDepth 100000 in
theorem m_R_refer {l : Launch} {X : va_G} {cI cC cZ : ClassId} {aK aV : Nat → Nat} {a : Nat → Nat} {σ σ' : gS} {r : Int32} {x1 : Int32} (hf : f_R_refer σ x1 = some (r, σ')) {sz : Nat} : Met l y_R_refer w_R_refer { frames := 0, cells := 0, slots := 0, locals := 0 } (gPc X vwCl (gT cI cC cZ) aK aV (cW cI cC cZ a σ) sz [.ref (a 10), .int x1]) (gQv X vwCl (cW cI cC cZ a σ) sz (fun (_ : Unit) => True) (fun _ => cW cI cC cZ a σ')) 0 0 (va_A (cW cI cC cZ a σ) sz) := by
  refine g_met (cc := b_R_refer) (maxL := 2) (ret := none) (by decide) rfl (Nat.le_of_ble_eq_true rfl) ?_
  intro p e s m below meth c A ls hx hb hr hml hown hts hlocks hnm hsz hAe hA hP hK hD hS hl hE
  have hown : s.vm.findClass R_R = some m.cls := hown
  have u_0 : ∀ w ∈ u_ws R_R T_R 4, w ∈ w_R_refer := fun w h => List.mem_cons_of_mem _ (tu_R w h)
  have k_0 := hts (.fieldLink R_R 9 "GraphPages$Reach" "references" "[I") (List.mem_cons_of_mem _ tb_262)
  have k_1 := hts (.fieldLink R_R 15 "GraphPages$Reach" "order" "[I") (List.mem_cons_of_mem _ tb_263)
  have k_2 := hts (.fieldLink R_R 28 "GraphPages$Reach" "count" "I") (List.mem_cons_of_mem _ tb_264)
  unfold f_R_refer at hf
  refine lv_aload_n hx hb d_R_refer_0 rfl (lv_at hl 0 rfl) ?_
  refine va_get (D := X) (ci := 6) (C := R_R) (T := T_R) (N := 4) hx hb hts u_0 hown hK hP 10 gc_10 rfl 1 (by decide) k_0 (fun _ h9 => h9) rfl d_R_refer_1 ?_
  refine lv_iload_n hx hb d_R_refer_4 rfl (lv_at hl 1 rfl) ?_
  refine lv_dup2_11 hx hb d_R_refer_5 rfl rfl ?_
  obtain ⟨y1, h2, e3, hf⟩ := gLd_e hf
  refine va_iald hx hb hK hP 11 0 gc_11 rfl h2 d_R_refer_6 ?_
  rw [← e3]
  refine lv_iconst (v := 1) hx hb d_R_refer_7 (by decide) ?_
  refine lv_iadd hx hb d_R_refer_8 ?_
  obtain ⟨σ4, h5, e6, hf⟩ := gSt_e hf
  refine va_iast hx hb hK hP hD hS 11 0 gc_11 rfl h5 d_R_refer_9 (fun H locs hP hD hS => ?_)
  rw [sc_11, ← e6] at hP hD
  refine lv_aload_n hx hb d_R_refer_10 rfl (lv_at hl 0 rfl) ?_
  refine va_get (D := X) (ci := 6) (C := R_R) (T := T_R) (N := 4) hx hb hts u_0 hown hK hP 10 gc_10 rfl 1 (by decide) k_0 (fun _ h9 => h9) rfl d_R_refer_11 ?_
  refine lv_iload_n hx hb d_R_refer_14 rfl (lv_at hl 1 rfl) ?_
  obtain ⟨y7, h8, e9, hf⟩ := gLd_e hf
  refine va_iald hx hb hK hP 11 0 gc_11 rfl h8 d_R_refer_15 ?_
  rw [← e9]
  refine lv_iconst (v := 1) hx hb d_R_refer_16 (by decide) ?_
  refine lv_icmp_ne (tgt := 40) hx hb d_R_refer_17 rfl (fun c10 => ?_) (fun c10 => ?_)
  · skip
    rw [if_neg c10] at hf
    obtain ⟨-, rfl⟩ := gRt_e hf
    exact g_vret hx hb hr hlocks hAe hS () trivial hP d_R_refer_40
  rw [if_pos c10] at hf
  refine lv_aload_n hx hb d_R_refer_20 rfl (lv_at hl 0 rfl) ?_
  refine va_get (D := X) (ci := 6) (C := R_R) (T := T_R) (N := 4) hx hb hts u_0 hown hK hP 10 gc_10 rfl 2 (by decide) k_1 (fun _ h9 => h9) rfl d_R_refer_21 ?_
  refine lv_aload_n hx hb d_R_refer_24 rfl (lv_at hl 0 rfl) ?_
  refine va_get (D := X) (ci := 6) (C := R_R) (T := T_R) (N := 4) hx hb hts u_0 hown hK hP 10 gc_10 rfl 3 (by decide) k_2 (fun _ h9 => h9) rfl d_R_refer_25 ?_
  refine lv_iload_n hx hb d_R_refer_28 rfl (lv_at hl 1 rfl) ?_
  obtain ⟨σ11, h12, e13, hf⟩ := gSt_e hf
  refine va_iast hx hb hK hP hD hS 12 0 gc_12 rfl h12 d_R_refer_29 (fun H locs hP hD hS => ?_)
  rw [sc_12, ← e13] at hP hD
  refine lv_aload_n hx hb d_R_refer_30 rfl (lv_at hl 0 rfl) ?_
  refine lv_dup hx hb d_R_refer_31 rfl ?_
  refine va_get (D := X) (ci := 6) (C := R_R) (T := T_R) (N := 4) hx hb hts u_0 hown hK hP 10 gc_10 rfl 3 (by decide) k_2 (fun _ h9 => h9) rfl d_R_refer_32 ?_
  refine lv_iconst (v := 1) hx hb d_R_refer_35 (by decide) ?_
  refine lv_iadd hx hb d_R_refer_36 ?_
  obtain ⟨σ14, e15, hf⟩ := gPut_e hf
  refine va_put (D := X) (ci := 6) (ty := .int) (C := R_R) (T := T_R) (N := 4) hx hb hts u_0 t_R t_R_ok n_R hown hK hP hD hS 10 gc_10 rfl 3 (by decide) k_2 (fun _ h9 => h9) rfl (by decide +kernel) rfl rfl (Nat.le_of_ble_eq_true rfl) d_R_refer_37 (fun H locs hP hD hS => ?_)
  rw [sc_10_3, ← e15] at hP hD
  obtain ⟨-, rfl⟩ := gRt_e hf
  exact g_vret hx hb hr hlocks hAe hS () trivial hP d_R_refer_40

def B_R_followSlots_0 (rec : Nat → List Int32 → gS → Option (Int32 × gS)) (x1 : Int32) (σ0 : gS) : Option (Int32 × gS) := rec 1 [x1, 0] σ0
def B_R_followSlots_1 (rec : Nat → List Int32 → gS → Option (Int32 × gS)) (x1 : Int32) (x2 : Int32) (σ0 : gS) : Option (Int32 × gS) := if 4 ≤ x2 then (some (0, σ0)) else (gBd (f_G_hasSlot σ0 x1 x2) (fun y2 σ3 => if y2 = 0 then (rec 2 [x1, x2] σ3) else (gBd (f_G_contentOf σ3 x1 x2) (fun y6 σ7 => if y6 = 2 then (gBd (f_G_valueOf σ7 x1 x2) (fun y10 σ11 => gBd (f_R_refer σ11 y10) (fun _ σ14 => rec 2 [x1, x2] σ14))) else (rec 2 [x1, x2] σ7)))))
def B_R_followSlots_2 (rec : Nat → List Int32 → gS → Option (Int32 × gS)) (x1 : Int32) (x2 : Int32) (σ0 : gS) : Option (Int32 × gS) := rec 1 [x1, (x2 + 1)] σ0
def S_R_followSlots (rec : Nat → List Int32 → gS → Option (Int32 × gS)) (k : Nat) (l : List Int32) (σ0 : gS) : Option (Int32 × gS) := match k, l with
  | 0, [x1] => B_R_followSlots_0 rec x1 σ0
  | 1, [x1, x2] => B_R_followSlots_1 rec x1 x2 σ0
  | 2, [x1, x2] => B_R_followSlots_2 rec x1 x2 σ0
  | _, _ => none
def R_R_followSlots : Nat → Nat → List Int32 → gS → Option (Int32 × gS)
  | 0 => fun _ _ _ => none
  | t + 1 => fun k l σ0 => S_R_followSlots (R_R_followSlots t) k l σ0
def f_R_followSlots (σ : gS) (x1 : Int32) : Option (Int32 × gS) := R_R_followSlots gFuel 0 [x1] σ
set_option maxHeartbeats 4000000 in
set_option maxRecDepth 100000 in
theorem m_R_followSlots {l : Launch} {X : va_G} {cI cC cZ : ClassId} {aK aV : Nat → Nat} {a : Nat → Nat} {σ σ' : gS} {r : Int32} {q1 : Int32} (hf : f_R_followSlots σ q1 = some (r, σ')) {sz : Nat} : Met l y_R_followSlots w_R_followSlots { frames := 2, cells := 0, slots := 0, locals := 43 } (gPc X vwCl (gT cI cC cZ) aK aV (cW cI cC cZ a σ) sz [.ref (a 10), .int q1]) (gQv X vwCl (cW cI cC cZ a σ) sz (fun (_ : Unit) => True) (fun _ => cW cI cC cZ a σ')) 0 0 (va_A (cW cI cC cZ a σ) sz) := by
  refine g_met (cc := b_R_followSlots) (maxL := 3) (ret := none) (by decide) rfl (Nat.le_of_ble_eq_true rfl) ?_
  intro p e s m below meth c A ls hx hb hr hml hown hts hlocks hnm hsz hAe hA hP hK hD hS hl hE
  have hown : s.vm.findClass R_R = some m.cls := hown
  have u_0 : ∀ w ∈ u_ws R_R T_R 4, w ∈ w_R_followSlots := fun w h => List.mem_cons_of_mem _ (tu_R w h)
  have k_0 := hts (.fieldLink R_R 18 "GraphPages$Reach" "graph" "LGraphPages$Graph;") (List.mem_cons_of_mem _ tb_274)
  unfold f_R_followSlots at hf
  have key : ∀ t : Nat, (∀ (x1 : Int32) (σ0 : gS) (H : Heap) (locs : List Loc) (ls : Array Slot), R_R_followSlots t 0 [x1] σ0 = some (r, σ') → va_P X vwCl (cW cI cC cZ a σ0) H → va_D A (cW cI cC cZ a σ0) → va_S A s.heap H locs → lv_has ls 3 [(0, .ref (a 10)), (1, .int x1)] → W p l e (headSpec w_R_followSlots { frames := 2, cells := 0, slots := 0, locals := 43 }).room s m [.ref (a 10), .int q1].toArray below meth c H locs 0 0 (MQ below (gQv X vwCl (cW cI cC cZ a σ) sz (fun (_ : Unit) => True) (fun _ => cW cI cC cZ a σ')) [.ref (a 10), .int q1].toArray s 0 0 (va_A (cW cI cC cZ a σ) sz)) (F0 m 0 ls [])) ∧ (∀ (x1 : Int32) (x2 : Int32) (σ0 : gS) (H : Heap) (locs : List Loc) (ls : Array Slot), R_R_followSlots t 1 [x1, x2] σ0 = some (r, σ') → va_P X vwCl (cW cI cC cZ a σ0) H → va_D A (cW cI cC cZ a σ0) → va_S A s.heap H locs → lv_has ls 3 [(0, .ref (a 10)), (1, .int x1), (2, .int x2)] → W p l e (headSpec w_R_followSlots { frames := 2, cells := 0, slots := 0, locals := 43 }).room s m [.ref (a 10), .int q1].toArray below meth c H locs 0 0 (MQ below (gQv X vwCl (cW cI cC cZ a σ) sz (fun (_ : Unit) => True) (fun _ => cW cI cC cZ a σ')) [.ref (a 10), .int q1].toArray s 0 0 (va_A (cW cI cC cZ a σ) sz)) (F0 m 2 ls [])) ∧ (∀ (x1 : Int32) (x2 : Int32) (σ0 : gS) (H : Heap) (locs : List Loc) (ls : Array Slot), R_R_followSlots t 2 [x1, x2] σ0 = some (r, σ') → va_P X vwCl (cW cI cC cZ a σ0) H → va_D A (cW cI cC cZ a σ0) → va_S A s.heap H locs → lv_has ls 3 [(0, .ref (a 10)), (1, .int x1), (2, .int x2)] → W p l e (headSpec w_R_followSlots { frames := 2, cells := 0, slots := 0, locals := 43 }).room s m [.ref (a 10), .int q1].toArray below meth c H locs 0 0 (MQ below (gQv X vwCl (cW cI cC cZ a σ) sz (fun (_ : Unit) => True) (fun _ => cW cI cC cZ a σ')) [.ref (a 10), .int q1].toArray s 0 0 (va_A (cW cI cC cZ a σ) sz)) (F0 m 45 ls [])) := by
    intro t
    induction t with
    | zero => exact ⟨fun _ _ _ _ _ hf => (by have hf : (none : Option (Int32 × gS)) = some (r, σ') := hf; cases hf), fun _ _ _ _ _ _ hf => (by have hf : (none : Option (Int32 × gS)) = some (r, σ') := hf; cases hf), fun _ _ _ _ _ _ hf => (by have hf : (none : Option (Int32 × gS)) = some (r, σ') := hf; cases hf)⟩
    | succ t ih =>
      obtain ⟨ih0, ih1, ih2⟩ := ih
      refine ⟨?_, ?_, ?_⟩
      · intro x1 σ0 H locs ls hf hP hD hS hl
        have hf : B_R_followSlots_0 (R_R_followSlots t) x1 σ0 = some (r, σ') := hf
        unfold B_R_followSlots_0 at hf
        refine lv_iconst (v := 0) hx hb d_R_followSlots_0 (by decide) ?_
        refine lv_istore_n hx hb d_R_followSlots_1 rfl hl (by decide) rfl (fun ls hl => ?_)
        exact ih1 (x1) (0) σ0 _ _ _ hf hP hD hS (lv_sub hl [1, 2, 0] rfl)
      · intro x1 x2 σ0 H locs ls hf hP hD hS hl
        have hf : B_R_followSlots_1 (R_R_followSlots t) x1 x2 σ0 = some (r, σ') := hf
        unfold B_R_followSlots_1 at hf
        refine lv_iload_n hx hb d_R_followSlots_2 rfl (lv_at hl 2 rfl) ?_
        refine lv_iconst (v := 4) hx hb d_R_followSlots_3 (by decide) ?_
        refine lv_icmp_ge (tgt := 51) hx hb d_R_followSlots_4 rfl (fun c1 => ?_) (fun c1 => ?_)
        · skip
          rw [if_pos c1] at hf
          obtain ⟨-, rfl⟩ := gRt_e hf
          exact g_vret hx hb hr hlocks hAe hS () trivial hP d_R_followSlots_51
        rw [if_neg c1] at hf
        refine lv_aload_n hx hb d_R_followSlots_7 rfl (lv_at hl 0 rfl) ?_
        refine va_get (D := X) (ci := 6) (C := R_R) (T := T_R) (N := 4) hx hb hts u_0 hown hK hP 10 gc_10 rfl 0 (by decide) k_0 (fun _ h9 => h9) rfl d_R_followSlots_8 ?_
        refine lv_iload_n hx hb d_R_followSlots_11 rfl (lv_at hl 1 rfl) ?_
        refine lv_iload_n hx hb d_R_followSlots_12 rfl (lv_at hl 2 rfl) ?_
        obtain ⟨y2, σ3, e4, hf⟩ := gBd_e hf
        refine g_wi (va_runV ⟨hx, hb, hml, hown, hts⟩ (m_G_hasSlot e4) (cwV 2 hts (gG4 (fun _ h => List.mem_cons_of_mem _ h) tb_265 tb_266 tb_267 tb_116 tc_G_hasSlot) rfl rfl rfl (by decide +kernel) ⟨Nat.le_of_ble_eq_true rfl, Nat.le_of_ble_eq_true rfl⟩) (g_preVW (q0 := 1) hE hK hP hD hS hA gc_1 rfl) rfl rfl hl.1 rfl (lv_room (Nat.le_of_ble_eq_true rfl)) d_R_followSlots_13 ⟨Nat.zero_le _, Nat.zero_le _⟩) hD hS hA (fun _ => cW_fst) (fun y2 _ H locs hu hP hD hS => ?_)
        subst hu
        refine lv_if_eq (tgt := 45) hx hb d_R_followSlots_16 rfl (fun c5 => ?_) (fun c5 => ?_)
        · skip
          rw [if_pos c5] at hf
          exact ih2 (x1) (x2) σ3 _ _ _ hf hP hD hS (lv_sub hl [0, 1, 2] rfl)
        rw [if_neg c5] at hf
        refine lv_aload_n hx hb d_R_followSlots_19 rfl (lv_at hl 0 rfl) ?_
        refine va_get (D := X) (ci := 6) (C := R_R) (T := T_R) (N := 4) hx hb hts u_0 hown hK hP 10 gc_10 rfl 0 (by decide) k_0 (fun _ h9 => h9) rfl d_R_followSlots_20 ?_
        refine lv_iload_n hx hb d_R_followSlots_23 rfl (lv_at hl 1 rfl) ?_
        refine lv_iload_n hx hb d_R_followSlots_24 rfl (lv_at hl 2 rfl) ?_
        obtain ⟨y6, σ7, e8, hf⟩ := gBd_e hf
        refine g_wi (va_runV ⟨hx, hb, hml, hown, hts⟩ (m_G_contentOf e8) (cwV 2 hts (gG4 (fun _ h => List.mem_cons_of_mem _ h) tb_268 tb_236 tb_237 tb_116 tc_G_contentOf) rfl rfl rfl (by decide +kernel) ⟨Nat.le_of_ble_eq_true rfl, Nat.le_of_ble_eq_true rfl⟩) (g_preVW (q0 := 1) hE hK hP hD hS hA gc_1 rfl) rfl rfl hl.1 rfl (lv_room (Nat.le_of_ble_eq_true rfl)) d_R_followSlots_25 ⟨Nat.zero_le _, Nat.zero_le _⟩) hD hS hA (fun _ => cW_fst) (fun y6 _ H locs hu hP hD hS => ?_)
        subst hu
        refine lv_iconst (v := 2) hx hb d_R_followSlots_28 (by decide) ?_
        refine lv_icmp_ne (tgt := 45) hx hb d_R_followSlots_29 rfl (fun c9 => ?_) (fun c9 => ?_)
        · skip
          rw [if_neg c9] at hf
          exact ih2 (x1) (x2) σ7 _ _ _ hf hP hD hS (lv_sub hl [0, 1, 2] rfl)
        rw [if_pos c9] at hf
        refine lv_aload_n hx hb d_R_followSlots_32 rfl (lv_at hl 0 rfl) ?_
        refine lv_aload_n hx hb d_R_followSlots_33 rfl (lv_at hl 0 rfl) ?_
        refine va_get (D := X) (ci := 6) (C := R_R) (T := T_R) (N := 4) hx hb hts u_0 hown hK hP 10 gc_10 rfl 0 (by decide) k_0 (fun _ h9 => h9) rfl d_R_followSlots_34 ?_
        refine lv_iload_n hx hb d_R_followSlots_37 rfl (lv_at hl 1 rfl) ?_
        refine lv_iload_n hx hb d_R_followSlots_38 rfl (lv_at hl 2 rfl) ?_
        obtain ⟨y10, σ11, e12, hf⟩ := gBd_e hf
        refine g_wi (va_runV ⟨hx, hb, hml, hown, hts⟩ (m_G_valueOf e12) (cwV 2 hts (gG4 (fun _ h => List.mem_cons_of_mem _ h) tb_269 tb_239 tb_240 tb_116 tc_G_valueOf) rfl rfl rfl (by decide +kernel) ⟨Nat.le_of_ble_eq_true rfl, Nat.le_of_ble_eq_true rfl⟩) (g_preVW (q0 := 1) hE hK hP hD hS hA gc_1 rfl) rfl rfl hl.1 rfl (lv_room (Nat.le_of_ble_eq_true rfl)) d_R_followSlots_39 ⟨Nat.zero_le _, Nat.zero_le _⟩) hD hS hA (fun _ => cW_fst) (fun y10 _ H locs hu hP hD hS => ?_)
        subst hu
        obtain ⟨y13, σ14, e15, hf⟩ := gBd_e hf
        refine g_wv (va_runV ⟨hx, hb, hml, hown, hts⟩ (m_R_refer e15) (cwV 1 hts (gG4 (fun _ h => List.mem_cons_of_mem _ h) tb_270 tb_271 tb_272 tb_273 tc_R_refer) rfl rfl rfl (by decide +kernel) ⟨Nat.le_of_ble_eq_true rfl, Nat.le_of_ble_eq_true rfl⟩) (g_preVW (q0 := 10) hE hK hP hD hS hA gc_10 rfl) rfl rfl hl.1 rfl (lv_room (Nat.le_of_ble_eq_true rfl)) d_R_followSlots_42 ⟨Nat.zero_le _, Nat.zero_le _⟩) hD hS hA (fun _ => cW_fst) (fun _ H locs _ hP hD hS => ?_)
        exact ih2 (x1) (x2) σ14 _ _ _ hf hP hD hS (lv_sub hl [0, 1, 2] rfl)
      · intro x1 x2 σ0 H locs ls hf hP hD hS hl
        have hf : B_R_followSlots_2 (R_R_followSlots t) x1 x2 σ0 = some (r, σ') := hf
        unfold B_R_followSlots_2 at hf
        refine lv_iinc (k := 2) (v := (x2 + 1)) hx hb d_R_followSlots_45 hl rfl (by rw [show Int32.ofInt (1) = (1 : Int32) by decide]) (by decide) rfl (fun ls hl => ?_)
        refine lv_goto (tgt := 2) hx hb d_R_followSlots_48 rfl ?_
        exact ih1 (x1) ((x2 + 1)) σ0 _ _ _ hf hP hD hS (lv_sub hl [1, 2, 0] rfl)
  exact (key gFuel).1 q1 σ _ _ _ hf hP hD hS hl

def B_R_startFrom_0 (rec : Nat → List Int32 → gS → Option (Int32 × gS)) (x1 : Int32) (σ0 : gS) : Option (Int32 × gS) := gBd (f_J_fill_RR σ0 0) (fun _ σ2 => gPut σ2 2 0 (fun σ4 => gBd (f_R_refer σ4 x1) (fun _ σ7 => rec 1 [0] σ7)))
def B_R_startFrom_1 (rec : Nat → List Int32 → gS → Option (Int32 × gS)) (x2 : Int32) (σ0 : gS) : Option (Int32 × gS) := if 16 ≤ x2 then (some (0, σ0)) else (if (σ0.1 2) ≤ x2 then (some (0, σ0)) else (gLd σ0 12 16 x2 (fun y11 => gBd (f_R_followSlots σ0 y11) (fun _ σ15 => rec 1 [(x2 + 1)] σ15))))
def S_R_startFrom (rec : Nat → List Int32 → gS → Option (Int32 × gS)) (k : Nat) (l : List Int32) (σ0 : gS) : Option (Int32 × gS) := match k, l with
  | 0, [x1] => B_R_startFrom_0 rec x1 σ0
  | 1, [x2] => B_R_startFrom_1 rec x2 σ0
  | _, _ => none
def R_R_startFrom : Nat → Nat → List Int32 → gS → Option (Int32 × gS)
  | 0 => fun _ _ _ => none
  | t + 1 => fun k l σ0 => S_R_startFrom (R_R_startFrom t) k l σ0
def f_R_startFrom (σ : gS) (x1 : Int32) : Option (Int32 × gS) := R_R_startFrom gFuel 0 [x1] σ
set_option maxHeartbeats 4000000 in
set_option maxRecDepth 100000 in
theorem m_R_startFrom {l : Launch} {X : va_G} {cI cC cZ : ClassId} {aK aV : Nat → Nat} {a : Nat → Nat} {σ σ' : gS} {r : Int32} {q1 : Int32} (hf : f_R_startFrom σ q1 = some (r, σ')) {sz : Nat} : Met l y_R_startFrom w_R_startFrom { frames := 3, cells := 0, slots := 0, locals := 65 } (gPc X vwCl (gT cI cC cZ) aK aV (cW cI cC cZ a σ) sz [.ref (a 10), .int q1]) (gQv X vwCl (cW cI cC cZ a σ) sz (fun (_ : Unit) => True) (fun _ => cW cI cC cZ a σ')) 0 0 (va_A (cW cI cC cZ a σ) sz) := by
  refine g_met (cc := b_R_startFrom) (maxL := 3) (ret := none) (by decide) rfl (Nat.le_of_ble_eq_true rfl) ?_
  intro p e s m below meth c A ls hx hb hr hml hown hts hlocks hnm hsz hAe hA hP hK hD hS hl hE
  have hown : s.vm.findClass R_R = some m.cls := hown
  have u_0 : ∀ w ∈ u_ws R_R T_R 4, w ∈ w_R_startFrom := fun w h => List.mem_cons_of_mem _ (tu_R w h)
  have k_0 := hts (.fieldLink R_R 9 "GraphPages$Reach" "references" "[I") (List.mem_cons_of_mem _ tb_262)
  have k_1 := hts (.initialized R_J) (List.mem_cons_of_mem _ tb_222)
  have k_2 := hts (.methodLink R_R 22 y_J_fill) (List.mem_cons_of_mem _ tb_278)
  have k_3 := hts (.static y_J_fill) (List.mem_cons_of_mem _ tb_224)
  have k_4 := hts (.fieldLink R_R 28 "GraphPages$Reach" "count" "I") (List.mem_cons_of_mem _ tb_264)
  have k_5 := hts (.fieldLink R_R 15 "GraphPages$Reach" "order" "[I") (List.mem_cons_of_mem _ tb_263)
  unfold f_R_startFrom at hf
  have key : ∀ t : Nat, (∀ (x1 : Int32) (σ0 : gS) (H : Heap) (locs : List Loc) (ls : Array Slot), R_R_startFrom t 0 [x1] σ0 = some (r, σ') → va_P X vwCl (cW cI cC cZ a σ0) H → va_D A (cW cI cC cZ a σ0) → va_S A s.heap H locs → lv_has ls 3 [(0, .ref (a 10)), (1, .int x1)] → W p l e (headSpec w_R_startFrom { frames := 3, cells := 0, slots := 0, locals := 65 }).room s m [.ref (a 10), .int q1].toArray below meth c H locs 0 0 (MQ below (gQv X vwCl (cW cI cC cZ a σ) sz (fun (_ : Unit) => True) (fun _ => cW cI cC cZ a σ')) [.ref (a 10), .int q1].toArray s 0 0 (va_A (cW cI cC cZ a σ) sz)) (F0 m 0 ls [])) ∧ (∀ (x2 : Int32) (σ0 : gS) (H : Heap) (locs : List Loc) (ls : Array Slot), R_R_startFrom t 1 [x2] σ0 = some (r, σ') → va_P X vwCl (cW cI cC cZ a σ0) H → va_D A (cW cI cC cZ a σ0) → va_S A s.heap H locs → lv_has ls 3 [(0, .ref (a 10)), (2, .int x2)] → W p l e (headSpec w_R_startFrom { frames := 3, cells := 0, slots := 0, locals := 65 }).room s m [.ref (a 10), .int q1].toArray below meth c H locs 0 0 (MQ below (gQv X vwCl (cW cI cC cZ a σ) sz (fun (_ : Unit) => True) (fun _ => cW cI cC cZ a σ')) [.ref (a 10), .int q1].toArray s 0 0 (va_A (cW cI cC cZ a σ) sz)) (F0 m 20 ls [])) := by
    intro t
    induction t with
    | zero => exact ⟨fun _ _ _ _ _ hf => (by have hf : (none : Option (Int32 × gS)) = some (r, σ') := hf; cases hf), fun _ _ _ _ _ hf => (by have hf : (none : Option (Int32 × gS)) = some (r, σ') := hf; cases hf)⟩
    | succ t ih =>
      obtain ⟨ih0, ih1⟩ := ih
      refine ⟨?_, ?_⟩
      · intro x1 σ0 H locs ls hf hP hD hS hl
        have hf : B_R_startFrom_0 (R_R_startFrom t) x1 σ0 = some (r, σ') := hf
        unfold B_R_startFrom_0 at hf
        refine lv_aload_n hx hb d_R_startFrom_0 rfl (lv_at hl 0 rfl) ?_
        refine va_get (D := X) (ci := 6) (C := R_R) (T := T_R) (N := 4) hx hb hts u_0 hown hK hP 10 gc_10 rfl 1 (by decide) k_0 (fun _ h9 => h9) rfl d_R_startFrom_1 ?_
        refine lv_iconst (v := 0) hx hb d_R_startFrom_4 (by decide) ?_
        obtain ⟨y1, σ2, e3, hf⟩ := gBd_e hf
        refine g_wv (va_runS ⟨hx, hb, hml, hown, hts⟩ (m_J_fill_RR e3) ⟨callB_of 2 hts (gG (fun _ h => List.mem_cons_of_mem _ h) tc_J_fill) rfl rfl rfl k_1 k_2 (by decide +kernel) ⟨Nat.le_of_ble_eq_true rfl, Nat.le_of_ble_eq_true rfl⟩, k_3⟩ (g_preSW hE hK hP hD hS hA) rfl rfl hl.1 rfl (lv_room (Nat.le_of_ble_eq_true rfl)) d_R_startFrom_5 ⟨Nat.zero_le _, Nat.zero_le _⟩) hD hS hA (fun _ => cW_fst) (fun _ H locs _ hP hD hS => ?_)
        refine lv_aload_n hx hb d_R_startFrom_8 rfl (lv_at hl 0 rfl) ?_
        refine lv_iconst (v := 0) hx hb d_R_startFrom_9 (by decide) ?_
        obtain ⟨σ4, e5, hf⟩ := gPut_e hf
        refine va_put (D := X) (ci := 6) (ty := .int) (C := R_R) (T := T_R) (N := 4) hx hb hts u_0 t_R t_R_ok n_R hown hK hP hD hS 10 gc_10 rfl 3 (by decide) k_4 (fun _ h9 => h9) rfl (by decide +kernel) rfl rfl (Nat.le_of_ble_eq_true rfl) d_R_startFrom_10 (fun H locs hP hD hS => ?_)
        rw [sc_10_3, ← e5] at hP hD
        refine lv_aload_n hx hb d_R_startFrom_13 rfl (lv_at hl 0 rfl) ?_
        refine lv_iload_n hx hb d_R_startFrom_14 rfl (lv_at hl 1 rfl) ?_
        obtain ⟨y6, σ7, e8, hf⟩ := gBd_e hf
        refine g_wv (va_runV ⟨hx, hb, hml, hown, hts⟩ (m_R_refer e8) (cwV 1 hts (gG4 (fun _ h => List.mem_cons_of_mem _ h) tb_270 tb_271 tb_272 tb_273 tc_R_refer) rfl rfl rfl (by decide +kernel) ⟨Nat.le_of_ble_eq_true rfl, Nat.le_of_ble_eq_true rfl⟩) (g_preVW (q0 := 10) hE hK hP hD hS hA gc_10 rfl) rfl rfl hl.1 rfl (lv_room (Nat.le_of_ble_eq_true rfl)) d_R_startFrom_15 ⟨Nat.zero_le _, Nat.zero_le _⟩) hD hS hA (fun _ => cW_fst) (fun _ H locs _ hP hD hS => ?_)
        refine lv_iconst (v := 0) hx hb d_R_startFrom_18 (by decide) ?_
        refine lv_istore_n hx hb d_R_startFrom_19 rfl hl (by decide) rfl (fun ls hl => ?_)
        exact ih1 (0) σ7 _ _ _ hf hP hD hS (lv_sub hl [1, 0] rfl)
      · intro x2 σ0 H locs ls hf hP hD hS hl
        have hf : B_R_startFrom_1 (R_R_startFrom t) x2 σ0 = some (r, σ') := hf
        unfold B_R_startFrom_1 at hf
        refine lv_iload_n hx hb d_R_startFrom_20 rfl (lv_at hl 1 rfl) ?_
        refine lv_bipush (v := 16) hx hb d_R_startFrom_21 (by decide) ?_
        refine lv_icmp_ge (tgt := 50) hx hb d_R_startFrom_23 rfl (fun c9 => ?_) (fun c9 => ?_)
        · skip
          rw [if_pos c9] at hf
          obtain ⟨-, rfl⟩ := gRt_e hf
          exact g_vret hx hb hr hlocks hAe hS () trivial hP d_R_startFrom_50
        rw [if_neg c9] at hf
        refine lv_iload_n hx hb d_R_startFrom_26 rfl (lv_at hl 1 rfl) ?_
        refine lv_aload_n hx hb d_R_startFrom_27 rfl (lv_at hl 0 rfl) ?_
        refine va_get (D := X) (ci := 6) (C := R_R) (T := T_R) (N := 4) hx hb hts u_0 hown hK hP 10 gc_10 rfl 3 (by decide) k_4 (fun _ h9 => h9) rfl d_R_startFrom_28 ?_
        refine lv_icmp_ge (tgt := 50) hx hb d_R_startFrom_31 rfl (fun c10 => ?_) (fun c10 => ?_)
        · skip
          rw [if_pos c10] at hf
          obtain ⟨-, rfl⟩ := gRt_e hf
          exact g_vret hx hb hr hlocks hAe hS () trivial hP d_R_startFrom_50
        rw [if_neg c10] at hf
        refine lv_aload_n hx hb d_R_startFrom_34 rfl (lv_at hl 0 rfl) ?_
        refine lv_aload_n hx hb d_R_startFrom_35 rfl (lv_at hl 0 rfl) ?_
        refine va_get (D := X) (ci := 6) (C := R_R) (T := T_R) (N := 4) hx hb hts u_0 hown hK hP 10 gc_10 rfl 2 (by decide) k_5 (fun _ h9 => h9) rfl d_R_startFrom_36 ?_
        refine lv_iload_n hx hb d_R_startFrom_39 rfl (lv_at hl 1 rfl) ?_
        obtain ⟨y11, h12, e13, hf⟩ := gLd_e hf
        refine va_iald hx hb hK hP 12 0 gc_12 rfl h12 d_R_startFrom_40 ?_
        rw [← e13]
        obtain ⟨y14, σ15, e16, hf⟩ := gBd_e hf
        refine g_wv (va_runV ⟨hx, hb, hml, hown, hts⟩ (m_R_followSlots e16) (cwV 1 hts (gG4 (fun _ h => List.mem_cons_of_mem _ h) tb_275 tb_276 tb_277 tb_273 tc_R_followSlots) rfl rfl rfl (by decide +kernel) ⟨Nat.le_of_ble_eq_true rfl, Nat.le_of_ble_eq_true rfl⟩) (g_preVW (q0 := 10) hE hK hP hD hS hA gc_10 rfl) rfl rfl hl.1 rfl (lv_room (Nat.le_of_ble_eq_true rfl)) d_R_startFrom_41 ⟨Nat.zero_le _, Nat.zero_le _⟩) hD hS hA (fun _ => cW_fst) (fun _ H locs _ hP hD hS => ?_)
        refine lv_iinc (k := 1) (v := (x2 + 1)) hx hb d_R_startFrom_44 hl rfl (by rw [show Int32.ofInt (1) = (1 : Int32) by decide]) (by decide) rfl (fun ls hl => ?_)
        refine lv_goto (tgt := 20) hx hb d_R_startFrom_47 rfl ?_
        exact ih1 ((x2 + 1)) σ15 _ _ _ hf hP hD hS (lv_sub hl [1, 0] rfl)
  exact (key gFuel).1 q1 σ _ _ _ hf hP hD hS hl

def f_R_isShared (σ : gS) (x1 : Int32) : Option (Int32 × gS) := gLd σ 11 16 x1 (fun y1 => if y1 < 2 then (some (0, σ)) else (some (1, σ)))
set_option maxHeartbeats 4000000 in
set_option maxRecDepth 100000 in
theorem m_R_isShared {l : Launch} {X : va_G} {cI cC cZ : ClassId} {aK aV : Nat → Nat} {a : Nat → Nat} {σ σ' : gS} {r : Int32} {x1 : Int32} (hf : f_R_isShared σ x1 = some (r, σ')) {sz : Nat} : Met l y_R_isShared w_R_isShared { frames := 0, cells := 0, slots := 0, locals := 0 } (gPc X vwCl (gT cI cC cZ) aK aV (cW cI cC cZ a σ) sz [.ref (a 10), .int x1]) (gQi X vwCl (cW cI cC cZ a σ) sz (fun r' (_ : Unit) => r' = r) (fun _ => cW cI cC cZ a σ')) 0 0 (va_A (cW cI cC cZ a σ) sz) := by
  refine g_met (cc := b_R_isShared) (maxL := 2) (ret := (some .boolean)) (by decide) rfl (Nat.le_of_ble_eq_true rfl) ?_
  intro p e s m below meth c A ls hx hb hr hml hown hts hlocks hnm hsz hAe hA hP hK hD hS hl hE
  have hown : s.vm.findClass R_R = some m.cls := hown
  have u_0 : ∀ w ∈ u_ws R_R T_R 4, w ∈ w_R_isShared := fun w h => List.mem_cons_of_mem _ (tu_R w h)
  have k_0 := hts (.fieldLink R_R 9 "GraphPages$Reach" "references" "[I") (List.mem_cons_of_mem _ tb_262)
  unfold f_R_isShared at hf
  refine lv_aload_n hx hb d_R_isShared_0 rfl (lv_at hl 0 rfl) ?_
  refine va_get (D := X) (ci := 6) (C := R_R) (T := T_R) (N := 4) hx hb hts u_0 hown hK hP 10 gc_10 rfl 1 (by decide) k_0 (fun _ h9 => h9) rfl d_R_isShared_1 ?_
  refine lv_iload_n hx hb d_R_isShared_4 rfl (lv_at hl 1 rfl) ?_
  obtain ⟨y1, h2, e3, hf⟩ := gLd_e hf
  refine va_iald hx hb hK hP 11 0 gc_11 rfl h2 d_R_isShared_5 ?_
  rw [← e3]
  refine lv_iconst (v := 2) hx hb d_R_isShared_6 (by decide) ?_
  refine lv_icmp_lt (tgt := 14) hx hb d_R_isShared_7 rfl (fun c4 => ?_) (fun c4 => ?_)
  · skip
    rw [if_pos c4] at hf
    refine lv_iconst (v := 0) hx hb d_R_isShared_14 (by decide) ?_
    obtain ⟨rfl, rfl⟩ := gRt_e hf
    exact g_zret hx hb hr hlocks rfl hAe hS () rfl hP d_R_isShared_15
  rw [if_neg c4] at hf
  refine lv_iconst (v := 1) hx hb d_R_isShared_10 (by decide) ?_
  refine lv_goto (tgt := 15) hx hb d_R_isShared_11 rfl ?_
  obtain ⟨rfl, rfl⟩ := gRt_e hf
  exact g_zret hx hb hr hlocks rfl hAe hS () rfl hP d_R_isShared_15

def B_R_countShared_0 (rec : Nat → List Int32 → gS → Option (Int32 × gS)) (σ0 : gS) : Option (Int32 × gS) := rec 1 [0, 0] σ0
def B_R_countShared_1 (rec : Nat → List Int32 → gS → Option (Int32 × gS)) (x1 : Int32) (x2 : Int32) (σ0 : gS) : Option (Int32 × gS) := if 16 ≤ x2 then (some (x1, σ0)) else (gBd (f_R_isShared σ0 x2) (fun y2 σ3 => if y2 = 0 then (rec 2 [x1, x2] σ3) else (rec 2 [(x1 + 1), x2] σ3)))
def B_R_countShared_2 (rec : Nat → List Int32 → gS → Option (Int32 × gS)) (x1 : Int32) (x2 : Int32) (σ0 : gS) : Option (Int32 × gS) := rec 1 [x1, (x2 + 1)] σ0
def S_R_countShared (rec : Nat → List Int32 → gS → Option (Int32 × gS)) (k : Nat) (l : List Int32) (σ0 : gS) : Option (Int32 × gS) := match k, l with
  | 0, [] => B_R_countShared_0 rec  σ0
  | 1, [x1, x2] => B_R_countShared_1 rec x1 x2 σ0
  | 2, [x1, x2] => B_R_countShared_2 rec x1 x2 σ0
  | _, _ => none
def R_R_countShared : Nat → Nat → List Int32 → gS → Option (Int32 × gS)
  | 0 => fun _ _ _ => none
  | t + 1 => fun k l σ0 => S_R_countShared (R_R_countShared t) k l σ0
def f_R_countShared (σ : gS) : Option (Int32 × gS) := R_R_countShared gFuel 0 [] σ
set_option maxHeartbeats 4000000 in
set_option maxRecDepth 100000 in
theorem m_R_countShared {l : Launch} {X : va_G} {cI cC cZ : ClassId} {aK aV : Nat → Nat} {a : Nat → Nat} {σ σ' : gS} {r : Int32} (hf : f_R_countShared σ = some (r, σ')) {sz : Nat} : Met l y_R_countShared w_R_countShared { frames := 1, cells := 0, slots := 0, locals := 21 } (gPc X vwCl (gT cI cC cZ) aK aV (cW cI cC cZ a σ) sz [.ref (a 10)]) (gQi X vwCl (cW cI cC cZ a σ) sz (fun r' (_ : Unit) => r' = r) (fun _ => cW cI cC cZ a σ')) 0 0 (va_A (cW cI cC cZ a σ) sz) := by
  refine g_met (cc := b_R_countShared) (maxL := 3) (ret := (some .int)) (by decide) rfl (Nat.le_of_ble_eq_true rfl) ?_
  intro p e s m below meth c A ls hx hb hr hml hown hts hlocks hnm hsz hAe hA hP hK hD hS hl hE
  have hown : s.vm.findClass R_R = some m.cls := hown
  unfold f_R_countShared at hf
  have key : ∀ t : Nat, (∀ (σ0 : gS) (H : Heap) (locs : List Loc) (ls : Array Slot), R_R_countShared t 0 [] σ0 = some (r, σ') → va_P X vwCl (cW cI cC cZ a σ0) H → va_D A (cW cI cC cZ a σ0) → va_S A s.heap H locs → lv_has ls 3 [(0, .ref (a 10))] → W p l e (headSpec w_R_countShared { frames := 1, cells := 0, slots := 0, locals := 21 }).room s m [.ref (a 10)].toArray below meth c H locs 0 0 (MQ below (gQi X vwCl (cW cI cC cZ a σ) sz (fun r' (_ : Unit) => r' = r) (fun _ => cW cI cC cZ a σ')) [.ref (a 10)].toArray s 0 0 (va_A (cW cI cC cZ a σ) sz)) (F0 m 0 ls [])) ∧ (∀ (x1 : Int32) (x2 : Int32) (σ0 : gS) (H : Heap) (locs : List Loc) (ls : Array Slot), R_R_countShared t 1 [x1, x2] σ0 = some (r, σ') → va_P X vwCl (cW cI cC cZ a σ0) H → va_D A (cW cI cC cZ a σ0) → va_S A s.heap H locs → lv_has ls 3 [(0, .ref (a 10)), (1, .int x1), (2, .int x2)] → W p l e (headSpec w_R_countShared { frames := 1, cells := 0, slots := 0, locals := 21 }).room s m [.ref (a 10)].toArray below meth c H locs 0 0 (MQ below (gQi X vwCl (cW cI cC cZ a σ) sz (fun r' (_ : Unit) => r' = r) (fun _ => cW cI cC cZ a σ')) [.ref (a 10)].toArray s 0 0 (va_A (cW cI cC cZ a σ) sz)) (F0 m 4 ls [])) ∧ (∀ (x1 : Int32) (x2 : Int32) (σ0 : gS) (H : Heap) (locs : List Loc) (ls : Array Slot), R_R_countShared t 2 [x1, x2] σ0 = some (r, σ') → va_P X vwCl (cW cI cC cZ a σ0) H → va_D A (cW cI cC cZ a σ0) → va_S A s.heap H locs → lv_has ls 3 [(0, .ref (a 10)), (1, .int x1), (2, .int x2)] → W p l e (headSpec w_R_countShared { frames := 1, cells := 0, slots := 0, locals := 21 }).room s m [.ref (a 10)].toArray below meth c H locs 0 0 (MQ below (gQi X vwCl (cW cI cC cZ a σ) sz (fun r' (_ : Unit) => r' = r) (fun _ => cW cI cC cZ a σ')) [.ref (a 10)].toArray s 0 0 (va_A (cW cI cC cZ a σ) sz)) (F0 m 21 ls [])) := by
    intro t
    induction t with
    | zero => exact ⟨fun  _ _ _ _ hf => (by have hf : (none : Option (Int32 × gS)) = some (r, σ') := hf; cases hf), fun _ _ _ _ _ _ hf => (by have hf : (none : Option (Int32 × gS)) = some (r, σ') := hf; cases hf), fun _ _ _ _ _ _ hf => (by have hf : (none : Option (Int32 × gS)) = some (r, σ') := hf; cases hf)⟩
    | succ t ih =>
      obtain ⟨ih0, ih1, ih2⟩ := ih
      refine ⟨?_, ?_, ?_⟩
      · intro  σ0 H locs ls hf hP hD hS hl
        have hf : B_R_countShared_0 (R_R_countShared t)  σ0 = some (r, σ') := hf
        unfold B_R_countShared_0 at hf
        refine lv_iconst (v := 0) hx hb d_R_countShared_0 (by decide) ?_
        refine lv_istore_n hx hb d_R_countShared_1 rfl hl (by decide) rfl (fun ls hl => ?_)
        refine lv_iconst (v := 0) hx hb d_R_countShared_2 (by decide) ?_
        refine lv_istore_n hx hb d_R_countShared_3 rfl hl (by decide) rfl (fun ls hl => ?_)
        exact ih1 (0) (0) σ0 _ _ _ hf hP hD hS (lv_sub hl [2, 1, 0] rfl)
      · intro x1 x2 σ0 H locs ls hf hP hD hS hl
        have hf : B_R_countShared_1 (R_R_countShared t) x1 x2 σ0 = some (r, σ') := hf
        unfold B_R_countShared_1 at hf
        refine lv_iload_n hx hb d_R_countShared_4 rfl (lv_at hl 2 rfl) ?_
        refine lv_bipush (v := 16) hx hb d_R_countShared_5 (by decide) ?_
        refine lv_icmp_ge (tgt := 27) hx hb d_R_countShared_7 rfl (fun c1 => ?_) (fun c1 => ?_)
        · skip
          rw [if_pos c1] at hf
          refine lv_iload_n hx hb d_R_countShared_27 rfl (lv_at hl 1 rfl) ?_
          obtain ⟨rfl, rfl⟩ := gRt_e hf
          exact g_zret hx hb hr hlocks rfl hAe hS () rfl hP d_R_countShared_28
        rw [if_neg c1] at hf
        refine lv_aload_n hx hb d_R_countShared_10 rfl (lv_at hl 0 rfl) ?_
        refine lv_iload_n hx hb d_R_countShared_11 rfl (lv_at hl 2 rfl) ?_
        obtain ⟨y2, σ3, e4, hf⟩ := gBd_e hf
        refine g_wi (va_runV ⟨hx, hb, hml, hown, hts⟩ (m_R_isShared e4) (cwV 1 hts (gG4 (fun _ h => List.mem_cons_of_mem _ h) tb_279 tb_280 tb_281 tb_273 tc_R_isShared) rfl rfl rfl (by decide +kernel) ⟨Nat.le_of_ble_eq_true rfl, Nat.le_of_ble_eq_true rfl⟩) (g_preVW (q0 := 10) hE hK hP hD hS hA gc_10 rfl) rfl rfl hl.1 rfl (lv_room (Nat.le_of_ble_eq_true rfl)) d_R_countShared_12 ⟨Nat.zero_le _, Nat.zero_le _⟩) hD hS hA (fun _ => cW_fst) (fun y2 _ H locs hu hP hD hS => ?_)
        subst hu
        refine lv_if_eq (tgt := 21) hx hb d_R_countShared_15 rfl (fun c5 => ?_) (fun c5 => ?_)
        · skip
          rw [if_pos c5] at hf
          exact ih2 (x1) (x2) σ3 _ _ _ hf hP hD hS (lv_sub hl [0, 1, 2] rfl)
        rw [if_neg c5] at hf
        refine lv_iinc (k := 1) (v := (x1 + 1)) hx hb d_R_countShared_18 hl rfl (by rw [show Int32.ofInt (1) = (1 : Int32) by decide]) (by decide) rfl (fun ls hl => ?_)
        exact ih2 ((x1 + 1)) (x2) σ3 _ _ _ hf hP hD hS (lv_sub hl [1, 0, 2] rfl)
      · intro x1 x2 σ0 H locs ls hf hP hD hS hl
        have hf : B_R_countShared_2 (R_R_countShared t) x1 x2 σ0 = some (r, σ') := hf
        unfold B_R_countShared_2 at hf
        refine lv_iinc (k := 2) (v := (x2 + 1)) hx hb d_R_countShared_21 hl rfl (by rw [show Int32.ofInt (1) = (1 : Int32) by decide]) (by decide) rfl (fun ls hl => ?_)
        refine lv_goto (tgt := 4) hx hb d_R_countShared_24 rfl ?_
        exact ih1 (x1) ((x2 + 1)) σ0 _ _ _ hf hP hD hS (lv_sub hl [1, 2, 0] rfl)
  exact (key gFuel).1  σ _ _ _ hf hP hD hS hl
