def f_W_giveId (σ : gS) (x1 : Int32) : Option (Int32 × gS) := gLd σ 18 16 x1 (fun y1 => if y1 = 0 then (gSt σ 19 16 (σ.1 4) x1 (fun σ5 => gPut σ5 4 ((σ5.1 4) + 1) (fun σ8 => gSt σ8 18 16 x1 (σ8.1 4) (fun σ10 => some (0, σ10))))) else (some (0, σ)))
set_option maxHeartbeats 4000000 in
set_option maxRecDepth 100000 in
theorem m_W_giveId {l : Launch} {X : va_G} {cI cC cZ : ClassId} {a : Nat → Nat} {σ σ' : gS} {r : Int32} {x1 : Int32} (hf : f_W_giveId σ x1 = some (r, σ')) {sz : Nat} : Met l y_W_giveId w_W_giveId { frames := 0, cells := 0, slots := 0, locals := 0 } (gPc X vwCl (gT cI cC cZ) (cW cI cC cZ a σ) sz [.ref (a 17), .int x1]) (gQv X vwCl (cW cI cC cZ a σ) sz (fun (_ : Unit) => True) (fun _ => cW cI cC cZ a σ')) 0 0 (va_A (cW cI cC cZ a σ) sz) := by
  refine g_met (cc := b_W_giveId) (maxL := 2) (ret := none) (by decide) rfl (Nat.le_of_ble_eq_true rfl) ?_
  intro p e s m below meth c A ls hx hb hr hml hown hts hlocks hnm hsz hAe hA hP hK hD hS hl hN
  have hown : s.vm.findClass R_W = some m.cls := hown
  have u_0 : ∀ w ∈ u_ws R_W T_W 6, w ∈ w_W_giveId := fun w h => List.mem_cons_of_mem _ (tu_W w h)
  have k_0 := hts (.fieldLink R_W 9 "GraphPages$Writer" "ids" "[I") (List.mem_cons_of_mem _ tb_249)
  have k_1 := hts (.fieldLink R_W 15 "GraphPages$Writer" "order" "[I") (List.mem_cons_of_mem _ tb_250)
  have k_2 := hts (.fieldLink R_W 42 "GraphPages$Writer" "count" "I") (List.mem_cons_of_mem _ tb_251)
  unfold f_W_giveId at hf
  refine lv_aload_n hx hb d_W_giveId_0 rfl (lv_at hl 0 rfl) ?_
  refine va_get (D := X) (ci := 7) (C := R_W) (T := T_W) (N := 6) hx hb hts u_0 hown hK hP 17 gc_17 rfl 3 (by decide) k_0 (fun _ h9 => h9) rfl d_W_giveId_1 ?_
  refine lv_iload_n hx hb d_W_giveId_4 rfl (lv_at hl 1 rfl) ?_
  obtain ⟨y1, h2, e3, hf⟩ := gLd_e hf
  refine va_iald hx hb hK hP 18 0 gc_18 rfl h2 d_W_giveId_5 ?_
  rw [← e3]
  refine lv_if_ne (tgt := 39) hx hb d_W_giveId_6 rfl (fun c4 => ?_) (fun c4 => ?_)
  · skip
    rw [if_neg c4] at hf
    obtain ⟨-, rfl⟩ := gRt_e hf
    exact g_vret hx hb hr hlocks hAe hS () trivial hP d_W_giveId_39
  rw [if_pos c4] at hf
  refine lv_aload_n hx hb d_W_giveId_9 rfl (lv_at hl 0 rfl) ?_
  refine va_get (D := X) (ci := 7) (C := R_W) (T := T_W) (N := 6) hx hb hts u_0 hown hK hP 17 gc_17 rfl 4 (by decide) k_1 (fun _ h9 => h9) rfl d_W_giveId_10 ?_
  refine lv_aload_n hx hb d_W_giveId_13 rfl (lv_at hl 0 rfl) ?_
  refine va_get (D := X) (ci := 7) (C := R_W) (T := T_W) (N := 6) hx hb hts u_0 hown hK hP 17 gc_17 rfl 5 (by decide) k_2 (fun _ h9 => h9) rfl d_W_giveId_14 ?_
  refine lv_iload_n hx hb d_W_giveId_17 rfl (lv_at hl 1 rfl) ?_
  obtain ⟨σ5, h6, e7, hf⟩ := gSt_e hf
  refine va_iast hx hb hK hP hD hS 19 0 gc_19 rfl h6 d_W_giveId_18 (fun H locs hP hD hS => ?_)
  rw [sc_19, ← e7] at hP hD
  refine lv_aload_n hx hb d_W_giveId_19 rfl (lv_at hl 0 rfl) ?_
  refine lv_dup hx hb d_W_giveId_20 rfl ?_
  refine va_get (D := X) (ci := 7) (C := R_W) (T := T_W) (N := 6) hx hb hts u_0 hown hK hP 17 gc_17 rfl 5 (by decide) k_2 (fun _ h9 => h9) rfl d_W_giveId_21 ?_
  refine lv_iconst (v := 1) hx hb d_W_giveId_24 (by decide) ?_
  refine lv_iadd hx hb d_W_giveId_25 ?_
  obtain ⟨σ8, e9, hf⟩ := gPut_e hf
  refine va_put (D := X) (ci := 7) (ty := .int) (C := R_W) (T := T_W) (N := 6) hx hb hts u_0 t_W t_W_ok n_W hown hK hP hD hS 17 gc_17 rfl 5 (by decide) k_2 (fun _ h9 => h9) rfl (by decide +kernel) rfl rfl (Nat.le_of_ble_eq_true rfl) d_W_giveId_26 (fun H locs hP hD hS => ?_)
  rw [sc_17_5, ← e9] at hP hD
  refine lv_aload_n hx hb d_W_giveId_29 rfl (lv_at hl 0 rfl) ?_
  refine va_get (D := X) (ci := 7) (C := R_W) (T := T_W) (N := 6) hx hb hts u_0 hown hK hP 17 gc_17 rfl 3 (by decide) k_0 (fun _ h9 => h9) rfl d_W_giveId_30 ?_
  refine lv_iload_n hx hb d_W_giveId_33 rfl (lv_at hl 1 rfl) ?_
  refine lv_aload_n hx hb d_W_giveId_34 rfl (lv_at hl 0 rfl) ?_
  refine va_get (D := X) (ci := 7) (C := R_W) (T := T_W) (N := 6) hx hb hts u_0 hown hK hP 17 gc_17 rfl 5 (by decide) k_2 (fun _ h9 => h9) rfl d_W_giveId_35 ?_
  obtain ⟨σ10, h11, e12, hf⟩ := gSt_e hf
  refine va_iast hx hb hK hP hD hS 18 0 gc_18 rfl h11 d_W_giveId_38 (fun H locs hP hD hS => ?_)
  rw [sc_18, ← e12] at hP hD
  obtain ⟨-, rfl⟩ := gRt_e hf
  exact g_vret hx hb hr hlocks hAe hS () trivial hP d_W_giveId_39

def B_W_writeNumber_0 (rec : Nat → List Int32 → List Int64 → gS → Option (Int32 × gS)) (x1 : Int32) (σ0 : gS) : Option (Int32 × gS) := if 0 ≤ (lg_cmp x1.toInt64 0) then (rec 1 [] [x1.toInt64] σ0) else (gBd (f_P_append σ0 45) (fun y2 σ3 => rec 1 [] [(-x1.toInt64)] σ3))
def B_W_writeNumber_1 (rec : Nat → List Int32 → List Int64 → gS → Option (Int32 × gS)) (x2 : Int64) (σ0 : gS) : Option (Int32 × gS) := rec 2 [1] [x2, 1] σ0
def B_W_writeNumber_2 (rec : Nat → List Int32 → List Int64 → gS → Option (Int32 × gS)) (x6 : Int32) (x2 : Int64) (x4 : Int64) (σ0 : gS) : Option (Int32 × gS) := if 10 ≤ x6 then (rec 3 [] [x2, x4] σ0) else (if 0 < (lg_cmp x4 (x2 / 10)) then (rec 3 [] [x2, x4] σ0) else (rec 2 [(x6 + 1)] [x2, (x4 * 10)] σ0))
def B_W_writeNumber_3 (rec : Nat → List Int32 → List Int64 → gS → Option (Int32 × gS)) (x2 : Int64) (x4 : Int64) (σ0 : gS) : Option (Int32 × gS) := if (lg_cmp x4 0) ≤ 0 then (some (0, σ0)) else (gNel (x4) (gBd (f_P_append σ0 ((48 + ((x2 / x4) - (x2 / x4) / 10 * 10).toInt32).toUInt32 % 65536).toInt32) (fun y9 σ10 => rec 3 [] [x2, (x4 / 10)] σ10)))
def S_W_writeNumber (rec : Nat → List Int32 → List Int64 → gS → Option (Int32 × gS)) (k : Nat) (l : List Int32) (w : List Int64) (σ0 : gS) : Option (Int32 × gS) := match k, l, w with
  | 0, [x1], [] => B_W_writeNumber_0 rec x1 σ0
  | 1, [], [x2] => B_W_writeNumber_1 rec x2 σ0
  | 2, [x6], [x2, x4] => B_W_writeNumber_2 rec x6 x2 x4 σ0
  | 3, [], [x2, x4] => B_W_writeNumber_3 rec x2 x4 σ0
  | _, _, _ => none
def R_W_writeNumber : Nat → Nat → List Int32 → List Int64 → gS → Option (Int32 × gS)
  | 0 => fun _ _ _ _ => none
  | t + 1 => fun k l w σ0 => S_W_writeNumber (R_W_writeNumber t) k l w σ0
def f_W_writeNumber (σ : gS) (x1 : Int32) : Option (Int32 × gS) := R_W_writeNumber gFuel 0 [x1] [] σ
set_option maxHeartbeats 4000000 in
set_option maxRecDepth 100000 in
theorem m_W_writeNumber {l : Launch} {X : va_G} {cI cC cZ : ClassId} {a : Nat → Nat} {σ σ' : gS} {r : Int32} {q1 : Int32} (hf : f_W_writeNumber σ q1 = some (r, σ')) {sz : Nat} : Met l y_W_writeNumber w_W_writeNumber { frames := 1, cells := 0, slots := 0, locals := 21 } (gPc X vwCl (gT cI cC cZ) (cW cI cC cZ a σ) sz [.ref (a 17), .int q1]) (gQv X vwCl (cW cI cC cZ a σ) sz (fun (_ : Unit) => True) (fun _ => cW cI cC cZ a σ')) 0 0 (va_A (cW cI cC cZ a σ) sz) := by
  refine g_met (cc := b_W_writeNumber) (maxL := 7) (ret := none) (by decide) rfl (Nat.le_of_ble_eq_true rfl) ?_
  intro p e s m below meth c A ls hx hb hr hml hown hts hlocks hnm hsz hAe hA hP hK hD hS hl hN
  have hown : s.vm.findClass R_W = some m.cls := hown
  have u_0 : ∀ w ∈ u_ws R_W T_W 6, w ∈ w_W_writeNumber := fun w h => List.mem_cons_of_mem _ (tu_W w h)
  have k_0 := hts (.fieldLink R_W 26 "GraphPages$Writer" "page" "LGraphPages$Page;") (List.mem_cons_of_mem _ tb_255)
  have k_1 := hts (.constantLong R_W 155 10) (List.mem_cons_of_mem _ tb_256)
  unfold f_W_writeNumber at hf
  have key : ∀ t : Nat, (∀ (x1 : Int32) (σ0 : gS) (H : Heap) (locs : List Loc) (ls : Array Slot), R_W_writeNumber t 0 [x1] [] σ0 = some (r, σ') → va_P X vwCl (cW cI cC cZ a σ0) H → va_D A (cW cI cC cZ a σ0) → va_S A s.heap H locs → lv_has ls 7 [(0, .ref (a 17)), (1, .int x1)] → W p l e (headSpec w_W_writeNumber { frames := 1, cells := 0, slots := 0, locals := 21 }).room s m [.ref (a 17), .int q1].toArray below meth c H locs 0 0 (MQ below (gQv X vwCl (cW cI cC cZ a σ) sz (fun (_ : Unit) => True) (fun _ => cW cI cC cZ a σ')) [.ref (a 17), .int q1].toArray s 0 0 (va_A (cW cI cC cZ a σ) sz)) (F0 m 0 ls [])) ∧ (∀ (x2 : Int64) (σ0 : gS) (H : Heap) (locs : List Loc) (ls : Array Slot), R_W_writeNumber t 1 [] [x2] σ0 = some (r, σ') → va_P X vwCl (cW cI cC cZ a σ0) H → va_D A (cW cI cC cZ a σ0) → va_S A s.heap H locs → lv_has ls 7 [(0, .ref (a 17)), (2, .long x2)] → W p l e (headSpec w_W_writeNumber { frames := 1, cells := 0, slots := 0, locals := 21 }).room s m [.ref (a 17), .int q1].toArray below meth c H locs 0 0 (MQ below (gQv X vwCl (cW cI cC cZ a σ) sz (fun (_ : Unit) => True) (fun _ => cW cI cC cZ a σ')) [.ref (a 17), .int q1].toArray s 0 0 (va_A (cW cI cC cZ a σ) sz)) (F0 m 22 ls [])) ∧ (∀ (x6 : Int32) (x2 : Int64) (x4 : Int64) (σ0 : gS) (H : Heap) (locs : List Loc) (ls : Array Slot), R_W_writeNumber t 2 [x6] [x2, x4] σ0 = some (r, σ') → va_P X vwCl (cW cI cC cZ a σ0) H → va_D A (cW cI cC cZ a σ0) → va_S A s.heap H locs → lv_has ls 7 [(0, .ref (a 17)), (2, .long x2), (4, .long x4), (6, .int x6)] → W p l e (headSpec w_W_writeNumber { frames := 1, cells := 0, slots := 0, locals := 21 }).room s m [.ref (a 17), .int q1].toArray below meth c H locs 0 0 (MQ below (gQv X vwCl (cW cI cC cZ a σ) sz (fun (_ : Unit) => True) (fun _ => cW cI cC cZ a σ')) [.ref (a 17), .int q1].toArray s 0 0 (va_A (cW cI cC cZ a σ) sz)) (F0 m 28 ls [])) ∧ (∀ (x2 : Int64) (x4 : Int64) (σ0 : gS) (H : Heap) (locs : List Loc) (ls : Array Slot), R_W_writeNumber t 3 [] [x2, x4] σ0 = some (r, σ') → va_P X vwCl (cW cI cC cZ a σ0) H → va_D A (cW cI cC cZ a σ0) → va_S A s.heap H locs → lv_has ls 7 [(0, .ref (a 17)), (2, .long x2), (4, .long x4)] → W p l e (headSpec w_W_writeNumber { frames := 1, cells := 0, slots := 0, locals := 21 }).room s m [.ref (a 17), .int q1].toArray below meth c H locs 0 0 (MQ below (gQv X vwCl (cW cI cC cZ a σ) sz (fun (_ : Unit) => True) (fun _ => cW cI cC cZ a σ')) [.ref (a 17), .int q1].toArray s 0 0 (va_A (cW cI cC cZ a σ) sz)) (F0 m 60 ls [])) := by
    intro t
    induction t with
    | zero => exact ⟨fun _ _ _ _ _ hf => (by have hf : (none : Option (Int32 × gS)) = some (r, σ') := hf; cases hf), fun _ _ _ _ _ hf => (by have hf : (none : Option (Int32 × gS)) = some (r, σ') := hf; cases hf), fun _ _ _ _ _ _ _ hf => (by have hf : (none : Option (Int32 × gS)) = some (r, σ') := hf; cases hf), fun _ _ _ _ _ _ hf => (by have hf : (none : Option (Int32 × gS)) = some (r, σ') := hf; cases hf)⟩
    | succ t ih =>
      obtain ⟨ih0, ih1, ih2, ih3⟩ := ih
      refine ⟨?_, ?_, ?_, ?_⟩
      · intro x1 σ0 H locs ls hf hP hD hS hl
        have hf : B_W_writeNumber_0 (R_W_writeNumber t) x1 σ0 = some (r, σ') := hf
        unfold B_W_writeNumber_0 at hf
        refine lv_iload_n hx hb d_W_writeNumber_0 rfl (lv_at hl 1 rfl) ?_
        refine lv_i2l hx hb d_W_writeNumber_1 rfl ?_
        refine lv_lstore_n hx hb d_W_writeNumber_2 rfl hl (by decide) rfl (fun ls hl => ?_)
        refine lv_lload_n hx hb d_W_writeNumber_3 rfl (lv_at hl 0 rfl) ?_
        refine lv_lconst (v := 0) hx hb d_W_writeNumber_4 (by decide) ?_
        refine W.lcmp hx hb d_W_writeNumber_5 ?_
        refine lv_if_ge (tgt := 22) hx hb d_W_writeNumber_6 rfl (fun c1 => ?_) (fun c1 => ?_)
        · skip
          rw [if_pos c1] at hf
          exact ih1 (x1.toInt64) σ0 _ _ _ hf hP hD hS (lv_sub hl [1, 0] rfl)
        rw [if_neg c1] at hf
        refine lv_aload_n hx hb d_W_writeNumber_9 rfl (lv_at hl 1 rfl) ?_
        refine va_get (D := X) (ci := 7) (C := R_W) (T := T_W) (N := 6) hx hb hts u_0 hown hK hP 17 gc_17 rfl 2 (by decide) k_0 (fun _ h9 => h9) rfl d_W_writeNumber_10 ?_
        refine lv_bipush (v := 45) hx hb d_W_writeNumber_13 (by decide) ?_
        obtain ⟨y2, σ3, e4, hf⟩ := gBd_e hf
        refine g_wi (va_runV ⟨hx, hb, hml, hown, hts⟩ (m_P_append e4) (cwV 1 hts (gG4 (fun _ h => List.mem_cons_of_mem _ h) tb_252 tb_253 tb_254 tb_19 tc_P_append) rfl rfl rfl (by decide +kernel) ⟨Nat.le_of_ble_eq_true rfl, Nat.le_of_ble_eq_true rfl⟩) (g_preVW (q0 := 7) hN hK hP hD gc_7 rfl) rfl rfl hl.1 rfl (lv_room (Nat.le_of_ble_eq_true rfl)) d_W_writeNumber_15 ⟨Nat.zero_le _, Nat.zero_le _⟩) hD hS hA (fun _ => cW_fst) (fun y2 _ H locs hu hP hD hS => ?_)
        subst hu
        refine lv_pop hx hb d_W_writeNumber_18 rfl ?_
        refine lv_lload_n hx hb d_W_writeNumber_19 rfl (lv_at hl 0 rfl) ?_
        refine lv_lneg hx hb d_W_writeNumber_20 ?_
        refine lv_lstore_n hx hb d_W_writeNumber_21 rfl hl (by decide) rfl (fun ls hl => ?_)
        exact ih1 ((-x1.toInt64)) σ3 _ _ _ hf hP hD hS (lv_sub hl [1, 0] rfl)
      · intro x2 σ0 H locs ls hf hP hD hS hl
        have hf : B_W_writeNumber_1 (R_W_writeNumber t) x2 σ0 = some (r, σ') := hf
        unfold B_W_writeNumber_1 at hf
        refine lv_lconst (v := 1) hx hb d_W_writeNumber_22 (by decide) ?_
        refine lv_lstore hx hb d_W_writeNumber_23 hl (by decide) rfl (fun ls hl => ?_)
        refine lv_iconst (v := 1) hx hb d_W_writeNumber_25 (by decide) ?_
        refine lv_istore hx hb d_W_writeNumber_26 hl (by decide) rfl (fun ls hl => ?_)
        exact ih2 (1) (x2) (1) σ0 _ _ _ hf hP hD hS (lv_sub hl [2, 3, 1, 0] rfl)
      · intro x6 x2 x4 σ0 H locs ls hf hP hD hS hl
        have hf : B_W_writeNumber_2 (R_W_writeNumber t) x6 x2 x4 σ0 = some (r, σ') := hf
        unfold B_W_writeNumber_2 at hf
        refine lv_iload hx hb d_W_writeNumber_28 (lv_at hl 3 rfl) ?_
        refine lv_bipush (v := 10) hx hb d_W_writeNumber_30 (by decide) ?_
        refine lv_icmp_ge (tgt := 60) hx hb d_W_writeNumber_32 rfl (fun c5 => ?_) (fun c5 => ?_)
        · skip
          rw [if_pos c5] at hf
          exact ih3 (x2) (x4) σ0 _ _ _ hf hP hD hS (lv_sub hl [0, 1, 2] rfl)
        rw [if_neg c5] at hf
        refine lv_lload hx hb d_W_writeNumber_35 (lv_at hl 2 rfl) ?_
        refine lv_lload_n hx hb d_W_writeNumber_37 rfl (lv_at hl 1 rfl) ?_
        refine lv_ldc2 (v := 10) hx hb hown k_1 d_W_writeNumber_38 ?_
        refine lv_ldiv hx hb d_W_writeNumber_41 (by decide) ?_
        refine W.lcmp hx hb d_W_writeNumber_42 ?_
        refine lv_if_gt (tgt := 60) hx hb d_W_writeNumber_43 rfl (fun c6 => ?_) (fun c6 => ?_)
        · skip
          rw [if_pos c6] at hf
          exact ih3 (x2) (x4) σ0 _ _ _ hf hP hD hS (lv_sub hl [0, 1, 2] rfl)
        rw [if_neg c6] at hf
        refine lv_lload hx hb d_W_writeNumber_46 (lv_at hl 2 rfl) ?_
        refine lv_ldc2 (v := 10) hx hb hown k_1 d_W_writeNumber_48 ?_
        refine lv_lmul hx hb d_W_writeNumber_51 ?_
        refine lv_lstore hx hb d_W_writeNumber_52 hl (by decide) rfl (fun ls hl => ?_)
        refine lv_iinc (k := 3) (v := (x6 + 1)) hx hb d_W_writeNumber_54 hl rfl (by rw [show Int32.ofInt (1) = (1 : Int32) by decide]) (by decide) rfl (fun ls hl => ?_)
        refine lv_goto (tgt := 28) hx hb d_W_writeNumber_57 rfl ?_
        exact ih2 ((x6 + 1)) (x2) ((x4 * 10)) σ0 _ _ _ hf hP hD hS (lv_sub hl [2, 3, 1, 0] rfl)
      · intro x2 x4 σ0 H locs ls hf hP hD hS hl
        have hf : B_W_writeNumber_3 (R_W_writeNumber t) x2 x4 σ0 = some (r, σ') := hf
        unfold B_W_writeNumber_3 at hf
        refine lv_lload hx hb d_W_writeNumber_60 (lv_at hl 2 rfl) ?_
        refine lv_lconst (v := 0) hx hb d_W_writeNumber_62 (by decide) ?_
        refine W.lcmp hx hb d_W_writeNumber_63 ?_
        refine lv_if_le (tgt := 99) hx hb d_W_writeNumber_64 rfl (fun c7 => ?_) (fun c7 => ?_)
        · skip
          rw [if_pos c7] at hf
          obtain ⟨-, rfl⟩ := gRt_e hf
          exact g_vret hx hb hr hlocks hAe hS () trivial hP d_W_writeNumber_99
        rw [if_neg c7] at hf
        refine lv_aload_n hx hb d_W_writeNumber_67 rfl (lv_at hl 0 rfl) ?_
        refine va_get (D := X) (ci := 7) (C := R_W) (T := T_W) (N := 6) hx hb hts u_0 hown hK hP 17 gc_17 rfl 2 (by decide) k_0 (fun _ h9 => h9) rfl d_W_writeNumber_68 ?_
        refine lv_bipush (v := 48) hx hb d_W_writeNumber_71 (by decide) ?_
        refine lv_lload_n hx hb d_W_writeNumber_73 rfl (lv_at hl 1 rfl) ?_
        refine lv_lload hx hb d_W_writeNumber_74 (lv_at hl 2 rfl) ?_
        obtain ⟨hz8, hf⟩ := gNel_e hf
        refine lv_ldiv hx hb d_W_writeNumber_76 hz8 ?_
        refine lv_ldc2 (v := 10) hx hb hown k_1 d_W_writeNumber_77 ?_
        refine lv_lrem hx hb d_W_writeNumber_80 (by decide) ?_
        refine lv_l2i hx hb d_W_writeNumber_81 rfl ?_
        refine lv_iadd hx hb d_W_writeNumber_82 ?_
        refine lv_i2c hx hb d_W_writeNumber_83 rfl ?_
        obtain ⟨y9, σ10, e11, hf⟩ := gBd_e hf
        refine g_wi (va_runV ⟨hx, hb, hml, hown, hts⟩ (m_P_append e11) (cwV 1 hts (gG4 (fun _ h => List.mem_cons_of_mem _ h) tb_252 tb_253 tb_254 tb_19 tc_P_append) rfl rfl rfl (by decide +kernel) ⟨Nat.le_of_ble_eq_true rfl, Nat.le_of_ble_eq_true rfl⟩) (g_preVW (q0 := 7) hN hK hP hD gc_7 rfl) rfl rfl hl.1 rfl (lv_room (Nat.le_of_ble_eq_true rfl)) d_W_writeNumber_84 ⟨Nat.zero_le _, Nat.zero_le _⟩) hD hS hA (fun _ => cW_fst) (fun y9 _ H locs hu hP hD hS => ?_)
        subst hu
        refine lv_pop hx hb d_W_writeNumber_87 rfl ?_
        refine lv_lload hx hb d_W_writeNumber_88 (lv_at hl 2 rfl) ?_
        refine lv_ldc2 (v := 10) hx hb hown k_1 d_W_writeNumber_90 ?_
        refine lv_ldiv hx hb d_W_writeNumber_93 (by decide) ?_
        refine lv_lstore hx hb d_W_writeNumber_94 hl (by decide) rfl (fun ls hl => ?_)
        refine lv_goto (tgt := 60) hx hb d_W_writeNumber_96 rfl ?_
        exact ih3 (x2) ((x4 / 10)) σ10 _ _ _ hf hP hD hS (lv_sub hl [1, 2, 0] rfl)
  exact (key gFuel).1 q1 σ _ _ _ hf hP hD hS hl

def B_W_firstWrittenSlot_0 (rec : Nat → List Int32 → gS → Option (Int32 × gS)) (x1 : Int32) (σ0 : gS) : Option (Int32 × gS) := rec 1 [x1, 0] σ0
def B_W_firstWrittenSlot_1 (rec : Nat → List Int32 → gS → Option (Int32 × gS)) (x1 : Int32) (x2 : Int32) (σ0 : gS) : Option (Int32 × gS) := gLd σ0 2 16 x1 (fun y1 => if y1 = 1 then (gLd σ0 3 16 x1 (fun y5 => if y5 ≤ x2 then (some (0, σ0)) else (gBd (f_G_contentOf σ0 x1 x2) (fun y9 σ10 => if y9 = 0 then (rec 1 [x1, (x2 + 1)] σ10) else (some (x2, σ10)))))) else (some (0, σ0)))
def S_W_firstWrittenSlot (rec : Nat → List Int32 → gS → Option (Int32 × gS)) (k : Nat) (l : List Int32) (σ0 : gS) : Option (Int32 × gS) := match k, l with
  | 0, [x1] => B_W_firstWrittenSlot_0 rec x1 σ0
  | 1, [x1, x2] => B_W_firstWrittenSlot_1 rec x1 x2 σ0
  | _, _ => none
def R_W_firstWrittenSlot : Nat → Nat → List Int32 → gS → Option (Int32 × gS)
  | 0 => fun _ _ _ => none
  | t + 1 => fun k l σ0 => S_W_firstWrittenSlot (R_W_firstWrittenSlot t) k l σ0
def f_W_firstWrittenSlot (σ : gS) (x1 : Int32) : Option (Int32 × gS) := R_W_firstWrittenSlot gFuel 0 [x1] σ
set_option maxHeartbeats 4000000 in
set_option maxRecDepth 100000 in
theorem m_W_firstWrittenSlot {l : Launch} {X : va_G} {cI cC cZ : ClassId} {a : Nat → Nat} {σ σ' : gS} {r : Int32} {q1 : Int32} (hf : f_W_firstWrittenSlot σ q1 = some (r, σ')) {sz : Nat} : Met l y_W_firstWrittenSlot w_W_firstWrittenSlot { frames := 1, cells := 0, slots := 0, locals := 22 } (gPc X vwCl (gT cI cC cZ) (cW cI cC cZ a σ) sz [.ref (a 17), .int q1]) (gQi X vwCl (cW cI cC cZ a σ) sz (fun r' (_ : Unit) => r' = r) (fun _ => cW cI cC cZ a σ')) 0 0 (va_A (cW cI cC cZ a σ) sz) := by
  refine g_met (cc := b_W_firstWrittenSlot) (maxL := 3) (ret := (some .int)) (by decide) rfl (Nat.le_of_ble_eq_true rfl) ?_
  intro p e s m below meth c A ls hx hb hr hml hown hts hlocks hnm hsz hAe hA hP hK hD hS hl hN
  have hown : s.vm.findClass R_W = some m.cls := hown
  have u_0 : ∀ w ∈ u_ws R_W T_W 6, w ∈ w_W_firstWrittenSlot := fun w h => List.mem_cons_of_mem _ (tu_W w h)
  have u_1 : ∀ w ∈ u_ws R_G T_G 6, w ∈ w_W_firstWrittenSlot := fun w h => List.mem_cons_of_mem _ (tu_G w h)
  have k_0 := hts (.fieldLink R_W 18 "GraphPages$Writer" "graph" "LGraphPages$Graph;") (List.mem_cons_of_mem _ tb_258)
  have k_1 := hts (.fieldLink R_W 83 "GraphPages$Graph" "kinds" "[I") (List.mem_cons_of_mem _ tb_259)
  have k_2 := hts (.fieldLink R_W 102 "GraphPages$Graph" "sizes" "[I") (List.mem_cons_of_mem _ tb_260)
  unfold f_W_firstWrittenSlot at hf
  have key : ∀ t : Nat, (∀ (x1 : Int32) (σ0 : gS) (H : Heap) (locs : List Loc) (ls : Array Slot), R_W_firstWrittenSlot t 0 [x1] σ0 = some (r, σ') → va_P X vwCl (cW cI cC cZ a σ0) H → va_D A (cW cI cC cZ a σ0) → va_S A s.heap H locs → lv_has ls 3 [(0, .ref (a 17)), (1, .int x1)] → W p l e (headSpec w_W_firstWrittenSlot { frames := 1, cells := 0, slots := 0, locals := 22 }).room s m [.ref (a 17), .int q1].toArray below meth c H locs 0 0 (MQ below (gQi X vwCl (cW cI cC cZ a σ) sz (fun r' (_ : Unit) => r' = r) (fun _ => cW cI cC cZ a σ')) [.ref (a 17), .int q1].toArray s 0 0 (va_A (cW cI cC cZ a σ) sz)) (F0 m 0 ls [])) ∧ (∀ (x1 : Int32) (x2 : Int32) (σ0 : gS) (H : Heap) (locs : List Loc) (ls : Array Slot), R_W_firstWrittenSlot t 1 [x1, x2] σ0 = some (r, σ') → va_P X vwCl (cW cI cC cZ a σ0) H → va_D A (cW cI cC cZ a σ0) → va_S A s.heap H locs → lv_has ls 3 [(0, .ref (a 17)), (1, .int x1), (2, .int x2)] → W p l e (headSpec w_W_firstWrittenSlot { frames := 1, cells := 0, slots := 0, locals := 22 }).room s m [.ref (a 17), .int q1].toArray below meth c H locs 0 0 (MQ below (gQi X vwCl (cW cI cC cZ a σ) sz (fun r' (_ : Unit) => r' = r) (fun _ => cW cI cC cZ a σ')) [.ref (a 17), .int q1].toArray s 0 0 (va_A (cW cI cC cZ a σ) sz)) (F0 m 2 ls [])) := by
    intro t
    induction t with
    | zero => exact ⟨fun _ _ _ _ _ hf => (by have hf : (none : Option (Int32 × gS)) = some (r, σ') := hf; cases hf), fun _ _ _ _ _ _ hf => (by have hf : (none : Option (Int32 × gS)) = some (r, σ') := hf; cases hf)⟩
    | succ t ih =>
      obtain ⟨ih0, ih1⟩ := ih
      refine ⟨?_, ?_⟩
      · intro x1 σ0 H locs ls hf hP hD hS hl
        have hf : B_W_firstWrittenSlot_0 (R_W_firstWrittenSlot t) x1 σ0 = some (r, σ') := hf
        unfold B_W_firstWrittenSlot_0 at hf
        refine lv_iconst (v := 0) hx hb d_W_firstWrittenSlot_0 (by decide) ?_
        refine lv_istore_n hx hb d_W_firstWrittenSlot_1 rfl hl (by decide) rfl (fun ls hl => ?_)
        exact ih1 (x1) (0) σ0 _ _ _ hf hP hD hS (lv_sub hl [1, 2, 0] rfl)
      · intro x1 x2 σ0 H locs ls hf hP hD hS hl
        have hf : B_W_firstWrittenSlot_1 (R_W_firstWrittenSlot t) x1 x2 σ0 = some (r, σ') := hf
        unfold B_W_firstWrittenSlot_1 at hf
        refine lv_aload_n hx hb d_W_firstWrittenSlot_2 rfl (lv_at hl 0 rfl) ?_
        refine va_get (D := X) (ci := 7) (C := R_W) (T := T_W) (N := 6) hx hb hts u_0 hown hK hP 17 gc_17 rfl 0 (by decide) k_0 (fun _ h9 => h9) rfl d_W_firstWrittenSlot_3 ?_
        refine va_get (D := X) (ci := 2) (C := R_G) (T := T_G) (N := 6) hx hb hts u_1 hown hK hP 1 gc_1 rfl 1 (by decide) k_1 (fun _ h9 => h9) rfl d_W_firstWrittenSlot_6 ?_
        refine lv_iload_n hx hb d_W_firstWrittenSlot_9 rfl (lv_at hl 1 rfl) ?_
        obtain ⟨y1, h2, e3, hf⟩ := gLd_e hf
        refine va_iald hx hb hK hP 2 0 gc_2 rfl h2 d_W_firstWrittenSlot_10 ?_
        rw [← e3]
        refine lv_iconst (v := 1) hx hb d_W_firstWrittenSlot_11 (by decide) ?_
        refine lv_icmp_ne (tgt := 48) hx hb d_W_firstWrittenSlot_12 rfl (fun c4 => ?_) (fun c4 => ?_)
        · skip
          rw [if_neg c4] at hf
          refine lv_iconst (v := 0) hx hb d_W_firstWrittenSlot_48 (by decide) ?_
          obtain ⟨rfl, rfl⟩ := gRt_e hf
          exact g_zret hx hb hr hlocks rfl hAe hS () rfl hP d_W_firstWrittenSlot_49
        rw [if_pos c4] at hf
        refine lv_iload_n hx hb d_W_firstWrittenSlot_15 rfl (lv_at hl 2 rfl) ?_
        refine lv_aload_n hx hb d_W_firstWrittenSlot_16 rfl (lv_at hl 0 rfl) ?_
        refine va_get (D := X) (ci := 7) (C := R_W) (T := T_W) (N := 6) hx hb hts u_0 hown hK hP 17 gc_17 rfl 0 (by decide) k_0 (fun _ h9 => h9) rfl d_W_firstWrittenSlot_17 ?_
        refine va_get (D := X) (ci := 2) (C := R_G) (T := T_G) (N := 6) hx hb hts u_1 hown hK hP 1 gc_1 rfl 2 (by decide) k_2 (fun _ h9 => h9) rfl d_W_firstWrittenSlot_20 ?_
        refine lv_iload_n hx hb d_W_firstWrittenSlot_23 rfl (lv_at hl 1 rfl) ?_
        obtain ⟨y5, h6, e7, hf⟩ := gLd_e hf
        refine va_iald hx hb hK hP 3 0 gc_3 rfl h6 d_W_firstWrittenSlot_24 ?_
        rw [← e7]
        refine lv_icmp_ge (tgt := 48) hx hb d_W_firstWrittenSlot_25 rfl (fun c8 => ?_) (fun c8 => ?_)
        · skip
          rw [if_pos c8] at hf
          refine lv_iconst (v := 0) hx hb d_W_firstWrittenSlot_48 (by decide) ?_
          obtain ⟨rfl, rfl⟩ := gRt_e hf
          exact g_zret hx hb hr hlocks rfl hAe hS () rfl hP d_W_firstWrittenSlot_49
        rw [if_neg c8] at hf
        refine lv_aload_n hx hb d_W_firstWrittenSlot_28 rfl (lv_at hl 0 rfl) ?_
        refine va_get (D := X) (ci := 7) (C := R_W) (T := T_W) (N := 6) hx hb hts u_0 hown hK hP 17 gc_17 rfl 0 (by decide) k_0 (fun _ h9 => h9) rfl d_W_firstWrittenSlot_29 ?_
        refine lv_iload_n hx hb d_W_firstWrittenSlot_32 rfl (lv_at hl 1 rfl) ?_
        refine lv_iload_n hx hb d_W_firstWrittenSlot_33 rfl (lv_at hl 2 rfl) ?_
        obtain ⟨y9, σ10, e11, hf⟩ := gBd_e hf
        refine g_wi (va_runV ⟨hx, hb, hml, hown, hts⟩ (m_G_contentOf e11) (cwV 2 hts (gG4 (fun _ h => List.mem_cons_of_mem _ h) tb_257 tb_203 tb_204 tb_83 tc_G_contentOf) rfl rfl rfl (by decide +kernel) ⟨Nat.le_of_ble_eq_true rfl, Nat.le_of_ble_eq_true rfl⟩) (g_preVW (q0 := 1) hN hK hP hD gc_1 rfl) rfl rfl hl.1 rfl (lv_room (Nat.le_of_ble_eq_true rfl)) d_W_firstWrittenSlot_34 ⟨Nat.zero_le _, Nat.zero_le _⟩) hD hS hA (fun _ => cW_fst) (fun y9 _ H locs hu hP hD hS => ?_)
        subst hu
        refine lv_if_eq (tgt := 42) hx hb d_W_firstWrittenSlot_37 rfl (fun c12 => ?_) (fun c12 => ?_)
        · skip
          rw [if_pos c12] at hf
          refine lv_iinc (k := 2) (v := (x2 + 1)) hx hb d_W_firstWrittenSlot_42 hl rfl (by rw [show Int32.ofInt (1) = (1 : Int32) by decide]) (by decide) rfl (fun ls hl => ?_)
          refine lv_goto (tgt := 2) hx hb d_W_firstWrittenSlot_45 rfl ?_
          exact ih1 (x1) ((x2 + 1)) σ10 _ _ _ hf hP hD hS (lv_sub hl [1, 2, 0] rfl)
        rw [if_neg c12] at hf
        refine lv_iload_n hx hb d_W_firstWrittenSlot_40 rfl (lv_at hl 2 rfl) ?_
        obtain ⟨rfl, rfl⟩ := gRt_e hf
        exact g_zret hx hb hr hlocks rfl hAe hS () rfl hP d_W_firstWrittenSlot_41
  exact (key gFuel).1 q1 σ _ _ _ hf hP hD hS hl

def B_W_writeCharacters_0 (rec : Nat → List Int32 → gS → Option (Int32 × gS)) (x1 : Int32) (σ0 : gS) : Option (Int32 × gS) := rec 1 [x1, 0] σ0
def B_W_writeCharacters_1 (rec : Nat → List Int32 → gS → Option (Int32 × gS)) (x1 : Int32) (x2 : Int32) (σ0 : gS) : Option (Int32 × gS) := gLd σ0 3 16 x1 (fun y1 => if y1 ≤ x2 then (some (0, σ0)) else (gBd (f_G_characterOf σ0 x1 x2) (fun y5 σ6 => if y5 = 60 then (none) else (if y5 = 62 then (none) else (if y5 = 38 then (none) else (gBd (f_P_append σ6 y5) (fun y11 σ12 => rec 2 [x1, x2] σ12)))))))
def B_W_writeCharacters_2 (rec : Nat → List Int32 → gS → Option (Int32 × gS)) (x1 : Int32) (x2 : Int32) (σ0 : gS) : Option (Int32 × gS) := rec 1 [x1, (x2 + 1)] σ0
def S_W_writeCharacters (rec : Nat → List Int32 → gS → Option (Int32 × gS)) (k : Nat) (l : List Int32) (σ0 : gS) : Option (Int32 × gS) := match k, l with
  | 0, [x1] => B_W_writeCharacters_0 rec x1 σ0
  | 1, [x1, x2] => B_W_writeCharacters_1 rec x1 x2 σ0
  | 2, [x1, x2] => B_W_writeCharacters_2 rec x1 x2 σ0
  | _, _ => none
def R_W_writeCharacters : Nat → Nat → List Int32 → gS → Option (Int32 × gS)
  | 0 => fun _ _ _ => none
  | t + 1 => fun k l σ0 => S_W_writeCharacters (R_W_writeCharacters t) k l σ0
def f_W_writeCharacters (σ : gS) (x1 : Int32) : Option (Int32 × gS) := R_W_writeCharacters gFuel 0 [x1] σ
set_option maxHeartbeats 4000000 in
set_option maxRecDepth 100000 in
theorem m_W_writeCharacters {l : Launch} {X : va_G} {cI cC cZ : ClassId} {a : Nat → Nat} {σ σ' : gS} {r : Int32} {q1 : Int32} (hf : f_W_writeCharacters σ q1 = some (r, σ')) {sz : Nat} : Met l y_W_writeCharacters w_W_writeCharacters { frames := 1, cells := 0, slots := 0, locals := 22 } (gPc X vwCl (gT cI cC cZ) (cW cI cC cZ a σ) sz [.ref (a 17), .int q1]) (gQv X vwCl (cW cI cC cZ a σ) sz (fun (_ : Unit) => True) (fun _ => cW cI cC cZ a σ')) 0 0 (va_A (cW cI cC cZ a σ) sz) := by
  refine g_met (cc := b_W_writeCharacters) (maxL := 4) (ret := none) (by decide) rfl (Nat.le_of_ble_eq_true rfl) ?_
  intro p e s m below meth c A ls hx hb hr hml hown hts hlocks hnm hsz hAe hA hP hK hD hS hl hN
  have hown : s.vm.findClass R_W = some m.cls := hown
  have u_0 : ∀ w ∈ u_ws R_W T_W 6, w ∈ w_W_writeCharacters := fun w h => List.mem_cons_of_mem _ (tu_W w h)
  have u_1 : ∀ w ∈ u_ws R_G T_G 6, w ∈ w_W_writeCharacters := fun w h => List.mem_cons_of_mem _ (tu_G w h)
  have k_0 := hts (.fieldLink R_W 18 "GraphPages$Writer" "graph" "LGraphPages$Graph;") (List.mem_cons_of_mem _ tb_258)
  have k_1 := hts (.fieldLink R_W 102 "GraphPages$Graph" "sizes" "[I") (List.mem_cons_of_mem _ tb_260)
  have k_2 := hts (.fieldLink R_W 26 "GraphPages$Writer" "page" "LGraphPages$Page;") (List.mem_cons_of_mem _ tb_255)
  unfold f_W_writeCharacters at hf
  have key : ∀ t : Nat, (∀ (x1 : Int32) (σ0 : gS) (H : Heap) (locs : List Loc) (ls : Array Slot), R_W_writeCharacters t 0 [x1] σ0 = some (r, σ') → va_P X vwCl (cW cI cC cZ a σ0) H → va_D A (cW cI cC cZ a σ0) → va_S A s.heap H locs → lv_has ls 4 [(0, .ref (a 17)), (1, .int x1)] → W p l e (headSpec w_W_writeCharacters { frames := 1, cells := 0, slots := 0, locals := 22 }).room s m [.ref (a 17), .int q1].toArray below meth c H locs 0 0 (MQ below (gQv X vwCl (cW cI cC cZ a σ) sz (fun (_ : Unit) => True) (fun _ => cW cI cC cZ a σ')) [.ref (a 17), .int q1].toArray s 0 0 (va_A (cW cI cC cZ a σ) sz)) (F0 m 0 ls [])) ∧ (∀ (x1 : Int32) (x2 : Int32) (σ0 : gS) (H : Heap) (locs : List Loc) (ls : Array Slot), R_W_writeCharacters t 1 [x1, x2] σ0 = some (r, σ') → va_P X vwCl (cW cI cC cZ a σ0) H → va_D A (cW cI cC cZ a σ0) → va_S A s.heap H locs → lv_has ls 4 [(0, .ref (a 17)), (1, .int x1), (2, .int x2)] → W p l e (headSpec w_W_writeCharacters { frames := 1, cells := 0, slots := 0, locals := 22 }).room s m [.ref (a 17), .int q1].toArray below meth c H locs 0 0 (MQ below (gQv X vwCl (cW cI cC cZ a σ) sz (fun (_ : Unit) => True) (fun _ => cW cI cC cZ a σ')) [.ref (a 17), .int q1].toArray s 0 0 (va_A (cW cI cC cZ a σ) sz)) (F0 m 2 ls [])) ∧ (∀ (x1 : Int32) (x2 : Int32) (σ0 : gS) (H : Heap) (locs : List Loc) (ls : Array Slot), R_W_writeCharacters t 2 [x1, x2] σ0 = some (r, σ') → va_P X vwCl (cW cI cC cZ a σ0) H → va_D A (cW cI cC cZ a σ0) → va_S A s.heap H locs → lv_has ls 4 [(0, .ref (a 17)), (1, .int x1), (2, .int x2)] → W p l e (headSpec w_W_writeCharacters { frames := 1, cells := 0, slots := 0, locals := 22 }).room s m [.ref (a 17), .int q1].toArray below meth c H locs 0 0 (MQ below (gQv X vwCl (cW cI cC cZ a σ) sz (fun (_ : Unit) => True) (fun _ => cW cI cC cZ a σ')) [.ref (a 17), .int q1].toArray s 0 0 (va_A (cW cI cC cZ a σ) sz)) (F0 m 79 ls [])) := by
    intro t
    induction t with
    | zero => exact ⟨fun _ _ _ _ _ hf => (by have hf : (none : Option (Int32 × gS)) = some (r, σ') := hf; cases hf), fun _ _ _ _ _ _ hf => (by have hf : (none : Option (Int32 × gS)) = some (r, σ') := hf; cases hf), fun _ _ _ _ _ _ hf => (by have hf : (none : Option (Int32 × gS)) = some (r, σ') := hf; cases hf)⟩
    | succ t ih =>
      obtain ⟨ih0, ih1, ih2⟩ := ih
      refine ⟨?_, ?_, ?_⟩
      · intro x1 σ0 H locs ls hf hP hD hS hl
        have hf : B_W_writeCharacters_0 (R_W_writeCharacters t) x1 σ0 = some (r, σ') := hf
        unfold B_W_writeCharacters_0 at hf
        refine lv_iconst (v := 0) hx hb d_W_writeCharacters_0 (by decide) ?_
        refine lv_istore_n hx hb d_W_writeCharacters_1 rfl hl (by decide) rfl (fun ls hl => ?_)
        exact ih1 (x1) (0) σ0 _ _ _ hf hP hD hS (lv_sub hl [1, 2, 0] rfl)
      · intro x1 x2 σ0 H locs ls hf hP hD hS hl
        have hf : B_W_writeCharacters_1 (R_W_writeCharacters t) x1 x2 σ0 = some (r, σ') := hf
        unfold B_W_writeCharacters_1 at hf
        refine lv_iload_n hx hb d_W_writeCharacters_2 rfl (lv_at hl 2 rfl) ?_
        refine lv_aload_n hx hb d_W_writeCharacters_3 rfl (lv_at hl 0 rfl) ?_
        refine va_get (D := X) (ci := 7) (C := R_W) (T := T_W) (N := 6) hx hb hts u_0 hown hK hP 17 gc_17 rfl 0 (by decide) k_0 (fun _ h9 => h9) rfl d_W_writeCharacters_4 ?_
        refine va_get (D := X) (ci := 2) (C := R_G) (T := T_G) (N := 6) hx hb hts u_1 hown hK hP 1 gc_1 rfl 2 (by decide) k_1 (fun _ h9 => h9) rfl d_W_writeCharacters_7 ?_
        refine lv_iload_n hx hb d_W_writeCharacters_10 rfl (lv_at hl 1 rfl) ?_
        obtain ⟨y1, h2, e3, hf⟩ := gLd_e hf
        refine va_iald hx hb hK hP 3 0 gc_3 rfl h2 d_W_writeCharacters_11 ?_
        rw [← e3]
        refine lv_icmp_ge (tgt := 85) hx hb d_W_writeCharacters_12 rfl (fun c4 => ?_) (fun c4 => ?_)
        · skip
          rw [if_pos c4] at hf
          obtain ⟨-, rfl⟩ := gRt_e hf
          exact g_vret hx hb hr hlocks hAe hS () trivial hP d_W_writeCharacters_85
        rw [if_neg c4] at hf
        refine lv_aload_n hx hb d_W_writeCharacters_15 rfl (lv_at hl 0 rfl) ?_
        refine va_get (D := X) (ci := 7) (C := R_W) (T := T_W) (N := 6) hx hb hts u_0 hown hK hP 17 gc_17 rfl 0 (by decide) k_0 (fun _ h9 => h9) rfl d_W_writeCharacters_16 ?_
        refine lv_iload_n hx hb d_W_writeCharacters_19 rfl (lv_at hl 1 rfl) ?_
        refine lv_iload_n hx hb d_W_writeCharacters_20 rfl (lv_at hl 2 rfl) ?_
        obtain ⟨y5, σ6, e7, hf⟩ := gBd_e hf
        refine g_wi (va_runV ⟨hx, hb, hml, hown, hts⟩ (m_G_characterOf e7) (cwV 2 hts (gG4 (fun _ h => List.mem_cons_of_mem _ h) tb_261 tb_198 tb_199 tb_83 tc_G_characterOf) rfl rfl rfl (by decide +kernel) ⟨Nat.le_of_ble_eq_true rfl, Nat.le_of_ble_eq_true rfl⟩) (g_preVW (q0 := 1) hN hK hP hD gc_1 rfl) rfl rfl hl.1 rfl (lv_room (Nat.le_of_ble_eq_true rfl)) d_W_writeCharacters_21 ⟨Nat.zero_le _, Nat.zero_le _⟩) hD hS hA (fun _ => cW_fst) (fun y5 _ H locs hu hP hD hS => ?_)
        subst hu
        refine lv_istore_n hx hb d_W_writeCharacters_24 rfl hl (by decide) rfl (fun ls hl => ?_)
        refine lv_iload_n hx hb d_W_writeCharacters_25 rfl (lv_at hl 0 rfl) ?_
        refine lv_bipush (v := 60) hx hb d_W_writeCharacters_26 (by decide) ?_
        refine lv_icmp_ne (tgt := 40) hx hb d_W_writeCharacters_28 rfl (fun c8 => ?_) (fun c8 => ?_)
        · skip
          rw [if_neg c8] at hf
          refine lv_iload_n hx hb d_W_writeCharacters_40 rfl (lv_at hl 0 rfl) ?_
          refine lv_bipush (v := 62) hx hb d_W_writeCharacters_41 (by decide) ?_
          refine lv_icmp_ne (tgt := 55) hx hb d_W_writeCharacters_43 rfl (fun c9 => ?_) (fun c9 => ?_)
          · skip
            rw [if_neg c9] at hf
            refine lv_iload_n hx hb d_W_writeCharacters_55 rfl (lv_at hl 0 rfl) ?_
            refine lv_bipush (v := 38) hx hb d_W_writeCharacters_56 (by decide) ?_
            refine lv_icmp_ne (tgt := 70) hx hb d_W_writeCharacters_58 rfl (fun c10 => ?_) (fun c10 => ?_)
            · skip
              rw [if_neg c10] at hf
              refine lv_aload_n hx hb d_W_writeCharacters_70 rfl (lv_at hl 1 rfl) ?_
              refine va_get (D := X) (ci := 7) (C := R_W) (T := T_W) (N := 6) hx hb hts u_0 hown hK hP 17 gc_17 rfl 2 (by decide) k_2 (fun _ h9 => h9) rfl d_W_writeCharacters_71 ?_
              refine lv_iload_n hx hb d_W_writeCharacters_74 rfl (lv_at hl 0 rfl) ?_
              obtain ⟨y11, σ12, e13, hf⟩ := gBd_e hf
              refine g_wi (va_runV ⟨hx, hb, hml, hown, hts⟩ (m_P_append e13) (cwV 1 hts (gG4 (fun _ h => List.mem_cons_of_mem _ h) tb_252 tb_253 tb_254 tb_19 tc_P_append) rfl rfl rfl (by decide +kernel) ⟨Nat.le_of_ble_eq_true rfl, Nat.le_of_ble_eq_true rfl⟩) (g_preVW (q0 := 7) hN hK hP hD gc_7 rfl) rfl rfl hl.1 rfl (lv_room (Nat.le_of_ble_eq_true rfl)) d_W_writeCharacters_75 ⟨Nat.zero_le _, Nat.zero_le _⟩) hD hS hA (fun _ => cW_fst) (fun y11 _ H locs hu hP hD hS => ?_)
              subst hu
              refine lv_pop hx hb d_W_writeCharacters_78 rfl ?_
              exact ih2 (x1) (x2) σ12 _ _ _ hf hP hD hS (lv_sub hl [1, 2, 3] rfl)
            rw [if_pos c10] at hf
            refine lv_aload_n hx hb d_W_writeCharacters_61 rfl (lv_at hl 1 rfl) ?_
            cases hf
          rw [if_pos c9] at hf
          refine lv_aload_n hx hb d_W_writeCharacters_46 rfl (lv_at hl 1 rfl) ?_
          cases hf
        rw [if_pos c8] at hf
        refine lv_aload_n hx hb d_W_writeCharacters_31 rfl (lv_at hl 1 rfl) ?_
        cases hf
      · intro x1 x2 σ0 H locs ls hf hP hD hS hl
        have hf : B_W_writeCharacters_2 (R_W_writeCharacters t) x1 x2 σ0 = some (r, σ') := hf
        unfold B_W_writeCharacters_2 at hf
        refine lv_iinc (k := 2) (v := (x2 + 1)) hx hb d_W_writeCharacters_79 hl rfl (by rw [show Int32.ofInt (1) = (1 : Int32) by decide]) (by decide) rfl (fun ls hl => ?_)
        refine lv_goto (tgt := 2) hx hb d_W_writeCharacters_82 rfl ?_
        exact ih1 (x1) ((x2 + 1)) σ0 _ _ _ hf hP hD hS (lv_sub hl [1, 2, 0] rfl)
  exact (key gFuel).1 q1 σ _ _ _ hf hP hD hS hl

def B_W_behindLastWrittenSlot_0 (rec : Nat → List Int32 → gS → Option (Int32 × gS)) (x1 : Int32) (σ0 : gS) : Option (Int32 × gS) := gLd σ0 3 16 x1 (fun y1 => rec 1 [x1, y1] σ0)
def B_W_behindLastWrittenSlot_1 (rec : Nat → List Int32 → gS → Option (Int32 × gS)) (x1 : Int32) (x2 : Int32) (σ0 : gS) : Option (Int32 × gS) := gLd σ0 2 16 x1 (fun y4 => if y4 = 1 then (if x2 ≤ 0 then (some (x2, σ0)) else (gBd (f_G_contentOf σ0 x1 (x2 - 1)) (fun y9 σ10 => if y9 = 0 then (rec 1 [x1, (x2 + (-1))] σ10) else (some (x2, σ10))))) else (some (x2, σ0)))
def S_W_behindLastWrittenSlot (rec : Nat → List Int32 → gS → Option (Int32 × gS)) (k : Nat) (l : List Int32) (σ0 : gS) : Option (Int32 × gS) := match k, l with
  | 0, [x1] => B_W_behindLastWrittenSlot_0 rec x1 σ0
  | 1, [x1, x2] => B_W_behindLastWrittenSlot_1 rec x1 x2 σ0
  | _, _ => none
def R_W_behindLastWrittenSlot : Nat → Nat → List Int32 → gS → Option (Int32 × gS)
  | 0 => fun _ _ _ => none
  | t + 1 => fun k l σ0 => S_W_behindLastWrittenSlot (R_W_behindLastWrittenSlot t) k l σ0
def f_W_behindLastWrittenSlot (σ : gS) (x1 : Int32) : Option (Int32 × gS) := R_W_behindLastWrittenSlot gFuel 0 [x1] σ
set_option maxHeartbeats 4000000 in
set_option maxRecDepth 100000 in
theorem m_W_behindLastWrittenSlot {l : Launch} {X : va_G} {cI cC cZ : ClassId} {a : Nat → Nat} {σ σ' : gS} {r : Int32} {q1 : Int32} (hf : f_W_behindLastWrittenSlot σ q1 = some (r, σ')) {sz : Nat} : Met l y_W_behindLastWrittenSlot w_W_behindLastWrittenSlot { frames := 1, cells := 0, slots := 0, locals := 22 } (gPc X vwCl (gT cI cC cZ) (cW cI cC cZ a σ) sz [.ref (a 17), .int q1]) (gQi X vwCl (cW cI cC cZ a σ) sz (fun r' (_ : Unit) => r' = r) (fun _ => cW cI cC cZ a σ')) 0 0 (va_A (cW cI cC cZ a σ) sz) := by
  refine g_met (cc := b_W_behindLastWrittenSlot) (maxL := 3) (ret := (some .int)) (by decide) rfl (Nat.le_of_ble_eq_true rfl) ?_
  intro p e s m below meth c A ls hx hb hr hml hown hts hlocks hnm hsz hAe hA hP hK hD hS hl hN
  have hown : s.vm.findClass R_W = some m.cls := hown
  have u_0 : ∀ w ∈ u_ws R_W T_W 6, w ∈ w_W_behindLastWrittenSlot := fun w h => List.mem_cons_of_mem _ (tu_W w h)
  have u_1 : ∀ w ∈ u_ws R_G T_G 6, w ∈ w_W_behindLastWrittenSlot := fun w h => List.mem_cons_of_mem _ (tu_G w h)
  have k_0 := hts (.fieldLink R_W 18 "GraphPages$Writer" "graph" "LGraphPages$Graph;") (List.mem_cons_of_mem _ tb_258)
  have k_1 := hts (.fieldLink R_W 102 "GraphPages$Graph" "sizes" "[I") (List.mem_cons_of_mem _ tb_260)
  have k_2 := hts (.fieldLink R_W 83 "GraphPages$Graph" "kinds" "[I") (List.mem_cons_of_mem _ tb_259)
  unfold f_W_behindLastWrittenSlot at hf
  have key : ∀ t : Nat, (∀ (x1 : Int32) (σ0 : gS) (H : Heap) (locs : List Loc) (ls : Array Slot), R_W_behindLastWrittenSlot t 0 [x1] σ0 = some (r, σ') → va_P X vwCl (cW cI cC cZ a σ0) H → va_D A (cW cI cC cZ a σ0) → va_S A s.heap H locs → lv_has ls 3 [(0, .ref (a 17)), (1, .int x1)] → W p l e (headSpec w_W_behindLastWrittenSlot { frames := 1, cells := 0, slots := 0, locals := 22 }).room s m [.ref (a 17), .int q1].toArray below meth c H locs 0 0 (MQ below (gQi X vwCl (cW cI cC cZ a σ) sz (fun r' (_ : Unit) => r' = r) (fun _ => cW cI cC cZ a σ')) [.ref (a 17), .int q1].toArray s 0 0 (va_A (cW cI cC cZ a σ) sz)) (F0 m 0 ls [])) ∧ (∀ (x1 : Int32) (x2 : Int32) (σ0 : gS) (H : Heap) (locs : List Loc) (ls : Array Slot), R_W_behindLastWrittenSlot t 1 [x1, x2] σ0 = some (r, σ') → va_P X vwCl (cW cI cC cZ a σ0) H → va_D A (cW cI cC cZ a σ0) → va_S A s.heap H locs → lv_has ls 3 [(0, .ref (a 17)), (1, .int x1), (2, .int x2)] → W p l e (headSpec w_W_behindLastWrittenSlot { frames := 1, cells := 0, slots := 0, locals := 22 }).room s m [.ref (a 17), .int q1].toArray below meth c H locs 0 0 (MQ below (gQi X vwCl (cW cI cC cZ a σ) sz (fun r' (_ : Unit) => r' = r) (fun _ => cW cI cC cZ a σ')) [.ref (a 17), .int q1].toArray s 0 0 (va_A (cW cI cC cZ a σ) sz)) (F0 m 10 ls [])) := by
    intro t
    induction t with
    | zero => exact ⟨fun _ _ _ _ _ hf => (by have hf : (none : Option (Int32 × gS)) = some (r, σ') := hf; cases hf), fun _ _ _ _ _ _ hf => (by have hf : (none : Option (Int32 × gS)) = some (r, σ') := hf; cases hf)⟩
    | succ t ih =>
      obtain ⟨ih0, ih1⟩ := ih
      refine ⟨?_, ?_⟩
      · intro x1 σ0 H locs ls hf hP hD hS hl
        have hf : B_W_behindLastWrittenSlot_0 (R_W_behindLastWrittenSlot t) x1 σ0 = some (r, σ') := hf
        unfold B_W_behindLastWrittenSlot_0 at hf
        refine lv_aload_n hx hb d_W_behindLastWrittenSlot_0 rfl (lv_at hl 0 rfl) ?_
        refine va_get (D := X) (ci := 7) (C := R_W) (T := T_W) (N := 6) hx hb hts u_0 hown hK hP 17 gc_17 rfl 0 (by decide) k_0 (fun _ h9 => h9) rfl d_W_behindLastWrittenSlot_1 ?_
        refine va_get (D := X) (ci := 2) (C := R_G) (T := T_G) (N := 6) hx hb hts u_1 hown hK hP 1 gc_1 rfl 2 (by decide) k_1 (fun _ h9 => h9) rfl d_W_behindLastWrittenSlot_4 ?_
        refine lv_iload_n hx hb d_W_behindLastWrittenSlot_7 rfl (lv_at hl 1 rfl) ?_
        obtain ⟨y1, h2, e3, hf⟩ := gLd_e hf
        refine va_iald hx hb hK hP 3 0 gc_3 rfl h2 d_W_behindLastWrittenSlot_8 ?_
        rw [← e3]
        refine lv_istore_n hx hb d_W_behindLastWrittenSlot_9 rfl hl (by decide) rfl (fun ls hl => ?_)
        exact ih1 (x1) (y1) σ0 _ _ _ hf hP hD hS (lv_sub hl [1, 2, 0] rfl)
      · intro x1 x2 σ0 H locs ls hf hP hD hS hl
        have hf : B_W_behindLastWrittenSlot_1 (R_W_behindLastWrittenSlot t) x1 x2 σ0 = some (r, σ') := hf
        unfold B_W_behindLastWrittenSlot_1 at hf
        refine lv_aload_n hx hb d_W_behindLastWrittenSlot_10 rfl (lv_at hl 0 rfl) ?_
        refine va_get (D := X) (ci := 7) (C := R_W) (T := T_W) (N := 6) hx hb hts u_0 hown hK hP 17 gc_17 rfl 0 (by decide) k_0 (fun _ h9 => h9) rfl d_W_behindLastWrittenSlot_11 ?_
        refine va_get (D := X) (ci := 2) (C := R_G) (T := T_G) (N := 6) hx hb hts u_1 hown hK hP 1 gc_1 rfl 1 (by decide) k_2 (fun _ h9 => h9) rfl d_W_behindLastWrittenSlot_14 ?_
        refine lv_iload_n hx hb d_W_behindLastWrittenSlot_17 rfl (lv_at hl 1 rfl) ?_
        obtain ⟨y4, h5, e6, hf⟩ := gLd_e hf
        refine va_iald hx hb hK hP 2 0 gc_2 rfl h5 d_W_behindLastWrittenSlot_18 ?_
        rw [← e6]
        refine lv_iconst (v := 1) hx hb d_W_behindLastWrittenSlot_19 (by decide) ?_
        refine lv_icmp_ne (tgt := 47) hx hb d_W_behindLastWrittenSlot_20 rfl (fun c7 => ?_) (fun c7 => ?_)
        · skip
          rw [if_neg c7] at hf
          refine lv_iload_n hx hb d_W_behindLastWrittenSlot_47 rfl (lv_at hl 2 rfl) ?_
          obtain ⟨rfl, rfl⟩ := gRt_e hf
          exact g_zret hx hb hr hlocks rfl hAe hS () rfl hP d_W_behindLastWrittenSlot_48
        rw [if_pos c7] at hf
        refine lv_iload_n hx hb d_W_behindLastWrittenSlot_23 rfl (lv_at hl 2 rfl) ?_
        refine lv_if_le (tgt := 47) hx hb d_W_behindLastWrittenSlot_24 rfl (fun c8 => ?_) (fun c8 => ?_)
        · skip
          rw [if_pos c8] at hf
          refine lv_iload_n hx hb d_W_behindLastWrittenSlot_47 rfl (lv_at hl 2 rfl) ?_
          obtain ⟨rfl, rfl⟩ := gRt_e hf
          exact g_zret hx hb hr hlocks rfl hAe hS () rfl hP d_W_behindLastWrittenSlot_48
        rw [if_neg c8] at hf
        refine lv_aload_n hx hb d_W_behindLastWrittenSlot_27 rfl (lv_at hl 0 rfl) ?_
        refine va_get (D := X) (ci := 7) (C := R_W) (T := T_W) (N := 6) hx hb hts u_0 hown hK hP 17 gc_17 rfl 0 (by decide) k_0 (fun _ h9 => h9) rfl d_W_behindLastWrittenSlot_28 ?_
        refine lv_iload_n hx hb d_W_behindLastWrittenSlot_31 rfl (lv_at hl 1 rfl) ?_
        refine lv_iload_n hx hb d_W_behindLastWrittenSlot_32 rfl (lv_at hl 2 rfl) ?_
        refine lv_iconst (v := 1) hx hb d_W_behindLastWrittenSlot_33 (by decide) ?_
        refine lv_isub hx hb d_W_behindLastWrittenSlot_34 ?_
        obtain ⟨y9, σ10, e11, hf⟩ := gBd_e hf
        refine g_wi (va_runV ⟨hx, hb, hml, hown, hts⟩ (m_G_contentOf e11) (cwV 2 hts (gG4 (fun _ h => List.mem_cons_of_mem _ h) tb_257 tb_203 tb_204 tb_83 tc_G_contentOf) rfl rfl rfl (by decide +kernel) ⟨Nat.le_of_ble_eq_true rfl, Nat.le_of_ble_eq_true rfl⟩) (g_preVW (q0 := 1) hN hK hP hD gc_1 rfl) rfl rfl hl.1 rfl (lv_room (Nat.le_of_ble_eq_true rfl)) d_W_behindLastWrittenSlot_35 ⟨Nat.zero_le _, Nat.zero_le _⟩) hD hS hA (fun _ => cW_fst) (fun y9 _ H locs hu hP hD hS => ?_)
        subst hu
        refine lv_if_ne (tgt := 47) hx hb d_W_behindLastWrittenSlot_38 rfl (fun c12 => ?_) (fun c12 => ?_)
        · skip
          rw [if_neg c12] at hf
          refine lv_iload_n hx hb d_W_behindLastWrittenSlot_47 rfl (lv_at hl 2 rfl) ?_
          obtain ⟨rfl, rfl⟩ := gRt_e hf
          exact g_zret hx hb hr hlocks rfl hAe hS () rfl hP d_W_behindLastWrittenSlot_48
        rw [if_pos c12] at hf
        refine lv_iinc (k := 2) (v := (x2 + (-1))) hx hb d_W_behindLastWrittenSlot_41 hl rfl (by rw [show Int32.ofInt (-1) = ((-1) : Int32) by decide]) (by decide) rfl (fun ls hl => ?_)
        refine lv_goto (tgt := 10) hx hb d_W_behindLastWrittenSlot_44 rfl ?_
        exact ih1 (x1) ((x2 + (-1))) σ10 _ _ _ hf hP hD hS (lv_sub hl [1, 2, 0] rfl)
  exact (key gFuel).1 q1 σ _ _ _ hf hP hD hS hl

def B_W_writeSlots_0 (rec : Nat → List Int32 → gS → Option (Int32 × gS)) (x1 : Int32) (x2 : Int32) (x3 : Int32) (σ0 : gS) : Option (Int32 × gS) := gBd (f_W_behindLastWrittenSlot σ0 x1) (fun y1 σ2 => rec 1 [x1, x3, y1, x2] σ2)
def B_W_writeSlots_1 (rec : Nat → List Int32 → gS → Option (Int32 × gS)) (x1 : Int32) (x3 : Int32) (x4 : Int32) (x5 : Int32) (σ0 : gS) : Option (Int32 × gS) := if x4 ≤ x5 then (some (0, σ0)) else (gBd (f_G_contentOf σ0 x1 x5) (fun y5 σ6 => if y5 = 0 then (none) else (gBd (f_G_contentOf σ6 x1 x5) (fun y9 σ10 => if y9 = 1 then (none) else (gBd (f_G_valueOf σ10 x1 x5) (fun y13 σ14 => none))))))
def B_W_writeSlots_2 (rec : Nat → List Int32 → gS → Option (Int32 × gS)) (x1 : Int32) (x3 : Int32) (x4 : Int32) (x5 : Int32) (σ0 : gS) : Option (Int32 × gS) := rec 1 [x1, x3, x4, (x5 + 1)] σ0
def S_W_writeSlots (rec : Nat → List Int32 → gS → Option (Int32 × gS)) (k : Nat) (l : List Int32) (σ0 : gS) : Option (Int32 × gS) := match k, l with
  | 0, [x1, x2, x3] => B_W_writeSlots_0 rec x1 x2 x3 σ0
  | 1, [x1, x3, x4, x5] => B_W_writeSlots_1 rec x1 x3 x4 x5 σ0
  | 2, [x1, x3, x4, x5] => B_W_writeSlots_2 rec x1 x3 x4 x5 σ0
  | _, _ => none
def R_W_writeSlots : Nat → Nat → List Int32 → gS → Option (Int32 × gS)
  | 0 => fun _ _ _ => none
  | t + 1 => fun k l σ0 => S_W_writeSlots (R_W_writeSlots t) k l σ0
def f_W_writeSlots (σ : gS) (x1 : Int32) (x2 : Int32) (x3 : Int32) : Option (Int32 × gS) := R_W_writeSlots gFuel 0 [x1, x2, x3] σ
set_option maxHeartbeats 4000000 in
set_option maxRecDepth 100000 in
theorem m_W_writeSlots {l : Launch} {X : va_G} {cI cC cZ : ClassId} {a : Nat → Nat} {σ σ' : gS} {r : Int32} {q1 : Int32} {q2 : Int32} {q3 : Int32} (hf : f_W_writeSlots σ q1 q2 q3 = some (r, σ')) {sz : Nat} : Met l y_W_writeSlots w_W_writeSlots { frames := 2, cells := 0, slots := 0, locals := 44 } (gPc X vwCl (gT cI cC cZ) (cW cI cC cZ a σ) sz [.ref (a 17), .int q1, .int q2, .int q3]) (gQv X vwCl (cW cI cC cZ a σ) sz (fun (_ : Unit) => True) (fun _ => cW cI cC cZ a σ')) 0 0 (va_A (cW cI cC cZ a σ) sz) := by
  refine g_met (cc := b_W_writeSlots) (maxL := 6) (ret := none) (by decide) rfl (Nat.le_of_ble_eq_true rfl) ?_
  intro p e s m below meth c A ls hx hb hr hml hown hts hlocks hnm hsz hAe hA hP hK hD hS hl hN
  have hown : s.vm.findClass R_W = some m.cls := hown
  have u_0 : ∀ w ∈ u_ws R_W T_W 6, w ∈ w_W_writeSlots := fun w h => List.mem_cons_of_mem _ (tu_W w h)
  have k_0 := hts (.fieldLink R_W 18 "GraphPages$Writer" "graph" "LGraphPages$Graph;") (List.mem_cons_of_mem _ tb_258)
  unfold f_W_writeSlots at hf
  have key : ∀ t : Nat, (∀ (x1 : Int32) (x2 : Int32) (x3 : Int32) (σ0 : gS) (H : Heap) (locs : List Loc) (ls : Array Slot), R_W_writeSlots t 0 [x1, x2, x3] σ0 = some (r, σ') → va_P X vwCl (cW cI cC cZ a σ0) H → va_D A (cW cI cC cZ a σ0) → va_S A s.heap H locs → lv_has ls 6 [(0, .ref (a 17)), (1, .int x1), (2, .int x2), (3, .int x3)] → W p l e (headSpec w_W_writeSlots { frames := 2, cells := 0, slots := 0, locals := 44 }).room s m [.ref (a 17), .int q1, .int q2, .int q3].toArray below meth c H locs 0 0 (MQ below (gQv X vwCl (cW cI cC cZ a σ) sz (fun (_ : Unit) => True) (fun _ => cW cI cC cZ a σ')) [.ref (a 17), .int q1, .int q2, .int q3].toArray s 0 0 (va_A (cW cI cC cZ a σ) sz)) (F0 m 0 ls [])) ∧ (∀ (x1 : Int32) (x3 : Int32) (x4 : Int32) (x5 : Int32) (σ0 : gS) (H : Heap) (locs : List Loc) (ls : Array Slot), R_W_writeSlots t 1 [x1, x3, x4, x5] σ0 = some (r, σ') → va_P X vwCl (cW cI cC cZ a σ0) H → va_D A (cW cI cC cZ a σ0) → va_S A s.heap H locs → lv_has ls 6 [(0, .ref (a 17)), (1, .int x1), (3, .int x3), (4, .int x4), (5, .int x5)] → W p l e (headSpec w_W_writeSlots { frames := 2, cells := 0, slots := 0, locals := 44 }).room s m [.ref (a 17), .int q1, .int q2, .int q3].toArray below meth c H locs 0 0 (MQ below (gQv X vwCl (cW cI cC cZ a σ) sz (fun (_ : Unit) => True) (fun _ => cW cI cC cZ a σ')) [.ref (a 17), .int q1, .int q2, .int q3].toArray s 0 0 (va_A (cW cI cC cZ a σ) sz)) (F0 m 10 ls [])) ∧ (∀ (x1 : Int32) (x3 : Int32) (x4 : Int32) (x5 : Int32) (σ0 : gS) (H : Heap) (locs : List Loc) (ls : Array Slot), R_W_writeSlots t 2 [x1, x3, x4, x5] σ0 = some (r, σ') → va_P X vwCl (cW cI cC cZ a σ0) H → va_D A (cW cI cC cZ a σ0) → va_S A s.heap H locs → lv_has ls 6 [(0, .ref (a 17)), (1, .int x1), (3, .int x3), (4, .int x4), (5, .int x5)] → W p l e (headSpec w_W_writeSlots { frames := 2, cells := 0, slots := 0, locals := 44 }).room s m [.ref (a 17), .int q1, .int q2, .int q3].toArray below meth c H locs 0 0 (MQ below (gQv X vwCl (cW cI cC cZ a σ) sz (fun (_ : Unit) => True) (fun _ => cW cI cC cZ a σ')) [.ref (a 17), .int q1, .int q2, .int q3].toArray s 0 0 (va_A (cW cI cC cZ a σ) sz)) (F0 m 97 ls [])) := by
    intro t
    induction t with
    | zero => exact ⟨fun _ _ _ _ _ _ _ hf => (by have hf : (none : Option (Int32 × gS)) = some (r, σ') := hf; cases hf), fun _ _ _ _ _ _ _ _ hf => (by have hf : (none : Option (Int32 × gS)) = some (r, σ') := hf; cases hf), fun _ _ _ _ _ _ _ _ hf => (by have hf : (none : Option (Int32 × gS)) = some (r, σ') := hf; cases hf)⟩
    | succ t ih =>
      obtain ⟨ih0, ih1, ih2⟩ := ih
      refine ⟨?_, ?_, ?_⟩
      · intro x1 x2 x3 σ0 H locs ls hf hP hD hS hl
        have hf : B_W_writeSlots_0 (R_W_writeSlots t) x1 x2 x3 σ0 = some (r, σ') := hf
        unfold B_W_writeSlots_0 at hf
        refine lv_aload_n hx hb d_W_writeSlots_0 rfl (lv_at hl 0 rfl) ?_
        refine lv_iload_n hx hb d_W_writeSlots_1 rfl (lv_at hl 1 rfl) ?_
        obtain ⟨y1, σ2, e3, hf⟩ := gBd_e hf
        refine g_wi (va_runV ⟨hx, hb, hml, hown, hts⟩ (m_W_behindLastWrittenSlot e3) (cwV 1 hts (gG4 (fun _ h => List.mem_cons_of_mem _ h) tb_262 tb_263 tb_264 tb_265 tc_W_behindLastWrittenSlot) rfl rfl rfl (by decide +kernel) ⟨Nat.le_of_ble_eq_true rfl, Nat.le_of_ble_eq_true rfl⟩) (g_preVW (q0 := 17) hN hK hP hD gc_17 rfl) rfl rfl hl.1 rfl (lv_room (Nat.le_of_ble_eq_true rfl)) d_W_writeSlots_2 ⟨Nat.zero_le _, Nat.zero_le _⟩) hD hS hA (fun _ => cW_fst) (fun y1 _ H locs hu hP hD hS => ?_)
        subst hu
        refine lv_istore hx hb d_W_writeSlots_5 hl (by decide) rfl (fun ls hl => ?_)
        refine lv_iload_n hx hb d_W_writeSlots_7 rfl (lv_at hl 3 rfl) ?_
        refine lv_istore hx hb d_W_writeSlots_8 hl (by decide) rfl (fun ls hl => ?_)
        exact ih1 (x1) (x3) (y1) (x2) σ2 _ _ _ hf hP hD hS (lv_sub hl [2, 3, 5, 1, 0] rfl)
      · intro x1 x3 x4 x5 σ0 H locs ls hf hP hD hS hl
        have hf : B_W_writeSlots_1 (R_W_writeSlots t) x1 x3 x4 x5 σ0 = some (r, σ') := hf
        unfold B_W_writeSlots_1 at hf
        refine lv_iload hx hb d_W_writeSlots_10 (lv_at hl 4 rfl) ?_
        refine lv_iload hx hb d_W_writeSlots_12 (lv_at hl 3 rfl) ?_
        refine lv_icmp_ge (tgt := 103) hx hb d_W_writeSlots_14 rfl (fun c4 => ?_) (fun c4 => ?_)
        · skip
          rw [if_pos c4] at hf
          obtain ⟨-, rfl⟩ := gRt_e hf
          exact g_vret hx hb hr hlocks hAe hS () trivial hP d_W_writeSlots_103
        rw [if_neg c4] at hf
        refine lv_aload_n hx hb d_W_writeSlots_17 rfl (lv_at hl 0 rfl) ?_
        refine va_get (D := X) (ci := 7) (C := R_W) (T := T_W) (N := 6) hx hb hts u_0 hown hK hP 17 gc_17 rfl 0 (by decide) k_0 (fun _ h9 => h9) rfl d_W_writeSlots_18 ?_
        refine lv_iload_n hx hb d_W_writeSlots_21 rfl (lv_at hl 1 rfl) ?_
        refine lv_iload hx hb d_W_writeSlots_22 (lv_at hl 4 rfl) ?_
        obtain ⟨y5, σ6, e7, hf⟩ := gBd_e hf
        refine g_wi (va_runV ⟨hx, hb, hml, hown, hts⟩ (m_G_contentOf e7) (cwV 2 hts (gG4 (fun _ h => List.mem_cons_of_mem _ h) tb_257 tb_203 tb_204 tb_83 tc_G_contentOf) rfl rfl rfl (by decide +kernel) ⟨Nat.le_of_ble_eq_true rfl, Nat.le_of_ble_eq_true rfl⟩) (g_preVW (q0 := 1) hN hK hP hD gc_1 rfl) rfl rfl hl.1 rfl (lv_room (Nat.le_of_ble_eq_true rfl)) d_W_writeSlots_24 ⟨Nat.zero_le _, Nat.zero_le _⟩) hD hS hA (fun _ => cW_fst) (fun y5 _ H locs hu hP hD hS => ?_)
        subst hu
        refine lv_if_ne (tgt := 39) hx hb d_W_writeSlots_27 rfl (fun c8 => ?_) (fun c8 => ?_)
        · skip
          rw [if_neg c8] at hf
          refine lv_aload_n hx hb d_W_writeSlots_39 rfl (lv_at hl 0 rfl) ?_
          refine va_get (D := X) (ci := 7) (C := R_W) (T := T_W) (N := 6) hx hb hts u_0 hown hK hP 17 gc_17 rfl 0 (by decide) k_0 (fun _ h9 => h9) rfl d_W_writeSlots_40 ?_
          refine lv_iload_n hx hb d_W_writeSlots_43 rfl (lv_at hl 1 rfl) ?_
          refine lv_iload hx hb d_W_writeSlots_44 (lv_at hl 4 rfl) ?_
          obtain ⟨y9, σ10, e11, hf⟩ := gBd_e hf
          refine g_wi (va_runV ⟨hx, hb, hml, hown, hts⟩ (m_G_contentOf e11) (cwV 2 hts (gG4 (fun _ h => List.mem_cons_of_mem _ h) tb_257 tb_203 tb_204 tb_83 tc_G_contentOf) rfl rfl rfl (by decide +kernel) ⟨Nat.le_of_ble_eq_true rfl, Nat.le_of_ble_eq_true rfl⟩) (g_preVW (q0 := 1) hN hK hP hD gc_1 rfl) rfl rfl hl.1 rfl (lv_room (Nat.le_of_ble_eq_true rfl)) d_W_writeSlots_46 ⟨Nat.zero_le _, Nat.zero_le _⟩) hD hS hA (fun _ => cW_fst) (fun y9 _ H locs hu hP hD hS => ?_)
          subst hu
          refine lv_iconst (v := 1) hx hb d_W_writeSlots_49 (by decide) ?_
          refine lv_icmp_ne (tgt := 82) hx hb d_W_writeSlots_50 rfl (fun c12 => ?_) (fun c12 => ?_)
          · skip
            rw [if_neg c12] at hf
            refine lv_aload_n hx hb d_W_writeSlots_82 rfl (lv_at hl 0 rfl) ?_
            refine lv_aload_n hx hb d_W_writeSlots_83 rfl (lv_at hl 0 rfl) ?_
            refine va_get (D := X) (ci := 7) (C := R_W) (T := T_W) (N := 6) hx hb hts u_0 hown hK hP 17 gc_17 rfl 0 (by decide) k_0 (fun _ h9 => h9) rfl d_W_writeSlots_84 ?_
            refine lv_iload_n hx hb d_W_writeSlots_87 rfl (lv_at hl 1 rfl) ?_
            refine lv_iload hx hb d_W_writeSlots_88 (lv_at hl 4 rfl) ?_
            obtain ⟨y13, σ14, e15, hf⟩ := gBd_e hf
            refine g_wi (va_runV ⟨hx, hb, hml, hown, hts⟩ (m_G_valueOf e15) (cwV 2 hts (gG4 (fun _ h => List.mem_cons_of_mem _ h) tb_266 tb_206 tb_207 tb_83 tc_G_valueOf) rfl rfl rfl (by decide +kernel) ⟨Nat.le_of_ble_eq_true rfl, Nat.le_of_ble_eq_true rfl⟩) (g_preVW (q0 := 1) hN hK hP hD gc_1 rfl) rfl rfl hl.1 rfl (lv_room (Nat.le_of_ble_eq_true rfl)) d_W_writeSlots_90 ⟨Nat.zero_le _, Nat.zero_le _⟩) hD hS hA (fun _ => cW_fst) (fun y13 _ H locs hu hP hD hS => ?_)
            subst hu
            refine lv_iload_n hx hb d_W_writeSlots_93 rfl (lv_at hl 2 rfl) ?_
            cases hf
          rw [if_pos c12] at hf
          refine lv_aload_n hx hb d_W_writeSlots_53 rfl (lv_at hl 0 rfl) ?_
          cases hf
        rw [if_pos c8] at hf
        refine lv_aload_n hx hb d_W_writeSlots_30 rfl (lv_at hl 0 rfl) ?_
        cases hf
      · intro x1 x3 x4 x5 σ0 H locs ls hf hP hD hS hl
        have hf : B_W_writeSlots_2 (R_W_writeSlots t) x1 x3 x4 x5 σ0 = some (r, σ') := hf
        unfold B_W_writeSlots_2 at hf
        refine lv_iinc (k := 4) (v := (x5 + 1)) hx hb d_W_writeSlots_97 hl rfl (by rw [show Int32.ofInt (1) = (1 : Int32) by decide]) (by decide) rfl (fun ls hl => ?_)
        refine lv_goto (tgt := 10) hx hb d_W_writeSlots_100 rfl ?_
        exact ih1 (x1) (x3) (x4) ((x5 + 1)) σ0 _ _ _ hf hP hD hS (lv_sub hl [1, 2, 3, 4, 0] rfl)
  exact (key gFuel).1 q1 q2 q3 σ _ _ _ hf hP hD hS hl

def f_W_writeReference (σ : gS) (x1 : Int32) (x2 : Int32) : Option (Int32 × gS) := gBd (f_R_isShared σ x1) (fun y1 σ2 => if y1 = 0 then (if 16 ≤ x2 then (some (0, σ2)) else (none)) else (gBd (f_W_giveId σ2 x1) (fun _ σ10 => none)))
set_option maxHeartbeats 4000000 in
set_option maxRecDepth 100000 in
theorem m_W_writeReference {l : Launch} {X : va_G} {cI cC cZ : ClassId} {a : Nat → Nat} {σ σ' : gS} {r : Int32} {x1 : Int32} {x2 : Int32} (hf : f_W_writeReference σ x1 x2 = some (r, σ')) {sz : Nat} : Met l y_W_writeReference w_W_writeReference { frames := 1, cells := 0, slots := 0, locals := 21 } (gPc X vwCl (gT cI cC cZ) (cW cI cC cZ a σ) sz [.ref (a 17), .int x1, .int x2]) (gQv X vwCl (cW cI cC cZ a σ) sz (fun (_ : Unit) => True) (fun _ => cW cI cC cZ a σ')) 0 0 (va_A (cW cI cC cZ a σ) sz) := by
  refine g_met (cc := b_W_writeReference) (maxL := 3) (ret := none) (by decide) rfl (Nat.le_of_ble_eq_true rfl) ?_
  intro p e s m below meth c A ls hx hb hr hml hown hts hlocks hnm hsz hAe hA hP hK hD hS hl hN
  have hown : s.vm.findClass R_W = some m.cls := hown
  have u_0 : ∀ w ∈ u_ws R_W T_W 6, w ∈ w_W_writeReference := fun w h => List.mem_cons_of_mem _ (tu_W w h)
  have k_0 := hts (.fieldLink R_W 22 "GraphPages$Writer" "reach" "LGraphPages$Reach;") (List.mem_cons_of_mem _ tb_271)
  unfold f_W_writeReference at hf
  refine lv_aload_n hx hb d_W_writeReference_0 rfl (lv_at hl 0 rfl) ?_
  refine va_get (D := X) (ci := 7) (C := R_W) (T := T_W) (N := 6) hx hb hts u_0 hown hK hP 17 gc_17 rfl 1 (by decide) k_0 (fun _ h9 => h9) rfl d_W_writeReference_1 ?_
  refine lv_iload_n hx hb d_W_writeReference_4 rfl (lv_at hl 1 rfl) ?_
  obtain ⟨y1, σ2, e3, hf⟩ := gBd_e hf
  refine g_wi (va_runV ⟨hx, hb, hml, hown, hts⟩ (m_R_isShared e3) (cwV 1 hts (gG4 (fun _ h => List.mem_cons_of_mem _ h) tb_267 tb_247 tb_248 tb_240 tc_R_isShared) rfl rfl rfl (by decide +kernel) ⟨Nat.le_of_ble_eq_true rfl, Nat.le_of_ble_eq_true rfl⟩) (g_preVW (q0 := 10) hN hK hP hD gc_10 rfl) rfl rfl hl.1 rfl (lv_room (Nat.le_of_ble_eq_true rfl)) d_W_writeReference_5 ⟨Nat.zero_le _, Nat.zero_le _⟩) hD hS hA (fun _ => cW_fst) (fun y1 _ H locs hu hP hD hS => ?_)
  subst hu
  refine lv_if_eq (tgt := 43) hx hb d_W_writeReference_8 rfl (fun c4 => ?_) (fun c4 => ?_)
  · skip
    rw [if_pos c4] at hf
    refine lv_iload_n hx hb d_W_writeReference_43 rfl (lv_at hl 2 rfl) ?_
    refine lv_bipush (v := 16) hx hb d_W_writeReference_44 (by decide) ?_
    refine lv_icmp_ge (tgt := 57) hx hb d_W_writeReference_46 rfl (fun c5 => ?_) (fun c5 => ?_)
    · skip
      rw [if_pos c5] at hf
      obtain ⟨-, rfl⟩ := gRt_e hf
      exact g_vret hx hb hr hlocks hAe hS () trivial hP d_W_writeReference_57
    rw [if_neg c5] at hf
    refine lv_aload_n hx hb d_W_writeReference_49 rfl (lv_at hl 0 rfl) ?_
    refine lv_iload_n hx hb d_W_writeReference_50 rfl (lv_at hl 1 rfl) ?_
    refine lv_iload_n hx hb d_W_writeReference_51 rfl (lv_at hl 2 rfl) ?_
    refine lv_iconst (v := 1) hx hb d_W_writeReference_52 (by decide) ?_
    refine lv_iadd hx hb d_W_writeReference_53 ?_
    cases hf
  rw [if_neg c4] at hf
  refine lv_aload_n hx hb d_W_writeReference_11 rfl (lv_at hl 0 rfl) ?_
  refine lv_iload_n hx hb d_W_writeReference_12 rfl (lv_at hl 1 rfl) ?_
  obtain ⟨y9, σ10, e11, hf⟩ := gBd_e hf
  refine g_wv (va_runV ⟨hx, hb, hml, hown, hts⟩ (m_W_giveId e11) (cwV 1 hts (gG4 (fun _ h => List.mem_cons_of_mem _ h) tb_268 tb_269 tb_270 tb_265 tc_W_giveId) rfl rfl rfl (by decide +kernel) ⟨Nat.le_of_ble_eq_true rfl, Nat.le_of_ble_eq_true rfl⟩) (g_preVW (q0 := 17) hN hK hP hD gc_17 rfl) rfl rfl hl.1 rfl (lv_room (Nat.le_of_ble_eq_true rfl)) d_W_writeReference_13 ⟨Nat.zero_le _, Nat.zero_le _⟩) hD hS hA (fun _ => cW_fst) (fun _ H locs _ hP hD hS => ?_)
  refine lv_aload_n hx hb d_W_writeReference_16 rfl (lv_at hl 0 rfl) ?_
  cases hf

def B_W_writeFrom_0 (rec : Nat → List Int32 → gS → Option (Int32 × gS)) (x1 : Int32) (σ0 : gS) : Option (Int32 × gS) := gBd (f_R_startFrom σ0 x1) (fun _ σ2 => gBd (f_J_fill_WI σ2 0) (fun _ σ5 => gPut σ5 4 0 (fun σ7 => gPut σ7 1 0 (fun σ9 => none))))
def B_W_writeFrom_1 (rec : Nat → List Int32 → gS → Option (Int32 × gS)) (x2 : Int32) (σ0 : gS) : Option (Int32 × gS) := if 16 ≤ x2 then (rec 2 [] σ0) else (if (σ0.1 4) ≤ x2 then (rec 2 [] σ0) else (gLd σ0 19 16 x2 (fun y13 => none)))
def B_W_writeFrom_2 (rec : Nat → List Int32 → gS → Option (Int32 × gS)) (σ0 : gS) : Option (Int32 × gS) := none
def S_W_writeFrom (rec : Nat → List Int32 → gS → Option (Int32 × gS)) (k : Nat) (l : List Int32) (σ0 : gS) : Option (Int32 × gS) := match k, l with
  | 0, [x1] => B_W_writeFrom_0 rec x1 σ0
  | 1, [x2] => B_W_writeFrom_1 rec x2 σ0
  | 2, [] => B_W_writeFrom_2 rec  σ0
  | _, _ => none
def R_W_writeFrom : Nat → Nat → List Int32 → gS → Option (Int32 × gS)
  | 0 => fun _ _ _ => none
  | t + 1 => fun k l σ0 => S_W_writeFrom (R_W_writeFrom t) k l σ0
def f_W_writeFrom (σ : gS) (x1 : Int32) : Option (Int32 × gS) := R_W_writeFrom gFuel 0 [x1] σ
set_option maxHeartbeats 4000000 in
set_option maxRecDepth 100000 in
theorem m_W_writeFrom {l : Launch} {X : va_G} {cI cC cZ : ClassId} {a : Nat → Nat} {σ σ' : gS} {r : Int32} {q1 : Int32} (hf : f_W_writeFrom σ q1 = some (r, σ')) {sz : Nat} : Met l y_W_writeFrom w_W_writeFrom { frames := 4, cells := 0, slots := 0, locals := 87 } (gPc X vwCl (gT cI cC cZ) (cW cI cC cZ a σ) sz [.ref (a 17), .int q1]) (gQv X vwCl (cW cI cC cZ a σ) sz (fun (_ : Unit) => True) (fun _ => cW cI cC cZ a σ')) 0 0 (va_A (cW cI cC cZ a σ) sz) := by
  refine g_met (cc := b_W_writeFrom) (maxL := 3) (ret := none) (by decide) rfl (Nat.le_of_ble_eq_true rfl) ?_
  intro p e s m below meth c A ls hx hb hr hml hown hts hlocks hnm hsz hAe hA hP hK hD hS hl hN
  have hown : s.vm.findClass R_W = some m.cls := hown
  have u_0 : ∀ w ∈ u_ws R_W T_W 6, w ∈ w_W_writeFrom := fun w h => List.mem_cons_of_mem _ (tu_W w h)
  have u_1 : ∀ w ∈ u_ws R_P T_P 2, w ∈ w_W_writeFrom := fun w h => List.mem_cons_of_mem _ (tu_P w h)
  have k_0 := hts (.fieldLink R_W 22 "GraphPages$Writer" "reach" "LGraphPages$Reach;") (List.mem_cons_of_mem _ tb_271)
  have k_1 := hts (.fieldLink R_W 9 "GraphPages$Writer" "ids" "[I") (List.mem_cons_of_mem _ tb_249)
  have k_2 := hts (.initialized R_J) (List.mem_cons_of_mem _ tb_189)
  have k_3 := hts (.methodLink R_W 36 y_J_fill) (List.mem_cons_of_mem _ tb_275)
  have k_4 := hts (.static y_J_fill) (List.mem_cons_of_mem _ tb_191)
  have k_5 := hts (.fieldLink R_W 42 "GraphPages$Writer" "count" "I") (List.mem_cons_of_mem _ tb_251)
  have k_6 := hts (.fieldLink R_W 26 "GraphPages$Writer" "page" "LGraphPages$Page;") (List.mem_cons_of_mem _ tb_255)
  have k_7 := hts (.fieldLink R_W 46 "GraphPages$Page" "end" "I") (List.mem_cons_of_mem _ tb_276)
  have k_8 := hts (.fieldLink R_W 15 "GraphPages$Writer" "order" "[I") (List.mem_cons_of_mem _ tb_250)
  unfold f_W_writeFrom at hf
  have key : ∀ t : Nat, (∀ (x1 : Int32) (σ0 : gS) (H : Heap) (locs : List Loc) (ls : Array Slot), R_W_writeFrom t 0 [x1] σ0 = some (r, σ') → va_P X vwCl (cW cI cC cZ a σ0) H → va_D A (cW cI cC cZ a σ0) → va_S A s.heap H locs → lv_has ls 3 [(0, .ref (a 17)), (1, .int x1)] → W p l e (headSpec w_W_writeFrom { frames := 4, cells := 0, slots := 0, locals := 87 }).room s m [.ref (a 17), .int q1].toArray below meth c H locs 0 0 (MQ below (gQv X vwCl (cW cI cC cZ a σ) sz (fun (_ : Unit) => True) (fun _ => cW cI cC cZ a σ')) [.ref (a 17), .int q1].toArray s 0 0 (va_A (cW cI cC cZ a σ) sz)) (F0 m 0 ls [])) ∧ (∀ (x2 : Int32) (σ0 : gS) (H : Heap) (locs : List Loc) (ls : Array Slot), R_W_writeFrom t 1 [x2] σ0 = some (r, σ') → va_P X vwCl (cW cI cC cZ a σ0) H → va_D A (cW cI cC cZ a σ0) → va_S A s.heap H locs → lv_has ls 3 [(0, .ref (a 17)), (2, .int x2)] → W p l e (headSpec w_W_writeFrom { frames := 4, cells := 0, slots := 0, locals := 87 }).room s m [.ref (a 17), .int q1].toArray below meth c H locs 0 0 (MQ below (gQv X vwCl (cW cI cC cZ a σ) sz (fun (_ : Unit) => True) (fun _ => cW cI cC cZ a σ')) [.ref (a 17), .int q1].toArray s 0 0 (va_A (cW cI cC cZ a σ) sz)) (F0 m 43 ls [])) ∧ (∀ (σ0 : gS) (H : Heap) (locs : List Loc) (ls : Array Slot), R_W_writeFrom t 2 [] σ0 = some (r, σ') → va_P X vwCl (cW cI cC cZ a σ0) H → va_D A (cW cI cC cZ a σ0) → va_S A s.heap H locs → lv_has ls 3 [(0, .ref (a 17))] → W p l e (headSpec w_W_writeFrom { frames := 4, cells := 0, slots := 0, locals := 87 }).room s m [.ref (a 17), .int q1].toArray below meth c H locs 0 0 (MQ below (gQv X vwCl (cW cI cC cZ a σ) sz (fun (_ : Unit) => True) (fun _ => cW cI cC cZ a σ')) [.ref (a 17), .int q1].toArray s 0 0 (va_A (cW cI cC cZ a σ) sz)) (F0 m 74 ls [])) := by
    intro t
    induction t with
    | zero => exact ⟨fun _ _ _ _ _ hf => (by have hf : (none : Option (Int32 × gS)) = some (r, σ') := hf; cases hf), fun _ _ _ _ _ hf => (by have hf : (none : Option (Int32 × gS)) = some (r, σ') := hf; cases hf), fun  _ _ _ _ hf => (by have hf : (none : Option (Int32 × gS)) = some (r, σ') := hf; cases hf)⟩
    | succ t ih =>
      obtain ⟨ih0, ih1, ih2⟩ := ih
      refine ⟨?_, ?_, ?_⟩
      · intro x1 σ0 H locs ls hf hP hD hS hl
        have hf : B_W_writeFrom_0 (R_W_writeFrom t) x1 σ0 = some (r, σ') := hf
        unfold B_W_writeFrom_0 at hf
        refine lv_aload_n hx hb d_W_writeFrom_0 rfl (lv_at hl 0 rfl) ?_
        refine va_get (D := X) (ci := 7) (C := R_W) (T := T_W) (N := 6) hx hb hts u_0 hown hK hP 17 gc_17 rfl 1 (by decide) k_0 (fun _ h9 => h9) rfl d_W_writeFrom_1 ?_
        refine lv_iload_n hx hb d_W_writeFrom_4 rfl (lv_at hl 1 rfl) ?_
        obtain ⟨y1, σ2, e3, hf⟩ := gBd_e hf
        refine g_wv (va_runV ⟨hx, hb, hml, hown, hts⟩ (m_R_startFrom e3) (cwV 1 hts (gG4 (fun _ h => List.mem_cons_of_mem _ h) tb_272 tb_273 tb_274 tb_240 tc_R_startFrom) rfl rfl rfl (by decide +kernel) ⟨Nat.le_of_ble_eq_true rfl, Nat.le_of_ble_eq_true rfl⟩) (g_preVW (q0 := 10) hN hK hP hD gc_10 rfl) rfl rfl hl.1 rfl (lv_room (Nat.le_of_ble_eq_true rfl)) d_W_writeFrom_5 ⟨Nat.zero_le _, Nat.zero_le _⟩) hD hS hA (fun _ => cW_fst) (fun _ H locs _ hP hD hS => ?_)
        refine lv_aload_n hx hb d_W_writeFrom_8 rfl (lv_at hl 0 rfl) ?_
        refine va_get (D := X) (ci := 7) (C := R_W) (T := T_W) (N := 6) hx hb hts u_0 hown hK hP 17 gc_17 rfl 3 (by decide) k_1 (fun _ h9 => h9) rfl d_W_writeFrom_9 ?_
        refine lv_iconst (v := 0) hx hb d_W_writeFrom_12 (by decide) ?_
        obtain ⟨y4, σ5, e6, hf⟩ := gBd_e hf
        refine g_wv (va_runS ⟨hx, hb, hml, hown, hts⟩ (m_J_fill_WI e6) ⟨callB_of 2 hts (gG (fun _ h => List.mem_cons_of_mem _ h) tc_J_fill) rfl rfl rfl k_2 k_3 (by decide +kernel) ⟨Nat.le_of_ble_eq_true rfl, Nat.le_of_ble_eq_true rfl⟩, k_4⟩ (g_preSW hN hK hP hD) rfl rfl hl.1 rfl (lv_room (Nat.le_of_ble_eq_true rfl)) d_W_writeFrom_13 ⟨Nat.zero_le _, Nat.zero_le _⟩) hD hS hA (fun _ => cW_fst) (fun _ H locs _ hP hD hS => ?_)
        refine lv_aload_n hx hb d_W_writeFrom_16 rfl (lv_at hl 0 rfl) ?_
        refine lv_iconst (v := 0) hx hb d_W_writeFrom_17 (by decide) ?_
        obtain ⟨σ7, e8, hf⟩ := gPut_e hf
        refine va_put (D := X) (ci := 7) (ty := .int) (C := R_W) (T := T_W) (N := 6) hx hb hts u_0 t_W t_W_ok n_W hown hK hP hD hS 17 gc_17 rfl 5 (by decide) k_5 (fun _ h9 => h9) rfl (by decide +kernel) rfl rfl (Nat.le_of_ble_eq_true rfl) d_W_writeFrom_18 (fun H locs hP hD hS => ?_)
        rw [sc_17_5, ← e8] at hP hD
        refine lv_aload_n hx hb d_W_writeFrom_21 rfl (lv_at hl 0 rfl) ?_
        refine va_get (D := X) (ci := 7) (C := R_W) (T := T_W) (N := 6) hx hb hts u_0 hown hK hP 17 gc_17 rfl 2 (by decide) k_6 (fun _ h9 => h9) rfl d_W_writeFrom_22 ?_
        refine lv_iconst (v := 0) hx hb d_W_writeFrom_25 (by decide) ?_
        obtain ⟨σ9, e10, hf⟩ := gPut_e hf
        refine va_put (D := X) (ci := 5) (ty := .int) (C := R_P) (T := T_P) (N := 2) hx hb hts u_1 t_P t_P_ok n_P hown hK hP hD hS 7 gc_7 rfl 0 (by decide) k_7 (fun _ h9 => h9) rfl (by decide +kernel) rfl rfl (Nat.le_of_ble_eq_true rfl) d_W_writeFrom_26 (fun H locs hP hD hS => ?_)
        rw [sc_7_0, ← e10] at hP hD
        refine lv_aload_n hx hb d_W_writeFrom_29 rfl (lv_at hl 0 rfl) ?_
        cases hf
      · intro x2 σ0 H locs ls hf hP hD hS hl
        have hf : B_W_writeFrom_1 (R_W_writeFrom t) x2 σ0 = some (r, σ') := hf
        unfold B_W_writeFrom_1 at hf
        refine lv_iload_n hx hb d_W_writeFrom_43 rfl (lv_at hl 1 rfl) ?_
        refine lv_bipush (v := 16) hx hb d_W_writeFrom_44 (by decide) ?_
        refine lv_icmp_ge (tgt := 74) hx hb d_W_writeFrom_46 rfl (fun c11 => ?_) (fun c11 => ?_)
        · skip
          rw [if_pos c11] at hf
          exact ih2 σ0 _ _ _ hf hP hD hS (lv_sub hl [0] rfl)
        rw [if_neg c11] at hf
        refine lv_iload_n hx hb d_W_writeFrom_49 rfl (lv_at hl 1 rfl) ?_
        refine lv_aload_n hx hb d_W_writeFrom_50 rfl (lv_at hl 0 rfl) ?_
        refine va_get (D := X) (ci := 7) (C := R_W) (T := T_W) (N := 6) hx hb hts u_0 hown hK hP 17 gc_17 rfl 5 (by decide) k_5 (fun _ h9 => h9) rfl d_W_writeFrom_51 ?_
        refine lv_icmp_ge (tgt := 74) hx hb d_W_writeFrom_54 rfl (fun c12 => ?_) (fun c12 => ?_)
        · skip
          rw [if_pos c12] at hf
          exact ih2 σ0 _ _ _ hf hP hD hS (lv_sub hl [0] rfl)
        rw [if_neg c12] at hf
        refine lv_aload_n hx hb d_W_writeFrom_57 rfl (lv_at hl 0 rfl) ?_
        refine lv_aload_n hx hb d_W_writeFrom_58 rfl (lv_at hl 0 rfl) ?_
        refine va_get (D := X) (ci := 7) (C := R_W) (T := T_W) (N := 6) hx hb hts u_0 hown hK hP 17 gc_17 rfl 4 (by decide) k_8 (fun _ h9 => h9) rfl d_W_writeFrom_59 ?_
        refine lv_iload_n hx hb d_W_writeFrom_62 rfl (lv_at hl 1 rfl) ?_
        obtain ⟨y13, h14, e15, hf⟩ := gLd_e hf
        refine va_iald hx hb hK hP 19 0 gc_19 rfl h14 d_W_writeFrom_63 ?_
        rw [← e15]
        refine lv_iconst (v := 0) hx hb d_W_writeFrom_64 (by decide) ?_
        cases hf
      · intro  σ0 H locs ls hf hP hD hS hl
        have hf : B_W_writeFrom_2 (R_W_writeFrom t)  σ0 = some (r, σ') := hf
        unfold B_W_writeFrom_2 at hf
        refine lv_aload_n hx hb d_W_writeFrom_74 rfl (lv_at hl 0 rfl) ?_
        cases hf
  exact (key gFuel).1 q1 σ _ _ _ hf hP hD hS hl
