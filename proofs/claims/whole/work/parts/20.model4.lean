def f_M_target (σ : gS) (x1 : Int32) (x2 : Int32) : Option (Int32 × gS) := gBd (f_M_isObject σ x1) (fun y1 σ2 => if y1 = 0 then (gBd (f_M_countIn σ2 x1 8) (fun y5 σ6 => gBd (f_M_withId σ6 x2 y5 (-1)) (fun y8 σ9 => some (y8, σ9)))) else (some (x1, σ2)))
set_option maxHeartbeats 4000000 in
set_option maxRecDepth 100000 in
theorem m_M_target {l : Launch} {X : va_G} {cI cC cZ : ClassId} {aK aV : Nat → Nat} {b : Nat → Nat} {σ σ' : gS} {r : Int32} {x1 : Int32} {x2 : Int32} (hf : f_M_target σ x1 x2 = some (r, σ')) {sz : Nat} : Met l y_M_target w_M_target { frames := 3, cells := 0, slots := 0, locals := 71 } (gPc X vwCl (gT cI cC cZ) aK aV (mW cI cC cZ b σ) sz [.ref (b 0), .int x1, .int x2]) (gQi X vwCl (mW cI cC cZ b σ) sz (fun r' (_ : Unit) => r' = r) (fun _ => mW cI cC cZ b σ')) 0 0 (va_A (mW cI cC cZ b σ) sz) := by
  refine g_met (cc := b_M_target) (maxL := 3) (ret := (some .int)) (by decide) rfl (Nat.le_of_ble_eq_true rfl) ?_
  intro p e s m below meth c A ls hx hb hr hml hown hts hlocks hnm hsz hAe hA hP hK hD hS hl hE
  have hown : s.vm.findClass R_M = some m.cls := hown
  unfold f_M_target at hf
  refine lv_aload_n hx hb d_M_target_0 rfl (lv_at hl 0 rfl) ?_
  refine lv_iload_n hx hb d_M_target_1 rfl (lv_at hl 1 rfl) ?_
  obtain ⟨y1, σ2, e3, hf⟩ := gBd_e hf
  refine g_wi (va_runV ⟨hx, hb, hml, hown, hts⟩ (m_M_isObject e3) (cwV 1 hts (gG4 (fun _ h => List.mem_cons_of_mem _ h) tb_487 tb_488 tb_489 tb_392 tc_M_isObject) rfl rfl rfl (by decide +kernel) ⟨Nat.le_of_ble_eq_true rfl, Nat.le_of_ble_eq_true rfl⟩) (g_preVW (q0 := 0) hE hK hP hD hS hA gm_0 rfl) rfl rfl hl.1 rfl (lv_room (Nat.le_of_ble_eq_true rfl)) d_M_target_2 ⟨Nat.zero_le _, Nat.zero_le _⟩) hD hS hA (fun _ => mW_fst) (fun y1 _ H locs hu hP hD hS => ?_)
  subst hu
  refine lv_if_eq (tgt := 12) hx hb d_M_target_5 rfl (fun c4 => ?_) (fun c4 => ?_)
  · skip
    rw [if_pos c4] at hf
    refine lv_aload_n hx hb d_M_target_12 rfl (lv_at hl 0 rfl) ?_
    refine lv_iload_n hx hb d_M_target_13 rfl (lv_at hl 2 rfl) ?_
    refine lv_aload_n hx hb d_M_target_14 rfl (lv_at hl 0 rfl) ?_
    refine lv_iload_n hx hb d_M_target_15 rfl (lv_at hl 1 rfl) ?_
    refine lv_bipush (v := 8) hx hb d_M_target_16 (by decide) ?_
    obtain ⟨y5, σ6, e7, hf⟩ := gBd_e hf
    refine g_wi (va_runV ⟨hx, hb, hml, hown, hts⟩ (m_M_countIn e7) (cwV 2 hts (gG4 (fun _ h => List.mem_cons_of_mem _ h) tb_483 tb_484 tb_485 tb_392 tc_M_countIn) rfl rfl rfl (by decide +kernel) ⟨Nat.le_of_ble_eq_true rfl, Nat.le_of_ble_eq_true rfl⟩) (g_preVW (q0 := 0) hE hK hP hD hS hA gm_0 rfl) rfl rfl hl.1 rfl (lv_room (Nat.le_of_ble_eq_true rfl)) d_M_target_18 ⟨Nat.zero_le _, Nat.zero_le _⟩) hD hS hA (fun _ => mW_fst) (fun y5 _ H locs hu hP hD hS => ?_)
    subst hu
    refine lv_iconst (v := (-1)) hx hb d_M_target_21 (by decide) ?_
    obtain ⟨y8, σ9, e10, hf⟩ := gBd_e hf
    refine g_wi (va_runV ⟨hx, hb, hml, hown, hts⟩ (m_M_withId e10) (cwV 3 hts (gG4 (fun _ h => List.mem_cons_of_mem _ h) tb_506 tb_507 tb_508 tb_392 tc_M_withId) rfl rfl rfl (by decide +kernel) ⟨Nat.le_of_ble_eq_true rfl, Nat.le_of_ble_eq_true rfl⟩) (g_preVW (q0 := 0) hE hK hP hD hS hA gm_0 rfl) rfl rfl hl.1 rfl (lv_room (Nat.le_of_ble_eq_true rfl)) d_M_target_22 ⟨Nat.zero_le _, Nat.zero_le _⟩) hD hS hA (fun _ => mW_fst) (fun y8 _ H locs hu hP hD hS => ?_)
    subst hu
    obtain ⟨rfl, rfl⟩ := gRt_e hf
    exact g_zret hx hb hr hlocks rfl hAe hS () rfl hP d_M_target_25
  rw [if_neg c4] at hf
  refine lv_iload_n hx hb d_M_target_8 rfl (lv_at hl 1 rfl) ?_
  refine lv_goto (tgt := 25) hx hb d_M_target_9 rfl ?_
  obtain ⟨rfl, rfl⟩ := gRt_e hf
  exact g_zret hx hb hr hlocks rfl hAe hS () rfl hP d_M_target_25

def B_M_decode_0 (rec : Nat → List Int32 → gS → Option (Int32 × gS)) (σ0 : gS) : Option (Int32 × gS) := gBd (f_M_wellFormed σ0) (fun y1 σ2 => if y1 = 0 then (some ((-1), σ2)) else (gLd σ2 8 420 0 (fun y5 => if y5 = 5 then (gBd (f_M_isOne σ2 0 22) (fun y9 σ10 => if y9 = 0 then (some ((-2), σ10)) else (gBd (f_M_must σ10) (fun y13 σ14 => if y13 = 0 then (gBd (f_M_body σ14) (fun y17 σ18 => if y17 < 0 then (some ((-4), σ18)) else (gBd (f_M_lawful σ18 y17) (fun y21 σ22 => if y21 = 0 then (some ((-4), σ22)) else (rec 1 [y17, (y17 + 1)] σ22))))) else (some ((-3), σ14)))))) else (some ((-2), σ2)))))
def B_M_decode_1 (rec : Nat → List Int32 → gS → Option (Int32 × gS)) (x1 : Int32) (x2 : Int32) (σ0 : gS) : Option (Int32 × gS) := if (σ0.1 2) ≤ x2 then (rec 6 [x1, (x1 + 1)] σ0) else (gBd (f_M_isObject σ0 x2) (fun y26 σ27 => if y26 = 0 then (rec 5 [x1, x2] σ27) else (gLd σ27 8 420 x2 (fun y30 => if y30 = 16 then (rec 2 [x1, x2, x2, 0] σ27) else (gLd σ27 8 420 x2 (fun y34 => if y34 = 1 then (rec 2 [x1, x2, x2, 1] σ27) else (rec 2 [x1, x2, x2, 2] σ27)))))))
def B_M_decode_2 (rec : Nat → List Int32 → gS → Option (Int32 × gS)) (x1 : Int32) (x2 : Int32) (z1 : Int32) (z3 : Int32) (σ0 : gS) : Option (Int32 × gS) := gLd σ0 8 420 x2 (fun y38 => if y38 = 1 then (gBd (f_M_countIn σ0 x2 14) (fun y42 σ43 => rec 3 [x1, x2, z1, z3, y42] σ43)) else (rec 3 [x1, x2, z1, z3, 0] σ0))
def B_M_decode_3 (rec : Nat → List Int32 → gS → Option (Int32 × gS)) (x1 : Int32) (x2 : Int32) (z1 : Int32) (z3 : Int32) (z4 : Int32) (σ0 : gS) : Option (Int32 × gS) := gBd (f_M_make σ0 z3 z4) (fun y45 σ46 => gSt σ46 15 420 z1 y45 (fun σ48 => rec 4 [x1, x2, 0] σ48))
def B_M_decode_4 (rec : Nat → List Int32 → gS → Option (Int32 × gS)) (x1 : Int32) (x2 : Int32) (x3 : Int32) (σ0 : gS) : Option (Int32 × gS) := gLd σ0 8 420 x2 (fun y51 => if y51 = 20 then (gLd σ0 12 420 x2 (fun y55 => if y55 ≤ x3 then (rec 5 [x1, x2] σ0) else (gLd σ0 15 420 x2 (fun y59 => gLd σ0 13 5040 ((12 * x2) + x3) (fun y62 => gBd (f_M_type σ0 y59 y62) (fun y65 σ66 => rec 4 [x1, x2, (x3 + 1)] σ66)))))) else (rec 5 [x1, x2] σ0))
def B_M_decode_5 (rec : Nat → List Int32 → gS → Option (Int32 × gS)) (x1 : Int32) (x2 : Int32) (σ0 : gS) : Option (Int32 × gS) := rec 1 [x1, (x2 + 1)] σ0
def B_M_decode_6 (rec : Nat → List Int32 → gS → Option (Int32 × gS)) (x1 : Int32) (x2 : Int32) (σ0 : gS) : Option (Int32 × gS) := if (σ0.1 2) ≤ x2 then (gBd (f_M_target σ0 (x1 + 1) x1) (fun y69 σ70 => gLd σ70 15 420 y69 (fun y72 => some (y72, σ70)))) else (gLd σ0 9 420 x2 (fun y75 => if y75 = x1 then (rec 7 [x1, x2] σ0) else (gLd σ0 8 420 x2 (fun y79 => if y79 = 14 then (rec 7 [x1, x2] σ0) else (gLd σ0 9 420 x2 (fun y83 => gLd σ0 15 420 y83 (fun y86 => gLd σ0 8 420 x2 (fun y89 => if y89 = 9 then (gLd σ0 14 420 x2 (fun y105 => gBd (f_M_numberOf σ0 x2) (fun y108 σ109 => gBd (f_M_put σ109 y86 y105 y108.toInt32) (fun y111 σ112 => rec 7 [x1, x2] σ112)))) else (gLd σ0 14 420 x2 (fun y93 => gBd (f_M_target σ0 x2 x1) (fun y96 σ97 => gLd σ97 15 420 y96 (fun y99 => gBd (f_M_link σ97 y86 y93 y99) (fun y102 σ103 => rec 7 [x1, x2] σ103)))))))))))))
def B_M_decode_7 (rec : Nat → List Int32 → gS → Option (Int32 × gS)) (x1 : Int32) (x2 : Int32) (σ0 : gS) : Option (Int32 × gS) := rec 6 [x1, (x2 + 1)] σ0
def S_M_decode (rec : Nat → List Int32 → gS → Option (Int32 × gS)) (k : Nat) (l : List Int32) (σ0 : gS) : Option (Int32 × gS) := match k, l with
  | 0, [] => B_M_decode_0 rec  σ0
  | 1, [x1, x2] => B_M_decode_1 rec x1 x2 σ0
  | 2, [x1, x2, z1, z3] => B_M_decode_2 rec x1 x2 z1 z3 σ0
  | 3, [x1, x2, z1, z3, z4] => B_M_decode_3 rec x1 x2 z1 z3 z4 σ0
  | 4, [x1, x2, x3] => B_M_decode_4 rec x1 x2 x3 σ0
  | 5, [x1, x2] => B_M_decode_5 rec x1 x2 σ0
  | 6, [x1, x2] => B_M_decode_6 rec x1 x2 σ0
  | 7, [x1, x2] => B_M_decode_7 rec x1 x2 σ0
  | _, _ => none
def R_M_decode : Nat → Nat → List Int32 → gS → Option (Int32 × gS)
  | 0 => fun _ _ _ => none
  | t + 1 => fun k l σ0 => S_M_decode (R_M_decode t) k l σ0
def f_M_decode (σ : gS) : Option (Int32 × gS) := R_M_decode gFuel 0 [] σ
set_option maxHeartbeats 4000000 in
set_option maxRecDepth 100000 in
theorem m_M_decode {l : Launch} {X : va_G} {cI cC cZ : ClassId} {aK aV : Nat → Nat} {b : Nat → Nat} {σ σ' : gS} {r : Int32} (hf : f_M_decode σ = some (r, σ')) {sz : Nat} : Met l y_M_decode w_M_decode { frames := 5, cells := 0, slots := 0, locals := 117 } (gPc X vwCl (gT cI cC cZ) aK aV (mW cI cC cZ b σ) sz [.ref (b 0)]) (gQi X vwCl (mW cI cC cZ b σ) sz (fun r' (_ : Unit) => r' = r) (fun _ => mW cI cC cZ b σ')) 0 0 (va_A (mW cI cC cZ b σ) sz) := by
  refine g_met (cc := b_M_decode) (maxL := 4) (ret := (some .int)) (by decide) rfl (Nat.le_of_ble_eq_true rfl) ?_
  intro p e s m below meth c A ls hx hb hr hml hown hts hlocks hnm hsz hAe hA hP hK hD hS hl hE
  have hown : s.vm.findClass R_M = some m.cls := hown
  have u_0 : ∀ w ∈ u_ws R_M T_M 35, w ∈ w_M_decode := fun w h => List.mem_cons_of_mem _ (tu_M w h)
  have k_0 := hts (.fieldLink R_M 33 "GraphPagesModel" "name" "[I") (List.mem_cons_of_mem _ tb_450)
  have k_1 := hts (.fieldLink R_M 163 "GraphPagesModel" "elements" "I") (List.mem_cons_of_mem _ tb_465)
  have k_2 := hts (.fieldLink R_M 54 "GraphPagesModel" "made" "[I") (List.mem_cons_of_mem _ tb_536)
  have k_3 := hts (.fieldLink R_M 45 "GraphPagesModel" "textLength" "[I") (List.mem_cons_of_mem _ tb_466)
  have k_4 := hts (.fieldLink R_M 48 "GraphPagesModel" "text" "[C") (List.mem_cons_of_mem _ tb_467)
  have k_5 := hts (.fieldLink R_M 36 "GraphPagesModel" "parent" "[I") (List.mem_cons_of_mem _ tb_451)
  have k_6 := hts (.fieldLink R_M 51 "GraphPagesModel" "slot" "[I") (List.mem_cons_of_mem _ tb_499)
  unfold f_M_decode at hf
  have key : ∀ t : Nat, (∀ (σ0 : gS) (H : Heap) (locs : List Loc) (ls : Array Slot), R_M_decode t 0 [] σ0 = some (r, σ') → va_P X vwCl (mW cI cC cZ b σ0) H → va_D A (mW cI cC cZ b σ0) → va_S A s.heap H locs → lv_has ls 4 [(0, .ref (b 0))] → W p l e (headSpec w_M_decode { frames := 5, cells := 0, slots := 0, locals := 117 }).room s m [.ref (b 0)].toArray below meth c H locs 0 0 (MQ below (gQi X vwCl (mW cI cC cZ b σ) sz (fun r' (_ : Unit) => r' = r) (fun _ => mW cI cC cZ b σ')) [.ref (b 0)].toArray s 0 0 (va_A (mW cI cC cZ b σ) sz)) (F0 m 0 ls [])) ∧ (∀ (x1 : Int32) (x2 : Int32) (σ0 : gS) (H : Heap) (locs : List Loc) (ls : Array Slot), R_M_decode t 1 [x1, x2] σ0 = some (r, σ') → va_P X vwCl (mW cI cC cZ b σ0) H → va_D A (mW cI cC cZ b σ0) → va_S A s.heap H locs → lv_has ls 4 [(0, .ref (b 0)), (1, .int x1), (2, .int x2)] → W p l e (headSpec w_M_decode { frames := 5, cells := 0, slots := 0, locals := 117 }).room s m [.ref (b 0)].toArray below meth c H locs 0 0 (MQ below (gQi X vwCl (mW cI cC cZ b σ) sz (fun r' (_ : Unit) => r' = r) (fun _ => mW cI cC cZ b σ')) [.ref (b 0)].toArray s 0 0 (va_A (mW cI cC cZ b σ) sz)) (F0 m 66 ls [])) ∧ (∀ (x1 : Int32) (x2 : Int32) (z1 : Int32) (z3 : Int32) (σ0 : gS) (H : Heap) (locs : List Loc) (ls : Array Slot), R_M_decode t 2 [x1, x2, z1, z3] σ0 = some (r, σ') → va_P X vwCl (mW cI cC cZ b σ0) H → va_D A (mW cI cC cZ b σ0) → va_S A s.heap H locs → lv_has ls 4 [(0, .ref (b 0)), (1, .int x1), (2, .int x2)] → W p l e (headSpec w_M_decode { frames := 5, cells := 0, slots := 0, locals := 117 }).room s m [.ref (b 0)].toArray below meth c H locs 0 0 (MQ below (gQi X vwCl (mW cI cC cZ b σ) sz (fun r' (_ : Unit) => r' = r) (fun _ => mW cI cC cZ b σ')) [.ref (b 0)].toArray s 0 0 (va_A (mW cI cC cZ b σ) sz)) (F0 m 121 ls [.int z3, .ref (b 0), .int z1, .ref (b 15)])) ∧ (∀ (x1 : Int32) (x2 : Int32) (z1 : Int32) (z3 : Int32) (z4 : Int32) (σ0 : gS) (H : Heap) (locs : List Loc) (ls : Array Slot), R_M_decode t 3 [x1, x2, z1, z3, z4] σ0 = some (r, σ') → va_P X vwCl (mW cI cC cZ b σ0) H → va_D A (mW cI cC cZ b σ0) → va_S A s.heap H locs → lv_has ls 4 [(0, .ref (b 0)), (1, .int x1), (2, .int x2)] → W p l e (headSpec w_M_decode { frames := 5, cells := 0, slots := 0, locals := 117 }).room s m [.ref (b 0)].toArray below meth c H locs 0 0 (MQ below (gQi X vwCl (mW cI cC cZ b σ) sz (fun r' (_ : Unit) => r' = r) (fun _ => mW cI cC cZ b σ')) [.ref (b 0)].toArray s 0 0 (va_A (mW cI cC cZ b σ) sz)) (F0 m 142 ls [.int z4, .int z3, .ref (b 0), .int z1, .ref (b 15)])) ∧ (∀ (x1 : Int32) (x2 : Int32) (x3 : Int32) (σ0 : gS) (H : Heap) (locs : List Loc) (ls : Array Slot), R_M_decode t 4 [x1, x2, x3] σ0 = some (r, σ') → va_P X vwCl (mW cI cC cZ b σ0) H → va_D A (mW cI cC cZ b σ0) → va_S A s.heap H locs → lv_has ls 4 [(0, .ref (b 0)), (1, .int x1), (2, .int x2), (3, .int x3)] → W p l e (headSpec w_M_decode { frames := 5, cells := 0, slots := 0, locals := 117 }).room s m [.ref (b 0)].toArray below meth c H locs 0 0 (MQ below (gQi X vwCl (mW cI cC cZ b σ) sz (fun r' (_ : Unit) => r' = r) (fun _ => mW cI cC cZ b σ')) [.ref (b 0)].toArray s 0 0 (va_A (mW cI cC cZ b σ) sz)) (F0 m 148 ls [])) ∧ (∀ (x1 : Int32) (x2 : Int32) (σ0 : gS) (H : Heap) (locs : List Loc) (ls : Array Slot), R_M_decode t 5 [x1, x2] σ0 = some (r, σ') → va_P X vwCl (mW cI cC cZ b σ0) H → va_D A (mW cI cC cZ b σ0) → va_S A s.heap H locs → lv_has ls 4 [(0, .ref (b 0)), (1, .int x1), (2, .int x2)] → W p l e (headSpec w_M_decode { frames := 5, cells := 0, slots := 0, locals := 117 }).room s m [.ref (b 0)].toArray below meth c H locs 0 0 (MQ below (gQi X vwCl (mW cI cC cZ b σ) sz (fun r' (_ : Unit) => r' = r) (fun _ => mW cI cC cZ b σ')) [.ref (b 0)].toArray s 0 0 (va_A (mW cI cC cZ b σ) sz)) (F0 m 197 ls [])) ∧ (∀ (x1 : Int32) (x2 : Int32) (σ0 : gS) (H : Heap) (locs : List Loc) (ls : Array Slot), R_M_decode t 6 [x1, x2] σ0 = some (r, σ') → va_P X vwCl (mW cI cC cZ b σ0) H → va_D A (mW cI cC cZ b σ0) → va_S A s.heap H locs → lv_has ls 4 [(0, .ref (b 0)), (1, .int x1), (2, .int x2)] → W p l e (headSpec w_M_decode { frames := 5, cells := 0, slots := 0, locals := 117 }).room s m [.ref (b 0)].toArray below meth c H locs 0 0 (MQ below (gQi X vwCl (mW cI cC cZ b σ) sz (fun r' (_ : Unit) => r' = r) (fun _ => mW cI cC cZ b σ')) [.ref (b 0)].toArray s 0 0 (va_A (mW cI cC cZ b σ) sz)) (F0 m 207 ls [])) ∧ (∀ (x1 : Int32) (x2 : Int32) (σ0 : gS) (H : Heap) (locs : List Loc) (ls : Array Slot), R_M_decode t 7 [x1, x2] σ0 = some (r, σ') → va_P X vwCl (mW cI cC cZ b σ0) H → va_D A (mW cI cC cZ b σ0) → va_S A s.heap H locs → lv_has ls 4 [(0, .ref (b 0)), (1, .int x1), (2, .int x2)] → W p l e (headSpec w_M_decode { frames := 5, cells := 0, slots := 0, locals := 117 }).room s m [.ref (b 0)].toArray below meth c H locs 0 0 (MQ below (gQi X vwCl (mW cI cC cZ b σ) sz (fun r' (_ : Unit) => r' = r) (fun _ => mW cI cC cZ b σ')) [.ref (b 0)].toArray s 0 0 (va_A (mW cI cC cZ b σ) sz)) (F0 m 306 ls [])) := by
    intro t
    induction t with
    | zero => exact ⟨fun  _ _ _ _ hf => (by have hf : (none : Option (Int32 × gS)) = some (r, σ') := hf; cases hf), fun _ _ _ _ _ _ hf => (by have hf : (none : Option (Int32 × gS)) = some (r, σ') := hf; cases hf), fun _ _ _ _ _ _ _ _ hf => (by have hf : (none : Option (Int32 × gS)) = some (r, σ') := hf; cases hf), fun _ _ _ _ _ _ _ _ _ hf => (by have hf : (none : Option (Int32 × gS)) = some (r, σ') := hf; cases hf), fun _ _ _ _ _ _ _ hf => (by have hf : (none : Option (Int32 × gS)) = some (r, σ') := hf; cases hf), fun _ _ _ _ _ _ hf => (by have hf : (none : Option (Int32 × gS)) = some (r, σ') := hf; cases hf), fun _ _ _ _ _ _ hf => (by have hf : (none : Option (Int32 × gS)) = some (r, σ') := hf; cases hf), fun _ _ _ _ _ _ hf => (by have hf : (none : Option (Int32 × gS)) = some (r, σ') := hf; cases hf)⟩
    | succ t ih =>
      obtain ⟨ih0, ih1, ih2, ih3, ih4, ih5, ih6, ih7⟩ := ih
      refine ⟨?_, ?_, ?_, ?_, ?_, ?_, ?_, ?_⟩
      · intro  σ0 H locs ls hf hP hD hS hl
        have hf : B_M_decode_0 (R_M_decode t)  σ0 = some (r, σ') := hf
        unfold B_M_decode_0 at hf
        refine lv_aload_n hx hb d_M_decode_0 rfl (lv_at hl 0 rfl) ?_
        obtain ⟨y1, σ2, e3, hf⟩ := gBd_e hf
        refine g_wi (va_runV ⟨hx, hb, hml, hown, hts⟩ (m_M_wellFormed e3) (cwV 0 hts (gG4 (fun _ h => List.mem_cons_of_mem _ h) tb_509 tb_510 tb_511 tb_392 tc_M_wellFormed) rfl rfl rfl (by decide +kernel) ⟨Nat.le_of_ble_eq_true rfl, Nat.le_of_ble_eq_true rfl⟩) (g_preVW (q0 := 0) hE hK hP hD hS hA gm_0 rfl) rfl rfl hl.1 rfl (lv_room (Nat.le_of_ble_eq_true rfl)) d_M_decode_1 ⟨Nat.zero_le _, Nat.zero_le _⟩) hD hS hA (fun _ => mW_fst) (fun y1 _ H locs hu hP hD hS => ?_)
        subst hu
        refine lv_if_ne (tgt := 9) hx hb d_M_decode_4 rfl (fun c4 => ?_) (fun c4 => ?_)
        · skip
          rw [if_neg c4] at hf
          refine lv_aload_n hx hb d_M_decode_9 rfl (lv_at hl 0 rfl) ?_
          refine va_get (D := X) (ci := 9) (C := R_M) (T := T_M) (N := 35) hx hb hts u_0 hown hK hP 0 gm_0 rfl 10 (by decide) k_0 (fun _ h9 => h9) rfl d_M_decode_10 ?_
          refine lv_iconst (v := 0) hx hb d_M_decode_13 (by decide) ?_
          obtain ⟨y5, h6, e7, hf⟩ := gLd_e hf
          refine va_iald hx hb hK hP 8 0 gm_8 rfl h6 d_M_decode_14 ?_
          rw [← e7]
          refine lv_iconst (v := 5) hx hb d_M_decode_15 (by decide) ?_
          refine lv_icmp_ne (tgt := 29) hx hb d_M_decode_16 rfl (fun c8 => ?_) (fun c8 => ?_)
          · skip
            rw [if_neg c8] at hf
            refine lv_bipush (v := (-2)) hx hb d_M_decode_29 (by decide) ?_
            obtain ⟨rfl, rfl⟩ := gRt_e hf
            exact g_zret hx hb hr hlocks rfl hAe hS () rfl hP d_M_decode_31
          rw [if_pos c8] at hf
          refine lv_aload_n hx hb d_M_decode_19 rfl (lv_at hl 0 rfl) ?_
          refine lv_iconst (v := 0) hx hb d_M_decode_20 (by decide) ?_
          refine lv_bipush (v := 22) hx hb d_M_decode_21 (by decide) ?_
          obtain ⟨y9, σ10, e11, hf⟩ := gBd_e hf
          refine g_wi (va_runV ⟨hx, hb, hml, hown, hts⟩ (m_M_isOne e11) (cwV 2 hts (gG4 (fun _ h => List.mem_cons_of_mem _ h) tb_480 tb_481 tb_482 tb_392 tc_M_isOne) rfl rfl rfl (by decide +kernel) ⟨Nat.le_of_ble_eq_true rfl, Nat.le_of_ble_eq_true rfl⟩) (g_preVW (q0 := 0) hE hK hP hD hS hA gm_0 rfl) rfl rfl hl.1 rfl (lv_room (Nat.le_of_ble_eq_true rfl)) d_M_decode_23 ⟨Nat.zero_le _, Nat.zero_le _⟩) hD hS hA (fun _ => mW_fst) (fun y9 _ H locs hu hP hD hS => ?_)
          subst hu
          refine lv_if_ne (tgt := 32) hx hb d_M_decode_26 rfl (fun c12 => ?_) (fun c12 => ?_)
          · skip
            rw [if_neg c12] at hf
            refine lv_aload_n hx hb d_M_decode_32 rfl (lv_at hl 0 rfl) ?_
            obtain ⟨y13, σ14, e15, hf⟩ := gBd_e hf
            refine g_wi (va_runV ⟨hx, hb, hml, hown, hts⟩ (m_M_must e15) (cwV 0 hts (gG4 (fun _ h => List.mem_cons_of_mem _ h) tb_512 tb_513 tb_514 tb_392 tc_M_must) rfl rfl rfl (by decide +kernel) ⟨Nat.le_of_ble_eq_true rfl, Nat.le_of_ble_eq_true rfl⟩) (g_preVW (q0 := 0) hE hK hP hD hS hA gm_0 rfl) rfl rfl hl.1 rfl (lv_room (Nat.le_of_ble_eq_true rfl)) d_M_decode_33 ⟨Nat.zero_le _, Nat.zero_le _⟩) hD hS hA (fun _ => mW_fst) (fun y13 _ H locs hu hP hD hS => ?_)
            subst hu
            refine lv_if_eq (tgt := 42) hx hb d_M_decode_36 rfl (fun c16 => ?_) (fun c16 => ?_)
            · skip
              rw [if_pos c16] at hf
              refine lv_aload_n hx hb d_M_decode_42 rfl (lv_at hl 0 rfl) ?_
              obtain ⟨y17, σ18, e19, hf⟩ := gBd_e hf
              refine g_wi (va_runV ⟨hx, hb, hml, hown, hts⟩ (m_M_body e19) (cwV 0 hts (gG4 (fun _ h => List.mem_cons_of_mem _ h) tb_515 tb_516 tb_517 tb_392 tc_M_body) rfl rfl rfl (by decide +kernel) ⟨Nat.le_of_ble_eq_true rfl, Nat.le_of_ble_eq_true rfl⟩) (g_preVW (q0 := 0) hE hK hP hD hS hA gm_0 rfl) rfl rfl hl.1 rfl (lv_room (Nat.le_of_ble_eq_true rfl)) d_M_decode_43 ⟨Nat.zero_le _, Nat.zero_le _⟩) hD hS hA (fun _ => mW_fst) (fun y17 _ H locs hu hP hD hS => ?_)
              subst hu
              refine lv_istore_n hx hb d_M_decode_46 rfl hl (by decide) rfl (fun ls hl => ?_)
              refine lv_iload_n hx hb d_M_decode_47 rfl (lv_at hl 0 rfl) ?_
              refine lv_if_lt (tgt := 59) hx hb d_M_decode_48 rfl (fun c20 => ?_) (fun c20 => ?_)
              · skip
                rw [if_pos c20] at hf
                refine lv_bipush (v := (-4)) hx hb d_M_decode_59 (by decide) ?_
                obtain ⟨rfl, rfl⟩ := gRt_e hf
                exact g_zret hx hb hr hlocks rfl hAe hS () rfl hP d_M_decode_61
              rw [if_neg c20] at hf
              refine lv_aload_n hx hb d_M_decode_51 rfl (lv_at hl 1 rfl) ?_
              refine lv_iload_n hx hb d_M_decode_52 rfl (lv_at hl 0 rfl) ?_
              obtain ⟨y21, σ22, e23, hf⟩ := gBd_e hf
              refine g_wi (va_runV ⟨hx, hb, hml, hown, hts⟩ (m_M_lawful e23) (cwV 1 hts (gG4 (fun _ h => List.mem_cons_of_mem _ h) tb_518 tb_519 tb_520 tb_392 tc_M_lawful) rfl rfl rfl (by decide +kernel) ⟨Nat.le_of_ble_eq_true rfl, Nat.le_of_ble_eq_true rfl⟩) (g_preVW (q0 := 0) hE hK hP hD hS hA gm_0 rfl) rfl rfl hl.1 rfl (lv_room (Nat.le_of_ble_eq_true rfl)) d_M_decode_53 ⟨Nat.zero_le _, Nat.zero_le _⟩) hD hS hA (fun _ => mW_fst) (fun y21 _ H locs hu hP hD hS => ?_)
              subst hu
              refine lv_if_ne (tgt := 62) hx hb d_M_decode_56 rfl (fun c24 => ?_) (fun c24 => ?_)
              · skip
                rw [if_neg c24] at hf
                refine lv_iload_n hx hb d_M_decode_62 rfl (lv_at hl 0 rfl) ?_
                refine lv_iconst (v := 1) hx hb d_M_decode_63 (by decide) ?_
                refine lv_iadd hx hb d_M_decode_64 ?_
                refine lv_istore_n hx hb d_M_decode_65 rfl hl (by decide) rfl (fun ls hl => ?_)
                exact ih1 (y17) ((y17 + 1)) σ22 _ _ _ hf hP hD hS (lv_sub hl [2, 1, 0] rfl)
              rw [if_pos c24] at hf
              refine lv_bipush (v := (-4)) hx hb d_M_decode_59 (by decide) ?_
              obtain ⟨rfl, rfl⟩ := gRt_e hf
              exact g_zret hx hb hr hlocks rfl hAe hS () rfl hP d_M_decode_61
            rw [if_neg c16] at hf
            refine lv_bipush (v := (-3)) hx hb d_M_decode_39 (by decide) ?_
            obtain ⟨rfl, rfl⟩ := gRt_e hf
            exact g_zret hx hb hr hlocks rfl hAe hS () rfl hP d_M_decode_41
          rw [if_pos c12] at hf
          refine lv_bipush (v := (-2)) hx hb d_M_decode_29 (by decide) ?_
          obtain ⟨rfl, rfl⟩ := gRt_e hf
          exact g_zret hx hb hr hlocks rfl hAe hS () rfl hP d_M_decode_31
        rw [if_pos c4] at hf
        refine lv_iconst (v := (-1)) hx hb d_M_decode_7 (by decide) ?_
        obtain ⟨rfl, rfl⟩ := gRt_e hf
        exact g_zret hx hb hr hlocks rfl hAe hS () rfl hP d_M_decode_8
      · intro x1 x2 σ0 H locs ls hf hP hD hS hl
        have hf : B_M_decode_1 (R_M_decode t) x1 x2 σ0 = some (r, σ') := hf
        unfold B_M_decode_1 at hf
        refine lv_iload_n hx hb d_M_decode_66 rfl (lv_at hl 2 rfl) ?_
        refine lv_aload_n hx hb d_M_decode_67 rfl (lv_at hl 0 rfl) ?_
        refine va_get (D := X) (ci := 9) (C := R_M) (T := T_M) (N := 35) hx hb hts u_0 hown hK hP 0 gm_0 rfl 9 (by decide) k_1 (fun _ h9 => h9) rfl d_M_decode_68 ?_
        refine lv_icmp_ge (tgt := 203) hx hb d_M_decode_71 rfl (fun c25 => ?_) (fun c25 => ?_)
        · skip
          rw [if_pos c25] at hf
          refine lv_iload_n hx hb d_M_decode_203 rfl (lv_at hl 1 rfl) ?_
          refine lv_iconst (v := 1) hx hb d_M_decode_204 (by decide) ?_
          refine lv_iadd hx hb d_M_decode_205 ?_
          refine lv_istore_n hx hb d_M_decode_206 rfl hl (by decide) rfl (fun ls hl => ?_)
          exact ih6 (x1) ((x1 + 1)) σ0 _ _ _ hf hP hD hS (lv_sub hl [1, 2, 0] rfl)
        rw [if_neg c25] at hf
        refine lv_aload_n hx hb d_M_decode_74 rfl (lv_at hl 0 rfl) ?_
        refine lv_iload_n hx hb d_M_decode_75 rfl (lv_at hl 2 rfl) ?_
        obtain ⟨y26, σ27, e28, hf⟩ := gBd_e hf
        refine g_wi (va_runV ⟨hx, hb, hml, hown, hts⟩ (m_M_isObject e28) (cwV 1 hts (gG4 (fun _ h => List.mem_cons_of_mem _ h) tb_487 tb_488 tb_489 tb_392 tc_M_isObject) rfl rfl rfl (by decide +kernel) ⟨Nat.le_of_ble_eq_true rfl, Nat.le_of_ble_eq_true rfl⟩) (g_preVW (q0 := 0) hE hK hP hD hS hA gm_0 rfl) rfl rfl hl.1 rfl (lv_room (Nat.le_of_ble_eq_true rfl)) d_M_decode_76 ⟨Nat.zero_le _, Nat.zero_le _⟩) hD hS hA (fun _ => mW_fst) (fun y26 _ H locs hu hP hD hS => ?_)
        subst hu
        refine lv_if_ne (tgt := 85) hx hb d_M_decode_79 rfl (fun c29 => ?_) (fun c29 => ?_)
        · skip
          rw [if_neg c29] at hf
          refine lv_aload_n hx hb d_M_decode_85 rfl (lv_at hl 0 rfl) ?_
          refine va_get (D := X) (ci := 9) (C := R_M) (T := T_M) (N := 35) hx hb hts u_0 hown hK hP 0 gm_0 rfl 17 (by decide) k_2 (fun _ h9 => h9) rfl d_M_decode_86 ?_
          refine lv_iload_n hx hb d_M_decode_89 rfl (lv_at hl 2 rfl) ?_
          refine lv_aload_n hx hb d_M_decode_90 rfl (lv_at hl 0 rfl) ?_
          refine lv_aload_n hx hb d_M_decode_91 rfl (lv_at hl 0 rfl) ?_
          refine va_get (D := X) (ci := 9) (C := R_M) (T := T_M) (N := 35) hx hb hts u_0 hown hK hP 0 gm_0 rfl 10 (by decide) k_0 (fun _ h9 => h9) rfl d_M_decode_92 ?_
          refine lv_iload_n hx hb d_M_decode_95 rfl (lv_at hl 2 rfl) ?_
          obtain ⟨y30, h31, e32, hf⟩ := gLd_e hf
          refine va_iald hx hb hK hP 8 0 gm_8 rfl h31 d_M_decode_96 ?_
          rw [← e32]
          refine lv_bipush (v := 16) hx hb d_M_decode_97 (by decide) ?_
          refine lv_icmp_ne (tgt := 106) hx hb d_M_decode_99 rfl (fun c33 => ?_) (fun c33 => ?_)
          · skip
            rw [if_neg c33] at hf
            refine lv_aload_n hx hb d_M_decode_106 rfl (lv_at hl 0 rfl) ?_
            refine va_get (D := X) (ci := 9) (C := R_M) (T := T_M) (N := 35) hx hb hts u_0 hown hK hP 0 gm_0 rfl 10 (by decide) k_0 (fun _ h9 => h9) rfl d_M_decode_107 ?_
            refine lv_iload_n hx hb d_M_decode_110 rfl (lv_at hl 2 rfl) ?_
            obtain ⟨y34, h35, e36, hf⟩ := gLd_e hf
            refine va_iald hx hb hK hP 8 0 gm_8 rfl h35 d_M_decode_111 ?_
            rw [← e36]
            refine lv_iconst (v := 1) hx hb d_M_decode_112 (by decide) ?_
            refine lv_icmp_ne (tgt := 120) hx hb d_M_decode_113 rfl (fun c37 => ?_) (fun c37 => ?_)
            · skip
              rw [if_neg c37] at hf
              refine lv_iconst (v := 2) hx hb d_M_decode_120 (by decide) ?_
              exact ih2 (x1) (x2) (x2) (2) σ27 _ _ _ hf hP hD hS (lv_sub hl [0, 1, 2] rfl)
            rw [if_pos c37] at hf
            refine lv_iconst (v := 1) hx hb d_M_decode_116 (by decide) ?_
            refine lv_goto (tgt := 121) hx hb d_M_decode_117 rfl ?_
            exact ih2 (x1) (x2) (x2) (1) σ27 _ _ _ hf hP hD hS (lv_sub hl [0, 1, 2] rfl)
          rw [if_pos c33] at hf
          refine lv_iconst (v := 0) hx hb d_M_decode_102 (by decide) ?_
          refine lv_goto (tgt := 121) hx hb d_M_decode_103 rfl ?_
          exact ih2 (x1) (x2) (x2) (0) σ27 _ _ _ hf hP hD hS (lv_sub hl [0, 1, 2] rfl)
        rw [if_pos c29] at hf
        refine lv_goto (tgt := 197) hx hb d_M_decode_82 rfl ?_
        exact ih5 (x1) (x2) σ27 _ _ _ hf hP hD hS (lv_sub hl [0, 1, 2] rfl)
      · intro x1 x2 z1 z3 σ0 H locs ls hf hP hD hS hl
        have hf : B_M_decode_2 (R_M_decode t) x1 x2 z1 z3 σ0 = some (r, σ') := hf
        unfold B_M_decode_2 at hf
        refine lv_aload_n hx hb d_M_decode_121 rfl (lv_at hl 0 rfl) ?_
        refine va_get (D := X) (ci := 9) (C := R_M) (T := T_M) (N := 35) hx hb hts u_0 hown hK hP 0 gm_0 rfl 10 (by decide) k_0 (fun _ h9 => h9) rfl d_M_decode_122 ?_
        refine lv_iload_n hx hb d_M_decode_125 rfl (lv_at hl 2 rfl) ?_
        obtain ⟨y38, h39, e40, hf⟩ := gLd_e hf
        refine va_iald hx hb hK hP 8 0 gm_8 rfl h39 d_M_decode_126 ?_
        rw [← e40]
        refine lv_iconst (v := 1) hx hb d_M_decode_127 (by decide) ?_
        refine lv_icmp_ne (tgt := 141) hx hb d_M_decode_128 rfl (fun c41 => ?_) (fun c41 => ?_)
        · skip
          rw [if_neg c41] at hf
          refine lv_iconst (v := 0) hx hb d_M_decode_141 (by decide) ?_
          exact ih3 (x1) (x2) (z1) (z3) (0) σ0 _ _ _ hf hP hD hS (lv_sub hl [0, 1, 2] rfl)
        rw [if_pos c41] at hf
        refine lv_aload_n hx hb d_M_decode_131 rfl (lv_at hl 0 rfl) ?_
        refine lv_iload_n hx hb d_M_decode_132 rfl (lv_at hl 2 rfl) ?_
        refine lv_bipush (v := 14) hx hb d_M_decode_133 (by decide) ?_
        obtain ⟨y42, σ43, e44, hf⟩ := gBd_e hf
        refine g_wi (va_runV ⟨hx, hb, hml, hown, hts⟩ (m_M_countIn e44) (cwV 2 hts (gG4 (fun _ h => List.mem_cons_of_mem _ h) tb_483 tb_484 tb_485 tb_392 tc_M_countIn) rfl rfl rfl (by decide +kernel) ⟨Nat.le_of_ble_eq_true rfl, Nat.le_of_ble_eq_true rfl⟩) (g_preVW (q0 := 0) hE hK hP hD hS hA gm_0 rfl) rfl rfl hl.1 rfl (lv_room (Nat.le_of_ble_eq_true rfl)) d_M_decode_135 ⟨Nat.zero_le _, Nat.zero_le _⟩) hD hS hA (fun _ => mW_fst) (fun y42 _ H locs hu hP hD hS => ?_)
        subst hu
        refine lv_goto (tgt := 142) hx hb d_M_decode_138 rfl ?_
        exact ih3 (x1) (x2) (z1) (z3) (y42) σ43 _ _ _ hf hP hD hS (lv_sub hl [0, 1, 2] rfl)
      · intro x1 x2 z1 z3 z4 σ0 H locs ls hf hP hD hS hl
        have hf : B_M_decode_3 (R_M_decode t) x1 x2 z1 z3 z4 σ0 = some (r, σ') := hf
        unfold B_M_decode_3 at hf
        obtain ⟨y45, σ46, e47, hf⟩ := gBd_e hf
        refine g_wi (va_runV ⟨hx, hb, hml, hown, hts⟩ (m_M_make e47) (cwV 2 hts (gG4 (fun _ h => List.mem_cons_of_mem _ h) tb_521 tb_522 tb_523 tb_392 tc_M_make) rfl rfl rfl (by decide +kernel) ⟨Nat.le_of_ble_eq_true rfl, Nat.le_of_ble_eq_true rfl⟩) (g_preVW (q0 := 0) hE hK hP hD hS hA gm_0 rfl) rfl rfl hl.1 rfl (lv_room (Nat.le_of_ble_eq_true rfl)) d_M_decode_142 ⟨Nat.zero_le _, Nat.zero_le _⟩) hD hS hA (fun _ => mW_fst) (fun y45 _ H locs hu hP hD hS => ?_)
        subst hu
        obtain ⟨σ48, h49, e50, hf⟩ := gSt_e hf
        refine va_iast hx hb hK hP hD hS 15 0 gm_15 rfl h49 d_M_decode_145 (fun H locs hP hD hS => ?_)
        rw [sm_15, ← e50] at hP hD
        refine lv_iconst (v := 0) hx hb d_M_decode_146 (by decide) ?_
        refine lv_istore_n hx hb d_M_decode_147 rfl hl (by decide) rfl (fun ls hl => ?_)
        exact ih4 (x1) (x2) (0) σ48 _ _ _ hf hP hD hS (lv_sub hl [1, 2, 3, 0] rfl)
      · intro x1 x2 x3 σ0 H locs ls hf hP hD hS hl
        have hf : B_M_decode_4 (R_M_decode t) x1 x2 x3 σ0 = some (r, σ') := hf
        unfold B_M_decode_4 at hf
        refine lv_aload_n hx hb d_M_decode_148 rfl (lv_at hl 0 rfl) ?_
        refine va_get (D := X) (ci := 9) (C := R_M) (T := T_M) (N := 35) hx hb hts u_0 hown hK hP 0 gm_0 rfl 10 (by decide) k_0 (fun _ h9 => h9) rfl d_M_decode_149 ?_
        refine lv_iload_n hx hb d_M_decode_152 rfl (lv_at hl 2 rfl) ?_
        obtain ⟨y51, h52, e53, hf⟩ := gLd_e hf
        refine va_iald hx hb hK hP 8 0 gm_8 rfl h52 d_M_decode_153 ?_
        rw [← e53]
        refine lv_bipush (v := 20) hx hb d_M_decode_154 (by decide) ?_
        refine lv_icmp_ne (tgt := 197) hx hb d_M_decode_156 rfl (fun c54 => ?_) (fun c54 => ?_)
        · skip
          rw [if_neg c54] at hf
          exact ih5 (x1) (x2) σ0 _ _ _ hf hP hD hS (lv_sub hl [0, 1, 2] rfl)
        rw [if_pos c54] at hf
        refine lv_iload_n hx hb d_M_decode_159 rfl (lv_at hl 3 rfl) ?_
        refine lv_aload_n hx hb d_M_decode_160 rfl (lv_at hl 0 rfl) ?_
        refine va_get (D := X) (ci := 9) (C := R_M) (T := T_M) (N := 35) hx hb hts u_0 hown hK hP 0 gm_0 rfl 14 (by decide) k_3 (fun _ h9 => h9) rfl d_M_decode_161 ?_
        refine lv_iload_n hx hb d_M_decode_164 rfl (lv_at hl 2 rfl) ?_
        obtain ⟨y55, h56, e57, hf⟩ := gLd_e hf
        refine va_iald hx hb hK hP 12 0 gm_12 rfl h56 d_M_decode_165 ?_
        rw [← e57]
        refine lv_icmp_ge (tgt := 197) hx hb d_M_decode_166 rfl (fun c58 => ?_) (fun c58 => ?_)
        · skip
          rw [if_pos c58] at hf
          exact ih5 (x1) (x2) σ0 _ _ _ hf hP hD hS (lv_sub hl [0, 1, 2] rfl)
        rw [if_neg c58] at hf
        refine lv_aload_n hx hb d_M_decode_169 rfl (lv_at hl 0 rfl) ?_
        refine lv_aload_n hx hb d_M_decode_170 rfl (lv_at hl 0 rfl) ?_
        refine va_get (D := X) (ci := 9) (C := R_M) (T := T_M) (N := 35) hx hb hts u_0 hown hK hP 0 gm_0 rfl 17 (by decide) k_2 (fun _ h9 => h9) rfl d_M_decode_171 ?_
        refine lv_iload_n hx hb d_M_decode_174 rfl (lv_at hl 2 rfl) ?_
        obtain ⟨y59, h60, e61, hf⟩ := gLd_e hf
        refine va_iald hx hb hK hP 15 0 gm_15 rfl h60 d_M_decode_175 ?_
        rw [← e61]
        refine lv_aload_n hx hb d_M_decode_176 rfl (lv_at hl 0 rfl) ?_
        refine va_get (D := X) (ci := 9) (C := R_M) (T := T_M) (N := 35) hx hb hts u_0 hown hK hP 0 gm_0 rfl 15 (by decide) k_4 (fun _ h9 => h9) rfl d_M_decode_177 ?_
        refine lv_bipush (v := 12) hx hb d_M_decode_180 (by decide) ?_
        refine lv_iload_n hx hb d_M_decode_182 rfl (lv_at hl 2 rfl) ?_
        refine lv_imul hx hb d_M_decode_183 ?_
        refine lv_iload_n hx hb d_M_decode_184 rfl (lv_at hl 3 rfl) ?_
        refine lv_iadd hx hb d_M_decode_185 ?_
        obtain ⟨y62, h63, e64, hf⟩ := gLd_e hf
        refine va_cald hx hb hK hP 13 1 gm_13 rfl h63 d_M_decode_186 ?_
        rw [← e64]
        obtain ⟨y65, σ66, e67, hf⟩ := gBd_e hf
        refine g_wi (va_runV ⟨hx, hb, hml, hown, hts⟩ (m_M_type e67) (cwV 2 hts (gG4 (fun _ h => List.mem_cons_of_mem _ h) tb_524 tb_525 tb_526 tb_392 tc_M_type) rfl rfl rfl (by decide +kernel) ⟨Nat.le_of_ble_eq_true rfl, Nat.le_of_ble_eq_true rfl⟩) (g_preVW (q0 := 0) hE hK hP hD hS hA gm_0 rfl) rfl rfl hl.1 rfl (lv_room (Nat.le_of_ble_eq_true rfl)) d_M_decode_187 ⟨Nat.zero_le _, Nat.zero_le _⟩) hD hS hA (fun _ => mW_fst) (fun y65 _ H locs hu hP hD hS => ?_)
        subst hu
        refine lv_pop hx hb d_M_decode_190 rfl ?_
        refine lv_iinc (k := 3) (v := (x3 + 1)) hx hb d_M_decode_191 hl rfl (by rw [show Int32.ofInt (1) = (1 : Int32) by decide]) (by decide) rfl (fun ls hl => ?_)
        refine lv_goto (tgt := 148) hx hb d_M_decode_194 rfl ?_
        exact ih4 (x1) (x2) ((x3 + 1)) σ66 _ _ _ hf hP hD hS (lv_sub hl [1, 2, 3, 0] rfl)
      · intro x1 x2 σ0 H locs ls hf hP hD hS hl
        have hf : B_M_decode_5 (R_M_decode t) x1 x2 σ0 = some (r, σ') := hf
        unfold B_M_decode_5 at hf
        refine lv_iinc (k := 2) (v := (x2 + 1)) hx hb d_M_decode_197 hl rfl (by rw [show Int32.ofInt (1) = (1 : Int32) by decide]) (by decide) rfl (fun ls hl => ?_)
        refine lv_goto (tgt := 66) hx hb d_M_decode_200 rfl ?_
        exact ih1 (x1) ((x2 + 1)) σ0 _ _ _ hf hP hD hS (lv_sub hl [1, 2, 0] rfl)
      · intro x1 x2 σ0 H locs ls hf hP hD hS hl
        have hf : B_M_decode_6 (R_M_decode t) x1 x2 σ0 = some (r, σ') := hf
        unfold B_M_decode_6 at hf
        refine lv_iload_n hx hb d_M_decode_207 rfl (lv_at hl 2 rfl) ?_
        refine lv_aload_n hx hb d_M_decode_208 rfl (lv_at hl 0 rfl) ?_
        refine va_get (D := X) (ci := 9) (C := R_M) (T := T_M) (N := 35) hx hb hts u_0 hown hK hP 0 gm_0 rfl 9 (by decide) k_1 (fun _ h9 => h9) rfl d_M_decode_209 ?_
        refine lv_icmp_ge (tgt := 312) hx hb d_M_decode_212 rfl (fun c68 => ?_) (fun c68 => ?_)
        · skip
          rw [if_pos c68] at hf
          refine lv_aload_n hx hb d_M_decode_312 rfl (lv_at hl 0 rfl) ?_
          refine va_get (D := X) (ci := 9) (C := R_M) (T := T_M) (N := 35) hx hb hts u_0 hown hK hP 0 gm_0 rfl 17 (by decide) k_2 (fun _ h9 => h9) rfl d_M_decode_313 ?_
          refine lv_aload_n hx hb d_M_decode_316 rfl (lv_at hl 0 rfl) ?_
          refine lv_iload_n hx hb d_M_decode_317 rfl (lv_at hl 1 rfl) ?_
          refine lv_iconst (v := 1) hx hb d_M_decode_318 (by decide) ?_
          refine lv_iadd hx hb d_M_decode_319 ?_
          refine lv_iload_n hx hb d_M_decode_320 rfl (lv_at hl 1 rfl) ?_
          obtain ⟨y69, σ70, e71, hf⟩ := gBd_e hf
          refine g_wi (va_runV ⟨hx, hb, hml, hown, hts⟩ (m_M_target e71) (cwV 2 hts (gG4 (fun _ h => List.mem_cons_of_mem _ h) tb_527 tb_528 tb_529 tb_392 tc_M_target) rfl rfl rfl (by decide +kernel) ⟨Nat.le_of_ble_eq_true rfl, Nat.le_of_ble_eq_true rfl⟩) (g_preVW (q0 := 0) hE hK hP hD hS hA gm_0 rfl) rfl rfl hl.1 rfl (lv_room (Nat.le_of_ble_eq_true rfl)) d_M_decode_321 ⟨Nat.zero_le _, Nat.zero_le _⟩) hD hS hA (fun _ => mW_fst) (fun y69 _ H locs hu hP hD hS => ?_)
          subst hu
          obtain ⟨y72, h73, e74, hf⟩ := gLd_e hf
          refine va_iald hx hb hK hP 15 0 gm_15 rfl h73 d_M_decode_324 ?_
          rw [← e74]
          obtain ⟨rfl, rfl⟩ := gRt_e hf
          exact g_zret hx hb hr hlocks rfl hAe hS () rfl hP d_M_decode_325
        rw [if_neg c68] at hf
        refine lv_aload_n hx hb d_M_decode_215 rfl (lv_at hl 0 rfl) ?_
        refine va_get (D := X) (ci := 9) (C := R_M) (T := T_M) (N := 35) hx hb hts u_0 hown hK hP 0 gm_0 rfl 11 (by decide) k_5 (fun _ h9 => h9) rfl d_M_decode_216 ?_
        refine lv_iload_n hx hb d_M_decode_219 rfl (lv_at hl 2 rfl) ?_
        obtain ⟨y75, h76, e77, hf⟩ := gLd_e hf
        refine va_iald hx hb hK hP 9 0 gm_9 rfl h76 d_M_decode_220 ?_
        rw [← e77]
        refine lv_iload_n hx hb d_M_decode_221 rfl (lv_at hl 1 rfl) ?_
        refine lv_icmp_eq (tgt := 306) hx hb d_M_decode_222 rfl (fun c78 => ?_) (fun c78 => ?_)
        · skip
          rw [if_pos c78] at hf
          exact ih7 (x1) (x2) σ0 _ _ _ hf hP hD hS (lv_sub hl [0, 1, 2] rfl)
        rw [if_neg c78] at hf
        refine lv_aload_n hx hb d_M_decode_225 rfl (lv_at hl 0 rfl) ?_
        refine va_get (D := X) (ci := 9) (C := R_M) (T := T_M) (N := 35) hx hb hts u_0 hown hK hP 0 gm_0 rfl 10 (by decide) k_0 (fun _ h9 => h9) rfl d_M_decode_226 ?_
        refine lv_iload_n hx hb d_M_decode_229 rfl (lv_at hl 2 rfl) ?_
        obtain ⟨y79, h80, e81, hf⟩ := gLd_e hf
        refine va_iald hx hb hK hP 8 0 gm_8 rfl h80 d_M_decode_230 ?_
        rw [← e81]
        refine lv_bipush (v := 14) hx hb d_M_decode_231 (by decide) ?_
        refine lv_icmp_ne (tgt := 239) hx hb d_M_decode_233 rfl (fun c82 => ?_) (fun c82 => ?_)
        · skip
          rw [if_neg c82] at hf
          refine lv_aload_n hx hb d_M_decode_239 rfl (lv_at hl 0 rfl) ?_
          refine va_get (D := X) (ci := 9) (C := R_M) (T := T_M) (N := 35) hx hb hts u_0 hown hK hP 0 gm_0 rfl 17 (by decide) k_2 (fun _ h9 => h9) rfl d_M_decode_240 ?_
          refine lv_aload_n hx hb d_M_decode_243 rfl (lv_at hl 0 rfl) ?_
          refine va_get (D := X) (ci := 9) (C := R_M) (T := T_M) (N := 35) hx hb hts u_0 hown hK hP 0 gm_0 rfl 11 (by decide) k_5 (fun _ h9 => h9) rfl d_M_decode_244 ?_
          refine lv_iload_n hx hb d_M_decode_247 rfl (lv_at hl 2 rfl) ?_
          obtain ⟨y83, h84, e85, hf⟩ := gLd_e hf
          refine va_iald hx hb hK hP 9 0 gm_9 rfl h84 d_M_decode_248 ?_
          rw [← e85]
          obtain ⟨y86, h87, e88, hf⟩ := gLd_e hf
          refine va_iald hx hb hK hP 15 0 gm_15 rfl h87 d_M_decode_249 ?_
          rw [← e88]
          refine lv_istore_n hx hb d_M_decode_250 rfl hl (by decide) rfl (fun ls hl => ?_)
          refine lv_aload_n hx hb d_M_decode_251 rfl (lv_at hl 1 rfl) ?_
          refine va_get (D := X) (ci := 9) (C := R_M) (T := T_M) (N := 35) hx hb hts u_0 hown hK hP 0 gm_0 rfl 10 (by decide) k_0 (fun _ h9 => h9) rfl d_M_decode_252 ?_
          refine lv_iload_n hx hb d_M_decode_255 rfl (lv_at hl 3 rfl) ?_
          obtain ⟨y89, h90, e91, hf⟩ := gLd_e hf
          refine va_iald hx hb hK hP 8 0 gm_8 rfl h90 d_M_decode_256 ?_
          rw [← e91]
          refine lv_bipush (v := 9) hx hb d_M_decode_257 (by decide) ?_
          refine lv_icmp_ne (tgt := 283) hx hb d_M_decode_259 rfl (fun c92 => ?_) (fun c92 => ?_)
          · skip
            rw [if_neg c92] at hf
            refine lv_aload_n hx hb d_M_decode_283 rfl (lv_at hl 1 rfl) ?_
            refine lv_iload_n hx hb d_M_decode_284 rfl (lv_at hl 0 rfl) ?_
            refine lv_aload_n hx hb d_M_decode_285 rfl (lv_at hl 1 rfl) ?_
            refine va_get (D := X) (ci := 9) (C := R_M) (T := T_M) (N := 35) hx hb hts u_0 hown hK hP 0 gm_0 rfl 16 (by decide) k_6 (fun _ h9 => h9) rfl d_M_decode_286 ?_
            refine lv_iload_n hx hb d_M_decode_289 rfl (lv_at hl 3 rfl) ?_
            obtain ⟨y93, h94, e95, hf⟩ := gLd_e hf
            refine va_iald hx hb hK hP 14 0 gm_14 rfl h94 d_M_decode_290 ?_
            rw [← e95]
            refine lv_aload_n hx hb d_M_decode_291 rfl (lv_at hl 1 rfl) ?_
            refine va_get (D := X) (ci := 9) (C := R_M) (T := T_M) (N := 35) hx hb hts u_0 hown hK hP 0 gm_0 rfl 17 (by decide) k_2 (fun _ h9 => h9) rfl d_M_decode_292 ?_
            refine lv_aload_n hx hb d_M_decode_295 rfl (lv_at hl 1 rfl) ?_
            refine lv_iload_n hx hb d_M_decode_296 rfl (lv_at hl 3 rfl) ?_
            refine lv_iload_n hx hb d_M_decode_297 rfl (lv_at hl 2 rfl) ?_
            obtain ⟨y96, σ97, e98, hf⟩ := gBd_e hf
            refine g_wi (va_runV ⟨hx, hb, hml, hown, hts⟩ (m_M_target e98) (cwV 2 hts (gG4 (fun _ h => List.mem_cons_of_mem _ h) tb_527 tb_528 tb_529 tb_392 tc_M_target) rfl rfl rfl (by decide +kernel) ⟨Nat.le_of_ble_eq_true rfl, Nat.le_of_ble_eq_true rfl⟩) (g_preVW (q0 := 0) hE hK hP hD hS hA gm_0 rfl) rfl rfl hl.1 rfl (lv_room (Nat.le_of_ble_eq_true rfl)) d_M_decode_298 ⟨Nat.zero_le _, Nat.zero_le _⟩) hD hS hA (fun _ => mW_fst) (fun y96 _ H locs hu hP hD hS => ?_)
            subst hu
            obtain ⟨y99, h100, e101, hf⟩ := gLd_e hf
            refine va_iald hx hb hK hP 15 0 gm_15 rfl h100 d_M_decode_301 ?_
            rw [← e101]
            obtain ⟨y102, σ103, e104, hf⟩ := gBd_e hf
            refine g_wi (va_runV ⟨hx, hb, hml, hown, hts⟩ (m_M_link e104) (cwV 3 hts (gG4 (fun _ h => List.mem_cons_of_mem _ h) tb_530 tb_531 tb_532 tb_392 tc_M_link) rfl rfl rfl (by decide +kernel) ⟨Nat.le_of_ble_eq_true rfl, Nat.le_of_ble_eq_true rfl⟩) (g_preVW (q0 := 0) hE hK hP hD hS hA gm_0 rfl) rfl rfl hl.1 rfl (lv_room (Nat.le_of_ble_eq_true rfl)) d_M_decode_302 ⟨Nat.zero_le _, Nat.zero_le _⟩) hD hS hA (fun _ => mW_fst) (fun y102 _ H locs hu hP hD hS => ?_)
            subst hu
            refine lv_pop hx hb d_M_decode_305 rfl ?_
            exact ih7 (x1) (x2) σ103 _ _ _ hf hP hD hS (lv_sub hl [1, 2, 3] rfl)
          rw [if_pos c92] at hf
          refine lv_aload_n hx hb d_M_decode_262 rfl (lv_at hl 1 rfl) ?_
          refine lv_iload_n hx hb d_M_decode_263 rfl (lv_at hl 0 rfl) ?_
          refine lv_aload_n hx hb d_M_decode_264 rfl (lv_at hl 1 rfl) ?_
          refine va_get (D := X) (ci := 9) (C := R_M) (T := T_M) (N := 35) hx hb hts u_0 hown hK hP 0 gm_0 rfl 16 (by decide) k_6 (fun _ h9 => h9) rfl d_M_decode_265 ?_
          refine lv_iload_n hx hb d_M_decode_268 rfl (lv_at hl 3 rfl) ?_
          obtain ⟨y105, h106, e107, hf⟩ := gLd_e hf
          refine va_iald hx hb hK hP 14 0 gm_14 rfl h106 d_M_decode_269 ?_
          rw [← e107]
          refine lv_aload_n hx hb d_M_decode_270 rfl (lv_at hl 1 rfl) ?_
          refine lv_iload_n hx hb d_M_decode_271 rfl (lv_at hl 3 rfl) ?_
          obtain ⟨y108, σ109, e110, hf⟩ := gBd_e hf
          refine g_wl (va_runV ⟨hx, hb, hml, hown, hts⟩ (m_M_numberOf e110) (cwV 1 hts (gG4 (fun _ h => List.mem_cons_of_mem _ h) tb_496 tb_497 tb_498 tb_392 tc_M_numberOf) rfl rfl rfl (by decide +kernel) ⟨Nat.le_of_ble_eq_true rfl, Nat.le_of_ble_eq_true rfl⟩) (g_preVW (q0 := 0) hE hK hP hD hS hA gm_0 rfl) rfl rfl hl.1 rfl (lv_room (Nat.le_of_ble_eq_true rfl)) d_M_decode_272 ⟨Nat.zero_le _, Nat.zero_le _⟩) hD hS hA (fun _ => mW_fst) (fun y108 _ H locs hu hP hD hS => ?_)
          subst hu
          refine lv_l2i hx hb d_M_decode_275 rfl ?_
          obtain ⟨y111, σ112, e113, hf⟩ := gBd_e hf
          refine g_wi (va_runV ⟨hx, hb, hml, hown, hts⟩ (m_M_put e113) (cwV 3 hts (gG4 (fun _ h => List.mem_cons_of_mem _ h) tb_533 tb_534 tb_535 tb_392 tc_M_put) rfl rfl rfl (by decide +kernel) ⟨Nat.le_of_ble_eq_true rfl, Nat.le_of_ble_eq_true rfl⟩) (g_preVW (q0 := 0) hE hK hP hD hS hA gm_0 rfl) rfl rfl hl.1 rfl (lv_room (Nat.le_of_ble_eq_true rfl)) d_M_decode_276 ⟨Nat.zero_le _, Nat.zero_le _⟩) hD hS hA (fun _ => mW_fst) (fun y111 _ H locs hu hP hD hS => ?_)
          subst hu
          refine lv_pop hx hb d_M_decode_279 rfl ?_
          refine lv_goto (tgt := 306) hx hb d_M_decode_280 rfl ?_
          exact ih7 (x1) (x2) σ112 _ _ _ hf hP hD hS (lv_sub hl [1, 2, 3] rfl)
        rw [if_pos c82] at hf
        refine lv_goto (tgt := 306) hx hb d_M_decode_236 rfl ?_
        exact ih7 (x1) (x2) σ0 _ _ _ hf hP hD hS (lv_sub hl [0, 1, 2] rfl)
      · intro x1 x2 σ0 H locs ls hf hP hD hS hl
        have hf : B_M_decode_7 (R_M_decode t) x1 x2 σ0 = some (r, σ') := hf
        unfold B_M_decode_7 at hf
        refine lv_iinc (k := 2) (v := (x2 + 1)) hx hb d_M_decode_306 hl rfl (by rw [show Int32.ofInt (1) = (1 : Int32) by decide]) (by decide) rfl (fun ls hl => ?_)
        refine lv_goto (tgt := 207) hx hb d_M_decode_309 rfl ?_
        exact ih6 (x1) ((x2 + 1)) σ0 _ _ _ hf hP hD hS (lv_sub hl [1, 2, 0] rfl)
  exact (key gFuel).1  σ _ _ _ hf hP hD hS hl

def f_M_clear (σ : gS) : Option (Int32 × gS) := gPut σ 0 0 (fun σ1 => some (0, σ1))
set_option maxHeartbeats 4000000 in
set_option maxRecDepth 100000 in
theorem m_M_clear {l : Launch} {X : va_G} {cI cC cZ : ClassId} {aK aV : Nat → Nat} {b : Nat → Nat} {σ σ' : gS} {r : Int32} (hf : f_M_clear σ = some (r, σ')) {sz : Nat} : Met l y_M_clear w_M_clear { frames := 0, cells := 0, slots := 0, locals := 0 } (gPc X vwCl (gT cI cC cZ) aK aV (mW cI cC cZ b σ) sz [.ref (b 0)]) (gQv X vwCl (mW cI cC cZ b σ) sz (fun (_ : Unit) => True) (fun _ => mW cI cC cZ b σ')) 0 0 (va_A (mW cI cC cZ b σ) sz) := by
  refine g_met (cc := b_M_clear) (maxL := 1) (ret := none) (by decide) rfl (Nat.le_of_ble_eq_true rfl) ?_
  intro p e s m below meth c A ls hx hb hr hml hown hts hlocks hnm hsz hAe hA hP hK hD hS hl hE
  have hown : s.vm.findClass R_M = some m.cls := hown
  have u_0 : ∀ w ∈ u_ws R_M T_M 35, w ∈ w_M_clear := fun w h => List.mem_cons_of_mem _ (tu_M w h)
  have k_0 := hts (.fieldLink R_M 87 "GraphPagesModel" "count" "I") (List.mem_cons_of_mem _ tb_385)
  unfold f_M_clear at hf
  refine lv_aload_n hx hb d_M_clear_0 rfl (lv_at hl 0 rfl) ?_
  refine lv_iconst (v := 0) hx hb d_M_clear_1 (by decide) ?_
  obtain ⟨σ1, e2, hf⟩ := gPut_e hf
  refine va_put (D := X) (ci := 9) (ty := .int) (C := R_M) (T := T_M) (N := 35) hx hb hts u_0 t_M t_M_ok n_M hown hK hP hD hS 0 gm_0 rfl 0 (by decide) k_0 (fun _ h9 => h9) rfl (by decide +kernel) rfl rfl (Nat.le_of_ble_eq_true rfl) d_M_clear_2 (fun H locs hP hD hS => ?_)
  rw [sm_0_0, ← e2] at hP hD
  obtain ⟨-, rfl⟩ := gRt_e hf
  exact g_vret hx hb hr hlocks hAe hS () trivial hP d_M_clear_5

def f_M_understand (σ : gS) (x1 : Int32) (x2 : Int32) : Option (Int32 × gS) := if x1 < 0 then (some (0, σ)) else (if 31 < x1 then (some (0, σ)) else (gLd σ 6 32 x1 (fun y3 => if y3 = x2 then (some (0, σ)) else (gSt σ 6 32 x1 (vp_nar .boolean x2) (fun σ7 => some (1, σ7))))))
set_option maxHeartbeats 4000000 in
set_option maxRecDepth 100000 in
theorem m_M_understand {l : Launch} {X : va_G} {cI cC cZ : ClassId} {aK aV : Nat → Nat} {b : Nat → Nat} {σ σ' : gS} {r : Int32} {x1 : Int32} {x2 : Int32} (hf : f_M_understand σ x1 x2 = some (r, σ')) {sz : Nat} : Met l y_M_understand w_M_understand { frames := 0, cells := 0, slots := 0, locals := 0 } (gPc X vwCl (gT cI cC cZ) aK aV (mW cI cC cZ b σ) sz [.ref (b 0), .int x1, .int x2]) (gQi X vwCl (mW cI cC cZ b σ) sz (fun r' (_ : Unit) => r' = r) (fun _ => mW cI cC cZ b σ')) 0 0 (va_A (mW cI cC cZ b σ) sz) := by
  refine g_met (cc := b_M_understand) (maxL := 3) (ret := (some .boolean)) (by decide) rfl (Nat.le_of_ble_eq_true rfl) ?_
  intro p e s m below meth c A ls hx hb hr hml hown hts hlocks hnm hsz hAe hA hP hK hD hS hl hE
  have hown : s.vm.findClass R_M = some m.cls := hown
  have u_0 : ∀ w ∈ u_ws R_M T_M 35, w ∈ w_M_understand := fun w h => List.mem_cons_of_mem _ (tu_M w h)
  have k_0 := hts (.fieldLink R_M 25 "GraphPagesModel" "known" "[Z") (List.mem_cons_of_mem _ tb_486)
  unfold f_M_understand at hf
  refine lv_iload_n hx hb d_M_understand_0 rfl (lv_at hl 1 rfl) ?_
  refine lv_if_lt (tgt := 20) hx hb d_M_understand_1 rfl (fun c1 => ?_) (fun c1 => ?_)
  · skip
    rw [if_pos c1] at hf
    refine lv_iconst (v := 0) hx hb d_M_understand_20 (by decide) ?_
    obtain ⟨rfl, rfl⟩ := gRt_e hf
    exact g_zret hx hb hr hlocks rfl hAe hS () rfl hP d_M_understand_21
  rw [if_neg c1] at hf
  refine lv_iload_n hx hb d_M_understand_4 rfl (lv_at hl 1 rfl) ?_
  refine lv_bipush (v := 31) hx hb d_M_understand_5 (by decide) ?_
  refine lv_icmp_gt (tgt := 20) hx hb d_M_understand_7 rfl (fun c2 => ?_) (fun c2 => ?_)
  · skip
    rw [if_pos c2] at hf
    refine lv_iconst (v := 0) hx hb d_M_understand_20 (by decide) ?_
    obtain ⟨rfl, rfl⟩ := gRt_e hf
    exact g_zret hx hb hr hlocks rfl hAe hS () rfl hP d_M_understand_21
  rw [if_neg c2] at hf
  refine lv_aload_n hx hb d_M_understand_10 rfl (lv_at hl 0 rfl) ?_
  refine va_get (D := X) (ci := 9) (C := R_M) (T := T_M) (N := 35) hx hb hts u_0 hown hK hP 0 gm_0 rfl 6 (by decide) k_0 (fun _ h9 => h9) rfl d_M_understand_11 ?_
  refine lv_iload_n hx hb d_M_understand_14 rfl (lv_at hl 1 rfl) ?_
  obtain ⟨y3, h4, e5, hf⟩ := gLd_e hf
  refine va_zald hx hb hK hP 6 2 gm_6 rfl h4 d_M_understand_15 ?_
  rw [← e5]
  refine lv_iload_n hx hb d_M_understand_16 rfl (lv_at hl 2 rfl) ?_
  refine lv_icmp_ne (tgt := 22) hx hb d_M_understand_17 rfl (fun c6 => ?_) (fun c6 => ?_)
  · skip
    rw [if_neg c6] at hf
    refine lv_aload_n hx hb d_M_understand_22 rfl (lv_at hl 0 rfl) ?_
    refine va_get (D := X) (ci := 9) (C := R_M) (T := T_M) (N := 35) hx hb hts u_0 hown hK hP 0 gm_0 rfl 6 (by decide) k_0 (fun _ h9 => h9) rfl d_M_understand_23 ?_
    refine lv_iload_n hx hb d_M_understand_26 rfl (lv_at hl 1 rfl) ?_
    refine lv_iload_n hx hb d_M_understand_27 rfl (lv_at hl 2 rfl) ?_
    obtain ⟨σ7, h8, e9, hf⟩ := gSt_e hf
    refine va_zast hx hb hK hP hD hS 6 2 gm_6 rfl h8 d_M_understand_28 (fun H locs hP hD hS => ?_)
    rw [sm_6, ← e9] at hP hD
    refine lv_iconst (v := 1) hx hb d_M_understand_29 (by decide) ?_
    obtain ⟨rfl, rfl⟩ := gRt_e hf
    exact g_zret hx hb hr hlocks rfl hAe hS () rfl hP d_M_understand_30
  rw [if_pos c6] at hf
  refine lv_iconst (v := 0) hx hb d_M_understand_20 (by decide) ?_
  obtain ⟨rfl, rfl⟩ := gRt_e hf
  exact g_zret hx hb hr hlocks rfl hAe hS () rfl hP d_M_understand_21

def f_M_length (σ : gS) : Option (Int32 × gS) := some ((σ.1 1), σ)
set_option maxHeartbeats 4000000 in
set_option maxRecDepth 100000 in
theorem m_M_length {l : Launch} {X : va_G} {cI cC cZ : ClassId} {aK aV : Nat → Nat} {b : Nat → Nat} {σ σ' : gS} {r : Int32} (hf : f_M_length σ = some (r, σ')) {sz : Nat} : Met l y_M_length w_M_length { frames := 0, cells := 0, slots := 0, locals := 0 } (gPc X vwCl (gT cI cC cZ) aK aV (mW cI cC cZ b σ) sz [.ref (b 0)]) (gQi X vwCl (mW cI cC cZ b σ) sz (fun r' (_ : Unit) => r' = r) (fun _ => mW cI cC cZ b σ')) 0 0 (va_A (mW cI cC cZ b σ) sz) := by
  refine g_met (cc := b_M_length) (maxL := 1) (ret := (some .int)) (by decide) rfl (Nat.le_of_ble_eq_true rfl) ?_
  intro p e s m below meth c A ls hx hb hr hml hown hts hlocks hnm hsz hAe hA hP hK hD hS hl hE
  have hown : s.vm.findClass R_M = some m.cls := hown
  have u_0 : ∀ w ∈ u_ws R_M T_M 35, w ∈ w_M_length := fun w h => List.mem_cons_of_mem _ (tu_M w h)
  have k_0 := hts (.fieldLink R_M 110 "GraphPagesModel" "used" "I") (List.mem_cons_of_mem _ tb_413)
  unfold f_M_length at hf
  refine lv_aload_n hx hb d_M_length_0 rfl (lv_at hl 0 rfl) ?_
  refine va_get (D := X) (ci := 9) (C := R_M) (T := T_M) (N := 35) hx hb hts u_0 hown hK hP 0 gm_0 rfl 7 (by decide) k_0 (fun _ h9 => h9) rfl d_M_length_1 ?_
  obtain ⟨rfl, rfl⟩ := gRt_e hf
  exact g_zret hx hb hr hlocks rfl hAe hS () rfl hP d_M_length_4

def f_M_charAt (σ : gS) (x1 : Int32) : Option (Int32 × gS) := if x1 < 0 then (some ((-1), σ)) else (if (σ.1 1) ≤ x1 then (some ((-1), σ)) else (gLd σ 7 1600 x1 (fun y3 => some (y3, σ))))
set_option maxHeartbeats 4000000 in
set_option maxRecDepth 100000 in
theorem m_M_charAt {l : Launch} {X : va_G} {cI cC cZ : ClassId} {aK aV : Nat → Nat} {b : Nat → Nat} {σ σ' : gS} {r : Int32} {x1 : Int32} (hf : f_M_charAt σ x1 = some (r, σ')) {sz : Nat} : Met l y_M_charAt w_M_charAt { frames := 0, cells := 0, slots := 0, locals := 0 } (gPc X vwCl (gT cI cC cZ) aK aV (mW cI cC cZ b σ) sz [.ref (b 0), .int x1]) (gQi X vwCl (mW cI cC cZ b σ) sz (fun r' (_ : Unit) => r' = r) (fun _ => mW cI cC cZ b σ')) 0 0 (va_A (mW cI cC cZ b σ) sz) := by
  refine g_met (cc := b_M_charAt) (maxL := 2) (ret := (some .int)) (by decide) rfl (Nat.le_of_ble_eq_true rfl) ?_
  intro p e s m below meth c A ls hx hb hr hml hown hts hlocks hnm hsz hAe hA hP hK hD hS hl hE
  have hown : s.vm.findClass R_M = some m.cls := hown
  have u_0 : ∀ w ∈ u_ws R_M T_M 35, w ∈ w_M_charAt := fun w h => List.mem_cons_of_mem _ (tu_M w h)
  have k_0 := hts (.fieldLink R_M 110 "GraphPagesModel" "used" "I") (List.mem_cons_of_mem _ tb_413)
  have k_1 := hts (.fieldLink R_M 29 "GraphPagesModel" "page" "[C") (List.mem_cons_of_mem _ tb_412)
  unfold f_M_charAt at hf
  refine lv_iload_n hx hb d_M_charAt_0 rfl (lv_at hl 1 rfl) ?_
  refine lv_if_lt (tgt := 21) hx hb d_M_charAt_1 rfl (fun c1 => ?_) (fun c1 => ?_)
  · skip
    rw [if_pos c1] at hf
    refine lv_iconst (v := (-1)) hx hb d_M_charAt_21 (by decide) ?_
    obtain ⟨rfl, rfl⟩ := gRt_e hf
    exact g_zret hx hb hr hlocks rfl hAe hS () rfl hP d_M_charAt_22
  rw [if_neg c1] at hf
  refine lv_iload_n hx hb d_M_charAt_4 rfl (lv_at hl 1 rfl) ?_
  refine lv_aload_n hx hb d_M_charAt_5 rfl (lv_at hl 0 rfl) ?_
  refine va_get (D := X) (ci := 9) (C := R_M) (T := T_M) (N := 35) hx hb hts u_0 hown hK hP 0 gm_0 rfl 7 (by decide) k_0 (fun _ h9 => h9) rfl d_M_charAt_6 ?_
  refine lv_icmp_ge (tgt := 21) hx hb d_M_charAt_9 rfl (fun c2 => ?_) (fun c2 => ?_)
  · skip
    rw [if_pos c2] at hf
    refine lv_iconst (v := (-1)) hx hb d_M_charAt_21 (by decide) ?_
    obtain ⟨rfl, rfl⟩ := gRt_e hf
    exact g_zret hx hb hr hlocks rfl hAe hS () rfl hP d_M_charAt_22
  rw [if_neg c2] at hf
  refine lv_aload_n hx hb d_M_charAt_12 rfl (lv_at hl 0 rfl) ?_
  refine va_get (D := X) (ci := 9) (C := R_M) (T := T_M) (N := 35) hx hb hts u_0 hown hK hP 0 gm_0 rfl 8 (by decide) k_1 (fun _ h9 => h9) rfl d_M_charAt_13 ?_
  refine lv_iload_n hx hb d_M_charAt_16 rfl (lv_at hl 1 rfl) ?_
  obtain ⟨y3, h4, e5, hf⟩ := gLd_e hf
  refine va_cald hx hb hK hP 7 1 gm_7 rfl h4 d_M_charAt_17 ?_
  rw [← e5]
  refine lv_goto (tgt := 22) hx hb d_M_charAt_18 rfl ?_
  obtain ⟨rfl, rfl⟩ := gRt_e hf
  exact g_zret hx hb hr hlocks rfl hAe hS () rfl hP d_M_charAt_22

def f_M_feed (σ : gS) (x1 : Int32) : Option (Int32 × gS) := if x1 < 32 then (some (0, σ)) else (if 126 < x1 then (some (0, σ)) else (if (σ.1 1) = 1600 then (some (0, σ)) else (gSt σ 7 1600 (σ.1 1) (vp_nar .char x1) (fun σ4 => gPut σ4 1 ((σ4.1 1) + 1) (fun σ7 => some (1, σ7))))))
set_option maxHeartbeats 4000000 in
set_option maxRecDepth 100000 in
theorem m_M_feed {l : Launch} {X : va_G} {cI cC cZ : ClassId} {aK aV : Nat → Nat} {b : Nat → Nat} {σ σ' : gS} {r : Int32} {x1 : Int32} (hf : f_M_feed σ x1 = some (r, σ')) {sz : Nat} : Met l y_M_feed w_M_feed { frames := 0, cells := 0, slots := 0, locals := 0 } (gPc X vwCl (gT cI cC cZ) aK aV (mW cI cC cZ b σ) sz [.ref (b 0), .int x1]) (gQi X vwCl (mW cI cC cZ b σ) sz (fun r' (_ : Unit) => r' = r) (fun _ => mW cI cC cZ b σ')) 0 0 (va_A (mW cI cC cZ b σ) sz) := by
  refine g_met (cc := b_M_feed) (maxL := 2) (ret := (some .boolean)) (by decide) rfl (Nat.le_of_ble_eq_true rfl) ?_
  intro p e s m below meth c A ls hx hb hr hml hown hts hlocks hnm hsz hAe hA hP hK hD hS hl hE
  have hown : s.vm.findClass R_M = some m.cls := hown
  have u_0 : ∀ w ∈ u_ws R_M T_M 35, w ∈ w_M_feed := fun w h => List.mem_cons_of_mem _ (tu_M w h)
  have k_0 := hts (.fieldLink R_M 110 "GraphPagesModel" "used" "I") (List.mem_cons_of_mem _ tb_413)
  have k_1 := hts (.fieldLink R_M 29 "GraphPagesModel" "page" "[C") (List.mem_cons_of_mem _ tb_412)
  unfold f_M_feed at hf
  refine lv_iload_n hx hb d_M_feed_0 rfl (lv_at hl 1 rfl) ?_
  refine lv_bipush (v := 32) hx hb d_M_feed_1 (by decide) ?_
  refine lv_icmp_lt (tgt := 22) hx hb d_M_feed_3 rfl (fun c1 => ?_) (fun c1 => ?_)
  · skip
    rw [if_pos c1] at hf
    refine lv_iconst (v := 0) hx hb d_M_feed_22 (by decide) ?_
    obtain ⟨rfl, rfl⟩ := gRt_e hf
    exact g_zret hx hb hr hlocks rfl hAe hS () rfl hP d_M_feed_23
  rw [if_neg c1] at hf
  refine lv_iload_n hx hb d_M_feed_6 rfl (lv_at hl 1 rfl) ?_
  refine lv_bipush (v := 126) hx hb d_M_feed_7 (by decide) ?_
  refine lv_icmp_gt (tgt := 22) hx hb d_M_feed_9 rfl (fun c2 => ?_) (fun c2 => ?_)
  · skip
    rw [if_pos c2] at hf
    refine lv_iconst (v := 0) hx hb d_M_feed_22 (by decide) ?_
    obtain ⟨rfl, rfl⟩ := gRt_e hf
    exact g_zret hx hb hr hlocks rfl hAe hS () rfl hP d_M_feed_23
  rw [if_neg c2] at hf
  refine lv_aload_n hx hb d_M_feed_12 rfl (lv_at hl 0 rfl) ?_
  refine va_get (D := X) (ci := 9) (C := R_M) (T := T_M) (N := 35) hx hb hts u_0 hown hK hP 0 gm_0 rfl 7 (by decide) k_0 (fun _ h9 => h9) rfl d_M_feed_13 ?_
  refine lv_sipush (v := 1600) hx hb d_M_feed_16 (by decide) ?_
  refine lv_icmp_ne (tgt := 24) hx hb d_M_feed_19 rfl (fun c3 => ?_) (fun c3 => ?_)
  · skip
    rw [if_neg c3] at hf
    refine lv_aload_n hx hb d_M_feed_24 rfl (lv_at hl 0 rfl) ?_
    refine va_get (D := X) (ci := 9) (C := R_M) (T := T_M) (N := 35) hx hb hts u_0 hown hK hP 0 gm_0 rfl 8 (by decide) k_1 (fun _ h9 => h9) rfl d_M_feed_25 ?_
    refine lv_aload_n hx hb d_M_feed_28 rfl (lv_at hl 0 rfl) ?_
    refine va_get (D := X) (ci := 9) (C := R_M) (T := T_M) (N := 35) hx hb hts u_0 hown hK hP 0 gm_0 rfl 7 (by decide) k_0 (fun _ h9 => h9) rfl d_M_feed_29 ?_
    refine lv_iload_n hx hb d_M_feed_32 rfl (lv_at hl 1 rfl) ?_
    obtain ⟨σ4, h5, e6, hf⟩ := gSt_e hf
    refine va_cast hx hb hK hP hD hS 7 1 gm_7 rfl h5 d_M_feed_33 (fun H locs hP hD hS => ?_)
    rw [sm_7, ← e6] at hP hD
    refine lv_aload_n hx hb d_M_feed_34 rfl (lv_at hl 0 rfl) ?_
    refine lv_dup hx hb d_M_feed_35 rfl ?_
    refine va_get (D := X) (ci := 9) (C := R_M) (T := T_M) (N := 35) hx hb hts u_0 hown hK hP 0 gm_0 rfl 7 (by decide) k_0 (fun _ h9 => h9) rfl d_M_feed_36 ?_
    refine lv_iconst (v := 1) hx hb d_M_feed_39 (by decide) ?_
    refine lv_iadd hx hb d_M_feed_40 ?_
    obtain ⟨σ7, e8, hf⟩ := gPut_e hf
    refine va_put (D := X) (ci := 9) (ty := .int) (C := R_M) (T := T_M) (N := 35) hx hb hts u_0 t_M t_M_ok n_M hown hK hP hD hS 0 gm_0 rfl 7 (by decide) k_0 (fun _ h9 => h9) rfl (by decide +kernel) rfl rfl (Nat.le_of_ble_eq_true rfl) d_M_feed_41 (fun H locs hP hD hS => ?_)
    rw [sm_0_7, ← e8] at hP hD
    refine lv_iconst (v := 1) hx hb d_M_feed_44 (by decide) ?_
    obtain ⟨rfl, rfl⟩ := gRt_e hf
    exact g_zret hx hb hr hlocks rfl hAe hS () rfl hP d_M_feed_45
  rw [if_pos c3] at hf
  refine lv_iconst (v := 0) hx hb d_M_feed_22 (by decide) ?_
  obtain ⟨rfl, rfl⟩ := gRt_e hf
  exact g_zret hx hb hr hlocks rfl hAe hS () rfl hP d_M_feed_23

def f_M_alter (σ : gS) (x1 : Int32) (x2 : Int32) : Option (Int32 × gS) := if x1 < 0 then (some (0, σ)) else (if (σ.1 1) ≤ x1 then (some (0, σ)) else (if x2 < 32 then (some (0, σ)) else (if x2 ≤ 126 then (gSt σ 7 1600 x1 (vp_nar .char x2) (fun σ5 => some (1, σ5))) else (some (0, σ)))))
set_option maxHeartbeats 4000000 in
set_option maxRecDepth 100000 in
theorem m_M_alter {l : Launch} {X : va_G} {cI cC cZ : ClassId} {aK aV : Nat → Nat} {b : Nat → Nat} {σ σ' : gS} {r : Int32} {x1 : Int32} {x2 : Int32} (hf : f_M_alter σ x1 x2 = some (r, σ')) {sz : Nat} : Met l y_M_alter w_M_alter { frames := 0, cells := 0, slots := 0, locals := 0 } (gPc X vwCl (gT cI cC cZ) aK aV (mW cI cC cZ b σ) sz [.ref (b 0), .int x1, .int x2]) (gQi X vwCl (mW cI cC cZ b σ) sz (fun r' (_ : Unit) => r' = r) (fun _ => mW cI cC cZ b σ')) 0 0 (va_A (mW cI cC cZ b σ) sz) := by
  refine g_met (cc := b_M_alter) (maxL := 3) (ret := (some .boolean)) (by decide) rfl (Nat.le_of_ble_eq_true rfl) ?_
  intro p e s m below meth c A ls hx hb hr hml hown hts hlocks hnm hsz hAe hA hP hK hD hS hl hE
  have hown : s.vm.findClass R_M = some m.cls := hown
  have u_0 : ∀ w ∈ u_ws R_M T_M 35, w ∈ w_M_alter := fun w h => List.mem_cons_of_mem _ (tu_M w h)
  have k_0 := hts (.fieldLink R_M 110 "GraphPagesModel" "used" "I") (List.mem_cons_of_mem _ tb_413)
  have k_1 := hts (.fieldLink R_M 29 "GraphPagesModel" "page" "[C") (List.mem_cons_of_mem _ tb_412)
  unfold f_M_alter at hf
  refine lv_iload_n hx hb d_M_alter_0 rfl (lv_at hl 1 rfl) ?_
  refine lv_if_lt (tgt := 24) hx hb d_M_alter_1 rfl (fun c1 => ?_) (fun c1 => ?_)
  · skip
    rw [if_pos c1] at hf
    refine lv_iconst (v := 0) hx hb d_M_alter_24 (by decide) ?_
    obtain ⟨rfl, rfl⟩ := gRt_e hf
    exact g_zret hx hb hr hlocks rfl hAe hS () rfl hP d_M_alter_25
  rw [if_neg c1] at hf
  refine lv_iload_n hx hb d_M_alter_4 rfl (lv_at hl 1 rfl) ?_
  refine lv_aload_n hx hb d_M_alter_5 rfl (lv_at hl 0 rfl) ?_
  refine va_get (D := X) (ci := 9) (C := R_M) (T := T_M) (N := 35) hx hb hts u_0 hown hK hP 0 gm_0 rfl 7 (by decide) k_0 (fun _ h9 => h9) rfl d_M_alter_6 ?_
  refine lv_icmp_ge (tgt := 24) hx hb d_M_alter_9 rfl (fun c2 => ?_) (fun c2 => ?_)
  · skip
    rw [if_pos c2] at hf
    refine lv_iconst (v := 0) hx hb d_M_alter_24 (by decide) ?_
    obtain ⟨rfl, rfl⟩ := gRt_e hf
    exact g_zret hx hb hr hlocks rfl hAe hS () rfl hP d_M_alter_25
  rw [if_neg c2] at hf
  refine lv_iload_n hx hb d_M_alter_12 rfl (lv_at hl 2 rfl) ?_
  refine lv_bipush (v := 32) hx hb d_M_alter_13 (by decide) ?_
  refine lv_icmp_lt (tgt := 24) hx hb d_M_alter_15 rfl (fun c3 => ?_) (fun c3 => ?_)
  · skip
    rw [if_pos c3] at hf
    refine lv_iconst (v := 0) hx hb d_M_alter_24 (by decide) ?_
    obtain ⟨rfl, rfl⟩ := gRt_e hf
    exact g_zret hx hb hr hlocks rfl hAe hS () rfl hP d_M_alter_25
  rw [if_neg c3] at hf
  refine lv_iload_n hx hb d_M_alter_18 rfl (lv_at hl 2 rfl) ?_
  refine lv_bipush (v := 126) hx hb d_M_alter_19 (by decide) ?_
  refine lv_icmp_le (tgt := 26) hx hb d_M_alter_21 rfl (fun c4 => ?_) (fun c4 => ?_)
  · skip
    rw [if_pos c4] at hf
    refine lv_aload_n hx hb d_M_alter_26 rfl (lv_at hl 0 rfl) ?_
    refine va_get (D := X) (ci := 9) (C := R_M) (T := T_M) (N := 35) hx hb hts u_0 hown hK hP 0 gm_0 rfl 8 (by decide) k_1 (fun _ h9 => h9) rfl d_M_alter_27 ?_
    refine lv_iload_n hx hb d_M_alter_30 rfl (lv_at hl 1 rfl) ?_
    refine lv_iload_n hx hb d_M_alter_31 rfl (lv_at hl 2 rfl) ?_
    obtain ⟨σ5, h6, e7, hf⟩ := gSt_e hf
    refine va_cast hx hb hK hP hD hS 7 1 gm_7 rfl h6 d_M_alter_32 (fun H locs hP hD hS => ?_)
    rw [sm_7, ← e7] at hP hD
    refine lv_iconst (v := 1) hx hb d_M_alter_33 (by decide) ?_
    obtain ⟨rfl, rfl⟩ := gRt_e hf
    exact g_zret hx hb hr hlocks rfl hAe hS () rfl hP d_M_alter_34
  rw [if_neg c4] at hf
  refine lv_iconst (v := 0) hx hb d_M_alter_24 (by decide) ?_
  obtain ⟨rfl, rfl⟩ := gRt_e hf
  exact g_zret hx hb hr hlocks rfl hAe hS () rfl hP d_M_alter_25

def f_M_cut (σ : gS) (x1 : Int32) : Option (Int32 × gS) := if x1 < 0 then (some (0, σ)) else (if x1 ≤ (σ.1 1) then (gPut σ 1 x1 (fun σ3 => some (1, σ3))) else (some (0, σ)))
set_option maxHeartbeats 4000000 in
set_option maxRecDepth 100000 in
theorem m_M_cut {l : Launch} {X : va_G} {cI cC cZ : ClassId} {aK aV : Nat → Nat} {b : Nat → Nat} {σ σ' : gS} {r : Int32} {x1 : Int32} (hf : f_M_cut σ x1 = some (r, σ')) {sz : Nat} : Met l y_M_cut w_M_cut { frames := 0, cells := 0, slots := 0, locals := 0 } (gPc X vwCl (gT cI cC cZ) aK aV (mW cI cC cZ b σ) sz [.ref (b 0), .int x1]) (gQi X vwCl (mW cI cC cZ b σ) sz (fun r' (_ : Unit) => r' = r) (fun _ => mW cI cC cZ b σ')) 0 0 (va_A (mW cI cC cZ b σ) sz) := by
  refine g_met (cc := b_M_cut) (maxL := 2) (ret := (some .boolean)) (by decide) rfl (Nat.le_of_ble_eq_true rfl) ?_
  intro p e s m below meth c A ls hx hb hr hml hown hts hlocks hnm hsz hAe hA hP hK hD hS hl hE
  have hown : s.vm.findClass R_M = some m.cls := hown
  have u_0 : ∀ w ∈ u_ws R_M T_M 35, w ∈ w_M_cut := fun w h => List.mem_cons_of_mem _ (tu_M w h)
  have k_0 := hts (.fieldLink R_M 110 "GraphPagesModel" "used" "I") (List.mem_cons_of_mem _ tb_413)
  unfold f_M_cut at hf
  refine lv_iload_n hx hb d_M_cut_0 rfl (lv_at hl 1 rfl) ?_
  refine lv_if_lt (tgt := 12) hx hb d_M_cut_1 rfl (fun c1 => ?_) (fun c1 => ?_)
  · skip
    rw [if_pos c1] at hf
    refine lv_iconst (v := 0) hx hb d_M_cut_12 (by decide) ?_
    obtain ⟨rfl, rfl⟩ := gRt_e hf
    exact g_zret hx hb hr hlocks rfl hAe hS () rfl hP d_M_cut_13
  rw [if_neg c1] at hf
  refine lv_iload_n hx hb d_M_cut_4 rfl (lv_at hl 1 rfl) ?_
  refine lv_aload_n hx hb d_M_cut_5 rfl (lv_at hl 0 rfl) ?_
  refine va_get (D := X) (ci := 9) (C := R_M) (T := T_M) (N := 35) hx hb hts u_0 hown hK hP 0 gm_0 rfl 7 (by decide) k_0 (fun _ h9 => h9) rfl d_M_cut_6 ?_
  refine lv_icmp_le (tgt := 14) hx hb d_M_cut_9 rfl (fun c2 => ?_) (fun c2 => ?_)
  · skip
    rw [if_pos c2] at hf
    refine lv_aload_n hx hb d_M_cut_14 rfl (lv_at hl 0 rfl) ?_
    refine lv_iload_n hx hb d_M_cut_15 rfl (lv_at hl 1 rfl) ?_
    obtain ⟨σ3, e4, hf⟩ := gPut_e hf
    refine va_put (D := X) (ci := 9) (ty := .int) (C := R_M) (T := T_M) (N := 35) hx hb hts u_0 t_M t_M_ok n_M hown hK hP hD hS 0 gm_0 rfl 7 (by decide) k_0 (fun _ h9 => h9) rfl (by decide +kernel) rfl rfl (Nat.le_of_ble_eq_true rfl) d_M_cut_16 (fun H locs hP hD hS => ?_)
    rw [sm_0_7, ← e4] at hP hD
    refine lv_iconst (v := 1) hx hb d_M_cut_19 (by decide) ?_
    obtain ⟨rfl, rfl⟩ := gRt_e hf
    exact g_zret hx hb hr hlocks rfl hAe hS () rfl hP d_M_cut_20
  rw [if_neg c2] at hf
  refine lv_iconst (v := 0) hx hb d_M_cut_12 (by decide) ?_
  obtain ⟨rfl, rfl⟩ := gRt_e hf
  exact g_zret hx hb hr hlocks rfl hAe hS () rfl hP d_M_cut_13
