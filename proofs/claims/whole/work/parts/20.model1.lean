def B_M_out_0 (rec : Nat → List Int32 → gS → Option (Int32 × gS)) (x1 : Int32) (x2 : Int32) (x3 : Int32) (x4 : Int32) (σ0 : gS) : Option (Int32 × gS) := rec 1 [x1, x2, x3, x4, 0] σ0
def B_M_out_1 (rec : Nat → List Int32 → gS → Option (Int32 × gS)) (x1 : Int32) (x2 : Int32) (x3 : Int32) (x4 : Int32) (x5 : Int32) (σ0 : gS) : Option (Int32 × gS) := if 4 ≤ x5 then (some (0, σ0)) else (if x5 = 0 then (rec 2 [x1, x2, x3, x4, x5, x1] σ0) else (if x5 = 1 then (rec 2 [x1, x2, x3, x4, x5, x2] σ0) else (if x5 = 2 then (rec 2 [x1, x2, x3, x4, x5, x3] σ0) else (rec 2 [x1, x2, x3, x4, x5, x4] σ0))))
def B_M_out_2 (rec : Nat → List Int32 → gS → Option (Int32 × gS)) (x1 : Int32) (x2 : Int32) (x3 : Int32) (x4 : Int32) (x5 : Int32) (z0 : Int32) (σ0 : gS) : Option (Int32 × gS) := if z0 = 0 then (rec 3 [x1, x2, x3, x4, x5] σ0) else (gSt σ0 7 1600 (σ0.1 1) (vp_nar .char (z0.toUInt32 % 65536).toInt32) (fun σ6 => gPut σ6 1 ((σ6.1 1) + 1) (fun σ9 => rec 3 [x1, x2, x3, x4, x5] σ9)))
def B_M_out_3 (rec : Nat → List Int32 → gS → Option (Int32 × gS)) (x1 : Int32) (x2 : Int32) (x3 : Int32) (x4 : Int32) (x5 : Int32) (σ0 : gS) : Option (Int32 × gS) := rec 1 [x1, x2, x3, x4, (x5 + 1)] σ0
def S_M_out (rec : Nat → List Int32 → gS → Option (Int32 × gS)) (k : Nat) (l : List Int32) (σ0 : gS) : Option (Int32 × gS) := match k, l with
  | 0, [x1, x2, x3, x4] => B_M_out_0 rec x1 x2 x3 x4 σ0
  | 1, [x1, x2, x3, x4, x5] => B_M_out_1 rec x1 x2 x3 x4 x5 σ0
  | 2, [x1, x2, x3, x4, x5, z0] => B_M_out_2 rec x1 x2 x3 x4 x5 z0 σ0
  | 3, [x1, x2, x3, x4, x5] => B_M_out_3 rec x1 x2 x3 x4 x5 σ0
  | _, _ => none
def R_M_out : Nat → Nat → List Int32 → gS → Option (Int32 × gS)
  | 0 => fun _ _ _ => none
  | t + 1 => fun k l σ0 => S_M_out (R_M_out t) k l σ0
def f_M_out (σ : gS) (x1 : Int32) (x2 : Int32) (x3 : Int32) (x4 : Int32) : Option (Int32 × gS) := R_M_out gFuel 0 [x1, x2, x3, x4] σ
set_option maxHeartbeats 4000000 in
set_option maxRecDepth 100000 in
theorem m_M_out {l : Launch} {X : va_G} {cI cC cZ : ClassId} {aK aV : Nat → Nat} {b : Nat → Nat} {σ σ' : gS} {r : Int32} {q1 : Int32} {q2 : Int32} {q3 : Int32} {q4 : Int32} (hf : f_M_out σ q1 q2 q3 q4 = some (r, σ')) {sz : Nat} : Met l y_M_out w_M_out { frames := 0, cells := 0, slots := 0, locals := 0 } (gPc X vwCl (gT cI cC cZ) aK aV (mW cI cC cZ b σ) sz [.ref (b 0), .int q1, .int q2, .int q3, .int q4]) (gQv X vwCl (mW cI cC cZ b σ) sz (fun (_ : Unit) => True) (fun _ => mW cI cC cZ b σ')) 0 0 (va_A (mW cI cC cZ b σ) sz) := by
  refine g_met (cc := b_M_out) (maxL := 7) (ret := none) (by decide) rfl (Nat.le_of_ble_eq_true rfl) ?_
  intro p e s m below meth c A ls hx hb hr hml hown hts hlocks hnm hsz hAe hA hP hK hD hS hl hE
  have hown : s.vm.findClass R_M = some m.cls := hown
  have u_0 : ∀ w ∈ u_ws R_M T_M 35, w ∈ w_M_out := fun w h => List.mem_cons_of_mem _ (tu_M w h)
  have k_0 := hts (.fieldLink R_M 29 "GraphPagesModel" "page" "[C") (List.mem_cons_of_mem _ tb_412)
  have k_1 := hts (.fieldLink R_M 110 "GraphPagesModel" "used" "I") (List.mem_cons_of_mem _ tb_413)
  unfold f_M_out at hf
  have key : ∀ t : Nat, (∀ (x1 : Int32) (x2 : Int32) (x3 : Int32) (x4 : Int32) (σ0 : gS) (H : Heap) (locs : List Loc) (ls : Array Slot), R_M_out t 0 [x1, x2, x3, x4] σ0 = some (r, σ') → va_P X vwCl (mW cI cC cZ b σ0) H → va_D A (mW cI cC cZ b σ0) → va_S A s.heap H locs → lv_has ls 7 [(0, .ref (b 0)), (1, .int x1), (2, .int x2), (3, .int x3), (4, .int x4)] → W p l e (headSpec w_M_out { frames := 0, cells := 0, slots := 0, locals := 0 }).room s m [.ref (b 0), .int q1, .int q2, .int q3, .int q4].toArray below meth c H locs 0 0 (MQ below (gQv X vwCl (mW cI cC cZ b σ) sz (fun (_ : Unit) => True) (fun _ => mW cI cC cZ b σ')) [.ref (b 0), .int q1, .int q2, .int q3, .int q4].toArray s 0 0 (va_A (mW cI cC cZ b σ) sz)) (F0 m 0 ls [])) ∧ (∀ (x1 : Int32) (x2 : Int32) (x3 : Int32) (x4 : Int32) (x5 : Int32) (σ0 : gS) (H : Heap) (locs : List Loc) (ls : Array Slot), R_M_out t 1 [x1, x2, x3, x4, x5] σ0 = some (r, σ') → va_P X vwCl (mW cI cC cZ b σ0) H → va_D A (mW cI cC cZ b σ0) → va_S A s.heap H locs → lv_has ls 7 [(0, .ref (b 0)), (1, .int x1), (2, .int x2), (3, .int x3), (4, .int x4), (5, .int x5)] → W p l e (headSpec w_M_out { frames := 0, cells := 0, slots := 0, locals := 0 }).room s m [.ref (b 0), .int q1, .int q2, .int q3, .int q4].toArray below meth c H locs 0 0 (MQ below (gQv X vwCl (mW cI cC cZ b σ) sz (fun (_ : Unit) => True) (fun _ => mW cI cC cZ b σ')) [.ref (b 0), .int q1, .int q2, .int q3, .int q4].toArray s 0 0 (va_A (mW cI cC cZ b σ) sz)) (F0 m 3 ls [])) ∧ (∀ (x1 : Int32) (x2 : Int32) (x3 : Int32) (x4 : Int32) (x5 : Int32) (z0 : Int32) (σ0 : gS) (H : Heap) (locs : List Loc) (ls : Array Slot), R_M_out t 2 [x1, x2, x3, x4, x5, z0] σ0 = some (r, σ') → va_P X vwCl (mW cI cC cZ b σ0) H → va_D A (mW cI cC cZ b σ0) → va_S A s.heap H locs → lv_has ls 7 [(0, .ref (b 0)), (1, .int x1), (2, .int x2), (3, .int x3), (4, .int x4), (5, .int x5)] → W p l e (headSpec w_M_out { frames := 0, cells := 0, slots := 0, locals := 0 }).room s m [.ref (b 0), .int q1, .int q2, .int q3, .int q4].toArray below meth c H locs 0 0 (MQ below (gQv X vwCl (mW cI cC cZ b σ) sz (fun (_ : Unit) => True) (fun _ => mW cI cC cZ b σ')) [.ref (b 0), .int q1, .int q2, .int q3, .int q4].toArray s 0 0 (va_A (mW cI cC cZ b σ) sz)) (F0 m 40 ls [.int z0])) ∧ (∀ (x1 : Int32) (x2 : Int32) (x3 : Int32) (x4 : Int32) (x5 : Int32) (σ0 : gS) (H : Heap) (locs : List Loc) (ls : Array Slot), R_M_out t 3 [x1, x2, x3, x4, x5] σ0 = some (r, σ') → va_P X vwCl (mW cI cC cZ b σ0) H → va_D A (mW cI cC cZ b σ0) → va_S A s.heap H locs → lv_has ls 7 [(0, .ref (b 0)), (1, .int x1), (2, .int x2), (3, .int x3), (4, .int x4), (5, .int x5)] → W p l e (headSpec w_M_out { frames := 0, cells := 0, slots := 0, locals := 0 }).room s m [.ref (b 0), .int q1, .int q2, .int q3, .int q4].toArray below meth c H locs 0 0 (MQ below (gQv X vwCl (mW cI cC cZ b σ) sz (fun (_ : Unit) => True) (fun _ => mW cI cC cZ b σ')) [.ref (b 0), .int q1, .int q2, .int q3, .int q4].toArray s 0 0 (va_A (mW cI cC cZ b σ) sz)) (F0 m 69 ls [])) := by
    intro t
    induction t with
    | zero => exact ⟨fun _ _ _ _ _ _ _ _ hf => (by have hf : (none : Option (Int32 × gS)) = some (r, σ') := hf; cases hf), fun _ _ _ _ _ _ _ _ _ hf => (by have hf : (none : Option (Int32 × gS)) = some (r, σ') := hf; cases hf), fun _ _ _ _ _ _ _ _ _ _ hf => (by have hf : (none : Option (Int32 × gS)) = some (r, σ') := hf; cases hf), fun _ _ _ _ _ _ _ _ _ hf => (by have hf : (none : Option (Int32 × gS)) = some (r, σ') := hf; cases hf)⟩
    | succ t ih =>
      obtain ⟨ih0, ih1, ih2, ih3⟩ := ih
      refine ⟨?_, ?_, ?_, ?_⟩
      · intro x1 x2 x3 x4 σ0 H locs ls hf hP hD hS hl
        have hf : B_M_out_0 (R_M_out t) x1 x2 x3 x4 σ0 = some (r, σ') := hf
        unfold B_M_out_0 at hf
        refine lv_iconst (v := 0) hx hb d_M_out_0 (by decide) ?_
        refine lv_istore hx hb d_M_out_1 hl (by decide) rfl (fun ls hl => ?_)
        exact ih1 (x1) (x2) (x3) (x4) (0) σ0 _ _ _ hf hP hD hS (lv_sub hl [1, 2, 3, 4, 5, 0] rfl)
      · intro x1 x2 x3 x4 x5 σ0 H locs ls hf hP hD hS hl
        have hf : B_M_out_1 (R_M_out t) x1 x2 x3 x4 x5 σ0 = some (r, σ') := hf
        unfold B_M_out_1 at hf
        refine lv_iload hx hb d_M_out_3 (lv_at hl 5 rfl) ?_
        refine lv_iconst (v := 4) hx hb d_M_out_5 (by decide) ?_
        refine lv_icmp_ge (tgt := 75) hx hb d_M_out_6 rfl (fun c1 => ?_) (fun c1 => ?_)
        · skip
          rw [if_pos c1] at hf
          obtain ⟨-, rfl⟩ := gRt_e hf
          exact g_vret hx hb hr hlocks hAe hS () trivial hP d_M_out_75
        rw [if_neg c1] at hf
        refine lv_iload hx hb d_M_out_9 (lv_at hl 5 rfl) ?_
        refine lv_if_ne (tgt := 18) hx hb d_M_out_11 rfl (fun c2 => ?_) (fun c2 => ?_)
        · skip
          rw [if_neg c2] at hf
          refine lv_iload hx hb d_M_out_18 (lv_at hl 5 rfl) ?_
          refine lv_iconst (v := 1) hx hb d_M_out_20 (by decide) ?_
          refine lv_icmp_ne (tgt := 28) hx hb d_M_out_21 rfl (fun c3 => ?_) (fun c3 => ?_)
          · skip
            rw [if_neg c3] at hf
            refine lv_iload hx hb d_M_out_28 (lv_at hl 5 rfl) ?_
            refine lv_iconst (v := 2) hx hb d_M_out_30 (by decide) ?_
            refine lv_icmp_ne (tgt := 38) hx hb d_M_out_31 rfl (fun c4 => ?_) (fun c4 => ?_)
            · skip
              rw [if_neg c4] at hf
              refine lv_iload hx hb d_M_out_38 (lv_at hl 4 rfl) ?_
              exact ih2 (x1) (x2) (x3) (x4) (x5) (x4) σ0 _ _ _ hf hP hD hS (lv_sub hl [0, 1, 2, 3, 4, 5] rfl)
            rw [if_pos c4] at hf
            refine lv_iload_n hx hb d_M_out_34 rfl (lv_at hl 3 rfl) ?_
            refine lv_goto (tgt := 40) hx hb d_M_out_35 rfl ?_
            exact ih2 (x1) (x2) (x3) (x4) (x5) (x3) σ0 _ _ _ hf hP hD hS (lv_sub hl [0, 1, 2, 3, 4, 5] rfl)
          rw [if_pos c3] at hf
          refine lv_iload_n hx hb d_M_out_24 rfl (lv_at hl 2 rfl) ?_
          refine lv_goto (tgt := 40) hx hb d_M_out_25 rfl ?_
          exact ih2 (x1) (x2) (x3) (x4) (x5) (x2) σ0 _ _ _ hf hP hD hS (lv_sub hl [0, 1, 2, 3, 4, 5] rfl)
        rw [if_pos c2] at hf
        refine lv_iload_n hx hb d_M_out_14 rfl (lv_at hl 1 rfl) ?_
        refine lv_goto (tgt := 40) hx hb d_M_out_15 rfl ?_
        exact ih2 (x1) (x2) (x3) (x4) (x5) (x1) σ0 _ _ _ hf hP hD hS (lv_sub hl [0, 1, 2, 3, 4, 5] rfl)
      · intro x1 x2 x3 x4 x5 z0 σ0 H locs ls hf hP hD hS hl
        have hf : B_M_out_2 (R_M_out t) x1 x2 x3 x4 x5 z0 σ0 = some (r, σ') := hf
        unfold B_M_out_2 at hf
        refine lv_istore hx hb d_M_out_40 hl (by decide) rfl (fun ls hl => ?_)
        refine lv_iload hx hb d_M_out_42 (lv_at hl 0 rfl) ?_
        refine lv_if_eq (tgt := 69) hx hb d_M_out_44 rfl (fun c5 => ?_) (fun c5 => ?_)
        · skip
          rw [if_pos c5] at hf
          exact ih3 (x1) (x2) (x3) (x4) (x5) σ0 _ _ _ hf hP hD hS (lv_sub hl [1, 2, 3, 4, 5, 6] rfl)
        rw [if_neg c5] at hf
        refine lv_aload_n hx hb d_M_out_47 rfl (lv_at hl 1 rfl) ?_
        refine va_get (D := X) (ci := 9) (C := R_M) (T := T_M) (N := 35) hx hb hts u_0 hown hK hP 0 gm_0 rfl 8 (by decide) k_0 (fun _ h9 => h9) rfl d_M_out_48 ?_
        refine lv_aload_n hx hb d_M_out_51 rfl (lv_at hl 1 rfl) ?_
        refine va_get (D := X) (ci := 9) (C := R_M) (T := T_M) (N := 35) hx hb hts u_0 hown hK hP 0 gm_0 rfl 7 (by decide) k_1 (fun _ h9 => h9) rfl d_M_out_52 ?_
        refine lv_iload hx hb d_M_out_55 (lv_at hl 0 rfl) ?_
        refine lv_i2c hx hb d_M_out_57 rfl ?_
        obtain ⟨σ6, h7, e8, hf⟩ := gSt_e hf
        refine va_cast hx hb hK hP hD hS 7 1 gm_7 rfl h7 d_M_out_58 (fun H locs hP hD hS => ?_)
        rw [sm_7, ← e8] at hP hD
        refine lv_aload_n hx hb d_M_out_59 rfl (lv_at hl 1 rfl) ?_
        refine lv_dup hx hb d_M_out_60 rfl ?_
        refine va_get (D := X) (ci := 9) (C := R_M) (T := T_M) (N := 35) hx hb hts u_0 hown hK hP 0 gm_0 rfl 7 (by decide) k_1 (fun _ h9 => h9) rfl d_M_out_61 ?_
        refine lv_iconst (v := 1) hx hb d_M_out_64 (by decide) ?_
        refine lv_iadd hx hb d_M_out_65 ?_
        obtain ⟨σ9, e10, hf⟩ := gPut_e hf
        refine va_put (D := X) (ci := 9) (ty := .int) (C := R_M) (T := T_M) (N := 35) hx hb hts u_0 t_M t_M_ok n_M hown hK hP hD hS 0 gm_0 rfl 7 (by decide) k_1 (fun _ h9 => h9) rfl (by decide +kernel) rfl rfl (Nat.le_of_ble_eq_true rfl) d_M_out_66 (fun H locs hP hD hS => ?_)
        rw [sm_0_7, ← e10] at hP hD
        exact ih3 (x1) (x2) (x3) (x4) (x5) σ9 _ _ _ hf hP hD hS (lv_sub hl [1, 2, 3, 4, 5, 6] rfl)
      · intro x1 x2 x3 x4 x5 σ0 H locs ls hf hP hD hS hl
        have hf : B_M_out_3 (R_M_out t) x1 x2 x3 x4 x5 σ0 = some (r, σ') := hf
        unfold B_M_out_3 at hf
        refine lv_iinc (k := 5) (v := (x5 + 1)) hx hb d_M_out_69 hl rfl (by rw [show Int32.ofInt (1) = (1 : Int32) by decide]) (by decide) rfl (fun ls hl => ?_)
        refine lv_goto (tgt := 3) hx hb d_M_out_72 rfl ?_
        exact ih1 (x1) (x2) (x3) (x4) ((x5 + 1)) σ0 _ _ _ hf hP hD hS (lv_sub hl [1, 2, 3, 4, 5, 0] rfl)
  exact (key gFuel).1 q1 q2 q3 q4 σ _ _ _ hf hP hD hS hl

def B_M_number_0 (rec : Nat → List Int32 → List Int64 → gS → Option (Int32 × gS)) (x1 : Int64) (σ0 : gS) : Option (Int32 × gS) := if 0 ≤ (lg_cmp x1 0) then (rec 1 [] [x1, x1] σ0) else (rec 1 [] [x1, (-x1)] σ0)
def B_M_number_1 (rec : Nat → List Int32 → List Int64 → gS → Option (Int32 × gS)) (x1 : Int64) (z0 : Int64) (σ0 : gS) : Option (Int32 × gS) := if 0 ≤ (lg_cmp x1 0) then (rec 2 [0] [z0] σ0) else (rec 2 [45] [z0] σ0)
def B_M_number_2 (rec : Nat → List Int32 → List Int64 → gS → Option (Int32 × gS)) (z1 : Int32) (x3 : Int64) (σ0 : gS) : Option (Int32 × gS) := gBd (f_M_out σ0 z1 0 0 0) (fun _ σ4 => rec 3 [] [x3, 1] σ4)
def B_M_number_3 (rec : Nat → List Int32 → List Int64 → gS → Option (Int32 × gS)) (x3 : Int64) (x5 : Int64) (σ0 : gS) : Option (Int32 × gS) := gNel (x5) (if (lg_cmp (x3 / x5) 10) < 0 then (rec 4 [] [x3, x5] σ0) else (rec 3 [] [x3, (x5 * 10)] σ0))
def B_M_number_4 (rec : Nat → List Int32 → List Int64 → gS → Option (Int32 × gS)) (x3 : Int64) (x5 : Int64) (σ0 : gS) : Option (Int32 × gS) := if (lg_cmp x5 0) ≤ 0 then (some (0, σ0)) else (gNel (x5) (gBd (f_M_out σ0 (48 + ((x3 / x5) - (x3 / x5) / 10 * 10)).toInt32 0 0 0) (fun _ σ11 => rec 4 [] [x3, (x5 / 10)] σ11)))
def S_M_number (rec : Nat → List Int32 → List Int64 → gS → Option (Int32 × gS)) (k : Nat) (l : List Int32) (w : List Int64) (σ0 : gS) : Option (Int32 × gS) := match k, l, w with
  | 0, [], [x1] => B_M_number_0 rec x1 σ0
  | 1, [], [x1, z0] => B_M_number_1 rec x1 z0 σ0
  | 2, [z1], [x3] => B_M_number_2 rec z1 x3 σ0
  | 3, [], [x3, x5] => B_M_number_3 rec x3 x5 σ0
  | 4, [], [x3, x5] => B_M_number_4 rec x3 x5 σ0
  | _, _, _ => none
def R_M_number : Nat → Nat → List Int32 → List Int64 → gS → Option (Int32 × gS)
  | 0 => fun _ _ _ _ => none
  | t + 1 => fun k l w σ0 => S_M_number (R_M_number t) k l w σ0
def f_M_number (σ : gS) (x1 : Int64) : Option (Int32 × gS) := R_M_number gFuel 0 [] [x1] σ
set_option maxHeartbeats 4000000 in
set_option maxRecDepth 100000 in
theorem m_M_number {l : Launch} {X : va_G} {cI cC cZ : ClassId} {aK aV : Nat → Nat} {b : Nat → Nat} {σ σ' : gS} {r : Int32} {q1 : Int64} (hf : f_M_number σ q1 = some (r, σ')) {sz : Nat} : Met l y_M_number w_M_number { frames := 1, cells := 0, slots := 0, locals := 26 } (gPc X vwCl (gT cI cC cZ) aK aV (mW cI cC cZ b σ) sz [.ref (b 0), .long q1]) (gQv X vwCl (mW cI cC cZ b σ) sz (fun (_ : Unit) => True) (fun _ => mW cI cC cZ b σ')) 0 0 (va_A (mW cI cC cZ b σ) sz) := by
  refine g_met (cc := b_M_number) (maxL := 7) (ret := none) (by decide) rfl (Nat.le_of_ble_eq_true rfl) ?_
  intro p e s m below meth c A ls hx hb hr hml hown hts hlocks hnm hsz hAe hA hP hK hD hS hl hE
  have hown : s.vm.findClass R_M = some m.cls := hown
  have k_0 := hts (.constantLong R_M 117 10) (List.mem_cons_of_mem _ tb_417)
  have k_1 := hts (.constantLong R_M 119 48) (List.mem_cons_of_mem _ tb_418)
  unfold f_M_number at hf
  have key : ∀ t : Nat, (∀ (x1 : Int64) (σ0 : gS) (H : Heap) (locs : List Loc) (ls : Array Slot), R_M_number t 0 [] [x1] σ0 = some (r, σ') → va_P X vwCl (mW cI cC cZ b σ0) H → va_D A (mW cI cC cZ b σ0) → va_S A s.heap H locs → lv_has ls 7 [(0, .ref (b 0)), (1, .long x1)] → W p l e (headSpec w_M_number { frames := 1, cells := 0, slots := 0, locals := 26 }).room s m [.ref (b 0), .long q1].toArray below meth c H locs 0 0 (MQ below (gQv X vwCl (mW cI cC cZ b σ) sz (fun (_ : Unit) => True) (fun _ => mW cI cC cZ b σ')) [.ref (b 0), .long q1].toArray s 0 0 (va_A (mW cI cC cZ b σ) sz)) (F0 m 0 ls [])) ∧ (∀ (x1 : Int64) (z0 : Int64) (σ0 : gS) (H : Heap) (locs : List Loc) (ls : Array Slot), R_M_number t 1 [] [x1, z0] σ0 = some (r, σ') → va_P X vwCl (mW cI cC cZ b σ0) H → va_D A (mW cI cC cZ b σ0) → va_S A s.heap H locs → lv_has ls 7 [(0, .ref (b 0)), (1, .long x1)] → W p l e (headSpec w_M_number { frames := 1, cells := 0, slots := 0, locals := 26 }).room s m [.ref (b 0), .long q1].toArray below meth c H locs 0 0 (MQ below (gQv X vwCl (mW cI cC cZ b σ) sz (fun (_ : Unit) => True) (fun _ => mW cI cC cZ b σ')) [.ref (b 0), .long q1].toArray s 0 0 (va_A (mW cI cC cZ b σ) sz)) (F0 m 12 ls [.long z0])) ∧ (∀ (z1 : Int32) (x3 : Int64) (σ0 : gS) (H : Heap) (locs : List Loc) (ls : Array Slot), R_M_number t 2 [z1] [x3] σ0 = some (r, σ') → va_P X vwCl (mW cI cC cZ b σ0) H → va_D A (mW cI cC cZ b σ0) → va_S A s.heap H locs → lv_has ls 7 [(0, .ref (b 0)), (3, .long x3)] → W p l e (headSpec w_M_number { frames := 1, cells := 0, slots := 0, locals := 26 }).room s m [.ref (b 0), .long q1].toArray below meth c H locs 0 0 (MQ below (gQv X vwCl (mW cI cC cZ b σ) sz (fun (_ : Unit) => True) (fun _ => mW cI cC cZ b σ')) [.ref (b 0), .long q1].toArray s 0 0 (va_A (mW cI cC cZ b σ) sz)) (F0 m 26 ls [.int z1, .ref (b 0)])) ∧ (∀ (x3 : Int64) (x5 : Int64) (σ0 : gS) (H : Heap) (locs : List Loc) (ls : Array Slot), R_M_number t 3 [] [x3, x5] σ0 = some (r, σ') → va_P X vwCl (mW cI cC cZ b σ0) H → va_D A (mW cI cC cZ b σ0) → va_S A s.heap H locs → lv_has ls 7 [(0, .ref (b 0)), (3, .long x3), (5, .long x5)] → W p l e (headSpec w_M_number { frames := 1, cells := 0, slots := 0, locals := 26 }).room s m [.ref (b 0), .long q1].toArray below meth c H locs 0 0 (MQ below (gQv X vwCl (mW cI cC cZ b σ) sz (fun (_ : Unit) => True) (fun _ => mW cI cC cZ b σ')) [.ref (b 0), .long q1].toArray s 0 0 (va_A (mW cI cC cZ b σ) sz)) (F0 m 35 ls [])) ∧ (∀ (x3 : Int64) (x5 : Int64) (σ0 : gS) (H : Heap) (locs : List Loc) (ls : Array Slot), R_M_number t 4 [] [x3, x5] σ0 = some (r, σ') → va_P X vwCl (mW cI cC cZ b σ0) H → va_D A (mW cI cC cZ b σ0) → va_S A s.heap H locs → lv_has ls 7 [(0, .ref (b 0)), (3, .long x3), (5, .long x5)] → W p l e (headSpec w_M_number { frames := 1, cells := 0, slots := 0, locals := 26 }).room s m [.ref (b 0), .long q1].toArray below meth c H locs 0 0 (MQ below (gQv X vwCl (mW cI cC cZ b σ) sz (fun (_ : Unit) => True) (fun _ => mW cI cC cZ b σ')) [.ref (b 0), .long q1].toArray s 0 0 (va_A (mW cI cC cZ b σ) sz)) (F0 m 57 ls [])) := by
    intro t
    induction t with
    | zero => exact ⟨fun _ _ _ _ _ hf => (by have hf : (none : Option (Int32 × gS)) = some (r, σ') := hf; cases hf), fun _ _ _ _ _ _ hf => (by have hf : (none : Option (Int32 × gS)) = some (r, σ') := hf; cases hf), fun _ _ _ _ _ _ hf => (by have hf : (none : Option (Int32 × gS)) = some (r, σ') := hf; cases hf), fun _ _ _ _ _ _ hf => (by have hf : (none : Option (Int32 × gS)) = some (r, σ') := hf; cases hf), fun _ _ _ _ _ _ hf => (by have hf : (none : Option (Int32 × gS)) = some (r, σ') := hf; cases hf)⟩
    | succ t ih =>
      obtain ⟨ih0, ih1, ih2, ih3, ih4⟩ := ih
      refine ⟨?_, ?_, ?_, ?_, ?_⟩
      · intro x1 σ0 H locs ls hf hP hD hS hl
        have hf : B_M_number_0 (R_M_number t) x1 σ0 = some (r, σ') := hf
        unfold B_M_number_0 at hf
        refine lv_lload_n hx hb d_M_number_0 rfl (lv_at hl 1 rfl) ?_
        refine lv_lconst (v := 0) hx hb d_M_number_1 (by decide) ?_
        refine W.lcmp hx hb d_M_number_2 ?_
        refine lv_if_ge (tgt := 11) hx hb d_M_number_3 rfl (fun c1 => ?_) (fun c1 => ?_)
        · skip
          rw [if_pos c1] at hf
          refine lv_lload_n hx hb d_M_number_11 rfl (lv_at hl 1 rfl) ?_
          exact ih1 (x1) (x1) σ0 _ _ _ hf hP hD hS (lv_sub hl [0, 1] rfl)
        rw [if_neg c1] at hf
        refine lv_lload_n hx hb d_M_number_6 rfl (lv_at hl 1 rfl) ?_
        refine lv_lneg hx hb d_M_number_7 ?_
        refine lv_goto (tgt := 12) hx hb d_M_number_8 rfl ?_
        exact ih1 (x1) ((-x1)) σ0 _ _ _ hf hP hD hS (lv_sub hl [0, 1] rfl)
      · intro x1 z0 σ0 H locs ls hf hP hD hS hl
        have hf : B_M_number_1 (R_M_number t) x1 z0 σ0 = some (r, σ') := hf
        unfold B_M_number_1 at hf
        refine lv_lstore_n hx hb d_M_number_12 rfl hl (by decide) rfl (fun ls hl => ?_)
        refine lv_aload_n hx hb d_M_number_13 rfl (lv_at hl 1 rfl) ?_
        refine lv_lload_n hx hb d_M_number_14 rfl (lv_at hl 2 rfl) ?_
        refine lv_lconst (v := 0) hx hb d_M_number_15 (by decide) ?_
        refine W.lcmp hx hb d_M_number_16 ?_
        refine lv_if_ge (tgt := 25) hx hb d_M_number_17 rfl (fun c2 => ?_) (fun c2 => ?_)
        · skip
          rw [if_pos c2] at hf
          refine lv_iconst (v := 0) hx hb d_M_number_25 (by decide) ?_
          exact ih2 (0) (z0) σ0 _ _ _ hf hP hD hS (lv_sub hl [1, 0] rfl)
        rw [if_neg c2] at hf
        refine lv_bipush (v := 45) hx hb d_M_number_20 (by decide) ?_
        refine lv_goto (tgt := 26) hx hb d_M_number_22 rfl ?_
        exact ih2 (45) (z0) σ0 _ _ _ hf hP hD hS (lv_sub hl [1, 0] rfl)
      · intro z1 x3 σ0 H locs ls hf hP hD hS hl
        have hf : B_M_number_2 (R_M_number t) z1 x3 σ0 = some (r, σ') := hf
        unfold B_M_number_2 at hf
        refine lv_iconst (v := 0) hx hb d_M_number_26 (by decide) ?_
        refine lv_iconst (v := 0) hx hb d_M_number_27 (by decide) ?_
        refine lv_iconst (v := 0) hx hb d_M_number_28 (by decide) ?_
        obtain ⟨y3, σ4, e5, hf⟩ := gBd_e hf
        refine g_wv (va_runV ⟨hx, hb, hml, hown, hts⟩ (m_M_out e5) (cwV 4 hts (gG4 (fun _ h => List.mem_cons_of_mem _ h) tb_414 tb_415 tb_416 tb_392 tc_M_out) rfl rfl rfl (by decide +kernel) ⟨Nat.le_of_ble_eq_true rfl, Nat.le_of_ble_eq_true rfl⟩) (g_preVW (q0 := 0) hE hK hP hD hS hA gm_0 rfl) rfl rfl hl.1 rfl (lv_room (Nat.le_of_ble_eq_true rfl)) d_M_number_29 ⟨Nat.zero_le _, Nat.zero_le _⟩) hD hS hA (fun _ => mW_fst) (fun _ H locs _ hP hD hS => ?_)
        refine lv_lconst (v := 1) hx hb d_M_number_32 (by decide) ?_
        refine lv_lstore hx hb d_M_number_33 hl (by decide) rfl (fun ls hl => ?_)
        exact ih3 (x3) (1) σ4 _ _ _ hf hP hD hS (lv_sub hl [1, 2, 0] rfl)
      · intro x3 x5 σ0 H locs ls hf hP hD hS hl
        have hf : B_M_number_3 (R_M_number t) x3 x5 σ0 = some (r, σ') := hf
        unfold B_M_number_3 at hf
        refine lv_lload_n hx hb d_M_number_35 rfl (lv_at hl 1 rfl) ?_
        refine lv_lload hx hb d_M_number_36 (lv_at hl 2 rfl) ?_
        obtain ⟨hz6, hf⟩ := gNel_e hf
        refine lv_ldiv hx hb d_M_number_38 hz6 ?_
        refine lv_ldc2 (v := 10) hx hb hown k_0 d_M_number_39 ?_
        refine W.lcmp hx hb d_M_number_42 ?_
        refine lv_if_lt (tgt := 57) hx hb d_M_number_43 rfl (fun c7 => ?_) (fun c7 => ?_)
        · skip
          rw [if_pos c7] at hf
          exact ih4 (x3) (x5) σ0 _ _ _ hf hP hD hS (lv_sub hl [0, 1, 2] rfl)
        rw [if_neg c7] at hf
        refine lv_lload hx hb d_M_number_46 (lv_at hl 2 rfl) ?_
        refine lv_ldc2 (v := 10) hx hb hown k_0 d_M_number_48 ?_
        refine lv_lmul hx hb d_M_number_51 ?_
        refine lv_lstore hx hb d_M_number_52 hl (by decide) rfl (fun ls hl => ?_)
        refine lv_goto (tgt := 35) hx hb d_M_number_54 rfl ?_
        exact ih3 (x3) ((x5 * 10)) σ0 _ _ _ hf hP hD hS (lv_sub hl [1, 2, 0] rfl)
      · intro x3 x5 σ0 H locs ls hf hP hD hS hl
        have hf : B_M_number_4 (R_M_number t) x3 x5 σ0 = some (r, σ') := hf
        unfold B_M_number_4 at hf
        refine lv_lload hx hb d_M_number_57 (lv_at hl 2 rfl) ?_
        refine lv_lconst (v := 0) hx hb d_M_number_59 (by decide) ?_
        refine W.lcmp hx hb d_M_number_60 ?_
        refine lv_if_le (tgt := 95) hx hb d_M_number_61 rfl (fun c8 => ?_) (fun c8 => ?_)
        · skip
          rw [if_pos c8] at hf
          obtain ⟨-, rfl⟩ := gRt_e hf
          exact g_vret hx hb hr hlocks hAe hS () trivial hP d_M_number_95
        rw [if_neg c8] at hf
        refine lv_aload_n hx hb d_M_number_64 rfl (lv_at hl 0 rfl) ?_
        refine lv_ldc2 (v := 48) hx hb hown k_1 d_M_number_65 ?_
        refine lv_lload_n hx hb d_M_number_68 rfl (lv_at hl 1 rfl) ?_
        refine lv_lload hx hb d_M_number_69 (lv_at hl 2 rfl) ?_
        obtain ⟨hz9, hf⟩ := gNel_e hf
        refine lv_ldiv hx hb d_M_number_71 hz9 ?_
        refine lv_ldc2 (v := 10) hx hb hown k_0 d_M_number_72 ?_
        refine lv_lrem hx hb d_M_number_75 (by decide) ?_
        refine lv_ladd hx hb d_M_number_76 ?_
        refine lv_l2i hx hb d_M_number_77 rfl ?_
        refine lv_iconst (v := 0) hx hb d_M_number_78 (by decide) ?_
        refine lv_iconst (v := 0) hx hb d_M_number_79 (by decide) ?_
        refine lv_iconst (v := 0) hx hb d_M_number_80 (by decide) ?_
        obtain ⟨y10, σ11, e12, hf⟩ := gBd_e hf
        refine g_wv (va_runV ⟨hx, hb, hml, hown, hts⟩ (m_M_out e12) (cwV 4 hts (gG4 (fun _ h => List.mem_cons_of_mem _ h) tb_414 tb_415 tb_416 tb_392 tc_M_out) rfl rfl rfl (by decide +kernel) ⟨Nat.le_of_ble_eq_true rfl, Nat.le_of_ble_eq_true rfl⟩) (g_preVW (q0 := 0) hE hK hP hD hS hA gm_0 rfl) rfl rfl hl.1 rfl (lv_room (Nat.le_of_ble_eq_true rfl)) d_M_number_81 ⟨Nat.zero_le _, Nat.zero_le _⟩) hD hS hA (fun _ => mW_fst) (fun _ H locs _ hP hD hS => ?_)
        refine lv_lload hx hb d_M_number_84 (lv_at hl 2 rfl) ?_
        refine lv_ldc2 (v := 10) hx hb hown k_0 d_M_number_86 ?_
        refine lv_ldiv hx hb d_M_number_89 (by decide) ?_
        refine lv_lstore hx hb d_M_number_90 hl (by decide) rfl (fun ls hl => ?_)
        refine lv_goto (tgt := 57) hx hb d_M_number_92 rfl ?_
        exact ih4 (x3) ((x5 / 10)) σ11 _ _ _ hf hP hD hS (lv_sub hl [1, 2, 0] rfl)
  exact (key gFuel).1 q1 σ _ _ _ hf hP hD hS hl

def f_M_attribute (σ : gS) (x1 : Int32) (x2 : Int32) (x3 : Int32) : Option (Int32 × gS) := gBd (f_M_out σ 32 x1 x2 61) (fun _ σ2 => gBd (f_M_out σ2 34 0 0 0) (fun _ σ5 => gBd (f_M_number σ5 x3.toInt64) (fun _ σ8 => gBd (f_M_out σ8 34 0 0 0) (fun _ σ11 => some (0, σ11)))))
set_option maxHeartbeats 4000000 in
set_option maxRecDepth 100000 in
theorem m_M_attribute {l : Launch} {X : va_G} {cI cC cZ : ClassId} {aK aV : Nat → Nat} {b : Nat → Nat} {σ σ' : gS} {r : Int32} {x1 : Int32} {x2 : Int32} {x3 : Int32} (hf : f_M_attribute σ x1 x2 x3 = some (r, σ')) {sz : Nat} : Met l y_M_attribute w_M_attribute { frames := 2, cells := 0, slots := 0, locals := 52 } (gPc X vwCl (gT cI cC cZ) aK aV (mW cI cC cZ b σ) sz [.ref (b 0), .int x1, .int x2, .int x3]) (gQv X vwCl (mW cI cC cZ b σ) sz (fun (_ : Unit) => True) (fun _ => mW cI cC cZ b σ')) 0 0 (va_A (mW cI cC cZ b σ) sz) := by
  refine g_met (cc := b_M_attribute) (maxL := 4) (ret := none) (by decide) rfl (Nat.le_of_ble_eq_true rfl) ?_
  intro p e s m below meth c A ls hx hb hr hml hown hts hlocks hnm hsz hAe hA hP hK hD hS hl hE
  have hown : s.vm.findClass R_M = some m.cls := hown
  unfold f_M_attribute at hf
  refine lv_aload_n hx hb d_M_attribute_0 rfl (lv_at hl 0 rfl) ?_
  refine lv_bipush (v := 32) hx hb d_M_attribute_1 (by decide) ?_
  refine lv_iload_n hx hb d_M_attribute_3 rfl (lv_at hl 1 rfl) ?_
  refine lv_iload_n hx hb d_M_attribute_4 rfl (lv_at hl 2 rfl) ?_
  refine lv_bipush (v := 61) hx hb d_M_attribute_5 (by decide) ?_
  obtain ⟨y1, σ2, e3, hf⟩ := gBd_e hf
  refine g_wv (va_runV ⟨hx, hb, hml, hown, hts⟩ (m_M_out e3) (cwV 4 hts (gG4 (fun _ h => List.mem_cons_of_mem _ h) tb_414 tb_415 tb_416 tb_392 tc_M_out) rfl rfl rfl (by decide +kernel) ⟨Nat.le_of_ble_eq_true rfl, Nat.le_of_ble_eq_true rfl⟩) (g_preVW (q0 := 0) hE hK hP hD hS hA gm_0 rfl) rfl rfl hl.1 rfl (lv_room (Nat.le_of_ble_eq_true rfl)) d_M_attribute_7 ⟨Nat.zero_le _, Nat.zero_le _⟩) hD hS hA (fun _ => mW_fst) (fun _ H locs _ hP hD hS => ?_)
  refine lv_aload_n hx hb d_M_attribute_10 rfl (lv_at hl 0 rfl) ?_
  refine lv_bipush (v := 34) hx hb d_M_attribute_11 (by decide) ?_
  refine lv_iconst (v := 0) hx hb d_M_attribute_13 (by decide) ?_
  refine lv_iconst (v := 0) hx hb d_M_attribute_14 (by decide) ?_
  refine lv_iconst (v := 0) hx hb d_M_attribute_15 (by decide) ?_
  obtain ⟨y4, σ5, e6, hf⟩ := gBd_e hf
  refine g_wv (va_runV ⟨hx, hb, hml, hown, hts⟩ (m_M_out e6) (cwV 4 hts (gG4 (fun _ h => List.mem_cons_of_mem _ h) tb_414 tb_415 tb_416 tb_392 tc_M_out) rfl rfl rfl (by decide +kernel) ⟨Nat.le_of_ble_eq_true rfl, Nat.le_of_ble_eq_true rfl⟩) (g_preVW (q0 := 0) hE hK hP hD hS hA gm_0 rfl) rfl rfl hl.1 rfl (lv_room (Nat.le_of_ble_eq_true rfl)) d_M_attribute_16 ⟨Nat.zero_le _, Nat.zero_le _⟩) hD hS hA (fun _ => mW_fst) (fun _ H locs _ hP hD hS => ?_)
  refine lv_aload_n hx hb d_M_attribute_19 rfl (lv_at hl 0 rfl) ?_
  refine lv_iload_n hx hb d_M_attribute_20 rfl (lv_at hl 3 rfl) ?_
  refine lv_i2l hx hb d_M_attribute_21 rfl ?_
  obtain ⟨y7, σ8, e9, hf⟩ := gBd_e hf
  refine g_wv (va_runV ⟨hx, hb, hml, hown, hts⟩ (m_M_number e9) (cwV 1 hts (gG4 (fun _ h => List.mem_cons_of_mem _ h) tb_419 tb_420 tb_421 tb_392 tc_M_number) rfl rfl rfl (by decide +kernel) ⟨Nat.le_of_ble_eq_true rfl, Nat.le_of_ble_eq_true rfl⟩) (g_preVW (q0 := 0) hE hK hP hD hS hA gm_0 rfl) rfl rfl hl.1 rfl (lv_room (Nat.le_of_ble_eq_true rfl)) d_M_attribute_22 ⟨Nat.zero_le _, Nat.zero_le _⟩) hD hS hA (fun _ => mW_fst) (fun _ H locs _ hP hD hS => ?_)
  refine lv_aload_n hx hb d_M_attribute_25 rfl (lv_at hl 0 rfl) ?_
  refine lv_bipush (v := 34) hx hb d_M_attribute_26 (by decide) ?_
  refine lv_iconst (v := 0) hx hb d_M_attribute_28 (by decide) ?_
  refine lv_iconst (v := 0) hx hb d_M_attribute_29 (by decide) ?_
  refine lv_iconst (v := 0) hx hb d_M_attribute_30 (by decide) ?_
  obtain ⟨y10, σ11, e12, hf⟩ := gBd_e hf
  refine g_wv (va_runV ⟨hx, hb, hml, hown, hts⟩ (m_M_out e12) (cwV 4 hts (gG4 (fun _ h => List.mem_cons_of_mem _ h) tb_414 tb_415 tb_416 tb_392 tc_M_out) rfl rfl rfl (by decide +kernel) ⟨Nat.le_of_ble_eq_true rfl, Nat.le_of_ble_eq_true rfl⟩) (g_preVW (q0 := 0) hE hK hP hD hS hA gm_0 rfl) rfl rfl hl.1 rfl (lv_room (Nat.le_of_ble_eq_true rfl)) d_M_attribute_31 ⟨Nat.zero_le _, Nat.zero_le _⟩) hD hS hA (fun _ => mW_fst) (fun _ H locs _ hP hD hS => ?_)
  obtain ⟨-, rfl⟩ := gRt_e hf
  exact g_vret hx hb hr hlocks hAe hS () trivial hP d_M_attribute_34

def f_M_character (σ : gS) (x1 : Int32) : Option (Int32 × gS) := if x1 = 60 then (gBd (f_M_out σ 38 108 116 59) (fun _ σ17 => some (0, σ17))) else (if x1 = 62 then (gBd (f_M_out σ 38 103 116 59) (fun _ σ14 => some (0, σ14))) else (if x1 = 38 then (gBd (f_M_out σ 38 97 109 112) (fun _ σ8 => gBd (f_M_out σ8 59 0 0 0) (fun _ σ11 => some (0, σ11)))) else (gBd (f_M_out σ x1 0 0 0) (fun _ σ5 => some (0, σ5)))))
set_option maxHeartbeats 4000000 in
set_option maxRecDepth 100000 in
theorem m_M_character {l : Launch} {X : va_G} {cI cC cZ : ClassId} {aK aV : Nat → Nat} {b : Nat → Nat} {σ σ' : gS} {r : Int32} {x1 : Int32} (hf : f_M_character σ x1 = some (r, σ')) {sz : Nat} : Met l y_M_character w_M_character { frames := 1, cells := 0, slots := 0, locals := 26 } (gPc X vwCl (gT cI cC cZ) aK aV (mW cI cC cZ b σ) sz [.ref (b 0), .int x1]) (gQv X vwCl (mW cI cC cZ b σ) sz (fun (_ : Unit) => True) (fun _ => mW cI cC cZ b σ')) 0 0 (va_A (mW cI cC cZ b σ) sz) := by
  refine g_met (cc := b_M_character) (maxL := 2) (ret := none) (by decide) rfl (Nat.le_of_ble_eq_true rfl) ?_
  intro p e s m below meth c A ls hx hb hr hml hown hts hlocks hnm hsz hAe hA hP hK hD hS hl hE
  have hown : s.vm.findClass R_M = some m.cls := hown
  unfold f_M_character at hf
  refine lv_iload_n hx hb d_M_character_0 rfl (lv_at hl 1 rfl) ?_
  refine lv_bipush (v := 60) hx hb d_M_character_1 (by decide) ?_
  refine lv_icmp_ne (tgt := 21) hx hb d_M_character_3 rfl (fun c1 => ?_) (fun c1 => ?_)
  · skip
    rw [if_neg c1] at hf
    refine lv_iload_n hx hb d_M_character_21 rfl (lv_at hl 1 rfl) ?_
    refine lv_bipush (v := 62) hx hb d_M_character_22 (by decide) ?_
    refine lv_icmp_ne (tgt := 42) hx hb d_M_character_24 rfl (fun c2 => ?_) (fun c2 => ?_)
    · skip
      rw [if_neg c2] at hf
      refine lv_iload_n hx hb d_M_character_42 rfl (lv_at hl 1 rfl) ?_
      refine lv_bipush (v := 38) hx hb d_M_character_43 (by decide) ?_
      refine lv_icmp_ne (tgt := 72) hx hb d_M_character_45 rfl (fun c3 => ?_) (fun c3 => ?_)
      · skip
        rw [if_neg c3] at hf
        refine lv_aload_n hx hb d_M_character_72 rfl (lv_at hl 0 rfl) ?_
        refine lv_iload_n hx hb d_M_character_73 rfl (lv_at hl 1 rfl) ?_
        refine lv_iconst (v := 0) hx hb d_M_character_74 (by decide) ?_
        refine lv_iconst (v := 0) hx hb d_M_character_75 (by decide) ?_
        refine lv_iconst (v := 0) hx hb d_M_character_76 (by decide) ?_
        obtain ⟨y4, σ5, e6, hf⟩ := gBd_e hf
        refine g_wv (va_runV ⟨hx, hb, hml, hown, hts⟩ (m_M_out e6) (cwV 4 hts (gG4 (fun _ h => List.mem_cons_of_mem _ h) tb_414 tb_415 tb_416 tb_392 tc_M_out) rfl rfl rfl (by decide +kernel) ⟨Nat.le_of_ble_eq_true rfl, Nat.le_of_ble_eq_true rfl⟩) (g_preVW (q0 := 0) hE hK hP hD hS hA gm_0 rfl) rfl rfl hl.1 rfl (lv_room (Nat.le_of_ble_eq_true rfl)) d_M_character_77 ⟨Nat.zero_le _, Nat.zero_le _⟩) hD hS hA (fun _ => mW_fst) (fun _ H locs _ hP hD hS => ?_)
        obtain ⟨-, rfl⟩ := gRt_e hf
        exact g_vret hx hb hr hlocks hAe hS () trivial hP d_M_character_80
      rw [if_pos c3] at hf
      refine lv_aload_n hx hb d_M_character_48 rfl (lv_at hl 0 rfl) ?_
      refine lv_bipush (v := 38) hx hb d_M_character_49 (by decide) ?_
      refine lv_bipush (v := 97) hx hb d_M_character_51 (by decide) ?_
      refine lv_bipush (v := 109) hx hb d_M_character_53 (by decide) ?_
      refine lv_bipush (v := 112) hx hb d_M_character_55 (by decide) ?_
      obtain ⟨y7, σ8, e9, hf⟩ := gBd_e hf
      refine g_wv (va_runV ⟨hx, hb, hml, hown, hts⟩ (m_M_out e9) (cwV 4 hts (gG4 (fun _ h => List.mem_cons_of_mem _ h) tb_414 tb_415 tb_416 tb_392 tc_M_out) rfl rfl rfl (by decide +kernel) ⟨Nat.le_of_ble_eq_true rfl, Nat.le_of_ble_eq_true rfl⟩) (g_preVW (q0 := 0) hE hK hP hD hS hA gm_0 rfl) rfl rfl hl.1 rfl (lv_room (Nat.le_of_ble_eq_true rfl)) d_M_character_57 ⟨Nat.zero_le _, Nat.zero_le _⟩) hD hS hA (fun _ => mW_fst) (fun _ H locs _ hP hD hS => ?_)
      refine lv_aload_n hx hb d_M_character_60 rfl (lv_at hl 0 rfl) ?_
      refine lv_bipush (v := 59) hx hb d_M_character_61 (by decide) ?_
      refine lv_iconst (v := 0) hx hb d_M_character_63 (by decide) ?_
      refine lv_iconst (v := 0) hx hb d_M_character_64 (by decide) ?_
      refine lv_iconst (v := 0) hx hb d_M_character_65 (by decide) ?_
      obtain ⟨y10, σ11, e12, hf⟩ := gBd_e hf
      refine g_wv (va_runV ⟨hx, hb, hml, hown, hts⟩ (m_M_out e12) (cwV 4 hts (gG4 (fun _ h => List.mem_cons_of_mem _ h) tb_414 tb_415 tb_416 tb_392 tc_M_out) rfl rfl rfl (by decide +kernel) ⟨Nat.le_of_ble_eq_true rfl, Nat.le_of_ble_eq_true rfl⟩) (g_preVW (q0 := 0) hE hK hP hD hS hA gm_0 rfl) rfl rfl hl.1 rfl (lv_room (Nat.le_of_ble_eq_true rfl)) d_M_character_66 ⟨Nat.zero_le _, Nat.zero_le _⟩) hD hS hA (fun _ => mW_fst) (fun _ H locs _ hP hD hS => ?_)
      refine lv_goto (tgt := 80) hx hb d_M_character_69 rfl ?_
      obtain ⟨-, rfl⟩ := gRt_e hf
      exact g_vret hx hb hr hlocks hAe hS () trivial hP d_M_character_80
    rw [if_pos c2] at hf
    refine lv_aload_n hx hb d_M_character_27 rfl (lv_at hl 0 rfl) ?_
    refine lv_bipush (v := 38) hx hb d_M_character_28 (by decide) ?_
    refine lv_bipush (v := 103) hx hb d_M_character_30 (by decide) ?_
    refine lv_bipush (v := 116) hx hb d_M_character_32 (by decide) ?_
    refine lv_bipush (v := 59) hx hb d_M_character_34 (by decide) ?_
    obtain ⟨y13, σ14, e15, hf⟩ := gBd_e hf
    refine g_wv (va_runV ⟨hx, hb, hml, hown, hts⟩ (m_M_out e15) (cwV 4 hts (gG4 (fun _ h => List.mem_cons_of_mem _ h) tb_414 tb_415 tb_416 tb_392 tc_M_out) rfl rfl rfl (by decide +kernel) ⟨Nat.le_of_ble_eq_true rfl, Nat.le_of_ble_eq_true rfl⟩) (g_preVW (q0 := 0) hE hK hP hD hS hA gm_0 rfl) rfl rfl hl.1 rfl (lv_room (Nat.le_of_ble_eq_true rfl)) d_M_character_36 ⟨Nat.zero_le _, Nat.zero_le _⟩) hD hS hA (fun _ => mW_fst) (fun _ H locs _ hP hD hS => ?_)
    refine lv_goto (tgt := 80) hx hb d_M_character_39 rfl ?_
    obtain ⟨-, rfl⟩ := gRt_e hf
    exact g_vret hx hb hr hlocks hAe hS () trivial hP d_M_character_80
  rw [if_pos c1] at hf
  refine lv_aload_n hx hb d_M_character_6 rfl (lv_at hl 0 rfl) ?_
  refine lv_bipush (v := 38) hx hb d_M_character_7 (by decide) ?_
  refine lv_bipush (v := 108) hx hb d_M_character_9 (by decide) ?_
  refine lv_bipush (v := 116) hx hb d_M_character_11 (by decide) ?_
  refine lv_bipush (v := 59) hx hb d_M_character_13 (by decide) ?_
  obtain ⟨y16, σ17, e18, hf⟩ := gBd_e hf
  refine g_wv (va_runV ⟨hx, hb, hml, hown, hts⟩ (m_M_out e18) (cwV 4 hts (gG4 (fun _ h => List.mem_cons_of_mem _ h) tb_414 tb_415 tb_416 tb_392 tc_M_out) rfl rfl rfl (by decide +kernel) ⟨Nat.le_of_ble_eq_true rfl, Nat.le_of_ble_eq_true rfl⟩) (g_preVW (q0 := 0) hE hK hP hD hS hA gm_0 rfl) rfl rfl hl.1 rfl (lv_room (Nat.le_of_ble_eq_true rfl)) d_M_character_15 ⟨Nat.zero_le _, Nat.zero_le _⟩) hD hS hA (fun _ => mW_fst) (fun _ H locs _ hP hD hS => ?_)
  refine lv_goto (tgt := 80) hx hb d_M_character_18 rfl ?_
  obtain ⟨-, rfl⟩ := gRt_e hf
  exact g_vret hx hb hr hlocks hAe hS () trivial hP d_M_character_80

def B_M_element_0 (rec : Nat → List Int32 → gS → Option (Int32 × gS)) (x1 : Int32) (σ0 : gS) : Option (Int32 × gS) := gLd σ0 1 16 x1 (fun y1 => if y1 = 0 then (rec 1 [x1, 112] σ0) else (gLd σ0 1 16 x1 (fun y5 => if y5 = 1 then (rec 1 [x1, 97] σ0) else (rec 1 [x1, 116] σ0))))
def B_M_element_1 (rec : Nat → List Int32 → gS → Option (Int32 × gS)) (x1 : Int32) (z0 : Int32) (σ0 : gS) : Option (Int32 × gS) := gBd (f_M_out σ0 60 z0 0 0) (fun _ σ10 => gLd σ10 21 16 x1 (fun y12 => if y12 ≤ 0 then (rec 2 [x1, z0] σ10) else (gLd σ10 21 16 x1 (fun y16 => gBd (f_M_attribute σ10 105 100 y16) (fun _ σ20 => rec 2 [x1, z0] σ20)))))
def B_M_element_2 (rec : Nat → List Int32 → gS → Option (Int32 × gS)) (x1 : Int32) (x2 : Int32) (σ0 : gS) : Option (Int32 × gS) := gLd σ0 2 16 x1 (fun y22 => gLd σ0 1 16 x1 (fun y25 => if y25 = 1 then (rec 3 [x1, x2, 0, (y22 - 1)] σ0) else (rec 6 [x1, x2, 0, (y22 - 1)] σ0)))
def B_M_element_3 (rec : Nat → List Int32 → gS → Option (Int32 × gS)) (x1 : Int32) (x2 : Int32) (x3 : Int32) (x4 : Int32) (σ0 : gS) : Option (Int32 × gS) := if x4 < 0 then (rec 4 [x1, x2, x3, x4] σ0) else (gLd σ0 3 64 ((4 * x1) + x4) (fun y30 => if y30 = 0 then (rec 3 [x1, x2, x3, (x4 + (-1))] σ0) else (rec 4 [x1, x2, x3, x4] σ0)))
def B_M_element_4 (rec : Nat → List Int32 → gS → Option (Int32 × gS)) (x1 : Int32) (x2 : Int32) (x3 : Int32) (x4 : Int32) (σ0 : gS) : Option (Int32 × gS) := if x4 ≤ x3 then (rec 5 [x1, x2, x3, x4] σ0) else (gLd σ0 3 64 ((4 * x1) + x3) (fun y35 => if y35 = 0 then (rec 4 [x1, x2, (x3 + 1), x4] σ0) else (rec 5 [x1, x2, x3, x4] σ0)))
def B_M_element_5 (rec : Nat → List Int32 → gS → Option (Int32 × gS)) (x1 : Int32) (x2 : Int32) (x3 : Int32) (x4 : Int32) (σ0 : gS) : Option (Int32 × gS) := gLd σ0 2 16 x1 (fun y39 => gBd (f_M_attribute σ0 110 0 y39) (fun _ σ43 => if x3 ≤ 0 then (rec 6 [x1, x2, x3, x4] σ43) else (gBd (f_M_attribute σ43 111 0 x3) (fun _ σ47 => rec 6 [x1, x2, x3, x4] σ47))))
def B_M_element_6 (rec : Nat → List Int32 → gS → Option (Int32 × gS)) (x1 : Int32) (x2 : Int32) (x3 : Int32) (x4 : Int32) (σ0 : gS) : Option (Int32 × gS) := gBd (f_M_out σ0 62 0 0 0) (fun _ σ50 => gLd σ50 1 16 x1 (fun y52 => if y52 = 2 then (rec 7 [x1, 0] σ50) else (gSt σ50 23 96 (σ50.1 9) (200 + x2) (fun σ56 => gPut σ56 9 ((σ56.1 9) + 1) (fun σ59 => rec 8 [x1, x3, x4] σ59)))))
def B_M_element_7 (rec : Nat → List Int32 → gS → Option (Int32 × gS)) (x1 : Int32) (x5 : Int32) (σ0 : gS) : Option (Int32 × gS) := gLd σ0 2 16 x1 (fun y61 => if y61 ≤ x5 then (gBd (f_M_out σ0 60 47 116 62) (fun _ σ66 => some (0, σ66))) else (gLd σ0 5 96 ((6 * x1) + x5) (fun y68 => gBd (f_M_character σ0 y68) (fun _ σ72 => rec 7 [x1, (x5 + 1)] σ72))))
def B_M_element_8 (rec : Nat → List Int32 → gS → Option (Int32 × gS)) (x1 : Int32) (x3 : Int32) (x5 : Int32) (σ0 : gS) : Option (Int32 × gS) := if x5 < x3 then (some (0, σ0)) else (gSt σ0 23 96 (σ0.1 9) ((100 + (4 * x1)) + x5) (fun σ75 => gPut σ75 9 ((σ75.1 9) + 1) (fun σ78 => rec 8 [x1, x3, (x5 + (-1))] σ78)))
def S_M_element (rec : Nat → List Int32 → gS → Option (Int32 × gS)) (k : Nat) (l : List Int32) (σ0 : gS) : Option (Int32 × gS) := match k, l with
  | 0, [x1] => B_M_element_0 rec x1 σ0
  | 1, [x1, z0] => B_M_element_1 rec x1 z0 σ0
  | 2, [x1, x2] => B_M_element_2 rec x1 x2 σ0
  | 3, [x1, x2, x3, x4] => B_M_element_3 rec x1 x2 x3 x4 σ0
  | 4, [x1, x2, x3, x4] => B_M_element_4 rec x1 x2 x3 x4 σ0
  | 5, [x1, x2, x3, x4] => B_M_element_5 rec x1 x2 x3 x4 σ0
  | 6, [x1, x2, x3, x4] => B_M_element_6 rec x1 x2 x3 x4 σ0
  | 7, [x1, x5] => B_M_element_7 rec x1 x5 σ0
  | 8, [x1, x3, x5] => B_M_element_8 rec x1 x3 x5 σ0
  | _, _ => none
def R_M_element : Nat → Nat → List Int32 → gS → Option (Int32 × gS)
  | 0 => fun _ _ _ => none
  | t + 1 => fun k l σ0 => S_M_element (R_M_element t) k l σ0
def f_M_element (σ : gS) (x1 : Int32) : Option (Int32 × gS) := R_M_element gFuel 0 [x1] σ
set_option maxHeartbeats 4000000 in
set_option maxRecDepth 100000 in
theorem m_M_element {l : Launch} {X : va_G} {cI cC cZ : ClassId} {aK aV : Nat → Nat} {b : Nat → Nat} {σ σ' : gS} {r : Int32} {q1 : Int32} (hf : f_M_element σ q1 = some (r, σ')) {sz : Nat} : Met l y_M_element w_M_element { frames := 3, cells := 0, slots := 0, locals := 75 } (gPc X vwCl (gT cI cC cZ) aK aV (mW cI cC cZ b σ) sz [.ref (b 0), .int q1]) (gQv X vwCl (mW cI cC cZ b σ) sz (fun (_ : Unit) => True) (fun _ => mW cI cC cZ b σ')) 0 0 (va_A (mW cI cC cZ b σ) sz) := by
  refine g_met (cc := b_M_element) (maxL := 6) (ret := none) (by decide) rfl (Nat.le_of_ble_eq_true rfl) ?_
  intro p e s m below meth c A ls hx hb hr hml hown hts hlocks hnm hsz hAe hA hP hK hD hS hl hE
  have hown : s.vm.findClass R_M = some m.cls := hown
  have u_0 : ∀ w ∈ u_ws R_M T_M 35, w ∈ w_M_element := fun w h => List.mem_cons_of_mem _ (tu_M w h)
  have k_0 := hts (.fieldLink R_M 7 "GraphPagesModel" "sort" "[I") (List.mem_cons_of_mem _ tb_386)
  have k_1 := hts (.fieldLink R_M 72 "GraphPagesModel" "id" "[I") (List.mem_cons_of_mem _ tb_408)
  have k_2 := hts (.fieldLink R_M 13 "GraphPagesModel" "room" "[I") (List.mem_cons_of_mem _ tb_387)
  have k_3 := hts (.fieldLink R_M 16 "GraphPagesModel" "what" "[I") (List.mem_cons_of_mem _ tb_388)
  have k_4 := hts (.fieldLink R_M 78 "GraphPagesModel" "pile" "[I") (List.mem_cons_of_mem _ tb_428)
  have k_5 := hts (.fieldLink R_M 138 "GraphPagesModel" "piled" "I") (List.mem_cons_of_mem _ tb_429)
  have k_6 := hts (.fieldLink R_M 22 "GraphPagesModel" "letters" "[I") (List.mem_cons_of_mem _ tb_393)
  unfold f_M_element at hf
  have key : ∀ t : Nat, (∀ (x1 : Int32) (σ0 : gS) (H : Heap) (locs : List Loc) (ls : Array Slot), R_M_element t 0 [x1] σ0 = some (r, σ') → va_P X vwCl (mW cI cC cZ b σ0) H → va_D A (mW cI cC cZ b σ0) → va_S A s.heap H locs → lv_has ls 6 [(0, .ref (b 0)), (1, .int x1)] → W p l e (headSpec w_M_element { frames := 3, cells := 0, slots := 0, locals := 75 }).room s m [.ref (b 0), .int q1].toArray below meth c H locs 0 0 (MQ below (gQv X vwCl (mW cI cC cZ b σ) sz (fun (_ : Unit) => True) (fun _ => mW cI cC cZ b σ')) [.ref (b 0), .int q1].toArray s 0 0 (va_A (mW cI cC cZ b σ) sz)) (F0 m 0 ls [])) ∧ (∀ (x1 : Int32) (z0 : Int32) (σ0 : gS) (H : Heap) (locs : List Loc) (ls : Array Slot), R_M_element t 1 [x1, z0] σ0 = some (r, σ') → va_P X vwCl (mW cI cC cZ b σ0) H → va_D A (mW cI cC cZ b σ0) → va_S A s.heap H locs → lv_has ls 6 [(0, .ref (b 0)), (1, .int x1)] → W p l e (headSpec w_M_element { frames := 3, cells := 0, slots := 0, locals := 75 }).room s m [.ref (b 0), .int q1].toArray below meth c H locs 0 0 (MQ below (gQv X vwCl (mW cI cC cZ b σ) sz (fun (_ : Unit) => True) (fun _ => mW cI cC cZ b σ')) [.ref (b 0), .int q1].toArray s 0 0 (va_A (mW cI cC cZ b σ) sz)) (F0 m 31 ls [.int z0])) ∧ (∀ (x1 : Int32) (x2 : Int32) (σ0 : gS) (H : Heap) (locs : List Loc) (ls : Array Slot), R_M_element t 2 [x1, x2] σ0 = some (r, σ') → va_P X vwCl (mW cI cC cZ b σ0) H → va_D A (mW cI cC cZ b σ0) → va_S A s.heap H locs → lv_has ls 6 [(0, .ref (b 0)), (1, .int x1), (2, .int x2)] → W p l e (headSpec w_M_element { frames := 3, cells := 0, slots := 0, locals := 75 }).room s m [.ref (b 0), .int q1].toArray below meth c H locs 0 0 (MQ below (gQv X vwCl (mW cI cC cZ b σ) sz (fun (_ : Unit) => True) (fun _ => mW cI cC cZ b σ')) [.ref (b 0), .int q1].toArray s 0 0 (va_A (mW cI cC cZ b σ) sz)) (F0 m 64 ls [])) ∧ (∀ (x1 : Int32) (x2 : Int32) (x3 : Int32) (x4 : Int32) (σ0 : gS) (H : Heap) (locs : List Loc) (ls : Array Slot), R_M_element t 3 [x1, x2, x3, x4] σ0 = some (r, σ') → va_P X vwCl (mW cI cC cZ b σ0) H → va_D A (mW cI cC cZ b σ0) → va_S A s.heap H locs → lv_has ls 6 [(0, .ref (b 0)), (1, .int x1), (2, .int x2), (3, .int x3), (4, .int x4)] → W p l e (headSpec w_M_element { frames := 3, cells := 0, slots := 0, locals := 75 }).room s m [.ref (b 0), .int q1].toArray below meth c H locs 0 0 (MQ below (gQv X vwCl (mW cI cC cZ b σ) sz (fun (_ : Unit) => True) (fun _ => mW cI cC cZ b σ')) [.ref (b 0), .int q1].toArray s 0 0 (va_A (mW cI cC cZ b σ) sz)) (F0 m 86 ls [])) ∧ (∀ (x1 : Int32) (x2 : Int32) (x3 : Int32) (x4 : Int32) (σ0 : gS) (H : Heap) (locs : List Loc) (ls : Array Slot), R_M_element t 4 [x1, x2, x3, x4] σ0 = some (r, σ') → va_P X vwCl (mW cI cC cZ b σ0) H → va_D A (mW cI cC cZ b σ0) → va_S A s.heap H locs → lv_has ls 6 [(0, .ref (b 0)), (1, .int x1), (2, .int x2), (3, .int x3), (4, .int x4)] → W p l e (headSpec w_M_element { frames := 3, cells := 0, slots := 0, locals := 75 }).room s m [.ref (b 0), .int q1].toArray below meth c H locs 0 0 (MQ below (gQv X vwCl (mW cI cC cZ b σ) sz (fun (_ : Unit) => True) (fun _ => mW cI cC cZ b σ')) [.ref (b 0), .int q1].toArray s 0 0 (va_A (mW cI cC cZ b σ) sz)) (F0 m 111 ls [])) ∧ (∀ (x1 : Int32) (x2 : Int32) (x3 : Int32) (x4 : Int32) (σ0 : gS) (H : Heap) (locs : List Loc) (ls : Array Slot), R_M_element t 5 [x1, x2, x3, x4] σ0 = some (r, σ') → va_P X vwCl (mW cI cC cZ b σ0) H → va_D A (mW cI cC cZ b σ0) → va_S A s.heap H locs → lv_has ls 6 [(0, .ref (b 0)), (1, .int x1), (2, .int x2), (3, .int x3), (4, .int x4)] → W p l e (headSpec w_M_element { frames := 3, cells := 0, slots := 0, locals := 75 }).room s m [.ref (b 0), .int q1].toArray below meth c H locs 0 0 (MQ below (gQv X vwCl (mW cI cC cZ b σ) sz (fun (_ : Unit) => True) (fun _ => mW cI cC cZ b σ')) [.ref (b 0), .int q1].toArray s 0 0 (va_A (mW cI cC cZ b σ) sz)) (F0 m 136 ls [])) ∧ (∀ (x1 : Int32) (x2 : Int32) (x3 : Int32) (x4 : Int32) (σ0 : gS) (H : Heap) (locs : List Loc) (ls : Array Slot), R_M_element t 6 [x1, x2, x3, x4] σ0 = some (r, σ') → va_P X vwCl (mW cI cC cZ b σ0) H → va_D A (mW cI cC cZ b σ0) → va_S A s.heap H locs → lv_has ls 6 [(0, .ref (b 0)), (1, .int x1), (2, .int x2), (3, .int x3), (4, .int x4)] → W p l e (headSpec w_M_element { frames := 3, cells := 0, slots := 0, locals := 75 }).room s m [.ref (b 0), .int q1].toArray below meth c H locs 0 0 (MQ below (gQv X vwCl (mW cI cC cZ b σ) sz (fun (_ : Unit) => True) (fun _ => mW cI cC cZ b σ')) [.ref (b 0), .int q1].toArray s 0 0 (va_A (mW cI cC cZ b σ) sz)) (F0 m 161 ls [])) ∧ (∀ (x1 : Int32) (x5 : Int32) (σ0 : gS) (H : Heap) (locs : List Loc) (ls : Array Slot), R_M_element t 7 [x1, x5] σ0 = some (r, σ') → va_P X vwCl (mW cI cC cZ b σ0) H → va_D A (mW cI cC cZ b σ0) → va_S A s.heap H locs → lv_has ls 6 [(0, .ref (b 0)), (1, .int x1), (5, .int x5)] → W p l e (headSpec w_M_element { frames := 3, cells := 0, slots := 0, locals := 75 }).room s m [.ref (b 0), .int q1].toArray below meth c H locs 0 0 (MQ below (gQv X vwCl (mW cI cC cZ b σ) sz (fun (_ : Unit) => True) (fun _ => mW cI cC cZ b σ')) [.ref (b 0), .int q1].toArray s 0 0 (va_A (mW cI cC cZ b σ) sz)) (F0 m 183 ls [])) ∧ (∀ (x1 : Int32) (x3 : Int32) (x5 : Int32) (σ0 : gS) (H : Heap) (locs : List Loc) (ls : Array Slot), R_M_element t 8 [x1, x3, x5] σ0 = some (r, σ') → va_P X vwCl (mW cI cC cZ b σ0) H → va_D A (mW cI cC cZ b σ0) → va_S A s.heap H locs → lv_has ls 6 [(0, .ref (b 0)), (1, .int x1), (3, .int x3), (5, .int x5)] → W p l e (headSpec w_M_element { frames := 3, cells := 0, slots := 0, locals := 75 }).room s m [.ref (b 0), .int q1].toArray below meth c H locs 0 0 (MQ below (gQv X vwCl (mW cI cC cZ b σ) sz (fun (_ : Unit) => True) (fun _ => mW cI cC cZ b σ')) [.ref (b 0), .int q1].toArray s 0 0 (va_A (mW cI cC cZ b σ) sz)) (F0 m 257 ls [])) := by
    intro t
    induction t with
    | zero => exact ⟨fun _ _ _ _ _ hf => (by have hf : (none : Option (Int32 × gS)) = some (r, σ') := hf; cases hf), fun _ _ _ _ _ _ hf => (by have hf : (none : Option (Int32 × gS)) = some (r, σ') := hf; cases hf), fun _ _ _ _ _ _ hf => (by have hf : (none : Option (Int32 × gS)) = some (r, σ') := hf; cases hf), fun _ _ _ _ _ _ _ _ hf => (by have hf : (none : Option (Int32 × gS)) = some (r, σ') := hf; cases hf), fun _ _ _ _ _ _ _ _ hf => (by have hf : (none : Option (Int32 × gS)) = some (r, σ') := hf; cases hf), fun _ _ _ _ _ _ _ _ hf => (by have hf : (none : Option (Int32 × gS)) = some (r, σ') := hf; cases hf), fun _ _ _ _ _ _ _ _ hf => (by have hf : (none : Option (Int32 × gS)) = some (r, σ') := hf; cases hf), fun _ _ _ _ _ _ hf => (by have hf : (none : Option (Int32 × gS)) = some (r, σ') := hf; cases hf), fun _ _ _ _ _ _ _ hf => (by have hf : (none : Option (Int32 × gS)) = some (r, σ') := hf; cases hf)⟩
    | succ t ih =>
      obtain ⟨ih0, ih1, ih2, ih3, ih4, ih5, ih6, ih7, ih8⟩ := ih
      refine ⟨?_, ?_, ?_, ?_, ?_, ?_, ?_, ?_, ?_⟩
      · intro x1 σ0 H locs ls hf hP hD hS hl
        have hf : B_M_element_0 (R_M_element t) x1 σ0 = some (r, σ') := hf
        unfold B_M_element_0 at hf
        refine lv_aload_n hx hb d_M_element_0 rfl (lv_at hl 0 rfl) ?_
        refine va_get (D := X) (ci := 9) (C := R_M) (T := T_M) (N := 35) hx hb hts u_0 hown hK hP 0 gm_0 rfl 1 (by decide) k_0 (fun _ h9 => h9) rfl d_M_element_1 ?_
        refine lv_iload_n hx hb d_M_element_4 rfl (lv_at hl 1 rfl) ?_
        obtain ⟨y1, h2, e3, hf⟩ := gLd_e hf
        refine va_iald hx hb hK hP 1 0 gm_1 rfl h2 d_M_element_5 ?_
        rw [← e3]
        refine lv_if_ne (tgt := 14) hx hb d_M_element_6 rfl (fun c4 => ?_) (fun c4 => ?_)
        · skip
          rw [if_neg c4] at hf
          refine lv_aload_n hx hb d_M_element_14 rfl (lv_at hl 0 rfl) ?_
          refine va_get (D := X) (ci := 9) (C := R_M) (T := T_M) (N := 35) hx hb hts u_0 hown hK hP 0 gm_0 rfl 1 (by decide) k_0 (fun _ h9 => h9) rfl d_M_element_15 ?_
          refine lv_iload_n hx hb d_M_element_18 rfl (lv_at hl 1 rfl) ?_
          obtain ⟨y5, h6, e7, hf⟩ := gLd_e hf
          refine va_iald hx hb hK hP 1 0 gm_1 rfl h6 d_M_element_19 ?_
          rw [← e7]
          refine lv_iconst (v := 1) hx hb d_M_element_20 (by decide) ?_
          refine lv_icmp_ne (tgt := 29) hx hb d_M_element_21 rfl (fun c8 => ?_) (fun c8 => ?_)
          · skip
            rw [if_neg c8] at hf
            refine lv_bipush (v := 116) hx hb d_M_element_29 (by decide) ?_
            exact ih1 (x1) (116) σ0 _ _ _ hf hP hD hS (lv_sub hl [0, 1] rfl)
          rw [if_pos c8] at hf
          refine lv_bipush (v := 97) hx hb d_M_element_24 (by decide) ?_
          refine lv_goto (tgt := 31) hx hb d_M_element_26 rfl ?_
          exact ih1 (x1) (97) σ0 _ _ _ hf hP hD hS (lv_sub hl [0, 1] rfl)
        rw [if_pos c4] at hf
        refine lv_bipush (v := 112) hx hb d_M_element_9 (by decide) ?_
        refine lv_goto (tgt := 31) hx hb d_M_element_11 rfl ?_
        exact ih1 (x1) (112) σ0 _ _ _ hf hP hD hS (lv_sub hl [0, 1] rfl)
      · intro x1 z0 σ0 H locs ls hf hP hD hS hl
        have hf : B_M_element_1 (R_M_element t) x1 z0 σ0 = some (r, σ') := hf
        unfold B_M_element_1 at hf
        refine lv_istore_n hx hb d_M_element_31 rfl hl (by decide) rfl (fun ls hl => ?_)
        refine lv_aload_n hx hb d_M_element_32 rfl (lv_at hl 1 rfl) ?_
        refine lv_bipush (v := 60) hx hb d_M_element_33 (by decide) ?_
        refine lv_iload_n hx hb d_M_element_35 rfl (lv_at hl 0 rfl) ?_
        refine lv_iconst (v := 0) hx hb d_M_element_36 (by decide) ?_
        refine lv_iconst (v := 0) hx hb d_M_element_37 (by decide) ?_
        obtain ⟨y9, σ10, e11, hf⟩ := gBd_e hf
        refine g_wv (va_runV ⟨hx, hb, hml, hown, hts⟩ (m_M_out e11) (cwV 4 hts (gG4 (fun _ h => List.mem_cons_of_mem _ h) tb_414 tb_415 tb_416 tb_392 tc_M_out) rfl rfl rfl (by decide +kernel) ⟨Nat.le_of_ble_eq_true rfl, Nat.le_of_ble_eq_true rfl⟩) (g_preVW (q0 := 0) hE hK hP hD hS hA gm_0 rfl) rfl rfl hl.1 rfl (lv_room (Nat.le_of_ble_eq_true rfl)) d_M_element_38 ⟨Nat.zero_le _, Nat.zero_le _⟩) hD hS hA (fun _ => mW_fst) (fun _ H locs _ hP hD hS => ?_)
        refine lv_aload_n hx hb d_M_element_41 rfl (lv_at hl 1 rfl) ?_
        refine va_get (D := X) (ci := 9) (C := R_M) (T := T_M) (N := 35) hx hb hts u_0 hown hK hP 0 gm_0 rfl 28 (by decide) k_1 (fun _ h9 => h9) rfl d_M_element_42 ?_
        refine lv_iload_n hx hb d_M_element_45 rfl (lv_at hl 2 rfl) ?_
        obtain ⟨y12, h13, e14, hf⟩ := gLd_e hf
        refine va_iald hx hb hK hP 21 0 gm_21 rfl h13 d_M_element_46 ?_
        rw [← e14]
        refine lv_if_le (tgt := 64) hx hb d_M_element_47 rfl (fun c15 => ?_) (fun c15 => ?_)
        · skip
          rw [if_pos c15] at hf
          exact ih2 (x1) (z0) σ10 _ _ _ hf hP hD hS (lv_sub hl [1, 2, 0] rfl)
        rw [if_neg c15] at hf
        refine lv_aload_n hx hb d_M_element_50 rfl (lv_at hl 1 rfl) ?_
        refine lv_bipush (v := 105) hx hb d_M_element_51 (by decide) ?_
        refine lv_bipush (v := 100) hx hb d_M_element_53 (by decide) ?_
        refine lv_aload_n hx hb d_M_element_55 rfl (lv_at hl 1 rfl) ?_
        refine va_get (D := X) (ci := 9) (C := R_M) (T := T_M) (N := 35) hx hb hts u_0 hown hK hP 0 gm_0 rfl 28 (by decide) k_1 (fun _ h9 => h9) rfl d_M_element_56 ?_
        refine lv_iload_n hx hb d_M_element_59 rfl (lv_at hl 2 rfl) ?_
        obtain ⟨y16, h17, e18, hf⟩ := gLd_e hf
        refine va_iald hx hb hK hP 21 0 gm_21 rfl h17 d_M_element_60 ?_
        rw [← e18]
        obtain ⟨y19, σ20, e21, hf⟩ := gBd_e hf
        refine g_wv (va_runV ⟨hx, hb, hml, hown, hts⟩ (m_M_attribute e21) (cwV 3 hts (gG4 (fun _ h => List.mem_cons_of_mem _ h) tb_422 tb_423 tb_424 tb_392 tc_M_attribute) rfl rfl rfl (by decide +kernel) ⟨Nat.le_of_ble_eq_true rfl, Nat.le_of_ble_eq_true rfl⟩) (g_preVW (q0 := 0) hE hK hP hD hS hA gm_0 rfl) rfl rfl hl.1 rfl (lv_room (Nat.le_of_ble_eq_true rfl)) d_M_element_61 ⟨Nat.zero_le _, Nat.zero_le _⟩) hD hS hA (fun _ => mW_fst) (fun _ H locs _ hP hD hS => ?_)
        exact ih2 (x1) (z0) σ20 _ _ _ hf hP hD hS (lv_sub hl [1, 2, 0] rfl)
      · intro x1 x2 σ0 H locs ls hf hP hD hS hl
        have hf : B_M_element_2 (R_M_element t) x1 x2 σ0 = some (r, σ') := hf
        unfold B_M_element_2 at hf
        refine lv_iconst (v := 0) hx hb d_M_element_64 (by decide) ?_
        refine lv_istore_n hx hb d_M_element_65 rfl hl (by decide) rfl (fun ls hl => ?_)
        refine lv_aload_n hx hb d_M_element_66 rfl (lv_at hl 1 rfl) ?_
        refine va_get (D := X) (ci := 9) (C := R_M) (T := T_M) (N := 35) hx hb hts u_0 hown hK hP 0 gm_0 rfl 2 (by decide) k_2 (fun _ h9 => h9) rfl d_M_element_67 ?_
        refine lv_iload_n hx hb d_M_element_70 rfl (lv_at hl 2 rfl) ?_
        obtain ⟨y22, h23, e24, hf⟩ := gLd_e hf
        refine va_iald hx hb hK hP 2 0 gm_2 rfl h23 d_M_element_71 ?_
        rw [← e24]
        refine lv_iconst (v := 1) hx hb d_M_element_72 (by decide) ?_
        refine lv_isub hx hb d_M_element_73 ?_
        refine lv_istore hx hb d_M_element_74 hl (by decide) rfl (fun ls hl => ?_)
        refine lv_aload_n hx hb d_M_element_76 rfl (lv_at hl 2 rfl) ?_
        refine va_get (D := X) (ci := 9) (C := R_M) (T := T_M) (N := 35) hx hb hts u_0 hown hK hP 0 gm_0 rfl 1 (by decide) k_0 (fun _ h9 => h9) rfl d_M_element_77 ?_
        refine lv_iload_n hx hb d_M_element_80 rfl (lv_at hl 3 rfl) ?_
        obtain ⟨y25, h26, e27, hf⟩ := gLd_e hf
        refine va_iald hx hb hK hP 1 0 gm_1 rfl h26 d_M_element_81 ?_
        rw [← e27]
        refine lv_iconst (v := 1) hx hb d_M_element_82 (by decide) ?_
        refine lv_icmp_ne (tgt := 161) hx hb d_M_element_83 rfl (fun c28 => ?_) (fun c28 => ?_)
        · skip
          rw [if_neg c28] at hf
          exact ih6 (x1) (x2) (0) ((y22 - 1)) σ0 _ _ _ hf hP hD hS (lv_sub hl [2, 3, 4, 1, 0] rfl)
        rw [if_pos c28] at hf
        exact ih3 (x1) (x2) (0) ((y22 - 1)) σ0 _ _ _ hf hP hD hS (lv_sub hl [2, 3, 4, 1, 0] rfl)
      · intro x1 x2 x3 x4 σ0 H locs ls hf hP hD hS hl
        have hf : B_M_element_3 (R_M_element t) x1 x2 x3 x4 σ0 = some (r, σ') := hf
        unfold B_M_element_3 at hf
        refine lv_iload hx hb d_M_element_86 (lv_at hl 4 rfl) ?_
        refine lv_if_lt (tgt := 111) hx hb d_M_element_88 rfl (fun c29 => ?_) (fun c29 => ?_)
        · skip
          rw [if_pos c29] at hf
          exact ih4 (x1) (x2) (x3) (x4) σ0 _ _ _ hf hP hD hS (lv_sub hl [0, 1, 2, 3, 4] rfl)
        rw [if_neg c29] at hf
        refine lv_aload_n hx hb d_M_element_91 rfl (lv_at hl 0 rfl) ?_
        refine va_get (D := X) (ci := 9) (C := R_M) (T := T_M) (N := 35) hx hb hts u_0 hown hK hP 0 gm_0 rfl 3 (by decide) k_3 (fun _ h9 => h9) rfl d_M_element_92 ?_
        refine lv_iconst (v := 4) hx hb d_M_element_95 (by decide) ?_
        refine lv_iload_n hx hb d_M_element_96 rfl (lv_at hl 1 rfl) ?_
        refine lv_imul hx hb d_M_element_97 ?_
        refine lv_iload hx hb d_M_element_98 (lv_at hl 4 rfl) ?_
        refine lv_iadd hx hb d_M_element_100 ?_
        obtain ⟨y30, h31, e32, hf⟩ := gLd_e hf
        refine va_iald hx hb hK hP 3 0 gm_3 rfl h31 d_M_element_101 ?_
        rw [← e32]
        refine lv_if_ne (tgt := 111) hx hb d_M_element_102 rfl (fun c33 => ?_) (fun c33 => ?_)
        · skip
          rw [if_neg c33] at hf
          exact ih4 (x1) (x2) (x3) (x4) σ0 _ _ _ hf hP hD hS (lv_sub hl [0, 1, 2, 3, 4] rfl)
        rw [if_pos c33] at hf
        refine lv_iinc (k := 4) (v := (x4 + (-1))) hx hb d_M_element_105 hl rfl (by rw [show Int32.ofInt (-1) = ((-1) : Int32) by decide]) (by decide) rfl (fun ls hl => ?_)
        refine lv_goto (tgt := 86) hx hb d_M_element_108 rfl ?_
        exact ih3 (x1) (x2) (x3) ((x4 + (-1))) σ0 _ _ _ hf hP hD hS (lv_sub hl [1, 2, 3, 4, 0] rfl)
      · intro x1 x2 x3 x4 σ0 H locs ls hf hP hD hS hl
        have hf : B_M_element_4 (R_M_element t) x1 x2 x3 x4 σ0 = some (r, σ') := hf
        unfold B_M_element_4 at hf
        refine lv_iload_n hx hb d_M_element_111 rfl (lv_at hl 3 rfl) ?_
        refine lv_iload hx hb d_M_element_112 (lv_at hl 4 rfl) ?_
        refine lv_icmp_ge (tgt := 136) hx hb d_M_element_114 rfl (fun c34 => ?_) (fun c34 => ?_)
        · skip
          rw [if_pos c34] at hf
          exact ih5 (x1) (x2) (x3) (x4) σ0 _ _ _ hf hP hD hS (lv_sub hl [0, 1, 2, 3, 4] rfl)
        rw [if_neg c34] at hf
        refine lv_aload_n hx hb d_M_element_117 rfl (lv_at hl 0 rfl) ?_
        refine va_get (D := X) (ci := 9) (C := R_M) (T := T_M) (N := 35) hx hb hts u_0 hown hK hP 0 gm_0 rfl 3 (by decide) k_3 (fun _ h9 => h9) rfl d_M_element_118 ?_
        refine lv_iconst (v := 4) hx hb d_M_element_121 (by decide) ?_
        refine lv_iload_n hx hb d_M_element_122 rfl (lv_at hl 1 rfl) ?_
        refine lv_imul hx hb d_M_element_123 ?_
        refine lv_iload_n hx hb d_M_element_124 rfl (lv_at hl 3 rfl) ?_
        refine lv_iadd hx hb d_M_element_125 ?_
        obtain ⟨y35, h36, e37, hf⟩ := gLd_e hf
        refine va_iald hx hb hK hP 3 0 gm_3 rfl h36 d_M_element_126 ?_
        rw [← e37]
        refine lv_if_ne (tgt := 136) hx hb d_M_element_127 rfl (fun c38 => ?_) (fun c38 => ?_)
        · skip
          rw [if_neg c38] at hf
          exact ih5 (x1) (x2) (x3) (x4) σ0 _ _ _ hf hP hD hS (lv_sub hl [0, 1, 2, 3, 4] rfl)
        rw [if_pos c38] at hf
        refine lv_iinc (k := 3) (v := (x3 + 1)) hx hb d_M_element_130 hl rfl (by rw [show Int32.ofInt (1) = (1 : Int32) by decide]) (by decide) rfl (fun ls hl => ?_)
        refine lv_goto (tgt := 111) hx hb d_M_element_133 rfl ?_
        exact ih4 (x1) (x2) ((x3 + 1)) (x4) σ0 _ _ _ hf hP hD hS (lv_sub hl [1, 2, 3, 0, 4] rfl)
      · intro x1 x2 x3 x4 σ0 H locs ls hf hP hD hS hl
        have hf : B_M_element_5 (R_M_element t) x1 x2 x3 x4 σ0 = some (r, σ') := hf
        unfold B_M_element_5 at hf
        refine lv_aload_n hx hb d_M_element_136 rfl (lv_at hl 0 rfl) ?_
        refine lv_bipush (v := 110) hx hb d_M_element_137 (by decide) ?_
        refine lv_iconst (v := 0) hx hb d_M_element_139 (by decide) ?_
        refine lv_aload_n hx hb d_M_element_140 rfl (lv_at hl 0 rfl) ?_
        refine va_get (D := X) (ci := 9) (C := R_M) (T := T_M) (N := 35) hx hb hts u_0 hown hK hP 0 gm_0 rfl 2 (by decide) k_2 (fun _ h9 => h9) rfl d_M_element_141 ?_
        refine lv_iload_n hx hb d_M_element_144 rfl (lv_at hl 1 rfl) ?_
        obtain ⟨y39, h40, e41, hf⟩ := gLd_e hf
        refine va_iald hx hb hK hP 2 0 gm_2 rfl h40 d_M_element_145 ?_
        rw [← e41]
        obtain ⟨y42, σ43, e44, hf⟩ := gBd_e hf
        refine g_wv (va_runV ⟨hx, hb, hml, hown, hts⟩ (m_M_attribute e44) (cwV 3 hts (gG4 (fun _ h => List.mem_cons_of_mem _ h) tb_422 tb_423 tb_424 tb_392 tc_M_attribute) rfl rfl rfl (by decide +kernel) ⟨Nat.le_of_ble_eq_true rfl, Nat.le_of_ble_eq_true rfl⟩) (g_preVW (q0 := 0) hE hK hP hD hS hA gm_0 rfl) rfl rfl hl.1 rfl (lv_room (Nat.le_of_ble_eq_true rfl)) d_M_element_146 ⟨Nat.zero_le _, Nat.zero_le _⟩) hD hS hA (fun _ => mW_fst) (fun _ H locs _ hP hD hS => ?_)
        refine lv_iload_n hx hb d_M_element_149 rfl (lv_at hl 3 rfl) ?_
        refine lv_if_le (tgt := 161) hx hb d_M_element_150 rfl (fun c45 => ?_) (fun c45 => ?_)
        · skip
          rw [if_pos c45] at hf
          exact ih6 (x1) (x2) (x3) (x4) σ43 _ _ _ hf hP hD hS (lv_sub hl [0, 1, 2, 3, 4] rfl)
        rw [if_neg c45] at hf
        refine lv_aload_n hx hb d_M_element_153 rfl (lv_at hl 0 rfl) ?_
        refine lv_bipush (v := 111) hx hb d_M_element_154 (by decide) ?_
        refine lv_iconst (v := 0) hx hb d_M_element_156 (by decide) ?_
        refine lv_iload_n hx hb d_M_element_157 rfl (lv_at hl 3 rfl) ?_
        obtain ⟨y46, σ47, e48, hf⟩ := gBd_e hf
        refine g_wv (va_runV ⟨hx, hb, hml, hown, hts⟩ (m_M_attribute e48) (cwV 3 hts (gG4 (fun _ h => List.mem_cons_of_mem _ h) tb_422 tb_423 tb_424 tb_392 tc_M_attribute) rfl rfl rfl (by decide +kernel) ⟨Nat.le_of_ble_eq_true rfl, Nat.le_of_ble_eq_true rfl⟩) (g_preVW (q0 := 0) hE hK hP hD hS hA gm_0 rfl) rfl rfl hl.1 rfl (lv_room (Nat.le_of_ble_eq_true rfl)) d_M_element_158 ⟨Nat.zero_le _, Nat.zero_le _⟩) hD hS hA (fun _ => mW_fst) (fun _ H locs _ hP hD hS => ?_)
        exact ih6 (x1) (x2) (x3) (x4) σ47 _ _ _ hf hP hD hS (lv_sub hl [0, 1, 2, 3, 4] rfl)
      · intro x1 x2 x3 x4 σ0 H locs ls hf hP hD hS hl
        have hf : B_M_element_6 (R_M_element t) x1 x2 x3 x4 σ0 = some (r, σ') := hf
        unfold B_M_element_6 at hf
        refine lv_aload_n hx hb d_M_element_161 rfl (lv_at hl 0 rfl) ?_
        refine lv_bipush (v := 62) hx hb d_M_element_162 (by decide) ?_
        refine lv_iconst (v := 0) hx hb d_M_element_164 (by decide) ?_
        refine lv_iconst (v := 0) hx hb d_M_element_165 (by decide) ?_
        refine lv_iconst (v := 0) hx hb d_M_element_166 (by decide) ?_
        obtain ⟨y49, σ50, e51, hf⟩ := gBd_e hf
        refine g_wv (va_runV ⟨hx, hb, hml, hown, hts⟩ (m_M_out e51) (cwV 4 hts (gG4 (fun _ h => List.mem_cons_of_mem _ h) tb_414 tb_415 tb_416 tb_392 tc_M_out) rfl rfl rfl (by decide +kernel) ⟨Nat.le_of_ble_eq_true rfl, Nat.le_of_ble_eq_true rfl⟩) (g_preVW (q0 := 0) hE hK hP hD hS hA gm_0 rfl) rfl rfl hl.1 rfl (lv_room (Nat.le_of_ble_eq_true rfl)) d_M_element_167 ⟨Nat.zero_le _, Nat.zero_le _⟩) hD hS hA (fun _ => mW_fst) (fun _ H locs _ hP hD hS => ?_)
        refine lv_aload_n hx hb d_M_element_170 rfl (lv_at hl 0 rfl) ?_
        refine va_get (D := X) (ci := 9) (C := R_M) (T := T_M) (N := 35) hx hb hts u_0 hown hK hP 0 gm_0 rfl 1 (by decide) k_0 (fun _ h9 => h9) rfl d_M_element_171 ?_
        refine lv_iload_n hx hb d_M_element_174 rfl (lv_at hl 1 rfl) ?_
        obtain ⟨y52, h53, e54, hf⟩ := gLd_e hf
        refine va_iald hx hb hK hP 1 0 gm_1 rfl h53 d_M_element_175 ?_
        rw [← e54]
        refine lv_iconst (v := 2) hx hb d_M_element_176 (by decide) ?_
        refine lv_icmp_ne (tgt := 229) hx hb d_M_element_177 rfl (fun c55 => ?_) (fun c55 => ?_)
        · skip
          rw [if_neg c55] at hf
          refine lv_aload_n hx hb d_M_element_229 rfl (lv_at hl 0 rfl) ?_
          refine va_get (D := X) (ci := 9) (C := R_M) (T := T_M) (N := 35) hx hb hts u_0 hown hK hP 0 gm_0 rfl 31 (by decide) k_4 (fun _ h9 => h9) rfl d_M_element_230 ?_
          refine lv_aload_n hx hb d_M_element_233 rfl (lv_at hl 0 rfl) ?_
          refine va_get (D := X) (ci := 9) (C := R_M) (T := T_M) (N := 35) hx hb hts u_0 hown hK hP 0 gm_0 rfl 32 (by decide) k_5 (fun _ h9 => h9) rfl d_M_element_234 ?_
          refine lv_sipush (v := 200) hx hb d_M_element_237 (by decide) ?_
          refine lv_iload_n hx hb d_M_element_240 rfl (lv_at hl 2 rfl) ?_
          refine lv_iadd hx hb d_M_element_241 ?_
          obtain ⟨σ56, h57, e58, hf⟩ := gSt_e hf
          refine va_iast hx hb hK hP hD hS 23 0 gm_23 rfl h57 d_M_element_242 (fun H locs hP hD hS => ?_)
          rw [sm_23, ← e58] at hP hD
          refine lv_aload_n hx hb d_M_element_243 rfl (lv_at hl 0 rfl) ?_
          refine lv_dup hx hb d_M_element_244 rfl ?_
          refine va_get (D := X) (ci := 9) (C := R_M) (T := T_M) (N := 35) hx hb hts u_0 hown hK hP 0 gm_0 rfl 32 (by decide) k_5 (fun _ h9 => h9) rfl d_M_element_245 ?_
          refine lv_iconst (v := 1) hx hb d_M_element_248 (by decide) ?_
          refine lv_iadd hx hb d_M_element_249 ?_
          obtain ⟨σ59, e60, hf⟩ := gPut_e hf
          refine va_put (D := X) (ci := 9) (ty := .int) (C := R_M) (T := T_M) (N := 35) hx hb hts u_0 t_M t_M_ok n_M hown hK hP hD hS 0 gm_0 rfl 32 (by decide) k_5 (fun _ h9 => h9) rfl (by decide +kernel) rfl rfl (Nat.le_of_ble_eq_true rfl) d_M_element_250 (fun H locs hP hD hS => ?_)
          rw [sm_0_32, ← e60] at hP hD
          refine lv_iload hx hb d_M_element_253 (lv_at hl 4 rfl) ?_
          refine lv_istore hx hb d_M_element_255 hl (by decide) rfl (fun ls hl => ?_)
          exact ih8 (x1) (x3) (x4) σ59 _ _ _ hf hP hD hS (lv_sub hl [1, 2, 4, 0] rfl)
        rw [if_pos c55] at hf
        refine lv_iconst (v := 0) hx hb d_M_element_180 (by decide) ?_
        refine lv_istore hx hb d_M_element_181 hl (by decide) rfl (fun ls hl => ?_)
        exact ih7 (x1) (0) σ50 _ _ _ hf hP hD hS (lv_sub hl [1, 2, 0] rfl)
      · intro x1 x5 σ0 H locs ls hf hP hD hS hl
        have hf : B_M_element_7 (R_M_element t) x1 x5 σ0 = some (r, σ') := hf
        unfold B_M_element_7 at hf
        refine lv_iload hx hb d_M_element_183 (lv_at hl 2 rfl) ?_
        refine lv_aload_n hx hb d_M_element_185 rfl (lv_at hl 0 rfl) ?_
        refine va_get (D := X) (ci := 9) (C := R_M) (T := T_M) (N := 35) hx hb hts u_0 hown hK hP 0 gm_0 rfl 2 (by decide) k_2 (fun _ h9 => h9) rfl d_M_element_186 ?_
        refine lv_iload_n hx hb d_M_element_189 rfl (lv_at hl 1 rfl) ?_
        obtain ⟨y61, h62, e63, hf⟩ := gLd_e hf
        refine va_iald hx hb hK hP 2 0 gm_2 rfl h62 d_M_element_190 ?_
        rw [← e63]
        refine lv_icmp_ge (tgt := 216) hx hb d_M_element_191 rfl (fun c64 => ?_) (fun c64 => ?_)
        · skip
          rw [if_pos c64] at hf
          refine lv_aload_n hx hb d_M_element_216 rfl (lv_at hl 0 rfl) ?_
          refine lv_bipush (v := 60) hx hb d_M_element_217 (by decide) ?_
          refine lv_bipush (v := 47) hx hb d_M_element_219 (by decide) ?_
          refine lv_bipush (v := 116) hx hb d_M_element_221 (by decide) ?_
          refine lv_bipush (v := 62) hx hb d_M_element_223 (by decide) ?_
          obtain ⟨y65, σ66, e67, hf⟩ := gBd_e hf
          refine g_wv (va_runV ⟨hx, hb, hml, hown, hts⟩ (m_M_out e67) (cwV 4 hts (gG4 (fun _ h => List.mem_cons_of_mem _ h) tb_414 tb_415 tb_416 tb_392 tc_M_out) rfl rfl rfl (by decide +kernel) ⟨Nat.le_of_ble_eq_true rfl, Nat.le_of_ble_eq_true rfl⟩) (g_preVW (q0 := 0) hE hK hP hD hS hA gm_0 rfl) rfl rfl hl.1 rfl (lv_room (Nat.le_of_ble_eq_true rfl)) d_M_element_225 ⟨Nat.zero_le _, Nat.zero_le _⟩) hD hS hA (fun _ => mW_fst) (fun _ H locs _ hP hD hS => ?_)
          obtain ⟨-, rfl⟩ := gRt_e hf
          exact g_vret hx hb hr hlocks hAe hS () trivial hP d_M_element_228
        rw [if_neg c64] at hf
        refine lv_aload_n hx hb d_M_element_194 rfl (lv_at hl 0 rfl) ?_
        refine lv_aload_n hx hb d_M_element_195 rfl (lv_at hl 0 rfl) ?_
        refine va_get (D := X) (ci := 9) (C := R_M) (T := T_M) (N := 35) hx hb hts u_0 hown hK hP 0 gm_0 rfl 5 (by decide) k_6 (fun _ h9 => h9) rfl d_M_element_196 ?_
        refine lv_bipush (v := 6) hx hb d_M_element_199 (by decide) ?_
        refine lv_iload_n hx hb d_M_element_201 rfl (lv_at hl 1 rfl) ?_
        refine lv_imul hx hb d_M_element_202 ?_
        refine lv_iload hx hb d_M_element_203 (lv_at hl 2 rfl) ?_
        refine lv_iadd hx hb d_M_element_205 ?_
        obtain ⟨y68, h69, e70, hf⟩ := gLd_e hf
        refine va_iald hx hb hK hP 5 0 gm_5 rfl h69 d_M_element_206 ?_
        rw [← e70]
        obtain ⟨y71, σ72, e73, hf⟩ := gBd_e hf
        refine g_wv (va_runV ⟨hx, hb, hml, hown, hts⟩ (m_M_character e73) (cwV 1 hts (gG4 (fun _ h => List.mem_cons_of_mem _ h) tb_425 tb_426 tb_427 tb_392 tc_M_character) rfl rfl rfl (by decide +kernel) ⟨Nat.le_of_ble_eq_true rfl, Nat.le_of_ble_eq_true rfl⟩) (g_preVW (q0 := 0) hE hK hP hD hS hA gm_0 rfl) rfl rfl hl.1 rfl (lv_room (Nat.le_of_ble_eq_true rfl)) d_M_element_207 ⟨Nat.zero_le _, Nat.zero_le _⟩) hD hS hA (fun _ => mW_fst) (fun _ H locs _ hP hD hS => ?_)
        refine lv_iinc (k := 2) (v := (x5 + 1)) hx hb d_M_element_210 hl rfl (by rw [show Int32.ofInt (1) = (1 : Int32) by decide]) (by decide) rfl (fun ls hl => ?_)
        refine lv_goto (tgt := 183) hx hb d_M_element_213 rfl ?_
        exact ih7 (x1) ((x5 + 1)) σ72 _ _ _ hf hP hD hS (lv_sub hl [1, 2, 0] rfl)
      · intro x1 x3 x5 σ0 H locs ls hf hP hD hS hl
        have hf : B_M_element_8 (R_M_element t) x1 x3 x5 σ0 = some (r, σ') := hf
        unfold B_M_element_8 at hf
        refine lv_iload hx hb d_M_element_257 (lv_at hl 3 rfl) ?_
        refine lv_iload_n hx hb d_M_element_259 rfl (lv_at hl 2 rfl) ?_
        refine lv_icmp_lt (tgt := 297) hx hb d_M_element_260 rfl (fun c74 => ?_) (fun c74 => ?_)
        · skip
          rw [if_pos c74] at hf
          obtain ⟨-, rfl⟩ := gRt_e hf
          exact g_vret hx hb hr hlocks hAe hS () trivial hP d_M_element_297
        rw [if_neg c74] at hf
        refine lv_aload_n hx hb d_M_element_263 rfl (lv_at hl 0 rfl) ?_
        refine va_get (D := X) (ci := 9) (C := R_M) (T := T_M) (N := 35) hx hb hts u_0 hown hK hP 0 gm_0 rfl 31 (by decide) k_4 (fun _ h9 => h9) rfl d_M_element_264 ?_
        refine lv_aload_n hx hb d_M_element_267 rfl (lv_at hl 0 rfl) ?_
        refine va_get (D := X) (ci := 9) (C := R_M) (T := T_M) (N := 35) hx hb hts u_0 hown hK hP 0 gm_0 rfl 32 (by decide) k_5 (fun _ h9 => h9) rfl d_M_element_268 ?_
        refine lv_bipush (v := 100) hx hb d_M_element_271 (by decide) ?_
        refine lv_iconst (v := 4) hx hb d_M_element_273 (by decide) ?_
        refine lv_iload_n hx hb d_M_element_274 rfl (lv_at hl 1 rfl) ?_
        refine lv_imul hx hb d_M_element_275 ?_
        refine lv_iadd hx hb d_M_element_276 ?_
        refine lv_iload hx hb d_M_element_277 (lv_at hl 3 rfl) ?_
        refine lv_iadd hx hb d_M_element_279 ?_
        obtain ⟨σ75, h76, e77, hf⟩ := gSt_e hf
        refine va_iast hx hb hK hP hD hS 23 0 gm_23 rfl h76 d_M_element_280 (fun H locs hP hD hS => ?_)
        rw [sm_23, ← e77] at hP hD
        refine lv_aload_n hx hb d_M_element_281 rfl (lv_at hl 0 rfl) ?_
        refine lv_dup hx hb d_M_element_282 rfl ?_
        refine va_get (D := X) (ci := 9) (C := R_M) (T := T_M) (N := 35) hx hb hts u_0 hown hK hP 0 gm_0 rfl 32 (by decide) k_5 (fun _ h9 => h9) rfl d_M_element_283 ?_
        refine lv_iconst (v := 1) hx hb d_M_element_286 (by decide) ?_
        refine lv_iadd hx hb d_M_element_287 ?_
        obtain ⟨σ78, e79, hf⟩ := gPut_e hf
        refine va_put (D := X) (ci := 9) (ty := .int) (C := R_M) (T := T_M) (N := 35) hx hb hts u_0 t_M t_M_ok n_M hown hK hP hD hS 0 gm_0 rfl 32 (by decide) k_5 (fun _ h9 => h9) rfl (by decide +kernel) rfl rfl (Nat.le_of_ble_eq_true rfl) d_M_element_288 (fun H locs hP hD hS => ?_)
        rw [sm_0_32, ← e79] at hP hD
        refine lv_iinc (k := 3) (v := (x5 + (-1))) hx hb d_M_element_291 hl rfl (by rw [show Int32.ofInt (-1) = ((-1) : Int32) by decide]) (by decide) rfl (fun ls hl => ?_)
        refine lv_goto (tgt := 257) hx hb d_M_element_294 rfl ?_
        exact ih8 (x1) (x3) ((x5 + (-1))) σ78 _ _ _ hf hP hD hS (lv_sub hl [1, 2, 3, 0] rfl)
  exact (key gFuel).1 q1 σ _ _ _ hf hP hD hS hl

def B_M_reference_0 (rec : Nat → List Int32 → gS → Option (Int32 × gS)) (x1 : Int32) (σ0 : gS) : Option (Int32 × gS) := gLd σ0 20 16 x1 (fun y1 => if 2 ≤ y1 then (gLd σ0 21 16 x1 (fun y5 => if y5 = 0 then (gPut σ0 8 ((σ0.1 8) + 1) (fun σ9 => gSt σ9 21 16 x1 (σ9.1 8) (fun σ11 => gSt σ11 22 17 (σ11.1 8) x1 (fun σ14 => rec 1 [x1] σ14)))) else (rec 1 [x1] σ0))) else (gBd (f_M_element σ0 x1) (fun _ σ18 => some (0, σ18))))
def B_M_reference_1 (rec : Nat → List Int32 → gS → Option (Int32 × gS)) (x1 : Int32) (σ0 : gS) : Option (Int32 × gS) := gBd (f_M_out σ0 60 114 0 0) (fun _ σ21 => gLd σ21 21 16 x1 (fun y23 => gBd (f_M_attribute σ21 104 0 y23) (fun _ σ27 => gBd (f_M_out σ27 47 62 0 0) (fun _ σ30 => some (0, σ30)))))
def S_M_reference (rec : Nat → List Int32 → gS → Option (Int32 × gS)) (k : Nat) (l : List Int32) (σ0 : gS) : Option (Int32 × gS) := match k, l with
  | 0, [x1] => B_M_reference_0 rec x1 σ0
  | 1, [x1] => B_M_reference_1 rec x1 σ0
  | _, _ => none
def R_M_reference : Nat → Nat → List Int32 → gS → Option (Int32 × gS)
  | 0 => fun _ _ _ => none
  | t + 1 => fun k l σ0 => S_M_reference (R_M_reference t) k l σ0
def f_M_reference (σ : gS) (x1 : Int32) : Option (Int32 × gS) := R_M_reference gFuel 0 [x1] σ
set_option maxHeartbeats 4000000 in
set_option maxRecDepth 100000 in
theorem m_M_reference {l : Launch} {X : va_G} {cI cC cZ : ClassId} {aK aV : Nat → Nat} {b : Nat → Nat} {σ σ' : gS} {r : Int32} {q1 : Int32} (hf : f_M_reference σ q1 = some (r, σ')) {sz : Nat} : Met l y_M_reference w_M_reference { frames := 4, cells := 0, slots := 0, locals := 100 } (gPc X vwCl (gT cI cC cZ) aK aV (mW cI cC cZ b σ) sz [.ref (b 0), .int q1]) (gQv X vwCl (mW cI cC cZ b σ) sz (fun (_ : Unit) => True) (fun _ => mW cI cC cZ b σ')) 0 0 (va_A (mW cI cC cZ b σ) sz) := by
  refine g_met (cc := b_M_reference) (maxL := 2) (ret := none) (by decide) rfl (Nat.le_of_ble_eq_true rfl) ?_
  intro p e s m below meth c A ls hx hb hr hml hown hts hlocks hnm hsz hAe hA hP hK hD hS hl hE
  have hown : s.vm.findClass R_M = some m.cls := hown
  have u_0 : ∀ w ∈ u_ws R_M T_M 35, w ∈ w_M_reference := fun w h => List.mem_cons_of_mem _ (tu_M w h)
  have k_0 := hts (.fieldLink R_M 69 "GraphPagesModel" "refs" "[I") (List.mem_cons_of_mem _ tb_407)
  have k_1 := hts (.fieldLink R_M 72 "GraphPagesModel" "id" "[I") (List.mem_cons_of_mem _ tb_408)
  have k_2 := hts (.fieldLink R_M 128 "GraphPagesModel" "given" "I") (List.mem_cons_of_mem _ tb_433)
  have k_3 := hts (.fieldLink R_M 75 "GraphPagesModel" "order" "[I") (List.mem_cons_of_mem _ tb_434)
  unfold f_M_reference at hf
  have key : ∀ t : Nat, (∀ (x1 : Int32) (σ0 : gS) (H : Heap) (locs : List Loc) (ls : Array Slot), R_M_reference t 0 [x1] σ0 = some (r, σ') → va_P X vwCl (mW cI cC cZ b σ0) H → va_D A (mW cI cC cZ b σ0) → va_S A s.heap H locs → lv_has ls 2 [(0, .ref (b 0)), (1, .int x1)] → W p l e (headSpec w_M_reference { frames := 4, cells := 0, slots := 0, locals := 100 }).room s m [.ref (b 0), .int q1].toArray below meth c H locs 0 0 (MQ below (gQv X vwCl (mW cI cC cZ b σ) sz (fun (_ : Unit) => True) (fun _ => mW cI cC cZ b σ')) [.ref (b 0), .int q1].toArray s 0 0 (va_A (mW cI cC cZ b σ) sz)) (F0 m 0 ls [])) ∧ (∀ (x1 : Int32) (σ0 : gS) (H : Heap) (locs : List Loc) (ls : Array Slot), R_M_reference t 1 [x1] σ0 = some (r, σ') → va_P X vwCl (mW cI cC cZ b σ0) H → va_D A (mW cI cC cZ b σ0) → va_S A s.heap H locs → lv_has ls 2 [(0, .ref (b 0)), (1, .int x1)] → W p l e (headSpec w_M_reference { frames := 4, cells := 0, slots := 0, locals := 100 }).room s m [.ref (b 0), .int q1].toArray below meth c H locs 0 0 (MQ below (gQv X vwCl (mW cI cC cZ b σ) sz (fun (_ : Unit) => True) (fun _ => mW cI cC cZ b σ')) [.ref (b 0), .int q1].toArray s 0 0 (va_A (mW cI cC cZ b σ) sz)) (F0 m 55 ls [])) := by
    intro t
    induction t with
    | zero => exact ⟨fun _ _ _ _ _ hf => (by have hf : (none : Option (Int32 × gS)) = some (r, σ') := hf; cases hf), fun _ _ _ _ _ hf => (by have hf : (none : Option (Int32 × gS)) = some (r, σ') := hf; cases hf)⟩
    | succ t ih =>
      obtain ⟨ih0, ih1⟩ := ih
      refine ⟨?_, ?_⟩
      · intro x1 σ0 H locs ls hf hP hD hS hl
        have hf : B_M_reference_0 (R_M_reference t) x1 σ0 = some (r, σ') := hf
        unfold B_M_reference_0 at hf
        refine lv_aload_n hx hb d_M_reference_0 rfl (lv_at hl 0 rfl) ?_
        refine va_get (D := X) (ci := 9) (C := R_M) (T := T_M) (N := 35) hx hb hts u_0 hown hK hP 0 gm_0 rfl 27 (by decide) k_0 (fun _ h9 => h9) rfl d_M_reference_1 ?_
        refine lv_iload_n hx hb d_M_reference_4 rfl (lv_at hl 1 rfl) ?_
        obtain ⟨y1, h2, e3, hf⟩ := gLd_e hf
        refine va_iald hx hb hK hP 20 0 gm_20 rfl h2 d_M_reference_5 ?_
        rw [← e3]
        refine lv_iconst (v := 2) hx hb d_M_reference_6 (by decide) ?_
        refine lv_icmp_ge (tgt := 16) hx hb d_M_reference_7 rfl (fun c4 => ?_) (fun c4 => ?_)
        · skip
          rw [if_pos c4] at hf
          refine lv_aload_n hx hb d_M_reference_16 rfl (lv_at hl 0 rfl) ?_
          refine va_get (D := X) (ci := 9) (C := R_M) (T := T_M) (N := 35) hx hb hts u_0 hown hK hP 0 gm_0 rfl 28 (by decide) k_1 (fun _ h9 => h9) rfl d_M_reference_17 ?_
          refine lv_iload_n hx hb d_M_reference_20 rfl (lv_at hl 1 rfl) ?_
          obtain ⟨y5, h6, e7, hf⟩ := gLd_e hf
          refine va_iald hx hb hK hP 21 0 gm_21 rfl h6 d_M_reference_21 ?_
          rw [← e7]
          refine lv_if_ne (tgt := 55) hx hb d_M_reference_22 rfl (fun c8 => ?_) (fun c8 => ?_)
          · skip
            rw [if_neg c8] at hf
            exact ih1 (x1) σ0 _ _ _ hf hP hD hS (lv_sub hl [0, 1] rfl)
          rw [if_pos c8] at hf
          refine lv_aload_n hx hb d_M_reference_25 rfl (lv_at hl 0 rfl) ?_
          refine lv_dup hx hb d_M_reference_26 rfl ?_
          refine va_get (D := X) (ci := 9) (C := R_M) (T := T_M) (N := 35) hx hb hts u_0 hown hK hP 0 gm_0 rfl 30 (by decide) k_2 (fun _ h9 => h9) rfl d_M_reference_27 ?_
          refine lv_iconst (v := 1) hx hb d_M_reference_30 (by decide) ?_
          refine lv_iadd hx hb d_M_reference_31 ?_
          obtain ⟨σ9, e10, hf⟩ := gPut_e hf
          refine va_put (D := X) (ci := 9) (ty := .int) (C := R_M) (T := T_M) (N := 35) hx hb hts u_0 t_M t_M_ok n_M hown hK hP hD hS 0 gm_0 rfl 30 (by decide) k_2 (fun _ h9 => h9) rfl (by decide +kernel) rfl rfl (Nat.le_of_ble_eq_true rfl) d_M_reference_32 (fun H locs hP hD hS => ?_)
          rw [sm_0_30, ← e10] at hP hD
          refine lv_aload_n hx hb d_M_reference_35 rfl (lv_at hl 0 rfl) ?_
          refine va_get (D := X) (ci := 9) (C := R_M) (T := T_M) (N := 35) hx hb hts u_0 hown hK hP 0 gm_0 rfl 28 (by decide) k_1 (fun _ h9 => h9) rfl d_M_reference_36 ?_
          refine lv_iload_n hx hb d_M_reference_39 rfl (lv_at hl 1 rfl) ?_
          refine lv_aload_n hx hb d_M_reference_40 rfl (lv_at hl 0 rfl) ?_
          refine va_get (D := X) (ci := 9) (C := R_M) (T := T_M) (N := 35) hx hb hts u_0 hown hK hP 0 gm_0 rfl 30 (by decide) k_2 (fun _ h9 => h9) rfl d_M_reference_41 ?_
          obtain ⟨σ11, h12, e13, hf⟩ := gSt_e hf
          refine va_iast hx hb hK hP hD hS 21 0 gm_21 rfl h12 d_M_reference_44 (fun H locs hP hD hS => ?_)
          rw [sm_21, ← e13] at hP hD
          refine lv_aload_n hx hb d_M_reference_45 rfl (lv_at hl 0 rfl) ?_
          refine va_get (D := X) (ci := 9) (C := R_M) (T := T_M) (N := 35) hx hb hts u_0 hown hK hP 0 gm_0 rfl 29 (by decide) k_3 (fun _ h9 => h9) rfl d_M_reference_46 ?_
          refine lv_aload_n hx hb d_M_reference_49 rfl (lv_at hl 0 rfl) ?_
          refine va_get (D := X) (ci := 9) (C := R_M) (T := T_M) (N := 35) hx hb hts u_0 hown hK hP 0 gm_0 rfl 30 (by decide) k_2 (fun _ h9 => h9) rfl d_M_reference_50 ?_
          refine lv_iload_n hx hb d_M_reference_53 rfl (lv_at hl 1 rfl) ?_
          obtain ⟨σ14, h15, e16, hf⟩ := gSt_e hf
          refine va_iast hx hb hK hP hD hS 22 0 gm_22 rfl h15 d_M_reference_54 (fun H locs hP hD hS => ?_)
          rw [sm_22, ← e16] at hP hD
          exact ih1 (x1) σ14 _ _ _ hf hP hD hS (lv_sub hl [0, 1] rfl)
        rw [if_neg c4] at hf
        refine lv_aload_n hx hb d_M_reference_10 rfl (lv_at hl 0 rfl) ?_
        refine lv_iload_n hx hb d_M_reference_11 rfl (lv_at hl 1 rfl) ?_
        obtain ⟨y17, σ18, e19, hf⟩ := gBd_e hf
        refine g_wv (va_runV ⟨hx, hb, hml, hown, hts⟩ (m_M_element e19) (cwV 1 hts (gG4 (fun _ h => List.mem_cons_of_mem _ h) tb_430 tb_431 tb_432 tb_392 tc_M_element) rfl rfl rfl (by decide +kernel) ⟨Nat.le_of_ble_eq_true rfl, Nat.le_of_ble_eq_true rfl⟩) (g_preVW (q0 := 0) hE hK hP hD hS hA gm_0 rfl) rfl rfl hl.1 rfl (lv_room (Nat.le_of_ble_eq_true rfl)) d_M_reference_12 ⟨Nat.zero_le _, Nat.zero_le _⟩) hD hS hA (fun _ => mW_fst) (fun _ H locs _ hP hD hS => ?_)
        obtain ⟨-, rfl⟩ := gRt_e hf
        exact g_vret hx hb hr hlocks hAe hS () trivial hP d_M_reference_15
      · intro x1 σ0 H locs ls hf hP hD hS hl
        have hf : B_M_reference_1 (R_M_reference t) x1 σ0 = some (r, σ') := hf
        unfold B_M_reference_1 at hf
        refine lv_aload_n hx hb d_M_reference_55 rfl (lv_at hl 0 rfl) ?_
        refine lv_bipush (v := 60) hx hb d_M_reference_56 (by decide) ?_
        refine lv_bipush (v := 114) hx hb d_M_reference_58 (by decide) ?_
        refine lv_iconst (v := 0) hx hb d_M_reference_60 (by decide) ?_
        refine lv_iconst (v := 0) hx hb d_M_reference_61 (by decide) ?_
        obtain ⟨y20, σ21, e22, hf⟩ := gBd_e hf
        refine g_wv (va_runV ⟨hx, hb, hml, hown, hts⟩ (m_M_out e22) (cwV 4 hts (gG4 (fun _ h => List.mem_cons_of_mem _ h) tb_414 tb_415 tb_416 tb_392 tc_M_out) rfl rfl rfl (by decide +kernel) ⟨Nat.le_of_ble_eq_true rfl, Nat.le_of_ble_eq_true rfl⟩) (g_preVW (q0 := 0) hE hK hP hD hS hA gm_0 rfl) rfl rfl hl.1 rfl (lv_room (Nat.le_of_ble_eq_true rfl)) d_M_reference_62 ⟨Nat.zero_le _, Nat.zero_le _⟩) hD hS hA (fun _ => mW_fst) (fun _ H locs _ hP hD hS => ?_)
        refine lv_aload_n hx hb d_M_reference_65 rfl (lv_at hl 0 rfl) ?_
        refine lv_bipush (v := 104) hx hb d_M_reference_66 (by decide) ?_
        refine lv_iconst (v := 0) hx hb d_M_reference_68 (by decide) ?_
        refine lv_aload_n hx hb d_M_reference_69 rfl (lv_at hl 0 rfl) ?_
        refine va_get (D := X) (ci := 9) (C := R_M) (T := T_M) (N := 35) hx hb hts u_0 hown hK hP 0 gm_0 rfl 28 (by decide) k_1 (fun _ h9 => h9) rfl d_M_reference_70 ?_
        refine lv_iload_n hx hb d_M_reference_73 rfl (lv_at hl 1 rfl) ?_
        obtain ⟨y23, h24, e25, hf⟩ := gLd_e hf
        refine va_iald hx hb hK hP 21 0 gm_21 rfl h24 d_M_reference_74 ?_
        rw [← e25]
        obtain ⟨y26, σ27, e28, hf⟩ := gBd_e hf
        refine g_wv (va_runV ⟨hx, hb, hml, hown, hts⟩ (m_M_attribute e28) (cwV 3 hts (gG4 (fun _ h => List.mem_cons_of_mem _ h) tb_422 tb_423 tb_424 tb_392 tc_M_attribute) rfl rfl rfl (by decide +kernel) ⟨Nat.le_of_ble_eq_true rfl, Nat.le_of_ble_eq_true rfl⟩) (g_preVW (q0 := 0) hE hK hP hD hS hA gm_0 rfl) rfl rfl hl.1 rfl (lv_room (Nat.le_of_ble_eq_true rfl)) d_M_reference_75 ⟨Nat.zero_le _, Nat.zero_le _⟩) hD hS hA (fun _ => mW_fst) (fun _ H locs _ hP hD hS => ?_)
        refine lv_aload_n hx hb d_M_reference_78 rfl (lv_at hl 0 rfl) ?_
        refine lv_bipush (v := 47) hx hb d_M_reference_79 (by decide) ?_
        refine lv_bipush (v := 62) hx hb d_M_reference_81 (by decide) ?_
        refine lv_iconst (v := 0) hx hb d_M_reference_83 (by decide) ?_
        refine lv_iconst (v := 0) hx hb d_M_reference_84 (by decide) ?_
        obtain ⟨y29, σ30, e31, hf⟩ := gBd_e hf
        refine g_wv (va_runV ⟨hx, hb, hml, hown, hts⟩ (m_M_out e31) (cwV 4 hts (gG4 (fun _ h => List.mem_cons_of_mem _ h) tb_414 tb_415 tb_416 tb_392 tc_M_out) rfl rfl rfl (by decide +kernel) ⟨Nat.le_of_ble_eq_true rfl, Nat.le_of_ble_eq_true rfl⟩) (g_preVW (q0 := 0) hE hK hP hD hS hA gm_0 rfl) rfl rfl hl.1 rfl (lv_room (Nat.le_of_ble_eq_true rfl)) d_M_reference_85 ⟨Nat.zero_le _, Nat.zero_le _⟩) hD hS hA (fun _ => mW_fst) (fun _ H locs _ hP hD hS => ?_)
        obtain ⟨-, rfl⟩ := gRt_e hf
        exact g_vret hx hb hr hlocks hAe hS () trivial hP d_M_reference_88
  exact (key gFuel).1 q1 σ _ _ _ hf hP hD hS hl

def B_M_work_0 (rec : Nat → List Int32 → gS → Option (Int32 × gS)) (σ0 : gS) : Option (Int32 × gS) := if (σ0.1 9) ≤ 0 then (some (0, σ0)) else (gPut σ0 9 ((σ0.1 9) - 1) (fun σ2 => gLd σ2 23 96 (σ2.1 9) (fun y4 => if y4 < 200 then (gLd σ2 3 64 (y4 - 100) (fun y8 => if y8 = 0 then (gBd (f_M_out σ2 60 110 47 62) (fun _ σ35 => rec 2 [] σ35)) else (gLd σ2 3 64 (y4 - 100) (fun y12 => if y12 = 1 then (gBd (f_M_out σ2 60 105 62 0) (fun _ σ23 => gLd σ23 4 64 (y4 - 100) (fun y25 => gBd (f_M_number σ23 y25.toInt64) (fun _ σ29 => gBd (f_M_out σ29 60 47 105 62) (fun _ σ32 => rec 2 [] σ32))))) else (gLd σ2 4 64 (y4 - 100) (fun y16 => gBd (f_M_reference σ2 y16) (fun _ σ20 => rec 2 [] σ20))))))) else (gBd (f_M_out σ2 60 47 (y4 - 200) 62) (fun _ σ38 => rec 2 [] σ38)))))
def B_M_work_1 (rec : Nat → List Int32 → gS → Option (Int32 × gS)) (σ0 : gS) : Option (Int32 × gS) := if (σ0.1 9) ≤ 0 then (some (0, σ0)) else (gPut σ0 9 ((σ0.1 9) - 1) (fun σ41 => gLd σ41 23 96 (σ41.1 9) (fun y43 => if y43 < 200 then (gLd σ41 3 64 (y43 - 100) (fun y47 => if y47 = 0 then (gBd (f_M_out σ41 60 110 47 62) (fun _ σ74 => rec 2 [] σ74)) else (gLd σ41 3 64 (y43 - 100) (fun y51 => if y51 = 1 then (gBd (f_M_out σ41 60 105 62 0) (fun _ σ62 => gLd σ62 4 64 (y43 - 100) (fun y64 => gBd (f_M_number σ62 y64.toInt64) (fun _ σ68 => gBd (f_M_out σ68 60 47 105 62) (fun _ σ71 => rec 2 [] σ71))))) else (gLd σ41 4 64 (y43 - 100) (fun y55 => gBd (f_M_reference σ41 y55) (fun _ σ59 => rec 2 [] σ59))))))) else (gBd (f_M_out σ41 60 47 (y43 - 200) 62) (fun _ σ77 => rec 2 [] σ77)))))
def B_M_work_2 (rec : Nat → List Int32 → gS → Option (Int32 × gS)) (σ0 : gS) : Option (Int32 × gS) := rec 0 [] σ0
def S_M_work (rec : Nat → List Int32 → gS → Option (Int32 × gS)) (k : Nat) (l : List Int32) (σ0 : gS) : Option (Int32 × gS) := match k, l with
  | 0, [] => B_M_work_0 rec  σ0
  | 1, [] => B_M_work_1 rec  σ0
  | 2, [] => B_M_work_2 rec  σ0
  | _, _ => none
def R_M_work : Nat → Nat → List Int32 → gS → Option (Int32 × gS)
  | 0 => fun _ _ _ => none
  | t + 1 => fun k l σ0 => S_M_work (R_M_work t) k l σ0
def f_M_work (σ : gS) : Option (Int32 × gS) := R_M_work gFuel 0 [] σ
set_option maxHeartbeats 4000000 in
set_option maxRecDepth 100000 in
theorem m_M_work {l : Launch} {X : va_G} {cI cC cZ : ClassId} {aK aV : Nat → Nat} {b : Nat → Nat} {σ σ' : gS} {r : Int32} (hf : f_M_work σ = some (r, σ')) {sz : Nat} : Met l y_M_work w_M_work { frames := 5, cells := 0, slots := 0, locals := 121 } (gPc X vwCl (gT cI cC cZ) aK aV (mW cI cC cZ b σ) sz [.ref (b 0)]) (gQv X vwCl (mW cI cC cZ b σ) sz (fun (_ : Unit) => True) (fun _ => mW cI cC cZ b σ')) 0 0 (va_A (mW cI cC cZ b σ) sz) := by
  refine g_met (cc := b_M_work) (maxL := 3) (ret := none) (by decide) rfl (Nat.le_of_ble_eq_true rfl) ?_
  intro p e s m below meth c A ls hx hb hr hml hown hts hlocks hnm hsz hAe hA hP hK hD hS hl hE
  have hown : s.vm.findClass R_M = some m.cls := hown
  have u_0 : ∀ w ∈ u_ws R_M T_M 35, w ∈ w_M_work := fun w h => List.mem_cons_of_mem _ (tu_M w h)
  have k_0 := hts (.fieldLink R_M 138 "GraphPagesModel" "piled" "I") (List.mem_cons_of_mem _ tb_429)
  have k_1 := hts (.fieldLink R_M 78 "GraphPagesModel" "pile" "[I") (List.mem_cons_of_mem _ tb_428)
  have k_2 := hts (.fieldLink R_M 16 "GraphPagesModel" "what" "[I") (List.mem_cons_of_mem _ tb_388)
  have k_3 := hts (.fieldLink R_M 19 "GraphPagesModel" "cell" "[I") (List.mem_cons_of_mem _ tb_397)
  unfold f_M_work at hf
  have key : ∀ t : Nat, (∀ (σ0 : gS) (H : Heap) (locs : List Loc) (ls : Array Slot), R_M_work t 0 [] σ0 = some (r, σ') → va_P X vwCl (mW cI cC cZ b σ0) H → va_D A (mW cI cC cZ b σ0) → va_S A s.heap H locs → lv_has ls 3 [(0, .ref (b 0))] → W p l e (headSpec w_M_work { frames := 5, cells := 0, slots := 0, locals := 121 }).room s m [.ref (b 0)].toArray below meth c H locs 0 0 (MQ below (gQv X vwCl (mW cI cC cZ b σ) sz (fun (_ : Unit) => True) (fun _ => mW cI cC cZ b σ')) [.ref (b 0)].toArray s 0 0 (va_A (mW cI cC cZ b σ) sz)) (F0 m 0 ls [])) ∧ (∀ (σ0 : gS) (H : Heap) (locs : List Loc) (ls : Array Slot), R_M_work t 1 [] σ0 = some (r, σ') → va_P X vwCl (mW cI cC cZ b σ0) H → va_D A (mW cI cC cZ b σ0) → va_S A s.heap H locs → lv_has ls 3 [(0, .ref (b 0))] → W p l e (headSpec w_M_work { frames := 5, cells := 0, slots := 0, locals := 121 }).room s m [.ref (b 0)].toArray below meth c H locs 0 0 (MQ below (gQv X vwCl (mW cI cC cZ b σ) sz (fun (_ : Unit) => True) (fun _ => mW cI cC cZ b σ')) [.ref (b 0)].toArray s 0 0 (va_A (mW cI cC cZ b σ) sz)) (F0 m 0 ls [])) ∧ (∀ (σ0 : gS) (H : Heap) (locs : List Loc) (ls : Array Slot), R_M_work t 2 [] σ0 = some (r, σ') → va_P X vwCl (mW cI cC cZ b σ0) H → va_D A (mW cI cC cZ b σ0) → va_S A s.heap H locs → lv_has ls 3 [(0, .ref (b 0))] → W p l e (headSpec w_M_work { frames := 5, cells := 0, slots := 0, locals := 121 }).room s m [.ref (b 0)].toArray below meth c H locs 0 0 (MQ below (gQv X vwCl (mW cI cC cZ b σ) sz (fun (_ : Unit) => True) (fun _ => mW cI cC cZ b σ')) [.ref (b 0)].toArray s 0 0 (va_A (mW cI cC cZ b σ) sz)) (F0 m 138 ls [])) := by
    intro t
    induction t with
    | zero => exact ⟨fun  _ _ _ _ hf => (by have hf : (none : Option (Int32 × gS)) = some (r, σ') := hf; cases hf), fun  _ _ _ _ hf => (by have hf : (none : Option (Int32 × gS)) = some (r, σ') := hf; cases hf), fun  _ _ _ _ hf => (by have hf : (none : Option (Int32 × gS)) = some (r, σ') := hf; cases hf)⟩
    | succ t ih =>
      obtain ⟨ih0, ih1, ih2⟩ := ih
      refine ⟨?_, ?_, ?_⟩
      · intro  σ0 H locs ls hf hP hD hS hl
        have hf : B_M_work_0 (R_M_work t)  σ0 = some (r, σ') := hf
        unfold B_M_work_0 at hf
        refine lv_aload_n hx hb d_M_work_0 rfl (lv_at hl 0 rfl) ?_
        refine va_get (D := X) (ci := 9) (C := R_M) (T := T_M) (N := 35) hx hb hts u_0 hown hK hP 0 gm_0 rfl 32 (by decide) k_0 (fun _ h9 => h9) rfl d_M_work_1 ?_
        refine lv_if_le (tgt := 141) hx hb d_M_work_4 rfl (fun c1 => ?_) (fun c1 => ?_)
        · skip
          rw [if_pos c1] at hf
          obtain ⟨-, rfl⟩ := gRt_e hf
          exact g_vret hx hb hr hlocks hAe hS () trivial hP d_M_work_141
        rw [if_neg c1] at hf
        refine lv_aload_n hx hb d_M_work_7 rfl (lv_at hl 0 rfl) ?_
        refine lv_dup hx hb d_M_work_8 rfl ?_
        refine va_get (D := X) (ci := 9) (C := R_M) (T := T_M) (N := 35) hx hb hts u_0 hown hK hP 0 gm_0 rfl 32 (by decide) k_0 (fun _ h9 => h9) rfl d_M_work_9 ?_
        refine lv_iconst (v := 1) hx hb d_M_work_12 (by decide) ?_
        refine lv_isub hx hb d_M_work_13 ?_
        obtain ⟨σ2, e3, hf⟩ := gPut_e hf
        refine va_put (D := X) (ci := 9) (ty := .int) (C := R_M) (T := T_M) (N := 35) hx hb hts u_0 t_M t_M_ok n_M hown hK hP hD hS 0 gm_0 rfl 32 (by decide) k_0 (fun _ h9 => h9) rfl (by decide +kernel) rfl rfl (Nat.le_of_ble_eq_true rfl) d_M_work_14 (fun H locs hP hD hS => ?_)
        rw [sm_0_32, ← e3] at hP hD
        refine lv_aload_n hx hb d_M_work_17 rfl (lv_at hl 0 rfl) ?_
        refine va_get (D := X) (ci := 9) (C := R_M) (T := T_M) (N := 35) hx hb hts u_0 hown hK hP 0 gm_0 rfl 31 (by decide) k_1 (fun _ h9 => h9) rfl d_M_work_18 ?_
        refine lv_aload_n hx hb d_M_work_21 rfl (lv_at hl 0 rfl) ?_
        refine va_get (D := X) (ci := 9) (C := R_M) (T := T_M) (N := 35) hx hb hts u_0 hown hK hP 0 gm_0 rfl 32 (by decide) k_0 (fun _ h9 => h9) rfl d_M_work_22 ?_
        obtain ⟨y4, h5, e6, hf⟩ := gLd_e hf
        refine va_iald hx hb hK hP 23 0 gm_23 rfl h5 d_M_work_25 ?_
        rw [← e6]
        refine lv_istore_n hx hb d_M_work_26 rfl hl (by decide) rfl (fun ls hl => ?_)
        refine lv_iload_n hx hb d_M_work_27 rfl (lv_at hl 0 rfl) ?_
        refine lv_bipush (v := 100) hx hb d_M_work_28 (by decide) ?_
        refine lv_isub hx hb d_M_work_30 ?_
        refine lv_istore_n hx hb d_M_work_31 rfl hl (by decide) rfl (fun ls hl => ?_)
        refine lv_iload_n hx hb d_M_work_32 rfl (lv_at hl 1 rfl) ?_
        refine lv_sipush (v := 200) hx hb d_M_work_33 (by decide) ?_
        refine lv_icmp_lt (tgt := 57) hx hb d_M_work_36 rfl (fun c7 => ?_) (fun c7 => ?_)
        · skip
          rw [if_pos c7] at hf
          refine lv_aload_n hx hb d_M_work_57 rfl (lv_at hl 2 rfl) ?_
          refine va_get (D := X) (ci := 9) (C := R_M) (T := T_M) (N := 35) hx hb hts u_0 hown hK hP 0 gm_0 rfl 3 (by decide) k_2 (fun _ h9 => h9) rfl d_M_work_58 ?_
          refine lv_iload_n hx hb d_M_work_61 rfl (lv_at hl 0 rfl) ?_
          obtain ⟨y8, h9, e10, hf⟩ := gLd_e hf
          refine va_iald hx hb hK hP 3 0 gm_3 rfl h9 d_M_work_62 ?_
          rw [← e10]
          refine lv_if_ne (tgt := 81) hx hb d_M_work_63 rfl (fun c11 => ?_) (fun c11 => ?_)
          · skip
            rw [if_neg c11] at hf
            refine lv_aload_n hx hb d_M_work_81 rfl (lv_at hl 2 rfl) ?_
            refine va_get (D := X) (ci := 9) (C := R_M) (T := T_M) (N := 35) hx hb hts u_0 hown hK hP 0 gm_0 rfl 3 (by decide) k_2 (fun _ h9 => h9) rfl d_M_work_82 ?_
            refine lv_iload_n hx hb d_M_work_85 rfl (lv_at hl 0 rfl) ?_
            obtain ⟨y12, h13, e14, hf⟩ := gLd_e hf
            refine va_iald hx hb hK hP 3 0 gm_3 rfl h13 d_M_work_86 ?_
            rw [← e14]
            refine lv_iconst (v := 1) hx hb d_M_work_87 (by decide) ?_
            refine lv_icmp_ne (tgt := 128) hx hb d_M_work_88 rfl (fun c15 => ?_) (fun c15 => ?_)
            · skip
              rw [if_neg c15] at hf
              refine lv_aload_n hx hb d_M_work_128 rfl (lv_at hl 2 rfl) ?_
              refine lv_aload_n hx hb d_M_work_129 rfl (lv_at hl 2 rfl) ?_
              refine va_get (D := X) (ci := 9) (C := R_M) (T := T_M) (N := 35) hx hb hts u_0 hown hK hP 0 gm_0 rfl 4 (by decide) k_3 (fun _ h9 => h9) rfl d_M_work_130 ?_
              refine lv_iload_n hx hb d_M_work_133 rfl (lv_at hl 0 rfl) ?_
              obtain ⟨y16, h17, e18, hf⟩ := gLd_e hf
              refine va_iald hx hb hK hP 4 0 gm_4 rfl h17 d_M_work_134 ?_
              rw [← e18]
              obtain ⟨y19, σ20, e21, hf⟩ := gBd_e hf
              refine g_wv (va_runV ⟨hx, hb, hml, hown, hts⟩ (m_M_reference e21) (cwV 1 hts (gG4 (fun _ h => List.mem_cons_of_mem _ h) tb_435 tb_436 tb_437 tb_392 tc_M_reference) rfl rfl rfl (by decide +kernel) ⟨Nat.le_of_ble_eq_true rfl, Nat.le_of_ble_eq_true rfl⟩) (g_preVW (q0 := 0) hE hK hP hD hS hA gm_0 rfl) rfl rfl hl.1 rfl (lv_room (Nat.le_of_ble_eq_true rfl)) d_M_work_135 ⟨Nat.zero_le _, Nat.zero_le _⟩) hD hS hA (fun _ => mW_fst) (fun _ H locs _ hP hD hS => ?_)
              exact ih2 σ20 _ _ _ hf hP hD hS (lv_sub hl [2] rfl)
            rw [if_pos c15] at hf
            refine lv_aload_n hx hb d_M_work_91 rfl (lv_at hl 2 rfl) ?_
            refine lv_bipush (v := 60) hx hb d_M_work_92 (by decide) ?_
            refine lv_bipush (v := 105) hx hb d_M_work_94 (by decide) ?_
            refine lv_bipush (v := 62) hx hb d_M_work_96 (by decide) ?_
            refine lv_iconst (v := 0) hx hb d_M_work_98 (by decide) ?_
            obtain ⟨y22, σ23, e24, hf⟩ := gBd_e hf
            refine g_wv (va_runV ⟨hx, hb, hml, hown, hts⟩ (m_M_out e24) (cwV 4 hts (gG4 (fun _ h => List.mem_cons_of_mem _ h) tb_414 tb_415 tb_416 tb_392 tc_M_out) rfl rfl rfl (by decide +kernel) ⟨Nat.le_of_ble_eq_true rfl, Nat.le_of_ble_eq_true rfl⟩) (g_preVW (q0 := 0) hE hK hP hD hS hA gm_0 rfl) rfl rfl hl.1 rfl (lv_room (Nat.le_of_ble_eq_true rfl)) d_M_work_99 ⟨Nat.zero_le _, Nat.zero_le _⟩) hD hS hA (fun _ => mW_fst) (fun _ H locs _ hP hD hS => ?_)
            refine lv_aload_n hx hb d_M_work_102 rfl (lv_at hl 2 rfl) ?_
            refine lv_aload_n hx hb d_M_work_103 rfl (lv_at hl 2 rfl) ?_
            refine va_get (D := X) (ci := 9) (C := R_M) (T := T_M) (N := 35) hx hb hts u_0 hown hK hP 0 gm_0 rfl 4 (by decide) k_3 (fun _ h9 => h9) rfl d_M_work_104 ?_
            refine lv_iload_n hx hb d_M_work_107 rfl (lv_at hl 0 rfl) ?_
            obtain ⟨y25, h26, e27, hf⟩ := gLd_e hf
            refine va_iald hx hb hK hP 4 0 gm_4 rfl h26 d_M_work_108 ?_
            rw [← e27]
            refine lv_i2l hx hb d_M_work_109 rfl ?_
            obtain ⟨y28, σ29, e30, hf⟩ := gBd_e hf
            refine g_wv (va_runV ⟨hx, hb, hml, hown, hts⟩ (m_M_number e30) (cwV 1 hts (gG4 (fun _ h => List.mem_cons_of_mem _ h) tb_419 tb_420 tb_421 tb_392 tc_M_number) rfl rfl rfl (by decide +kernel) ⟨Nat.le_of_ble_eq_true rfl, Nat.le_of_ble_eq_true rfl⟩) (g_preVW (q0 := 0) hE hK hP hD hS hA gm_0 rfl) rfl rfl hl.1 rfl (lv_room (Nat.le_of_ble_eq_true rfl)) d_M_work_110 ⟨Nat.zero_le _, Nat.zero_le _⟩) hD hS hA (fun _ => mW_fst) (fun _ H locs _ hP hD hS => ?_)
            refine lv_aload_n hx hb d_M_work_113 rfl (lv_at hl 2 rfl) ?_
            refine lv_bipush (v := 60) hx hb d_M_work_114 (by decide) ?_
            refine lv_bipush (v := 47) hx hb d_M_work_116 (by decide) ?_
            refine lv_bipush (v := 105) hx hb d_M_work_118 (by decide) ?_
            refine lv_bipush (v := 62) hx hb d_M_work_120 (by decide) ?_
            obtain ⟨y31, σ32, e33, hf⟩ := gBd_e hf
            refine g_wv (va_runV ⟨hx, hb, hml, hown, hts⟩ (m_M_out e33) (cwV 4 hts (gG4 (fun _ h => List.mem_cons_of_mem _ h) tb_414 tb_415 tb_416 tb_392 tc_M_out) rfl rfl rfl (by decide +kernel) ⟨Nat.le_of_ble_eq_true rfl, Nat.le_of_ble_eq_true rfl⟩) (g_preVW (q0 := 0) hE hK hP hD hS hA gm_0 rfl) rfl rfl hl.1 rfl (lv_room (Nat.le_of_ble_eq_true rfl)) d_M_work_122 ⟨Nat.zero_le _, Nat.zero_le _⟩) hD hS hA (fun _ => mW_fst) (fun _ H locs _ hP hD hS => ?_)
            refine lv_goto (tgt := 138) hx hb d_M_work_125 rfl ?_
            exact ih2 σ32 _ _ _ hf hP hD hS (lv_sub hl [2] rfl)
          rw [if_pos c11] at hf
          refine lv_aload_n hx hb d_M_work_66 rfl (lv_at hl 2 rfl) ?_
          refine lv_bipush (v := 60) hx hb d_M_work_67 (by decide) ?_
          refine lv_bipush (v := 110) hx hb d_M_work_69 (by decide) ?_
          refine lv_bipush (v := 47) hx hb d_M_work_71 (by decide) ?_
          refine lv_bipush (v := 62) hx hb d_M_work_73 (by decide) ?_
          obtain ⟨y34, σ35, e36, hf⟩ := gBd_e hf
          refine g_wv (va_runV ⟨hx, hb, hml, hown, hts⟩ (m_M_out e36) (cwV 4 hts (gG4 (fun _ h => List.mem_cons_of_mem _ h) tb_414 tb_415 tb_416 tb_392 tc_M_out) rfl rfl rfl (by decide +kernel) ⟨Nat.le_of_ble_eq_true rfl, Nat.le_of_ble_eq_true rfl⟩) (g_preVW (q0 := 0) hE hK hP hD hS hA gm_0 rfl) rfl rfl hl.1 rfl (lv_room (Nat.le_of_ble_eq_true rfl)) d_M_work_75 ⟨Nat.zero_le _, Nat.zero_le _⟩) hD hS hA (fun _ => mW_fst) (fun _ H locs _ hP hD hS => ?_)
          refine lv_goto (tgt := 138) hx hb d_M_work_78 rfl ?_
          exact ih2 σ35 _ _ _ hf hP hD hS (lv_sub hl [2] rfl)
        rw [if_neg c7] at hf
        refine lv_aload_n hx hb d_M_work_39 rfl (lv_at hl 2 rfl) ?_
        refine lv_bipush (v := 60) hx hb d_M_work_40 (by decide) ?_
        refine lv_bipush (v := 47) hx hb d_M_work_42 (by decide) ?_
        refine lv_iload_n hx hb d_M_work_44 rfl (lv_at hl 1 rfl) ?_
        refine lv_sipush (v := 200) hx hb d_M_work_45 (by decide) ?_
        refine lv_isub hx hb d_M_work_48 ?_
        refine lv_bipush (v := 62) hx hb d_M_work_49 (by decide) ?_
        obtain ⟨y37, σ38, e39, hf⟩ := gBd_e hf
        refine g_wv (va_runV ⟨hx, hb, hml, hown, hts⟩ (m_M_out e39) (cwV 4 hts (gG4 (fun _ h => List.mem_cons_of_mem _ h) tb_414 tb_415 tb_416 tb_392 tc_M_out) rfl rfl rfl (by decide +kernel) ⟨Nat.le_of_ble_eq_true rfl, Nat.le_of_ble_eq_true rfl⟩) (g_preVW (q0 := 0) hE hK hP hD hS hA gm_0 rfl) rfl rfl hl.1 rfl (lv_room (Nat.le_of_ble_eq_true rfl)) d_M_work_51 ⟨Nat.zero_le _, Nat.zero_le _⟩) hD hS hA (fun _ => mW_fst) (fun _ H locs _ hP hD hS => ?_)
        refine lv_goto (tgt := 138) hx hb d_M_work_54 rfl ?_
        exact ih2 σ38 _ _ _ hf hP hD hS (lv_sub hl [2] rfl)
      · intro  σ0 H locs ls hf hP hD hS hl
        have hf : B_M_work_1 (R_M_work t)  σ0 = some (r, σ') := hf
        unfold B_M_work_1 at hf
        refine lv_aload_n hx hb d_M_work_0 rfl (lv_at hl 0 rfl) ?_
        refine va_get (D := X) (ci := 9) (C := R_M) (T := T_M) (N := 35) hx hb hts u_0 hown hK hP 0 gm_0 rfl 32 (by decide) k_0 (fun _ h9 => h9) rfl d_M_work_1 ?_
        refine lv_if_le (tgt := 141) hx hb d_M_work_4 rfl (fun c40 => ?_) (fun c40 => ?_)
        · skip
          rw [if_pos c40] at hf
          obtain ⟨-, rfl⟩ := gRt_e hf
          exact g_vret hx hb hr hlocks hAe hS () trivial hP d_M_work_141
        rw [if_neg c40] at hf
        refine lv_aload_n hx hb d_M_work_7 rfl (lv_at hl 0 rfl) ?_
        refine lv_dup hx hb d_M_work_8 rfl ?_
        refine va_get (D := X) (ci := 9) (C := R_M) (T := T_M) (N := 35) hx hb hts u_0 hown hK hP 0 gm_0 rfl 32 (by decide) k_0 (fun _ h9 => h9) rfl d_M_work_9 ?_
        refine lv_iconst (v := 1) hx hb d_M_work_12 (by decide) ?_
        refine lv_isub hx hb d_M_work_13 ?_
        obtain ⟨σ41, e42, hf⟩ := gPut_e hf
        refine va_put (D := X) (ci := 9) (ty := .int) (C := R_M) (T := T_M) (N := 35) hx hb hts u_0 t_M t_M_ok n_M hown hK hP hD hS 0 gm_0 rfl 32 (by decide) k_0 (fun _ h9 => h9) rfl (by decide +kernel) rfl rfl (Nat.le_of_ble_eq_true rfl) d_M_work_14 (fun H locs hP hD hS => ?_)
        rw [sm_0_32, ← e42] at hP hD
        refine lv_aload_n hx hb d_M_work_17 rfl (lv_at hl 0 rfl) ?_
        refine va_get (D := X) (ci := 9) (C := R_M) (T := T_M) (N := 35) hx hb hts u_0 hown hK hP 0 gm_0 rfl 31 (by decide) k_1 (fun _ h9 => h9) rfl d_M_work_18 ?_
        refine lv_aload_n hx hb d_M_work_21 rfl (lv_at hl 0 rfl) ?_
        refine va_get (D := X) (ci := 9) (C := R_M) (T := T_M) (N := 35) hx hb hts u_0 hown hK hP 0 gm_0 rfl 32 (by decide) k_0 (fun _ h9 => h9) rfl d_M_work_22 ?_
        obtain ⟨y43, h44, e45, hf⟩ := gLd_e hf
        refine va_iald hx hb hK hP 23 0 gm_23 rfl h44 d_M_work_25 ?_
        rw [← e45]
        refine lv_istore_n hx hb d_M_work_26 rfl hl (by decide) rfl (fun ls hl => ?_)
        refine lv_iload_n hx hb d_M_work_27 rfl (lv_at hl 0 rfl) ?_
        refine lv_bipush (v := 100) hx hb d_M_work_28 (by decide) ?_
        refine lv_isub hx hb d_M_work_30 ?_
        refine lv_istore_n hx hb d_M_work_31 rfl hl (by decide) rfl (fun ls hl => ?_)
        refine lv_iload_n hx hb d_M_work_32 rfl (lv_at hl 1 rfl) ?_
        refine lv_sipush (v := 200) hx hb d_M_work_33 (by decide) ?_
        refine lv_icmp_lt (tgt := 57) hx hb d_M_work_36 rfl (fun c46 => ?_) (fun c46 => ?_)
        · skip
          rw [if_pos c46] at hf
          refine lv_aload_n hx hb d_M_work_57 rfl (lv_at hl 2 rfl) ?_
          refine va_get (D := X) (ci := 9) (C := R_M) (T := T_M) (N := 35) hx hb hts u_0 hown hK hP 0 gm_0 rfl 3 (by decide) k_2 (fun _ h9 => h9) rfl d_M_work_58 ?_
          refine lv_iload_n hx hb d_M_work_61 rfl (lv_at hl 0 rfl) ?_
          obtain ⟨y47, h48, e49, hf⟩ := gLd_e hf
          refine va_iald hx hb hK hP 3 0 gm_3 rfl h48 d_M_work_62 ?_
          rw [← e49]
          refine lv_if_ne (tgt := 81) hx hb d_M_work_63 rfl (fun c50 => ?_) (fun c50 => ?_)
          · skip
            rw [if_neg c50] at hf
            refine lv_aload_n hx hb d_M_work_81 rfl (lv_at hl 2 rfl) ?_
            refine va_get (D := X) (ci := 9) (C := R_M) (T := T_M) (N := 35) hx hb hts u_0 hown hK hP 0 gm_0 rfl 3 (by decide) k_2 (fun _ h9 => h9) rfl d_M_work_82 ?_
            refine lv_iload_n hx hb d_M_work_85 rfl (lv_at hl 0 rfl) ?_
            obtain ⟨y51, h52, e53, hf⟩ := gLd_e hf
            refine va_iald hx hb hK hP 3 0 gm_3 rfl h52 d_M_work_86 ?_
            rw [← e53]
            refine lv_iconst (v := 1) hx hb d_M_work_87 (by decide) ?_
            refine lv_icmp_ne (tgt := 128) hx hb d_M_work_88 rfl (fun c54 => ?_) (fun c54 => ?_)
            · skip
              rw [if_neg c54] at hf
              refine lv_aload_n hx hb d_M_work_128 rfl (lv_at hl 2 rfl) ?_
              refine lv_aload_n hx hb d_M_work_129 rfl (lv_at hl 2 rfl) ?_
              refine va_get (D := X) (ci := 9) (C := R_M) (T := T_M) (N := 35) hx hb hts u_0 hown hK hP 0 gm_0 rfl 4 (by decide) k_3 (fun _ h9 => h9) rfl d_M_work_130 ?_
              refine lv_iload_n hx hb d_M_work_133 rfl (lv_at hl 0 rfl) ?_
              obtain ⟨y55, h56, e57, hf⟩ := gLd_e hf
              refine va_iald hx hb hK hP 4 0 gm_4 rfl h56 d_M_work_134 ?_
              rw [← e57]
              obtain ⟨y58, σ59, e60, hf⟩ := gBd_e hf
              refine g_wv (va_runV ⟨hx, hb, hml, hown, hts⟩ (m_M_reference e60) (cwV 1 hts (gG4 (fun _ h => List.mem_cons_of_mem _ h) tb_435 tb_436 tb_437 tb_392 tc_M_reference) rfl rfl rfl (by decide +kernel) ⟨Nat.le_of_ble_eq_true rfl, Nat.le_of_ble_eq_true rfl⟩) (g_preVW (q0 := 0) hE hK hP hD hS hA gm_0 rfl) rfl rfl hl.1 rfl (lv_room (Nat.le_of_ble_eq_true rfl)) d_M_work_135 ⟨Nat.zero_le _, Nat.zero_le _⟩) hD hS hA (fun _ => mW_fst) (fun _ H locs _ hP hD hS => ?_)
              exact ih2 σ59 _ _ _ hf hP hD hS (lv_sub hl [2] rfl)
            rw [if_pos c54] at hf
            refine lv_aload_n hx hb d_M_work_91 rfl (lv_at hl 2 rfl) ?_
            refine lv_bipush (v := 60) hx hb d_M_work_92 (by decide) ?_
            refine lv_bipush (v := 105) hx hb d_M_work_94 (by decide) ?_
            refine lv_bipush (v := 62) hx hb d_M_work_96 (by decide) ?_
            refine lv_iconst (v := 0) hx hb d_M_work_98 (by decide) ?_
            obtain ⟨y61, σ62, e63, hf⟩ := gBd_e hf
            refine g_wv (va_runV ⟨hx, hb, hml, hown, hts⟩ (m_M_out e63) (cwV 4 hts (gG4 (fun _ h => List.mem_cons_of_mem _ h) tb_414 tb_415 tb_416 tb_392 tc_M_out) rfl rfl rfl (by decide +kernel) ⟨Nat.le_of_ble_eq_true rfl, Nat.le_of_ble_eq_true rfl⟩) (g_preVW (q0 := 0) hE hK hP hD hS hA gm_0 rfl) rfl rfl hl.1 rfl (lv_room (Nat.le_of_ble_eq_true rfl)) d_M_work_99 ⟨Nat.zero_le _, Nat.zero_le _⟩) hD hS hA (fun _ => mW_fst) (fun _ H locs _ hP hD hS => ?_)
            refine lv_aload_n hx hb d_M_work_102 rfl (lv_at hl 2 rfl) ?_
            refine lv_aload_n hx hb d_M_work_103 rfl (lv_at hl 2 rfl) ?_
            refine va_get (D := X) (ci := 9) (C := R_M) (T := T_M) (N := 35) hx hb hts u_0 hown hK hP 0 gm_0 rfl 4 (by decide) k_3 (fun _ h9 => h9) rfl d_M_work_104 ?_
            refine lv_iload_n hx hb d_M_work_107 rfl (lv_at hl 0 rfl) ?_
            obtain ⟨y64, h65, e66, hf⟩ := gLd_e hf
            refine va_iald hx hb hK hP 4 0 gm_4 rfl h65 d_M_work_108 ?_
            rw [← e66]
            refine lv_i2l hx hb d_M_work_109 rfl ?_
            obtain ⟨y67, σ68, e69, hf⟩ := gBd_e hf
            refine g_wv (va_runV ⟨hx, hb, hml, hown, hts⟩ (m_M_number e69) (cwV 1 hts (gG4 (fun _ h => List.mem_cons_of_mem _ h) tb_419 tb_420 tb_421 tb_392 tc_M_number) rfl rfl rfl (by decide +kernel) ⟨Nat.le_of_ble_eq_true rfl, Nat.le_of_ble_eq_true rfl⟩) (g_preVW (q0 := 0) hE hK hP hD hS hA gm_0 rfl) rfl rfl hl.1 rfl (lv_room (Nat.le_of_ble_eq_true rfl)) d_M_work_110 ⟨Nat.zero_le _, Nat.zero_le _⟩) hD hS hA (fun _ => mW_fst) (fun _ H locs _ hP hD hS => ?_)
            refine lv_aload_n hx hb d_M_work_113 rfl (lv_at hl 2 rfl) ?_
            refine lv_bipush (v := 60) hx hb d_M_work_114 (by decide) ?_
            refine lv_bipush (v := 47) hx hb d_M_work_116 (by decide) ?_
            refine lv_bipush (v := 105) hx hb d_M_work_118 (by decide) ?_
            refine lv_bipush (v := 62) hx hb d_M_work_120 (by decide) ?_
            obtain ⟨y70, σ71, e72, hf⟩ := gBd_e hf
            refine g_wv (va_runV ⟨hx, hb, hml, hown, hts⟩ (m_M_out e72) (cwV 4 hts (gG4 (fun _ h => List.mem_cons_of_mem _ h) tb_414 tb_415 tb_416 tb_392 tc_M_out) rfl rfl rfl (by decide +kernel) ⟨Nat.le_of_ble_eq_true rfl, Nat.le_of_ble_eq_true rfl⟩) (g_preVW (q0 := 0) hE hK hP hD hS hA gm_0 rfl) rfl rfl hl.1 rfl (lv_room (Nat.le_of_ble_eq_true rfl)) d_M_work_122 ⟨Nat.zero_le _, Nat.zero_le _⟩) hD hS hA (fun _ => mW_fst) (fun _ H locs _ hP hD hS => ?_)
            refine lv_goto (tgt := 138) hx hb d_M_work_125 rfl ?_
            exact ih2 σ71 _ _ _ hf hP hD hS (lv_sub hl [2] rfl)
          rw [if_pos c50] at hf
          refine lv_aload_n hx hb d_M_work_66 rfl (lv_at hl 2 rfl) ?_
          refine lv_bipush (v := 60) hx hb d_M_work_67 (by decide) ?_
          refine lv_bipush (v := 110) hx hb d_M_work_69 (by decide) ?_
          refine lv_bipush (v := 47) hx hb d_M_work_71 (by decide) ?_
          refine lv_bipush (v := 62) hx hb d_M_work_73 (by decide) ?_
          obtain ⟨y73, σ74, e75, hf⟩ := gBd_e hf
          refine g_wv (va_runV ⟨hx, hb, hml, hown, hts⟩ (m_M_out e75) (cwV 4 hts (gG4 (fun _ h => List.mem_cons_of_mem _ h) tb_414 tb_415 tb_416 tb_392 tc_M_out) rfl rfl rfl (by decide +kernel) ⟨Nat.le_of_ble_eq_true rfl, Nat.le_of_ble_eq_true rfl⟩) (g_preVW (q0 := 0) hE hK hP hD hS hA gm_0 rfl) rfl rfl hl.1 rfl (lv_room (Nat.le_of_ble_eq_true rfl)) d_M_work_75 ⟨Nat.zero_le _, Nat.zero_le _⟩) hD hS hA (fun _ => mW_fst) (fun _ H locs _ hP hD hS => ?_)
          refine lv_goto (tgt := 138) hx hb d_M_work_78 rfl ?_
          exact ih2 σ74 _ _ _ hf hP hD hS (lv_sub hl [2] rfl)
        rw [if_neg c46] at hf
        refine lv_aload_n hx hb d_M_work_39 rfl (lv_at hl 2 rfl) ?_
        refine lv_bipush (v := 60) hx hb d_M_work_40 (by decide) ?_
        refine lv_bipush (v := 47) hx hb d_M_work_42 (by decide) ?_
        refine lv_iload_n hx hb d_M_work_44 rfl (lv_at hl 1 rfl) ?_
        refine lv_sipush (v := 200) hx hb d_M_work_45 (by decide) ?_
        refine lv_isub hx hb d_M_work_48 ?_
        refine lv_bipush (v := 62) hx hb d_M_work_49 (by decide) ?_
        obtain ⟨y76, σ77, e78, hf⟩ := gBd_e hf
        refine g_wv (va_runV ⟨hx, hb, hml, hown, hts⟩ (m_M_out e78) (cwV 4 hts (gG4 (fun _ h => List.mem_cons_of_mem _ h) tb_414 tb_415 tb_416 tb_392 tc_M_out) rfl rfl rfl (by decide +kernel) ⟨Nat.le_of_ble_eq_true rfl, Nat.le_of_ble_eq_true rfl⟩) (g_preVW (q0 := 0) hE hK hP hD hS hA gm_0 rfl) rfl rfl hl.1 rfl (lv_room (Nat.le_of_ble_eq_true rfl)) d_M_work_51 ⟨Nat.zero_le _, Nat.zero_le _⟩) hD hS hA (fun _ => mW_fst) (fun _ H locs _ hP hD hS => ?_)
        refine lv_goto (tgt := 138) hx hb d_M_work_54 rfl ?_
        exact ih2 σ77 _ _ _ hf hP hD hS (lv_sub hl [2] rfl)
      · intro  σ0 H locs ls hf hP hD hS hl
        have hf : B_M_work_2 (R_M_work t)  σ0 = some (r, σ') := hf
        unfold B_M_work_2 at hf
        refine lv_goto (tgt := 0) hx hb d_M_work_138 rfl ?_
        exact ih0 σ0 _ _ _ hf hP hD hS (lv_sub hl [0] rfl)
  exact (key gFuel).1  σ _ _ _ hf hP hD hS hl

def B_M_encode_0 (rec : Nat → List Int32 → gS → Option (Int32 × gS)) (x1 : Int32) (σ0 : gS) : Option (Int32 × gS) := gBd (f_M_object σ0 x1) (fun y1 σ2 => if y1 = 0 then (some ((-1), σ2)) else (gBd (f_M_mark σ2 x1) (fun _ σ6 => gPut σ6 8 0 (fun σ8 => gPut σ8 9 0 (fun σ10 => gPut σ10 1 0 (fun σ12 => gBd (f_M_out σ12 60 101 32 118) (fun _ σ15 => gBd (f_M_out σ15 61 34 49 34) (fun _ σ18 => gBd (f_M_out σ18 62 60 98 62) (fun _ σ21 => gBd (f_M_reference σ21 x1) (fun _ σ24 => gBd (f_M_work σ24) (fun _ σ27 => rec 1 [1] σ27)))))))))))
def B_M_encode_1 (rec : Nat → List Int32 → gS → Option (Int32 × gS)) (x2 : Int32) (σ0 : gS) : Option (Int32 × gS) := if (σ0.1 8) < x2 then (gBd (f_M_out σ0 60 47 98 62) (fun _ σ31 => gBd (f_M_out σ31 60 47 101 62) (fun _ σ34 => some ((σ34.1 1), σ34)))) else (gLd σ0 22 17 x2 (fun y36 => gBd (f_M_element σ0 y36) (fun _ σ40 => gBd (f_M_work σ40) (fun _ σ43 => rec 1 [(x2 + 1)] σ43))))
def S_M_encode (rec : Nat → List Int32 → gS → Option (Int32 × gS)) (k : Nat) (l : List Int32) (σ0 : gS) : Option (Int32 × gS) := match k, l with
  | 0, [x1] => B_M_encode_0 rec x1 σ0
  | 1, [x2] => B_M_encode_1 rec x2 σ0
  | _, _ => none
def R_M_encode : Nat → Nat → List Int32 → gS → Option (Int32 × gS)
  | 0 => fun _ _ _ => none
  | t + 1 => fun k l σ0 => S_M_encode (R_M_encode t) k l σ0
def f_M_encode (σ : gS) (x1 : Int32) : Option (Int32 × gS) := R_M_encode gFuel 0 [x1] σ
set_option maxHeartbeats 4000000 in
set_option maxRecDepth 100000 in
theorem m_M_encode {l : Launch} {X : va_G} {cI cC cZ : ClassId} {aK aV : Nat → Nat} {b : Nat → Nat} {σ σ' : gS} {r : Int32} {q1 : Int32} (hf : f_M_encode σ q1 = some (r, σ')) {sz : Nat} : Met l y_M_encode w_M_encode { frames := 6, cells := 0, slots := 0, locals := 143 } (gPc X vwCl (gT cI cC cZ) aK aV (mW cI cC cZ b σ) sz [.ref (b 0), .int q1]) (gQi X vwCl (mW cI cC cZ b σ) sz (fun r' (_ : Unit) => r' = r) (fun _ => mW cI cC cZ b σ')) 0 0 (va_A (mW cI cC cZ b σ) sz) := by
  refine g_met (cc := b_M_encode) (maxL := 3) (ret := (some .int)) (by decide) rfl (Nat.le_of_ble_eq_true rfl) ?_
  intro p e s m below meth c A ls hx hb hr hml hown hts hlocks hnm hsz hAe hA hP hK hD hS hl hE
  have hown : s.vm.findClass R_M = some m.cls := hown
  have u_0 : ∀ w ∈ u_ws R_M T_M 35, w ∈ w_M_encode := fun w h => List.mem_cons_of_mem _ (tu_M w h)
  have k_0 := hts (.fieldLink R_M 128 "GraphPagesModel" "given" "I") (List.mem_cons_of_mem _ tb_433)
  have k_1 := hts (.fieldLink R_M 138 "GraphPagesModel" "piled" "I") (List.mem_cons_of_mem _ tb_429)
  have k_2 := hts (.fieldLink R_M 110 "GraphPagesModel" "used" "I") (List.mem_cons_of_mem _ tb_413)
  have k_3 := hts (.fieldLink R_M 75 "GraphPagesModel" "order" "[I") (List.mem_cons_of_mem _ tb_434)
  unfold f_M_encode at hf
  have key : ∀ t : Nat, (∀ (x1 : Int32) (σ0 : gS) (H : Heap) (locs : List Loc) (ls : Array Slot), R_M_encode t 0 [x1] σ0 = some (r, σ') → va_P X vwCl (mW cI cC cZ b σ0) H → va_D A (mW cI cC cZ b σ0) → va_S A s.heap H locs → lv_has ls 3 [(0, .ref (b 0)), (1, .int x1)] → W p l e (headSpec w_M_encode { frames := 6, cells := 0, slots := 0, locals := 143 }).room s m [.ref (b 0), .int q1].toArray below meth c H locs 0 0 (MQ below (gQi X vwCl (mW cI cC cZ b σ) sz (fun r' (_ : Unit) => r' = r) (fun _ => mW cI cC cZ b σ')) [.ref (b 0), .int q1].toArray s 0 0 (va_A (mW cI cC cZ b σ) sz)) (F0 m 0 ls [])) ∧ (∀ (x2 : Int32) (σ0 : gS) (H : Heap) (locs : List Loc) (ls : Array Slot), R_M_encode t 1 [x2] σ0 = some (r, σ') → va_P X vwCl (mW cI cC cZ b σ0) H → va_D A (mW cI cC cZ b σ0) → va_S A s.heap H locs → lv_has ls 3 [(0, .ref (b 0)), (2, .int x2)] → W p l e (headSpec w_M_encode { frames := 6, cells := 0, slots := 0, locals := 143 }).room s m [.ref (b 0), .int q1].toArray below meth c H locs 0 0 (MQ below (gQi X vwCl (mW cI cC cZ b σ) sz (fun r' (_ : Unit) => r' = r) (fun _ => mW cI cC cZ b σ')) [.ref (b 0), .int q1].toArray s 0 0 (va_A (mW cI cC cZ b σ) sz)) (F0 m 77 ls [])) := by
    intro t
    induction t with
    | zero => exact ⟨fun _ _ _ _ _ hf => (by have hf : (none : Option (Int32 × gS)) = some (r, σ') := hf; cases hf), fun _ _ _ _ _ hf => (by have hf : (none : Option (Int32 × gS)) = some (r, σ') := hf; cases hf)⟩
    | succ t ih =>
      obtain ⟨ih0, ih1⟩ := ih
      refine ⟨?_, ?_⟩
      · intro x1 σ0 H locs ls hf hP hD hS hl
        have hf : B_M_encode_0 (R_M_encode t) x1 σ0 = some (r, σ') := hf
        unfold B_M_encode_0 at hf
        refine lv_aload_n hx hb d_M_encode_0 rfl (lv_at hl 0 rfl) ?_
        refine lv_iload_n hx hb d_M_encode_1 rfl (lv_at hl 1 rfl) ?_
        obtain ⟨y1, σ2, e3, hf⟩ := gBd_e hf
        refine g_wi (va_runV ⟨hx, hb, hml, hown, hts⟩ (m_M_object e3) (cwV 1 hts (gG4 (fun _ h => List.mem_cons_of_mem _ h) tb_389 tb_390 tb_391 tb_392 tc_M_object) rfl rfl rfl (by decide +kernel) ⟨Nat.le_of_ble_eq_true rfl, Nat.le_of_ble_eq_true rfl⟩) (g_preVW (q0 := 0) hE hK hP hD hS hA gm_0 rfl) rfl rfl hl.1 rfl (lv_room (Nat.le_of_ble_eq_true rfl)) d_M_encode_2 ⟨Nat.zero_le _, Nat.zero_le _⟩) hD hS hA (fun _ => mW_fst) (fun y1 _ H locs hu hP hD hS => ?_)
        subst hu
        refine lv_if_ne (tgt := 10) hx hb d_M_encode_5 rfl (fun c4 => ?_) (fun c4 => ?_)
        · skip
          rw [if_neg c4] at hf
          refine lv_aload_n hx hb d_M_encode_10 rfl (lv_at hl 0 rfl) ?_
          refine lv_iload_n hx hb d_M_encode_11 rfl (lv_at hl 1 rfl) ?_
          obtain ⟨y5, σ6, e7, hf⟩ := gBd_e hf
          refine g_wv (va_runV ⟨hx, hb, hml, hown, hts⟩ (m_M_mark e7) (cwV 1 hts (gG4 (fun _ h => List.mem_cons_of_mem _ h) tb_409 tb_410 tb_411 tb_392 tc_M_mark) rfl rfl rfl (by decide +kernel) ⟨Nat.le_of_ble_eq_true rfl, Nat.le_of_ble_eq_true rfl⟩) (g_preVW (q0 := 0) hE hK hP hD hS hA gm_0 rfl) rfl rfl hl.1 rfl (lv_room (Nat.le_of_ble_eq_true rfl)) d_M_encode_12 ⟨Nat.zero_le _, Nat.zero_le _⟩) hD hS hA (fun _ => mW_fst) (fun _ H locs _ hP hD hS => ?_)
          refine lv_aload_n hx hb d_M_encode_15 rfl (lv_at hl 0 rfl) ?_
          refine lv_iconst (v := 0) hx hb d_M_encode_16 (by decide) ?_
          obtain ⟨σ8, e9, hf⟩ := gPut_e hf
          refine va_put (D := X) (ci := 9) (ty := .int) (C := R_M) (T := T_M) (N := 35) hx hb hts u_0 t_M t_M_ok n_M hown hK hP hD hS 0 gm_0 rfl 30 (by decide) k_0 (fun _ h9 => h9) rfl (by decide +kernel) rfl rfl (Nat.le_of_ble_eq_true rfl) d_M_encode_17 (fun H locs hP hD hS => ?_)
          rw [sm_0_30, ← e9] at hP hD
          refine lv_aload_n hx hb d_M_encode_20 rfl (lv_at hl 0 rfl) ?_
          refine lv_iconst (v := 0) hx hb d_M_encode_21 (by decide) ?_
          obtain ⟨σ10, e11, hf⟩ := gPut_e hf
          refine va_put (D := X) (ci := 9) (ty := .int) (C := R_M) (T := T_M) (N := 35) hx hb hts u_0 t_M t_M_ok n_M hown hK hP hD hS 0 gm_0 rfl 32 (by decide) k_1 (fun _ h9 => h9) rfl (by decide +kernel) rfl rfl (Nat.le_of_ble_eq_true rfl) d_M_encode_22 (fun H locs hP hD hS => ?_)
          rw [sm_0_32, ← e11] at hP hD
          refine lv_aload_n hx hb d_M_encode_25 rfl (lv_at hl 0 rfl) ?_
          refine lv_iconst (v := 0) hx hb d_M_encode_26 (by decide) ?_
          obtain ⟨σ12, e13, hf⟩ := gPut_e hf
          refine va_put (D := X) (ci := 9) (ty := .int) (C := R_M) (T := T_M) (N := 35) hx hb hts u_0 t_M t_M_ok n_M hown hK hP hD hS 0 gm_0 rfl 7 (by decide) k_2 (fun _ h9 => h9) rfl (by decide +kernel) rfl rfl (Nat.le_of_ble_eq_true rfl) d_M_encode_27 (fun H locs hP hD hS => ?_)
          rw [sm_0_7, ← e13] at hP hD
          refine lv_aload_n hx hb d_M_encode_30 rfl (lv_at hl 0 rfl) ?_
          refine lv_bipush (v := 60) hx hb d_M_encode_31 (by decide) ?_
          refine lv_bipush (v := 101) hx hb d_M_encode_33 (by decide) ?_
          refine lv_bipush (v := 32) hx hb d_M_encode_35 (by decide) ?_
          refine lv_bipush (v := 118) hx hb d_M_encode_37 (by decide) ?_
          obtain ⟨y14, σ15, e16, hf⟩ := gBd_e hf
          refine g_wv (va_runV ⟨hx, hb, hml, hown, hts⟩ (m_M_out e16) (cwV 4 hts (gG4 (fun _ h => List.mem_cons_of_mem _ h) tb_414 tb_415 tb_416 tb_392 tc_M_out) rfl rfl rfl (by decide +kernel) ⟨Nat.le_of_ble_eq_true rfl, Nat.le_of_ble_eq_true rfl⟩) (g_preVW (q0 := 0) hE hK hP hD hS hA gm_0 rfl) rfl rfl hl.1 rfl (lv_room (Nat.le_of_ble_eq_true rfl)) d_M_encode_39 ⟨Nat.zero_le _, Nat.zero_le _⟩) hD hS hA (fun _ => mW_fst) (fun _ H locs _ hP hD hS => ?_)
          refine lv_aload_n hx hb d_M_encode_42 rfl (lv_at hl 0 rfl) ?_
          refine lv_bipush (v := 61) hx hb d_M_encode_43 (by decide) ?_
          refine lv_bipush (v := 34) hx hb d_M_encode_45 (by decide) ?_
          refine lv_bipush (v := 49) hx hb d_M_encode_47 (by decide) ?_
          refine lv_bipush (v := 34) hx hb d_M_encode_49 (by decide) ?_
          obtain ⟨y17, σ18, e19, hf⟩ := gBd_e hf
          refine g_wv (va_runV ⟨hx, hb, hml, hown, hts⟩ (m_M_out e19) (cwV 4 hts (gG4 (fun _ h => List.mem_cons_of_mem _ h) tb_414 tb_415 tb_416 tb_392 tc_M_out) rfl rfl rfl (by decide +kernel) ⟨Nat.le_of_ble_eq_true rfl, Nat.le_of_ble_eq_true rfl⟩) (g_preVW (q0 := 0) hE hK hP hD hS hA gm_0 rfl) rfl rfl hl.1 rfl (lv_room (Nat.le_of_ble_eq_true rfl)) d_M_encode_51 ⟨Nat.zero_le _, Nat.zero_le _⟩) hD hS hA (fun _ => mW_fst) (fun _ H locs _ hP hD hS => ?_)
          refine lv_aload_n hx hb d_M_encode_54 rfl (lv_at hl 0 rfl) ?_
          refine lv_bipush (v := 62) hx hb d_M_encode_55 (by decide) ?_
          refine lv_bipush (v := 60) hx hb d_M_encode_57 (by decide) ?_
          refine lv_bipush (v := 98) hx hb d_M_encode_59 (by decide) ?_
          refine lv_bipush (v := 62) hx hb d_M_encode_61 (by decide) ?_
          obtain ⟨y20, σ21, e22, hf⟩ := gBd_e hf
          refine g_wv (va_runV ⟨hx, hb, hml, hown, hts⟩ (m_M_out e22) (cwV 4 hts (gG4 (fun _ h => List.mem_cons_of_mem _ h) tb_414 tb_415 tb_416 tb_392 tc_M_out) rfl rfl rfl (by decide +kernel) ⟨Nat.le_of_ble_eq_true rfl, Nat.le_of_ble_eq_true rfl⟩) (g_preVW (q0 := 0) hE hK hP hD hS hA gm_0 rfl) rfl rfl hl.1 rfl (lv_room (Nat.le_of_ble_eq_true rfl)) d_M_encode_63 ⟨Nat.zero_le _, Nat.zero_le _⟩) hD hS hA (fun _ => mW_fst) (fun _ H locs _ hP hD hS => ?_)
          refine lv_aload_n hx hb d_M_encode_66 rfl (lv_at hl 0 rfl) ?_
          refine lv_iload_n hx hb d_M_encode_67 rfl (lv_at hl 1 rfl) ?_
          obtain ⟨y23, σ24, e25, hf⟩ := gBd_e hf
          refine g_wv (va_runV ⟨hx, hb, hml, hown, hts⟩ (m_M_reference e25) (cwV 1 hts (gG4 (fun _ h => List.mem_cons_of_mem _ h) tb_435 tb_436 tb_437 tb_392 tc_M_reference) rfl rfl rfl (by decide +kernel) ⟨Nat.le_of_ble_eq_true rfl, Nat.le_of_ble_eq_true rfl⟩) (g_preVW (q0 := 0) hE hK hP hD hS hA gm_0 rfl) rfl rfl hl.1 rfl (lv_room (Nat.le_of_ble_eq_true rfl)) d_M_encode_68 ⟨Nat.zero_le _, Nat.zero_le _⟩) hD hS hA (fun _ => mW_fst) (fun _ H locs _ hP hD hS => ?_)
          refine lv_aload_n hx hb d_M_encode_71 rfl (lv_at hl 0 rfl) ?_
          obtain ⟨y26, σ27, e28, hf⟩ := gBd_e hf
          refine g_wv (va_runV ⟨hx, hb, hml, hown, hts⟩ (m_M_work e28) (cwV 0 hts (gG4 (fun _ h => List.mem_cons_of_mem _ h) tb_438 tb_439 tb_440 tb_392 tc_M_work) rfl rfl rfl (by decide +kernel) ⟨Nat.le_of_ble_eq_true rfl, Nat.le_of_ble_eq_true rfl⟩) (g_preVW (q0 := 0) hE hK hP hD hS hA gm_0 rfl) rfl rfl hl.1 rfl (lv_room (Nat.le_of_ble_eq_true rfl)) d_M_encode_72 ⟨Nat.zero_le _, Nat.zero_le _⟩) hD hS hA (fun _ => mW_fst) (fun _ H locs _ hP hD hS => ?_)
          refine lv_iconst (v := 1) hx hb d_M_encode_75 (by decide) ?_
          refine lv_istore_n hx hb d_M_encode_76 rfl hl (by decide) rfl (fun ls hl => ?_)
          exact ih1 (1) σ27 _ _ _ hf hP hD hS (lv_sub hl [1, 0] rfl)
        rw [if_pos c4] at hf
        refine lv_iconst (v := (-1)) hx hb d_M_encode_8 (by decide) ?_
        obtain ⟨rfl, rfl⟩ := gRt_e hf
        exact g_zret hx hb hr hlocks rfl hAe hS () rfl hP d_M_encode_9
      · intro x2 σ0 H locs ls hf hP hD hS hl
        have hf : B_M_encode_1 (R_M_encode t) x2 σ0 = some (r, σ') := hf
        unfold B_M_encode_1 at hf
        refine lv_iload_n hx hb d_M_encode_77 rfl (lv_at hl 1 rfl) ?_
        refine lv_aload_n hx hb d_M_encode_78 rfl (lv_at hl 0 rfl) ?_
        refine va_get (D := X) (ci := 9) (C := R_M) (T := T_M) (N := 35) hx hb hts u_0 hown hK hP 0 gm_0 rfl 30 (by decide) k_0 (fun _ h9 => h9) rfl d_M_encode_79 ?_
        refine lv_icmp_gt (tgt := 105) hx hb d_M_encode_82 rfl (fun c29 => ?_) (fun c29 => ?_)
        · skip
          rw [if_pos c29] at hf
          refine lv_aload_n hx hb d_M_encode_105 rfl (lv_at hl 0 rfl) ?_
          refine lv_bipush (v := 60) hx hb d_M_encode_106 (by decide) ?_
          refine lv_bipush (v := 47) hx hb d_M_encode_108 (by decide) ?_
          refine lv_bipush (v := 98) hx hb d_M_encode_110 (by decide) ?_
          refine lv_bipush (v := 62) hx hb d_M_encode_112 (by decide) ?_
          obtain ⟨y30, σ31, e32, hf⟩ := gBd_e hf
          refine g_wv (va_runV ⟨hx, hb, hml, hown, hts⟩ (m_M_out e32) (cwV 4 hts (gG4 (fun _ h => List.mem_cons_of_mem _ h) tb_414 tb_415 tb_416 tb_392 tc_M_out) rfl rfl rfl (by decide +kernel) ⟨Nat.le_of_ble_eq_true rfl, Nat.le_of_ble_eq_true rfl⟩) (g_preVW (q0 := 0) hE hK hP hD hS hA gm_0 rfl) rfl rfl hl.1 rfl (lv_room (Nat.le_of_ble_eq_true rfl)) d_M_encode_114 ⟨Nat.zero_le _, Nat.zero_le _⟩) hD hS hA (fun _ => mW_fst) (fun _ H locs _ hP hD hS => ?_)
          refine lv_aload_n hx hb d_M_encode_117 rfl (lv_at hl 0 rfl) ?_
          refine lv_bipush (v := 60) hx hb d_M_encode_118 (by decide) ?_
          refine lv_bipush (v := 47) hx hb d_M_encode_120 (by decide) ?_
          refine lv_bipush (v := 101) hx hb d_M_encode_122 (by decide) ?_
          refine lv_bipush (v := 62) hx hb d_M_encode_124 (by decide) ?_
          obtain ⟨y33, σ34, e35, hf⟩ := gBd_e hf
          refine g_wv (va_runV ⟨hx, hb, hml, hown, hts⟩ (m_M_out e35) (cwV 4 hts (gG4 (fun _ h => List.mem_cons_of_mem _ h) tb_414 tb_415 tb_416 tb_392 tc_M_out) rfl rfl rfl (by decide +kernel) ⟨Nat.le_of_ble_eq_true rfl, Nat.le_of_ble_eq_true rfl⟩) (g_preVW (q0 := 0) hE hK hP hD hS hA gm_0 rfl) rfl rfl hl.1 rfl (lv_room (Nat.le_of_ble_eq_true rfl)) d_M_encode_126 ⟨Nat.zero_le _, Nat.zero_le _⟩) hD hS hA (fun _ => mW_fst) (fun _ H locs _ hP hD hS => ?_)
          refine lv_aload_n hx hb d_M_encode_129 rfl (lv_at hl 0 rfl) ?_
          refine va_get (D := X) (ci := 9) (C := R_M) (T := T_M) (N := 35) hx hb hts u_0 hown hK hP 0 gm_0 rfl 7 (by decide) k_2 (fun _ h9 => h9) rfl d_M_encode_130 ?_
          obtain ⟨rfl, rfl⟩ := gRt_e hf
          exact g_zret hx hb hr hlocks rfl hAe hS () rfl hP d_M_encode_133
        rw [if_neg c29] at hf
        refine lv_aload_n hx hb d_M_encode_85 rfl (lv_at hl 0 rfl) ?_
        refine lv_aload_n hx hb d_M_encode_86 rfl (lv_at hl 0 rfl) ?_
        refine va_get (D := X) (ci := 9) (C := R_M) (T := T_M) (N := 35) hx hb hts u_0 hown hK hP 0 gm_0 rfl 29 (by decide) k_3 (fun _ h9 => h9) rfl d_M_encode_87 ?_
        refine lv_iload_n hx hb d_M_encode_90 rfl (lv_at hl 1 rfl) ?_
        obtain ⟨y36, h37, e38, hf⟩ := gLd_e hf
        refine va_iald hx hb hK hP 22 0 gm_22 rfl h37 d_M_encode_91 ?_
        rw [← e38]
        obtain ⟨y39, σ40, e41, hf⟩ := gBd_e hf
        refine g_wv (va_runV ⟨hx, hb, hml, hown, hts⟩ (m_M_element e41) (cwV 1 hts (gG4 (fun _ h => List.mem_cons_of_mem _ h) tb_430 tb_431 tb_432 tb_392 tc_M_element) rfl rfl rfl (by decide +kernel) ⟨Nat.le_of_ble_eq_true rfl, Nat.le_of_ble_eq_true rfl⟩) (g_preVW (q0 := 0) hE hK hP hD hS hA gm_0 rfl) rfl rfl hl.1 rfl (lv_room (Nat.le_of_ble_eq_true rfl)) d_M_encode_92 ⟨Nat.zero_le _, Nat.zero_le _⟩) hD hS hA (fun _ => mW_fst) (fun _ H locs _ hP hD hS => ?_)
        refine lv_aload_n hx hb d_M_encode_95 rfl (lv_at hl 0 rfl) ?_
        obtain ⟨y42, σ43, e44, hf⟩ := gBd_e hf
        refine g_wv (va_runV ⟨hx, hb, hml, hown, hts⟩ (m_M_work e44) (cwV 0 hts (gG4 (fun _ h => List.mem_cons_of_mem _ h) tb_438 tb_439 tb_440 tb_392 tc_M_work) rfl rfl rfl (by decide +kernel) ⟨Nat.le_of_ble_eq_true rfl, Nat.le_of_ble_eq_true rfl⟩) (g_preVW (q0 := 0) hE hK hP hD hS hA gm_0 rfl) rfl rfl hl.1 rfl (lv_room (Nat.le_of_ble_eq_true rfl)) d_M_encode_96 ⟨Nat.zero_le _, Nat.zero_le _⟩) hD hS hA (fun _ => mW_fst) (fun _ H locs _ hP hD hS => ?_)
        refine lv_iinc (k := 1) (v := (x2 + 1)) hx hb d_M_encode_99 hl rfl (by rw [show Int32.ofInt (1) = (1 : Int32) by decide]) (by decide) rfl (fun ls hl => ?_)
        refine lv_goto (tgt := 77) hx hb d_M_encode_102 rfl ?_
        exact ih1 ((x2 + 1)) σ43 _ _ _ hf hP hD hS (lv_sub hl [1, 0] rfl)
  exact (key gFuel).1 q1 σ _ _ _ hf hP hD hS hl

def f_M_charOr0 (σ : gS) (x1 : Int32) : Option (Int32 × gS) := if (σ.1 1) ≤ x1 then (some (0, σ)) else (gLd σ 7 1600 x1 (fun y2 => some (y2, σ)))
set_option maxHeartbeats 4000000 in
set_option maxRecDepth 100000 in
theorem m_M_charOr0 {l : Launch} {X : va_G} {cI cC cZ : ClassId} {aK aV : Nat → Nat} {b : Nat → Nat} {σ σ' : gS} {r : Int32} {x1 : Int32} (hf : f_M_charOr0 σ x1 = some (r, σ')) {sz : Nat} : Met l y_M_charOr0 w_M_charOr0 { frames := 0, cells := 0, slots := 0, locals := 0 } (gPc X vwCl (gT cI cC cZ) aK aV (mW cI cC cZ b σ) sz [.ref (b 0), .int x1]) (gQi X vwCl (mW cI cC cZ b σ) sz (fun r' (_ : Unit) => r' = r) (fun _ => mW cI cC cZ b σ')) 0 0 (va_A (mW cI cC cZ b σ) sz) := by
  refine g_met (cc := b_M_charOr0) (maxL := 2) (ret := (some .int)) (by decide) rfl (Nat.le_of_ble_eq_true rfl) ?_
  intro p e s m below meth c A ls hx hb hr hml hown hts hlocks hnm hsz hAe hA hP hK hD hS hl hE
  have hown : s.vm.findClass R_M = some m.cls := hown
  have u_0 : ∀ w ∈ u_ws R_M T_M 35, w ∈ w_M_charOr0 := fun w h => List.mem_cons_of_mem _ (tu_M w h)
  have k_0 := hts (.fieldLink R_M 110 "GraphPagesModel" "used" "I") (List.mem_cons_of_mem _ tb_413)
  have k_1 := hts (.fieldLink R_M 29 "GraphPagesModel" "page" "[C") (List.mem_cons_of_mem _ tb_412)
  unfold f_M_charOr0 at hf
  refine lv_iload_n hx hb d_M_charOr0_0 rfl (lv_at hl 1 rfl) ?_
  refine lv_aload_n hx hb d_M_charOr0_1 rfl (lv_at hl 0 rfl) ?_
  refine va_get (D := X) (ci := 9) (C := R_M) (T := T_M) (N := 35) hx hb hts u_0 hown hK hP 0 gm_0 rfl 7 (by decide) k_0 (fun _ h9 => h9) rfl d_M_charOr0_2 ?_
  refine lv_icmp_ge (tgt := 17) hx hb d_M_charOr0_5 rfl (fun c1 => ?_) (fun c1 => ?_)
  · skip
    rw [if_pos c1] at hf
    refine lv_iconst (v := 0) hx hb d_M_charOr0_17 (by decide) ?_
    obtain ⟨rfl, rfl⟩ := gRt_e hf
    exact g_zret hx hb hr hlocks rfl hAe hS () rfl hP d_M_charOr0_18
  rw [if_neg c1] at hf
  refine lv_aload_n hx hb d_M_charOr0_8 rfl (lv_at hl 0 rfl) ?_
  refine va_get (D := X) (ci := 9) (C := R_M) (T := T_M) (N := 35) hx hb hts u_0 hown hK hP 0 gm_0 rfl 8 (by decide) k_1 (fun _ h9 => h9) rfl d_M_charOr0_9 ?_
  refine lv_iload_n hx hb d_M_charOr0_12 rfl (lv_at hl 1 rfl) ?_
  obtain ⟨y2, h3, e4, hf⟩ := gLd_e hf
  refine va_cald hx hb hK hP 7 1 gm_7 rfl h3 d_M_charOr0_13 ?_
  rw [← e4]
  refine lv_goto (tgt := 18) hx hb d_M_charOr0_14 rfl ?_
  obtain ⟨rfl, rfl⟩ := gRt_e hf
  exact g_zret hx hb hr hlocks rfl hAe hS () rfl hP d_M_charOr0_18

def B_M_nameAt_0 (rec : Nat → List Int32 → gS → Option (Int32 × gS)) (x1 : Int32) (σ0 : gS) : Option (Int32 × gS) := rec 1 [x1, 0, 0] σ0
def B_M_nameAt_1 (rec : Nat → List Int32 → gS → Option (Int32 × gS)) (x1 : Int32) (x2 : Int32) (x3 : Int32) (σ0 : gS) : Option (Int32 × gS) := if 7 ≤ x3 then (rec 3 [x1, x2, x3] σ0) else (gBd (f_M_charOr0 σ0 (x1 + x3)) (fun y2 σ3 => if y2 < 97 then (rec 3 [x1, x2, x3] σ3) else (gBd (f_M_charOr0 σ3 (x1 + x3)) (fun y6 σ7 => if 122 < y6 then (rec 3 [x1, x2, x3] σ7) else (if 6 ≤ x3 then (rec 2 [x1, x3, x2] σ7) else (gBd (f_M_charOr0 σ7 (x1 + x3)) (fun y11 σ12 => rec 2 [x1, x3, (((27 * x2) + y11) - 96)] σ12)))))))
def B_M_nameAt_2 (rec : Nat → List Int32 → gS → Option (Int32 × gS)) (x1 : Int32) (x3 : Int32) (z0 : Int32) (σ0 : gS) : Option (Int32 × gS) := rec 1 [x1, z0, (x3 + 1)] σ0
def B_M_nameAt_3 (rec : Nat → List Int32 → gS → Option (Int32 × gS)) (x1 : Int32) (x2 : Int32) (x3 : Int32) (σ0 : gS) : Option (Int32 × gS) := gPut σ0 7 (x1 + x3) (fun σ14 => if x3 = 0 then (some ((-1), σ14)) else (if x3 = 7 then (some ((-1), σ14)) else (some (x2, σ14))))
def S_M_nameAt (rec : Nat → List Int32 → gS → Option (Int32 × gS)) (k : Nat) (l : List Int32) (σ0 : gS) : Option (Int32 × gS) := match k, l with
  | 0, [x1] => B_M_nameAt_0 rec x1 σ0
  | 1, [x1, x2, x3] => B_M_nameAt_1 rec x1 x2 x3 σ0
  | 2, [x1, x3, z0] => B_M_nameAt_2 rec x1 x3 z0 σ0
  | 3, [x1, x2, x3] => B_M_nameAt_3 rec x1 x2 x3 σ0
  | _, _ => none
def R_M_nameAt : Nat → Nat → List Int32 → gS → Option (Int32 × gS)
  | 0 => fun _ _ _ => none
  | t + 1 => fun k l σ0 => S_M_nameAt (R_M_nameAt t) k l σ0
def f_M_nameAt (σ : gS) (x1 : Int32) : Option (Int32 × gS) := R_M_nameAt gFuel 0 [x1] σ
set_option maxHeartbeats 4000000 in
set_option maxRecDepth 100000 in
theorem m_M_nameAt {l : Launch} {X : va_G} {cI cC cZ : ClassId} {aK aV : Nat → Nat} {b : Nat → Nat} {σ σ' : gS} {r : Int32} {q1 : Int32} (hf : f_M_nameAt σ q1 = some (r, σ')) {sz : Nat} : Met l y_M_nameAt w_M_nameAt { frames := 1, cells := 0, slots := 0, locals := 21 } (gPc X vwCl (gT cI cC cZ) aK aV (mW cI cC cZ b σ) sz [.ref (b 0), .int q1]) (gQi X vwCl (mW cI cC cZ b σ) sz (fun r' (_ : Unit) => r' = r) (fun _ => mW cI cC cZ b σ')) 0 0 (va_A (mW cI cC cZ b σ) sz) := by
  refine g_met (cc := b_M_nameAt) (maxL := 4) (ret := (some .int)) (by decide) rfl (Nat.le_of_ble_eq_true rfl) ?_
  intro p e s m below meth c A ls hx hb hr hml hown hts hlocks hnm hsz hAe hA hP hK hD hS hl hE
  have hown : s.vm.findClass R_M = some m.cls := hown
  have u_0 : ∀ w ∈ u_ws R_M T_M 35, w ∈ w_M_nameAt := fun w h => List.mem_cons_of_mem _ (tu_M w h)
  have k_0 := hts (.fieldLink R_M 151 "GraphPagesModel" "nameEnd" "I") (List.mem_cons_of_mem _ tb_444)
  unfold f_M_nameAt at hf
  have key : ∀ t : Nat, (∀ (x1 : Int32) (σ0 : gS) (H : Heap) (locs : List Loc) (ls : Array Slot), R_M_nameAt t 0 [x1] σ0 = some (r, σ') → va_P X vwCl (mW cI cC cZ b σ0) H → va_D A (mW cI cC cZ b σ0) → va_S A s.heap H locs → lv_has ls 4 [(0, .ref (b 0)), (1, .int x1)] → W p l e (headSpec w_M_nameAt { frames := 1, cells := 0, slots := 0, locals := 21 }).room s m [.ref (b 0), .int q1].toArray below meth c H locs 0 0 (MQ below (gQi X vwCl (mW cI cC cZ b σ) sz (fun r' (_ : Unit) => r' = r) (fun _ => mW cI cC cZ b σ')) [.ref (b 0), .int q1].toArray s 0 0 (va_A (mW cI cC cZ b σ) sz)) (F0 m 0 ls [])) ∧ (∀ (x1 : Int32) (x2 : Int32) (x3 : Int32) (σ0 : gS) (H : Heap) (locs : List Loc) (ls : Array Slot), R_M_nameAt t 1 [x1, x2, x3] σ0 = some (r, σ') → va_P X vwCl (mW cI cC cZ b σ0) H → va_D A (mW cI cC cZ b σ0) → va_S A s.heap H locs → lv_has ls 4 [(0, .ref (b 0)), (1, .int x1), (2, .int x2), (3, .int x3)] → W p l e (headSpec w_M_nameAt { frames := 1, cells := 0, slots := 0, locals := 21 }).room s m [.ref (b 0), .int q1].toArray below meth c H locs 0 0 (MQ below (gQi X vwCl (mW cI cC cZ b σ) sz (fun r' (_ : Unit) => r' = r) (fun _ => mW cI cC cZ b σ')) [.ref (b 0), .int q1].toArray s 0 0 (va_A (mW cI cC cZ b σ) sz)) (F0 m 4 ls [])) ∧ (∀ (x1 : Int32) (x3 : Int32) (z0 : Int32) (σ0 : gS) (H : Heap) (locs : List Loc) (ls : Array Slot), R_M_nameAt t 2 [x1, x3, z0] σ0 = some (r, σ') → va_P X vwCl (mW cI cC cZ b σ0) H → va_D A (mW cI cC cZ b σ0) → va_S A s.heap H locs → lv_has ls 4 [(0, .ref (b 0)), (1, .int x1), (3, .int x3)] → W p l e (headSpec w_M_nameAt { frames := 1, cells := 0, slots := 0, locals := 21 }).room s m [.ref (b 0), .int q1].toArray below meth c H locs 0 0 (MQ below (gQi X vwCl (mW cI cC cZ b σ) sz (fun r' (_ : Unit) => r' = r) (fun _ => mW cI cC cZ b σ')) [.ref (b 0), .int q1].toArray s 0 0 (va_A (mW cI cC cZ b σ) sz)) (F0 m 59 ls [.int z0])) ∧ (∀ (x1 : Int32) (x2 : Int32) (x3 : Int32) (σ0 : gS) (H : Heap) (locs : List Loc) (ls : Array Slot), R_M_nameAt t 3 [x1, x2, x3] σ0 = some (r, σ') → va_P X vwCl (mW cI cC cZ b σ0) H → va_D A (mW cI cC cZ b σ0) → va_S A s.heap H locs → lv_has ls 4 [(0, .ref (b 0)), (1, .int x1), (2, .int x2), (3, .int x3)] → W p l e (headSpec w_M_nameAt { frames := 1, cells := 0, slots := 0, locals := 21 }).room s m [.ref (b 0), .int q1].toArray below meth c H locs 0 0 (MQ below (gQi X vwCl (mW cI cC cZ b σ) sz (fun r' (_ : Unit) => r' = r) (fun _ => mW cI cC cZ b σ')) [.ref (b 0), .int q1].toArray s 0 0 (va_A (mW cI cC cZ b σ) sz)) (F0 m 66 ls [])) := by
    intro t
    induction t with
    | zero => exact ⟨fun _ _ _ _ _ hf => (by have hf : (none : Option (Int32 × gS)) = some (r, σ') := hf; cases hf), fun _ _ _ _ _ _ _ hf => (by have hf : (none : Option (Int32 × gS)) = some (r, σ') := hf; cases hf), fun _ _ _ _ _ _ _ hf => (by have hf : (none : Option (Int32 × gS)) = some (r, σ') := hf; cases hf), fun _ _ _ _ _ _ _ hf => (by have hf : (none : Option (Int32 × gS)) = some (r, σ') := hf; cases hf)⟩
    | succ t ih =>
      obtain ⟨ih0, ih1, ih2, ih3⟩ := ih
      refine ⟨?_, ?_, ?_, ?_⟩
      · intro x1 σ0 H locs ls hf hP hD hS hl
        have hf : B_M_nameAt_0 (R_M_nameAt t) x1 σ0 = some (r, σ') := hf
        unfold B_M_nameAt_0 at hf
        refine lv_iconst (v := 0) hx hb d_M_nameAt_0 (by decide) ?_
        refine lv_istore_n hx hb d_M_nameAt_1 rfl hl (by decide) rfl (fun ls hl => ?_)
        refine lv_iconst (v := 0) hx hb d_M_nameAt_2 (by decide) ?_
        refine lv_istore_n hx hb d_M_nameAt_3 rfl hl (by decide) rfl (fun ls hl => ?_)
        exact ih1 (x1) (0) (0) σ0 _ _ _ hf hP hD hS (lv_sub hl [2, 3, 1, 0] rfl)
      · intro x1 x2 x3 σ0 H locs ls hf hP hD hS hl
        have hf : B_M_nameAt_1 (R_M_nameAt t) x1 x2 x3 σ0 = some (r, σ') := hf
        unfold B_M_nameAt_1 at hf
        refine lv_iload_n hx hb d_M_nameAt_4 rfl (lv_at hl 3 rfl) ?_
        refine lv_bipush (v := 7) hx hb d_M_nameAt_5 (by decide) ?_
        refine lv_icmp_ge (tgt := 66) hx hb d_M_nameAt_7 rfl (fun c1 => ?_) (fun c1 => ?_)
        · skip
          rw [if_pos c1] at hf
          exact ih3 (x1) (x2) (x3) σ0 _ _ _ hf hP hD hS (lv_sub hl [0, 1, 2, 3] rfl)
        rw [if_neg c1] at hf
        refine lv_aload_n hx hb d_M_nameAt_10 rfl (lv_at hl 0 rfl) ?_
        refine lv_iload_n hx hb d_M_nameAt_11 rfl (lv_at hl 1 rfl) ?_
        refine lv_iload_n hx hb d_M_nameAt_12 rfl (lv_at hl 3 rfl) ?_
        refine lv_iadd hx hb d_M_nameAt_13 ?_
        obtain ⟨y2, σ3, e4, hf⟩ := gBd_e hf
        refine g_wi (va_runV ⟨hx, hb, hml, hown, hts⟩ (m_M_charOr0 e4) (cwV 1 hts (gG4 (fun _ h => List.mem_cons_of_mem _ h) tb_441 tb_442 tb_443 tb_392 tc_M_charOr0) rfl rfl rfl (by decide +kernel) ⟨Nat.le_of_ble_eq_true rfl, Nat.le_of_ble_eq_true rfl⟩) (g_preVW (q0 := 0) hE hK hP hD hS hA gm_0 rfl) rfl rfl hl.1 rfl (lv_room (Nat.le_of_ble_eq_true rfl)) d_M_nameAt_14 ⟨Nat.zero_le _, Nat.zero_le _⟩) hD hS hA (fun _ => mW_fst) (fun y2 _ H locs hu hP hD hS => ?_)
        subst hu
        refine lv_bipush (v := 97) hx hb d_M_nameAt_17 (by decide) ?_
        refine lv_icmp_lt (tgt := 66) hx hb d_M_nameAt_19 rfl (fun c5 => ?_) (fun c5 => ?_)
        · skip
          rw [if_pos c5] at hf
          exact ih3 (x1) (x2) (x3) σ3 _ _ _ hf hP hD hS (lv_sub hl [0, 1, 2, 3] rfl)
        rw [if_neg c5] at hf
        refine lv_aload_n hx hb d_M_nameAt_22 rfl (lv_at hl 0 rfl) ?_
        refine lv_iload_n hx hb d_M_nameAt_23 rfl (lv_at hl 1 rfl) ?_
        refine lv_iload_n hx hb d_M_nameAt_24 rfl (lv_at hl 3 rfl) ?_
        refine lv_iadd hx hb d_M_nameAt_25 ?_
        obtain ⟨y6, σ7, e8, hf⟩ := gBd_e hf
        refine g_wi (va_runV ⟨hx, hb, hml, hown, hts⟩ (m_M_charOr0 e8) (cwV 1 hts (gG4 (fun _ h => List.mem_cons_of_mem _ h) tb_441 tb_442 tb_443 tb_392 tc_M_charOr0) rfl rfl rfl (by decide +kernel) ⟨Nat.le_of_ble_eq_true rfl, Nat.le_of_ble_eq_true rfl⟩) (g_preVW (q0 := 0) hE hK hP hD hS hA gm_0 rfl) rfl rfl hl.1 rfl (lv_room (Nat.le_of_ble_eq_true rfl)) d_M_nameAt_26 ⟨Nat.zero_le _, Nat.zero_le _⟩) hD hS hA (fun _ => mW_fst) (fun y6 _ H locs hu hP hD hS => ?_)
        subst hu
        refine lv_bipush (v := 122) hx hb d_M_nameAt_29 (by decide) ?_
        refine lv_icmp_gt (tgt := 66) hx hb d_M_nameAt_31 rfl (fun c9 => ?_) (fun c9 => ?_)
        · skip
          rw [if_pos c9] at hf
          exact ih3 (x1) (x2) (x3) σ7 _ _ _ hf hP hD hS (lv_sub hl [0, 1, 2, 3] rfl)
        rw [if_neg c9] at hf
        refine lv_iload_n hx hb d_M_nameAt_34 rfl (lv_at hl 3 rfl) ?_
        refine lv_bipush (v := 6) hx hb d_M_nameAt_35 (by decide) ?_
        refine lv_icmp_ge (tgt := 58) hx hb d_M_nameAt_37 rfl (fun c10 => ?_) (fun c10 => ?_)
        · skip
          rw [if_pos c10] at hf
          refine lv_iload_n hx hb d_M_nameAt_58 rfl (lv_at hl 2 rfl) ?_
          exact ih2 (x1) (x3) (x2) σ7 _ _ _ hf hP hD hS (lv_sub hl [0, 1, 3] rfl)
        rw [if_neg c10] at hf
        refine lv_bipush (v := 27) hx hb d_M_nameAt_40 (by decide) ?_
        refine lv_iload_n hx hb d_M_nameAt_42 rfl (lv_at hl 2 rfl) ?_
        refine lv_imul hx hb d_M_nameAt_43 ?_
        refine lv_aload_n hx hb d_M_nameAt_44 rfl (lv_at hl 0 rfl) ?_
        refine lv_iload_n hx hb d_M_nameAt_45 rfl (lv_at hl 1 rfl) ?_
        refine lv_iload_n hx hb d_M_nameAt_46 rfl (lv_at hl 3 rfl) ?_
        refine lv_iadd hx hb d_M_nameAt_47 ?_
        obtain ⟨y11, σ12, e13, hf⟩ := gBd_e hf
        refine g_wi (va_runV ⟨hx, hb, hml, hown, hts⟩ (m_M_charOr0 e13) (cwV 1 hts (gG4 (fun _ h => List.mem_cons_of_mem _ h) tb_441 tb_442 tb_443 tb_392 tc_M_charOr0) rfl rfl rfl (by decide +kernel) ⟨Nat.le_of_ble_eq_true rfl, Nat.le_of_ble_eq_true rfl⟩) (g_preVW (q0 := 0) hE hK hP hD hS hA gm_0 rfl) rfl rfl hl.1 rfl (lv_room (Nat.le_of_ble_eq_true rfl)) d_M_nameAt_48 ⟨Nat.zero_le _, Nat.zero_le _⟩) hD hS hA (fun _ => mW_fst) (fun y11 _ H locs hu hP hD hS => ?_)
        subst hu
        refine lv_iadd hx hb d_M_nameAt_51 ?_
        refine lv_bipush (v := 96) hx hb d_M_nameAt_52 (by decide) ?_
        refine lv_isub hx hb d_M_nameAt_54 ?_
        refine lv_goto (tgt := 59) hx hb d_M_nameAt_55 rfl ?_
        exact ih2 (x1) (x3) ((((27 * x2) + y11) - 96)) σ12 _ _ _ hf hP hD hS (lv_sub hl [0, 1, 3] rfl)
      · intro x1 x3 z0 σ0 H locs ls hf hP hD hS hl
        have hf : B_M_nameAt_2 (R_M_nameAt t) x1 x3 z0 σ0 = some (r, σ') := hf
        unfold B_M_nameAt_2 at hf
        refine lv_istore_n hx hb d_M_nameAt_59 rfl hl (by decide) rfl (fun ls hl => ?_)
        refine lv_iinc (k := 3) (v := (x3 + 1)) hx hb d_M_nameAt_60 hl rfl (by rw [show Int32.ofInt (1) = (1 : Int32) by decide]) (by decide) rfl (fun ls hl => ?_)
        refine lv_goto (tgt := 4) hx hb d_M_nameAt_63 rfl ?_
        exact ih1 (x1) (z0) ((x3 + 1)) σ0 _ _ _ hf hP hD hS (lv_sub hl [2, 3, 1, 0] rfl)
      · intro x1 x2 x3 σ0 H locs ls hf hP hD hS hl
        have hf : B_M_nameAt_3 (R_M_nameAt t) x1 x2 x3 σ0 = some (r, σ') := hf
        unfold B_M_nameAt_3 at hf
        refine lv_aload_n hx hb d_M_nameAt_66 rfl (lv_at hl 0 rfl) ?_
        refine lv_iload_n hx hb d_M_nameAt_67 rfl (lv_at hl 1 rfl) ?_
        refine lv_iload_n hx hb d_M_nameAt_68 rfl (lv_at hl 3 rfl) ?_
        refine lv_iadd hx hb d_M_nameAt_69 ?_
        obtain ⟨σ14, e15, hf⟩ := gPut_e hf
        refine va_put (D := X) (ci := 9) (ty := .int) (C := R_M) (T := T_M) (N := 35) hx hb hts u_0 t_M t_M_ok n_M hown hK hP hD hS 0 gm_0 rfl 25 (by decide) k_0 (fun _ h9 => h9) rfl (by decide +kernel) rfl rfl (Nat.le_of_ble_eq_true rfl) d_M_nameAt_70 (fun H locs hP hD hS => ?_)
        rw [sm_0_25, ← e15] at hP hD
        refine lv_iload_n hx hb d_M_nameAt_73 rfl (lv_at hl 3 rfl) ?_
        refine lv_if_eq (tgt := 83) hx hb d_M_nameAt_74 rfl (fun c16 => ?_) (fun c16 => ?_)
        · skip
          rw [if_pos c16] at hf
          refine lv_iconst (v := (-1)) hx hb d_M_nameAt_83 (by decide) ?_
          refine lv_goto (tgt := 88) hx hb d_M_nameAt_84 rfl ?_
          obtain ⟨rfl, rfl⟩ := gRt_e hf
          exact g_zret hx hb hr hlocks rfl hAe hS () rfl hP d_M_nameAt_88
        rw [if_neg c16] at hf
        refine lv_iload_n hx hb d_M_nameAt_77 rfl (lv_at hl 3 rfl) ?_
        refine lv_bipush (v := 7) hx hb d_M_nameAt_78 (by decide) ?_
        refine lv_icmp_ne (tgt := 87) hx hb d_M_nameAt_80 rfl (fun c17 => ?_) (fun c17 => ?_)
        · skip
          rw [if_neg c17] at hf
          refine lv_iload_n hx hb d_M_nameAt_87 rfl (lv_at hl 2 rfl) ?_
          obtain ⟨rfl, rfl⟩ := gRt_e hf
          exact g_zret hx hb hr hlocks rfl hAe hS () rfl hP d_M_nameAt_88
        rw [if_pos c17] at hf
        refine lv_iconst (v := (-1)) hx hb d_M_nameAt_83 (by decide) ?_
        refine lv_goto (tgt := 88) hx hb d_M_nameAt_84 rfl ?_
        obtain ⟨rfl, rfl⟩ := gRt_e hf
        exact g_zret hx hb hr hlocks rfl hAe hS () rfl hP d_M_nameAt_88
  exact (key gFuel).1 q1 σ _ _ _ hf hP hD hS hl

def f_M_end (σ : gS) : Option (Int32 × gS) := if (σ.1 5) < 0 then (some (0, σ)) else (gBd (f_M_nameAt σ ((σ.1 4) + 2)) (fun y2 σ3 => gLd σ3 8 420 (σ3.1 5) (fun y5 => if y2 = y5 then (gBd (f_M_charOr0 σ3 (σ3.1 7)) (fun y9 σ10 => if y9 = 62 then (gPut σ10 4 ((σ10.1 7) + 1) (fun σ13 => gLd σ13 9 420 (σ13.1 5) (fun y15 => gPut σ13 5 y15 (fun σ18 => gPut σ18 6 ((σ18.1 6) - 1) (fun σ20 => some (1, σ20)))))) else (some (0, σ10)))) else (some (0, σ3)))))
set_option maxHeartbeats 4000000 in
set_option maxRecDepth 100000 in
theorem m_M_end {l : Launch} {X : va_G} {cI cC cZ : ClassId} {aK aV : Nat → Nat} {b : Nat → Nat} {σ σ' : gS} {r : Int32} (hf : f_M_end σ = some (r, σ')) {sz : Nat} : Met l y_M_end w_M_end { frames := 2, cells := 0, slots := 0, locals := 44 } (gPc X vwCl (gT cI cC cZ) aK aV (mW cI cC cZ b σ) sz [.ref (b 0)]) (gQi X vwCl (mW cI cC cZ b σ) sz (fun r' (_ : Unit) => r' = r) (fun _ => mW cI cC cZ b σ')) 0 0 (va_A (mW cI cC cZ b σ) sz) := by
  refine g_met (cc := b_M_end) (maxL := 1) (ret := (some .boolean)) (by decide) rfl (Nat.le_of_ble_eq_true rfl) ?_
  intro p e s m below meth c A ls hx hb hr hml hown hts hlocks hnm hsz hAe hA hP hK hD hS hl hE
  have hown : s.vm.findClass R_M = some m.cls := hown
  have u_0 : ∀ w ∈ u_ws R_M T_M 35, w ∈ w_M_end := fun w h => List.mem_cons_of_mem _ (tu_M w h)
  have k_0 := hts (.fieldLink R_M 157 "GraphPagesModel" "open" "I") (List.mem_cons_of_mem _ tb_448)
  have k_1 := hts (.fieldLink R_M 154 "GraphPagesModel" "at" "I") (List.mem_cons_of_mem _ tb_449)
  have k_2 := hts (.fieldLink R_M 33 "GraphPagesModel" "name" "[I") (List.mem_cons_of_mem _ tb_450)
  have k_3 := hts (.fieldLink R_M 151 "GraphPagesModel" "nameEnd" "I") (List.mem_cons_of_mem _ tb_444)
  have k_4 := hts (.fieldLink R_M 36 "GraphPagesModel" "parent" "[I") (List.mem_cons_of_mem _ tb_451)
  have k_5 := hts (.fieldLink R_M 160 "GraphPagesModel" "depth" "I") (List.mem_cons_of_mem _ tb_452)
  unfold f_M_end at hf
  refine lv_aload_n hx hb d_M_end_0 rfl (lv_at hl 0 rfl) ?_
  refine va_get (D := X) (ci := 9) (C := R_M) (T := T_M) (N := 35) hx hb hts u_0 hown hK hP 0 gm_0 rfl 23 (by decide) k_0 (fun _ h9 => h9) rfl d_M_end_1 ?_
  refine lv_if_lt (tgt := 42) hx hb d_M_end_4 rfl (fun c1 => ?_) (fun c1 => ?_)
  · skip
    rw [if_pos c1] at hf
    refine lv_iconst (v := 0) hx hb d_M_end_42 (by decide) ?_
    obtain ⟨rfl, rfl⟩ := gRt_e hf
    exact g_zret hx hb hr hlocks rfl hAe hS () rfl hP d_M_end_43
  rw [if_neg c1] at hf
  refine lv_aload_n hx hb d_M_end_7 rfl (lv_at hl 0 rfl) ?_
  refine lv_aload_n hx hb d_M_end_8 rfl (lv_at hl 0 rfl) ?_
  refine va_get (D := X) (ci := 9) (C := R_M) (T := T_M) (N := 35) hx hb hts u_0 hown hK hP 0 gm_0 rfl 22 (by decide) k_1 (fun _ h9 => h9) rfl d_M_end_9 ?_
  refine lv_iconst (v := 2) hx hb d_M_end_12 (by decide) ?_
  refine lv_iadd hx hb d_M_end_13 ?_
  obtain ⟨y2, σ3, e4, hf⟩ := gBd_e hf
  refine g_wi (va_runV ⟨hx, hb, hml, hown, hts⟩ (m_M_nameAt e4) (cwV 1 hts (gG4 (fun _ h => List.mem_cons_of_mem _ h) tb_445 tb_446 tb_447 tb_392 tc_M_nameAt) rfl rfl rfl (by decide +kernel) ⟨Nat.le_of_ble_eq_true rfl, Nat.le_of_ble_eq_true rfl⟩) (g_preVW (q0 := 0) hE hK hP hD hS hA gm_0 rfl) rfl rfl hl.1 rfl (lv_room (Nat.le_of_ble_eq_true rfl)) d_M_end_14 ⟨Nat.zero_le _, Nat.zero_le _⟩) hD hS hA (fun _ => mW_fst) (fun y2 _ H locs hu hP hD hS => ?_)
  subst hu
  refine lv_aload_n hx hb d_M_end_17 rfl (lv_at hl 0 rfl) ?_
  refine va_get (D := X) (ci := 9) (C := R_M) (T := T_M) (N := 35) hx hb hts u_0 hown hK hP 0 gm_0 rfl 10 (by decide) k_2 (fun _ h9 => h9) rfl d_M_end_18 ?_
  refine lv_aload_n hx hb d_M_end_21 rfl (lv_at hl 0 rfl) ?_
  refine va_get (D := X) (ci := 9) (C := R_M) (T := T_M) (N := 35) hx hb hts u_0 hown hK hP 0 gm_0 rfl 23 (by decide) k_0 (fun _ h9 => h9) rfl d_M_end_22 ?_
  obtain ⟨y5, h6, e7, hf⟩ := gLd_e hf
  refine va_iald hx hb hK hP 8 0 gm_8 rfl h6 d_M_end_25 ?_
  rw [← e7]
  refine lv_icmp_ne (tgt := 42) hx hb d_M_end_26 rfl (fun c8 => ?_) (fun c8 => ?_)
  · skip
    rw [if_neg c8] at hf
    refine lv_iconst (v := 0) hx hb d_M_end_42 (by decide) ?_
    obtain ⟨rfl, rfl⟩ := gRt_e hf
    exact g_zret hx hb hr hlocks rfl hAe hS () rfl hP d_M_end_43
  rw [if_pos c8] at hf
  refine lv_aload_n hx hb d_M_end_29 rfl (lv_at hl 0 rfl) ?_
  refine lv_aload_n hx hb d_M_end_30 rfl (lv_at hl 0 rfl) ?_
  refine va_get (D := X) (ci := 9) (C := R_M) (T := T_M) (N := 35) hx hb hts u_0 hown hK hP 0 gm_0 rfl 25 (by decide) k_3 (fun _ h9 => h9) rfl d_M_end_31 ?_
  obtain ⟨y9, σ10, e11, hf⟩ := gBd_e hf
  refine g_wi (va_runV ⟨hx, hb, hml, hown, hts⟩ (m_M_charOr0 e11) (cwV 1 hts (gG4 (fun _ h => List.mem_cons_of_mem _ h) tb_441 tb_442 tb_443 tb_392 tc_M_charOr0) rfl rfl rfl (by decide +kernel) ⟨Nat.le_of_ble_eq_true rfl, Nat.le_of_ble_eq_true rfl⟩) (g_preVW (q0 := 0) hE hK hP hD hS hA gm_0 rfl) rfl rfl hl.1 rfl (lv_room (Nat.le_of_ble_eq_true rfl)) d_M_end_34 ⟨Nat.zero_le _, Nat.zero_le _⟩) hD hS hA (fun _ => mW_fst) (fun y9 _ H locs hu hP hD hS => ?_)
  subst hu
  refine lv_bipush (v := 62) hx hb d_M_end_37 (by decide) ?_
  refine lv_icmp_eq (tgt := 44) hx hb d_M_end_39 rfl (fun c12 => ?_) (fun c12 => ?_)
  · skip
    rw [if_pos c12] at hf
    refine lv_aload_n hx hb d_M_end_44 rfl (lv_at hl 0 rfl) ?_
    refine lv_aload_n hx hb d_M_end_45 rfl (lv_at hl 0 rfl) ?_
    refine va_get (D := X) (ci := 9) (C := R_M) (T := T_M) (N := 35) hx hb hts u_0 hown hK hP 0 gm_0 rfl 25 (by decide) k_3 (fun _ h9 => h9) rfl d_M_end_46 ?_
    refine lv_iconst (v := 1) hx hb d_M_end_49 (by decide) ?_
    refine lv_iadd hx hb d_M_end_50 ?_
    obtain ⟨σ13, e14, hf⟩ := gPut_e hf
    refine va_put (D := X) (ci := 9) (ty := .int) (C := R_M) (T := T_M) (N := 35) hx hb hts u_0 t_M t_M_ok n_M hown hK hP hD hS 0 gm_0 rfl 22 (by decide) k_1 (fun _ h9 => h9) rfl (by decide +kernel) rfl rfl (Nat.le_of_ble_eq_true rfl) d_M_end_51 (fun H locs hP hD hS => ?_)
    rw [sm_0_22, ← e14] at hP hD
    refine lv_aload_n hx hb d_M_end_54 rfl (lv_at hl 0 rfl) ?_
    refine lv_aload_n hx hb d_M_end_55 rfl (lv_at hl 0 rfl) ?_
    refine va_get (D := X) (ci := 9) (C := R_M) (T := T_M) (N := 35) hx hb hts u_0 hown hK hP 0 gm_0 rfl 11 (by decide) k_4 (fun _ h9 => h9) rfl d_M_end_56 ?_
    refine lv_aload_n hx hb d_M_end_59 rfl (lv_at hl 0 rfl) ?_
    refine va_get (D := X) (ci := 9) (C := R_M) (T := T_M) (N := 35) hx hb hts u_0 hown hK hP 0 gm_0 rfl 23 (by decide) k_0 (fun _ h9 => h9) rfl d_M_end_60 ?_
    obtain ⟨y15, h16, e17, hf⟩ := gLd_e hf
    refine va_iald hx hb hK hP 9 0 gm_9 rfl h16 d_M_end_63 ?_
    rw [← e17]
    obtain ⟨σ18, e19, hf⟩ := gPut_e hf
    refine va_put (D := X) (ci := 9) (ty := .int) (C := R_M) (T := T_M) (N := 35) hx hb hts u_0 t_M t_M_ok n_M hown hK hP hD hS 0 gm_0 rfl 23 (by decide) k_0 (fun _ h9 => h9) rfl (by decide +kernel) rfl rfl (Nat.le_of_ble_eq_true rfl) d_M_end_64 (fun H locs hP hD hS => ?_)
    rw [sm_0_23, ← e19] at hP hD
    refine lv_aload_n hx hb d_M_end_67 rfl (lv_at hl 0 rfl) ?_
    refine lv_dup hx hb d_M_end_68 rfl ?_
    refine va_get (D := X) (ci := 9) (C := R_M) (T := T_M) (N := 35) hx hb hts u_0 hown hK hP 0 gm_0 rfl 24 (by decide) k_5 (fun _ h9 => h9) rfl d_M_end_69 ?_
    refine lv_iconst (v := 1) hx hb d_M_end_72 (by decide) ?_
    refine lv_isub hx hb d_M_end_73 ?_
    obtain ⟨σ20, e21, hf⟩ := gPut_e hf
    refine va_put (D := X) (ci := 9) (ty := .int) (C := R_M) (T := T_M) (N := 35) hx hb hts u_0 t_M t_M_ok n_M hown hK hP hD hS 0 gm_0 rfl 24 (by decide) k_5 (fun _ h9 => h9) rfl (by decide +kernel) rfl rfl (Nat.le_of_ble_eq_true rfl) d_M_end_74 (fun H locs hP hD hS => ?_)
    rw [sm_0_24, ← e21] at hP hD
    refine lv_iconst (v := 1) hx hb d_M_end_77 (by decide) ?_
    obtain ⟨rfl, rfl⟩ := gRt_e hf
    exact g_zret hx hb hr hlocks rfl hAe hS () rfl hP d_M_end_78
  rw [if_neg c12] at hf
  refine lv_iconst (v := 0) hx hb d_M_end_42 (by decide) ?_
  obtain ⟨rfl, rfl⟩ := gRt_e hf
  exact g_zret hx hb hr hlocks rfl hAe hS () rfl hP d_M_end_43
