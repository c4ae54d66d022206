def f_O_isLetter (σ : gS) (x0 : Int32) : Option (Int32 × gS) := if x0 < 97 then (some (0, σ)) else (if 122 < x0 then (some (0, σ)) else (some (1, σ)))
set_option maxHeartbeats 4000000 in
set_option maxRecDepth 100000 in
theorem m_O_isLetter {l : Launch} {X : va_G} {cI cC cZ : ClassId} {aK aV : Nat → Nat} {a : Nat → Nat} {σ σ' : gS} {r : Int32} {x0 : Int32} (hf : f_O_isLetter σ x0 = some (r, σ')) {sz : Nat} : Met l y_O_isLetter w_O_isLetter { frames := 0, cells := 0, slots := 0, locals := 0 } (gPc X vwCl (gT cI cC cZ) aK aV (cW cI cC cZ a σ) sz [.int x0]) (gQi X vwCl (cW cI cC cZ a σ) sz (fun r' (_ : Unit) => r' = r) (fun _ => cW cI cC cZ a σ')) 0 0 (va_A (cW cI cC cZ a σ) sz) := by
  refine g_met (cc := b_O_isLetter) (maxL := 1) (ret := (some .boolean)) (by decide) rfl (Nat.le_of_ble_eq_true rfl) ?_
  intro p e s m below meth c A ls hx hb hr hml hown hts hlocks hnm hsz hAe hA hP hK hD hS hl hE
  have hown : s.vm.findClass R_O = some m.cls := hown
  unfold f_O_isLetter at hf
  refine lv_iload_n hx hb d_O_isLetter_0 rfl (lv_at hl 0 rfl) ?_
  refine lv_bipush (v := 97) hx hb d_O_isLetter_1 (by decide) ?_
  refine lv_icmp_lt (tgt := 16) hx hb d_O_isLetter_3 rfl (fun c1 => ?_) (fun c1 => ?_)
  · skip
    rw [if_pos c1] at hf
    refine lv_iconst (v := 0) hx hb d_O_isLetter_16 (by decide) ?_
    obtain ⟨rfl, rfl⟩ := gRt_e hf
    exact g_zret hx hb hr hlocks rfl hAe hS () rfl hP d_O_isLetter_17
  rw [if_neg c1] at hf
  refine lv_iload_n hx hb d_O_isLetter_6 rfl (lv_at hl 0 rfl) ?_
  refine lv_bipush (v := 122) hx hb d_O_isLetter_7 (by decide) ?_
  refine lv_icmp_gt (tgt := 16) hx hb d_O_isLetter_9 rfl (fun c2 => ?_) (fun c2 => ?_)
  · skip
    rw [if_pos c2] at hf
    refine lv_iconst (v := 0) hx hb d_O_isLetter_16 (by decide) ?_
    obtain ⟨rfl, rfl⟩ := gRt_e hf
    exact g_zret hx hb hr hlocks rfl hAe hS () rfl hP d_O_isLetter_17
  rw [if_neg c2] at hf
  refine lv_iconst (v := 1) hx hb d_O_isLetter_12 (by decide) ?_
  refine lv_goto (tgt := 17) hx hb d_O_isLetter_13 rfl ?_
  obtain ⟨rfl, rfl⟩ := gRt_e hf
  exact g_zret hx hb hr hlocks rfl hAe hS () rfl hP d_O_isLetter_17

def f_O_isDigit (σ : gS) (x0 : Int32) : Option (Int32 × gS) := if x0 < 48 then (some (0, σ)) else (if 57 < x0 then (some (0, σ)) else (some (1, σ)))
set_option maxHeartbeats 4000000 in
set_option maxRecDepth 100000 in
theorem m_O_isDigit {l : Launch} {X : va_G} {cI cC cZ : ClassId} {aK aV : Nat → Nat} {a : Nat → Nat} {σ σ' : gS} {r : Int32} {x0 : Int32} (hf : f_O_isDigit σ x0 = some (r, σ')) {sz : Nat} : Met l y_O_isDigit w_O_isDigit { frames := 0, cells := 0, slots := 0, locals := 0 } (gPc X vwCl (gT cI cC cZ) aK aV (cW cI cC cZ a σ) sz [.int x0]) (gQi X vwCl (cW cI cC cZ a σ) sz (fun r' (_ : Unit) => r' = r) (fun _ => cW cI cC cZ a σ')) 0 0 (va_A (cW cI cC cZ a σ) sz) := by
  refine g_met (cc := b_O_isDigit) (maxL := 1) (ret := (some .boolean)) (by decide) rfl (Nat.le_of_ble_eq_true rfl) ?_
  intro p e s m below meth c A ls hx hb hr hml hown hts hlocks hnm hsz hAe hA hP hK hD hS hl hE
  have hown : s.vm.findClass R_O = some m.cls := hown
  unfold f_O_isDigit at hf
  refine lv_iload_n hx hb d_O_isDigit_0 rfl (lv_at hl 0 rfl) ?_
  refine lv_bipush (v := 48) hx hb d_O_isDigit_1 (by decide) ?_
  refine lv_icmp_lt (tgt := 16) hx hb d_O_isDigit_3 rfl (fun c1 => ?_) (fun c1 => ?_)
  · skip
    rw [if_pos c1] at hf
    refine lv_iconst (v := 0) hx hb d_O_isDigit_16 (by decide) ?_
    obtain ⟨rfl, rfl⟩ := gRt_e hf
    exact g_zret hx hb hr hlocks rfl hAe hS () rfl hP d_O_isDigit_17
  rw [if_neg c1] at hf
  refine lv_iload_n hx hb d_O_isDigit_6 rfl (lv_at hl 0 rfl) ?_
  refine lv_bipush (v := 57) hx hb d_O_isDigit_7 (by decide) ?_
  refine lv_icmp_gt (tgt := 16) hx hb d_O_isDigit_9 rfl (fun c2 => ?_) (fun c2 => ?_)
  · skip
    rw [if_pos c2] at hf
    refine lv_iconst (v := 0) hx hb d_O_isDigit_16 (by decide) ?_
    obtain ⟨rfl, rfl⟩ := gRt_e hf
    exact g_zret hx hb hr hlocks rfl hAe hS () rfl hP d_O_isDigit_17
  rw [if_neg c2] at hf
  refine lv_iconst (v := 1) hx hb d_O_isDigit_12 (by decide) ?_
  refine lv_goto (tgt := 17) hx hb d_O_isDigit_13 rfl ?_
  obtain ⟨rfl, rfl⟩ := gRt_e hf
  exact g_zret hx hb hr hlocks rfl hAe hS () rfl hP d_O_isDigit_17

def f_O_isPrintable (σ : gS) (x0 : Int32) : Option (Int32 × gS) := if x0 < 32 then (some (0, σ)) else (if 126 < x0 then (some (0, σ)) else (some (1, σ)))
set_option maxHeartbeats 4000000 in
set_option maxRecDepth 100000 in
theorem m_O_isPrintable {l : Launch} {X : va_G} {cI cC cZ : ClassId} {aK aV : Nat → Nat} {a : Nat → Nat} {σ σ' : gS} {r : Int32} {x0 : Int32} (hf : f_O_isPrintable σ x0 = some (r, σ')) {sz : Nat} : Met l y_O_isPrintable w_O_isPrintable { frames := 0, cells := 0, slots := 0, locals := 0 } (gPc X vwCl (gT cI cC cZ) aK aV (cW cI cC cZ a σ) sz [.int x0]) (gQi X vwCl (cW cI cC cZ a σ) sz (fun r' (_ : Unit) => r' = r) (fun _ => cW cI cC cZ a σ')) 0 0 (va_A (cW cI cC cZ a σ) sz) := by
  refine g_met (cc := b_O_isPrintable) (maxL := 1) (ret := (some .boolean)) (by decide) rfl (Nat.le_of_ble_eq_true rfl) ?_
  intro p e s m below meth c A ls hx hb hr hml hown hts hlocks hnm hsz hAe hA hP hK hD hS hl hE
  have hown : s.vm.findClass R_O = some m.cls := hown
  unfold f_O_isPrintable at hf
  refine lv_iload_n hx hb d_O_isPrintable_0 rfl (lv_at hl 0 rfl) ?_
  refine lv_bipush (v := 32) hx hb d_O_isPrintable_1 (by decide) ?_
  refine lv_icmp_lt (tgt := 16) hx hb d_O_isPrintable_3 rfl (fun c1 => ?_) (fun c1 => ?_)
  · skip
    rw [if_pos c1] at hf
    refine lv_iconst (v := 0) hx hb d_O_isPrintable_16 (by decide) ?_
    obtain ⟨rfl, rfl⟩ := gRt_e hf
    exact g_zret hx hb hr hlocks rfl hAe hS () rfl hP d_O_isPrintable_17
  rw [if_neg c1] at hf
  refine lv_iload_n hx hb d_O_isPrintable_6 rfl (lv_at hl 0 rfl) ?_
  refine lv_bipush (v := 126) hx hb d_O_isPrintable_7 (by decide) ?_
  refine lv_icmp_gt (tgt := 16) hx hb d_O_isPrintable_9 rfl (fun c2 => ?_) (fun c2 => ?_)
  · skip
    rw [if_pos c2] at hf
    refine lv_iconst (v := 0) hx hb d_O_isPrintable_16 (by decide) ?_
    obtain ⟨rfl, rfl⟩ := gRt_e hf
    exact g_zret hx hb hr hlocks rfl hAe hS () rfl hP d_O_isPrintable_17
  rw [if_neg c2] at hf
  refine lv_iconst (v := 1) hx hb d_O_isPrintable_12 (by decide) ?_
  refine lv_goto (tgt := 17) hx hb d_O_isPrintable_13 rfl ?_
  obtain ⟨rfl, rfl⟩ := gRt_e hf
  exact g_zret hx hb hr hlocks rfl hAe hS () rfl hP d_O_isPrintable_17

def B_J_fill_RR_0 (rec : Nat → List Int32 → gS → Option (Int32 × gS)) (x1 : Int32) (σ0 : gS) : Option (Int32 × gS) := rec 1 [x1, 0, 16] σ0
def B_J_fill_RR_1 (rec : Nat → List Int32 → gS → Option (Int32 × gS)) (x1 : Int32) (x2 : Int32) (x3 : Int32) (σ0 : gS) : Option (Int32 × gS) := if x3 ≤ x2 then (some (0, σ0)) else (gSt σ0 11 16 x2 x1 (fun σ2 => rec 1 [x1, (x2 + 1), x3] σ2))
def S_J_fill_RR (rec : Nat → List Int32 → gS → Option (Int32 × gS)) (k : Nat) (l : List Int32) (σ0 : gS) : Option (Int32 × gS) := match k, l with
  | 0, [x1] => B_J_fill_RR_0 rec x1 σ0
  | 1, [x1, x2, x3] => B_J_fill_RR_1 rec x1 x2 x3 σ0
  | _, _ => none
def R_J_fill_RR : Nat → Nat → List Int32 → gS → Option (Int32 × gS)
  | 0 => fun _ _ _ => none
  | t + 1 => fun k l σ0 => S_J_fill_RR (R_J_fill_RR t) k l σ0
def f_J_fill_RR (σ : gS) (x1 : Int32) : Option (Int32 × gS) := R_J_fill_RR gFuel 0 [x1] σ
set_option maxHeartbeats 4000000 in
set_option maxRecDepth 100000 in
theorem m_J_fill_RR {l : Launch} {X : va_G} {cI cC cZ : ClassId} {aK aV : Nat → Nat} {a : Nat → Nat} {σ σ' : gS} {r : Int32} {q1 : Int32} (hf : f_J_fill_RR σ q1 = some (r, σ')) {sz : Nat} : Met l y_J_fill w_J_fill { frames := 0, cells := 0, slots := 0, locals := 0 } (gPc X vwCl (gT cI cC cZ) aK aV (cW cI cC cZ a σ) sz [.ref (a 11), .int q1]) (gQv X vwCl (cW cI cC cZ a σ) sz (fun (_ : Unit) => True) (fun _ => cW cI cC cZ a σ')) 0 0 (va_A (cW cI cC cZ a σ) sz) := by
  refine g_met (cc := b_J_fill) (maxL := 4) (ret := none) (by decide) rfl (Nat.le_of_ble_eq_true rfl) ?_
  intro p e s m below meth c A ls hx hb hr hml hown hts hlocks hnm hsz hAe hA hP hK hD hS hl hE
  have hown : s.vm.findClass R_J = some m.cls := hown
  unfold f_J_fill_RR at hf
  have key : ∀ t : Nat, (∀ (x1 : Int32) (σ0 : gS) (H : Heap) (locs : List Loc) (ls : Array Slot), R_J_fill_RR t 0 [x1] σ0 = some (r, σ') → va_P X vwCl (cW cI cC cZ a σ0) H → va_D A (cW cI cC cZ a σ0) → va_S A s.heap H locs → lv_has ls 4 [(0, .ref (a 11)), (1, .int x1)] → W p l e (headSpec w_J_fill { frames := 0, cells := 0, slots := 0, locals := 0 }).room s m [.ref (a 11), .int q1].toArray below meth c H locs 0 0 (MQ below (gQv X vwCl (cW cI cC cZ a σ) sz (fun (_ : Unit) => True) (fun _ => cW cI cC cZ a σ')) [.ref (a 11), .int q1].toArray s 0 0 (va_A (cW cI cC cZ a σ) sz)) (F0 m 0 ls [])) ∧ (∀ (x1 : Int32) (x2 : Int32) (x3 : Int32) (σ0 : gS) (H : Heap) (locs : List Loc) (ls : Array Slot), R_J_fill_RR t 1 [x1, x2, x3] σ0 = some (r, σ') → va_P X vwCl (cW cI cC cZ a σ0) H → va_D A (cW cI cC cZ a σ0) → va_S A s.heap H locs → lv_has ls 4 [(0, .ref (a 11)), (1, .int x1), (2, .int x2), (3, .int x3)] → W p l e (headSpec w_J_fill { frames := 0, cells := 0, slots := 0, locals := 0 }).room s m [.ref (a 11), .int q1].toArray below meth c H locs 0 0 (MQ below (gQv X vwCl (cW cI cC cZ a σ) sz (fun (_ : Unit) => True) (fun _ => cW cI cC cZ a σ')) [.ref (a 11), .int q1].toArray s 0 0 (va_A (cW cI cC cZ a σ) sz)) (F0 m 5 ls [])) := by
    intro t
    induction t with
    | zero => exact ⟨fun _ _ _ _ _ hf => (by have hf : (none : Option (Int32 × gS)) = some (r, σ') := hf; cases hf), fun _ _ _ _ _ _ _ hf => (by have hf : (none : Option (Int32 × gS)) = some (r, σ') := hf; cases hf)⟩
    | succ t ih =>
      obtain ⟨ih0, ih1⟩ := ih
      refine ⟨?_, ?_⟩
      · intro x1 σ0 H locs ls hf hP hD hS hl
        have hf : B_J_fill_RR_0 (R_J_fill_RR t) x1 σ0 = some (r, σ') := hf
        unfold B_J_fill_RR_0 at hf
        refine lv_iconst (v := 0) hx hb d_J_fill_0 (by decide) ?_
        refine lv_istore_n hx hb d_J_fill_1 rfl hl (by decide) rfl (fun ls hl => ?_)
        refine lv_aload_n hx hb d_J_fill_2 rfl (lv_at hl 1 rfl) ?_
        refine va_alen (v := 16) hx hb hK hP 11 0 gc_11 rfl rfl d_J_fill_3 ?_
        refine lv_istore_n hx hb d_J_fill_4 rfl hl (by decide) rfl (fun ls hl => ?_)
        exact ih1 (x1) (0) (16) σ0 _ _ _ hf hP hD hS (lv_sub hl [2, 3, 1, 0] rfl)
      · intro x1 x2 x3 σ0 H locs ls hf hP hD hS hl
        have hf : B_J_fill_RR_1 (R_J_fill_RR t) x1 x2 x3 σ0 = some (r, σ') := hf
        unfold B_J_fill_RR_1 at hf
        refine lv_iload_n hx hb d_J_fill_5 rfl (lv_at hl 2 rfl) ?_
        refine lv_iload_n hx hb d_J_fill_6 rfl (lv_at hl 3 rfl) ?_
        refine lv_icmp_ge (tgt := 20) hx hb d_J_fill_7 rfl (fun c1 => ?_) (fun c1 => ?_)
        · skip
          rw [if_pos c1] at hf
          obtain ⟨-, rfl⟩ := gRt_e hf
          exact g_vret hx hb hr hlocks hAe hS () trivial hP d_J_fill_20
        rw [if_neg c1] at hf
        refine lv_aload_n hx hb d_J_fill_10 rfl (lv_at hl 0 rfl) ?_
        refine lv_iload_n hx hb d_J_fill_11 rfl (lv_at hl 2 rfl) ?_
        refine lv_iload_n hx hb d_J_fill_12 rfl (lv_at hl 1 rfl) ?_
        obtain ⟨σ2, h3, e4, hf⟩ := gSt_e hf
        refine va_iast hx hb hK hP hD hS 11 0 gc_11 rfl h3 d_J_fill_13 (fun H locs hP hD hS => ?_)
        rw [sc_11, ← e4] at hP hD
        refine lv_iinc (k := 2) (v := (x2 + 1)) hx hb d_J_fill_14 hl rfl (by rw [show Int32.ofInt (1) = (1 : Int32) by decide]) (by decide) rfl (fun ls hl => ?_)
        refine lv_goto (tgt := 5) hx hb d_J_fill_17 rfl ?_
        exact ih1 (x1) ((x2 + 1)) (x3) σ2 _ _ _ hf hP hD hS (lv_sub hl [1, 2, 0, 3] rfl)
  exact (key gFuel).1 q1 σ _ _ _ hf hP hD hS hl

def B_J_fill_MP_0 (rec : Nat → List Int32 → gS → Option (Int32 × gS)) (x1 : Int32) (σ0 : gS) : Option (Int32 × gS) := rec 1 [x1, 0, 16] σ0
def B_J_fill_MP_1 (rec : Nat → List Int32 → gS → Option (Int32 × gS)) (x1 : Int32) (x2 : Int32) (x3 : Int32) (σ0 : gS) : Option (Int32 × gS) := if x3 ≤ x2 then (some (0, σ0)) else (gSt σ0 14 16 x2 x1 (fun σ2 => rec 1 [x1, (x2 + 1), x3] σ2))
def S_J_fill_MP (rec : Nat → List Int32 → gS → Option (Int32 × gS)) (k : Nat) (l : List Int32) (σ0 : gS) : Option (Int32 × gS) := match k, l with
  | 0, [x1] => B_J_fill_MP_0 rec x1 σ0
  | 1, [x1, x2, x3] => B_J_fill_MP_1 rec x1 x2 x3 σ0
  | _, _ => none
def R_J_fill_MP : Nat → Nat → List Int32 → gS → Option (Int32 × gS)
  | 0 => fun _ _ _ => none
  | t + 1 => fun k l σ0 => S_J_fill_MP (R_J_fill_MP t) k l σ0
def f_J_fill_MP (σ : gS) (x1 : Int32) : Option (Int32 × gS) := R_J_fill_MP gFuel 0 [x1] σ
set_option maxHeartbeats 4000000 in
set_option maxRecDepth 100000 in
theorem m_J_fill_MP {l : Launch} {X : va_G} {cI cC cZ : ClassId} {aK aV : Nat → Nat} {a : Nat → Nat} {σ σ' : gS} {r : Int32} {q1 : Int32} (hf : f_J_fill_MP σ q1 = some (r, σ')) {sz : Nat} : Met l y_J_fill w_J_fill { frames := 0, cells := 0, slots := 0, locals := 0 } (gPc X vwCl (gT cI cC cZ) aK aV (cW cI cC cZ a σ) sz [.ref (a 14), .int q1]) (gQv X vwCl (cW cI cC cZ a σ) sz (fun (_ : Unit) => True) (fun _ => cW cI cC cZ a σ')) 0 0 (va_A (cW cI cC cZ a σ) sz) := by
  refine g_met (cc := b_J_fill) (maxL := 4) (ret := none) (by decide) rfl (Nat.le_of_ble_eq_true rfl) ?_
  intro p e s m below meth c A ls hx hb hr hml hown hts hlocks hnm hsz hAe hA hP hK hD hS hl hE
  have hown : s.vm.findClass R_J = some m.cls := hown
  unfold f_J_fill_MP at hf
  have key : ∀ t : Nat, (∀ (x1 : Int32) (σ0 : gS) (H : Heap) (locs : List Loc) (ls : Array Slot), R_J_fill_MP t 0 [x1] σ0 = some (r, σ') → va_P X vwCl (cW cI cC cZ a σ0) H → va_D A (cW cI cC cZ a σ0) → va_S A s.heap H locs → lv_has ls 4 [(0, .ref (a 14)), (1, .int x1)] → W p l e (headSpec w_J_fill { frames := 0, cells := 0, slots := 0, locals := 0 }).room s m [.ref (a 14), .int q1].toArray below meth c H locs 0 0 (MQ below (gQv X vwCl (cW cI cC cZ a σ) sz (fun (_ : Unit) => True) (fun _ => cW cI cC cZ a σ')) [.ref (a 14), .int q1].toArray s 0 0 (va_A (cW cI cC cZ a σ) sz)) (F0 m 0 ls [])) ∧ (∀ (x1 : Int32) (x2 : Int32) (x3 : Int32) (σ0 : gS) (H : Heap) (locs : List Loc) (ls : Array Slot), R_J_fill_MP t 1 [x1, x2, x3] σ0 = some (r, σ') → va_P X vwCl (cW cI cC cZ a σ0) H → va_D A (cW cI cC cZ a σ0) → va_S A s.heap H locs → lv_has ls 4 [(0, .ref (a 14)), (1, .int x1), (2, .int x2), (3, .int x3)] → W p l e (headSpec w_J_fill { frames := 0, cells := 0, slots := 0, locals := 0 }).room s m [.ref (a 14), .int q1].toArray below meth c H locs 0 0 (MQ below (gQv X vwCl (cW cI cC cZ a σ) sz (fun (_ : Unit) => True) (fun _ => cW cI cC cZ a σ')) [.ref (a 14), .int q1].toArray s 0 0 (va_A (cW cI cC cZ a σ) sz)) (F0 m 5 ls [])) := by
    intro t
    induction t with
    | zero => exact ⟨fun _ _ _ _ _ hf => (by have hf : (none : Option (Int32 × gS)) = some (r, σ') := hf; cases hf), fun _ _ _ _ _ _ _ hf => (by have hf : (none : Option (Int32 × gS)) = some (r, σ') := hf; cases hf)⟩
    | succ t ih =>
      obtain ⟨ih0, ih1⟩ := ih
      refine ⟨?_, ?_⟩
      · intro x1 σ0 H locs ls hf hP hD hS hl
        have hf : B_J_fill_MP_0 (R_J_fill_MP t) x1 σ0 = some (r, σ') := hf
        unfold B_J_fill_MP_0 at hf
        refine lv_iconst (v := 0) hx hb d_J_fill_0 (by decide) ?_
        refine lv_istore_n hx hb d_J_fill_1 rfl hl (by decide) rfl (fun ls hl => ?_)
        refine lv_aload_n hx hb d_J_fill_2 rfl (lv_at hl 1 rfl) ?_
        refine va_alen (v := 16) hx hb hK hP 14 0 gc_14 rfl rfl d_J_fill_3 ?_
        refine lv_istore_n hx hb d_J_fill_4 rfl hl (by decide) rfl (fun ls hl => ?_)
        exact ih1 (x1) (0) (16) σ0 _ _ _ hf hP hD hS (lv_sub hl [2, 3, 1, 0] rfl)
      · intro x1 x2 x3 σ0 H locs ls hf hP hD hS hl
        have hf : B_J_fill_MP_1 (R_J_fill_MP t) x1 x2 x3 σ0 = some (r, σ') := hf
        unfold B_J_fill_MP_1 at hf
        refine lv_iload_n hx hb d_J_fill_5 rfl (lv_at hl 2 rfl) ?_
        refine lv_iload_n hx hb d_J_fill_6 rfl (lv_at hl 3 rfl) ?_
        refine lv_icmp_ge (tgt := 20) hx hb d_J_fill_7 rfl (fun c1 => ?_) (fun c1 => ?_)
        · skip
          rw [if_pos c1] at hf
          obtain ⟨-, rfl⟩ := gRt_e hf
          exact g_vret hx hb hr hlocks hAe hS () trivial hP d_J_fill_20
        rw [if_neg c1] at hf
        refine lv_aload_n hx hb d_J_fill_10 rfl (lv_at hl 0 rfl) ?_
        refine lv_iload_n hx hb d_J_fill_11 rfl (lv_at hl 2 rfl) ?_
        refine lv_iload_n hx hb d_J_fill_12 rfl (lv_at hl 1 rfl) ?_
        obtain ⟨σ2, h3, e4, hf⟩ := gSt_e hf
        refine va_iast hx hb hK hP hD hS 14 0 gc_14 rfl h3 d_J_fill_13 (fun H locs hP hD hS => ?_)
        rw [sc_14, ← e4] at hP hD
        refine lv_iinc (k := 2) (v := (x2 + 1)) hx hb d_J_fill_14 hl rfl (by rw [show Int32.ofInt (1) = (1 : Int32) by decide]) (by decide) rfl (fun ls hl => ?_)
        refine lv_goto (tgt := 5) hx hb d_J_fill_17 rfl ?_
        exact ih1 (x1) ((x2 + 1)) (x3) σ2 _ _ _ hf hP hD hS (lv_sub hl [1, 2, 0, 3] rfl)
  exact (key gFuel).1 q1 σ _ _ _ hf hP hD hS hl

def B_J_fill_MB_0 (rec : Nat → List Int32 → gS → Option (Int32 × gS)) (x1 : Int32) (σ0 : gS) : Option (Int32 × gS) := rec 1 [x1, 0, 16] σ0
def B_J_fill_MB_1 (rec : Nat → List Int32 → gS → Option (Int32 × gS)) (x1 : Int32) (x2 : Int32) (x3 : Int32) (σ0 : gS) : Option (Int32 × gS) := if x3 ≤ x2 then (some (0, σ0)) else (gSt σ0 15 16 x2 x1 (fun σ2 => rec 1 [x1, (x2 + 1), x3] σ2))
def S_J_fill_MB (rec : Nat → List Int32 → gS → Option (Int32 × gS)) (k : Nat) (l : List Int32) (σ0 : gS) : Option (Int32 × gS) := match k, l with
  | 0, [x1] => B_J_fill_MB_0 rec x1 σ0
  | 1, [x1, x2, x3] => B_J_fill_MB_1 rec x1 x2 x3 σ0
  | _, _ => none
def R_J_fill_MB : Nat → Nat → List Int32 → gS → Option (Int32 × gS)
  | 0 => fun _ _ _ => none
  | t + 1 => fun k l σ0 => S_J_fill_MB (R_J_fill_MB t) k l σ0
def f_J_fill_MB (σ : gS) (x1 : Int32) : Option (Int32 × gS) := R_J_fill_MB gFuel 0 [x1] σ
set_option maxHeartbeats 4000000 in
set_option maxRecDepth 100000 in
theorem m_J_fill_MB {l : Launch} {X : va_G} {cI cC cZ : ClassId} {aK aV : Nat → Nat} {a : Nat → Nat} {σ σ' : gS} {r : Int32} {q1 : Int32} (hf : f_J_fill_MB σ q1 = some (r, σ')) {sz : Nat} : Met l y_J_fill w_J_fill { frames := 0, cells := 0, slots := 0, locals := 0 } (gPc X vwCl (gT cI cC cZ) aK aV (cW cI cC cZ a σ) sz [.ref (a 15), .int q1]) (gQv X vwCl (cW cI cC cZ a σ) sz (fun (_ : Unit) => True) (fun _ => cW cI cC cZ a σ')) 0 0 (va_A (cW cI cC cZ a σ) sz) := by
  refine g_met (cc := b_J_fill) (maxL := 4) (ret := none) (by decide) rfl (Nat.le_of_ble_eq_true rfl) ?_
  intro p e s m below meth c A ls hx hb hr hml hown hts hlocks hnm hsz hAe hA hP hK hD hS hl hE
  have hown : s.vm.findClass R_J = some m.cls := hown
  unfold f_J_fill_MB at hf
  have key : ∀ t : Nat, (∀ (x1 : Int32) (σ0 : gS) (H : Heap) (locs : List Loc) (ls : Array Slot), R_J_fill_MB t 0 [x1] σ0 = some (r, σ') → va_P X vwCl (cW cI cC cZ a σ0) H → va_D A (cW cI cC cZ a σ0) → va_S A s.heap H locs → lv_has ls 4 [(0, .ref (a 15)), (1, .int x1)] → W p l e (headSpec w_J_fill { frames := 0, cells := 0, slots := 0, locals := 0 }).room s m [.ref (a 15), .int q1].toArray below meth c H locs 0 0 (MQ below (gQv X vwCl (cW cI cC cZ a σ) sz (fun (_ : Unit) => True) (fun _ => cW cI cC cZ a σ')) [.ref (a 15), .int q1].toArray s 0 0 (va_A (cW cI cC cZ a σ) sz)) (F0 m 0 ls [])) ∧ (∀ (x1 : Int32) (x2 : Int32) (x3 : Int32) (σ0 : gS) (H : Heap) (locs : List Loc) (ls : Array Slot), R_J_fill_MB t 1 [x1, x2, x3] σ0 = some (r, σ') → va_P X vwCl (cW cI cC cZ a σ0) H → va_D A (cW cI cC cZ a σ0) → va_S A s.heap H locs → lv_has ls 4 [(0, .ref (a 15)), (1, .int x1), (2, .int x2), (3, .int x3)] → W p l e (headSpec w_J_fill { frames := 0, cells := 0, slots := 0, locals := 0 }).room s m [.ref (a 15), .int q1].toArray below meth c H locs 0 0 (MQ below (gQv X vwCl (cW cI cC cZ a σ) sz (fun (_ : Unit) => True) (fun _ => cW cI cC cZ a σ')) [.ref (a 15), .int q1].toArray s 0 0 (va_A (cW cI cC cZ a σ) sz)) (F0 m 5 ls [])) := by
    intro t
    induction t with
    | zero => exact ⟨fun _ _ _ _ _ hf => (by have hf : (none : Option (Int32 × gS)) = some (r, σ') := hf; cases hf), fun _ _ _ _ _ _ _ hf => (by have hf : (none : Option (Int32 × gS)) = some (r, σ') := hf; cases hf)⟩
    | succ t ih =>
      obtain ⟨ih0, ih1⟩ := ih
      refine ⟨?_, ?_⟩
      · intro x1 σ0 H locs ls hf hP hD hS hl
        have hf : B_J_fill_MB_0 (R_J_fill_MB t) x1 σ0 = some (r, σ') := hf
        unfold B_J_fill_MB_0 at hf
        refine lv_iconst (v := 0) hx hb d_J_fill_0 (by decide) ?_
        refine lv_istore_n hx hb d_J_fill_1 rfl hl (by decide) rfl (fun ls hl => ?_)
        refine lv_aload_n hx hb d_J_fill_2 rfl (lv_at hl 1 rfl) ?_
        refine va_alen (v := 16) hx hb hK hP 15 0 gc_15 rfl rfl d_J_fill_3 ?_
        refine lv_istore_n hx hb d_J_fill_4 rfl hl (by decide) rfl (fun ls hl => ?_)
        exact ih1 (x1) (0) (16) σ0 _ _ _ hf hP hD hS (lv_sub hl [2, 3, 1, 0] rfl)
      · intro x1 x2 x3 σ0 H locs ls hf hP hD hS hl
        have hf : B_J_fill_MB_1 (R_J_fill_MB t) x1 x2 x3 σ0 = some (r, σ') := hf
        unfold B_J_fill_MB_1 at hf
        refine lv_iload_n hx hb d_J_fill_5 rfl (lv_at hl 2 rfl) ?_
        refine lv_iload_n hx hb d_J_fill_6 rfl (lv_at hl 3 rfl) ?_
        refine lv_icmp_ge (tgt := 20) hx hb d_J_fill_7 rfl (fun c1 => ?_) (fun c1 => ?_)
        · skip
          rw [if_pos c1] at hf
          obtain ⟨-, rfl⟩ := gRt_e hf
          exact g_vret hx hb hr hlocks hAe hS () trivial hP d_J_fill_20
        rw [if_neg c1] at hf
        refine lv_aload_n hx hb d_J_fill_10 rfl (lv_at hl 0 rfl) ?_
        refine lv_iload_n hx hb d_J_fill_11 rfl (lv_at hl 2 rfl) ?_
        refine lv_iload_n hx hb d_J_fill_12 rfl (lv_at hl 1 rfl) ?_
        obtain ⟨σ2, h3, e4, hf⟩ := gSt_e hf
        refine va_iast hx hb hK hP hD hS 15 0 gc_15 rfl h3 d_J_fill_13 (fun H locs hP hD hS => ?_)
        rw [sc_15, ← e4] at hP hD
        refine lv_iinc (k := 2) (v := (x2 + 1)) hx hb d_J_fill_14 hl rfl (by rw [show Int32.ofInt (1) = (1 : Int32) by decide]) (by decide) rfl (fun ls hl => ?_)
        refine lv_goto (tgt := 5) hx hb d_J_fill_17 rfl ?_
        exact ih1 (x1) ((x2 + 1)) (x3) σ2 _ _ _ hf hP hD hS (lv_sub hl [1, 2, 0, 3] rfl)
  exact (key gFuel).1 q1 σ _ _ _ hf hP hD hS hl

def B_J_fill_WI_0 (rec : Nat → List Int32 → gS → Option (Int32 × gS)) (x1 : Int32) (σ0 : gS) : Option (Int32 × gS) := rec 1 [x1, 0, 16] σ0
def B_J_fill_WI_1 (rec : Nat → List Int32 → gS → Option (Int32 × gS)) (x1 : Int32) (x2 : Int32) (x3 : Int32) (σ0 : gS) : Option (Int32 × gS) := if x3 ≤ x2 then (some (0, σ0)) else (gSt σ0 18 16 x2 x1 (fun σ2 => rec 1 [x1, (x2 + 1), x3] σ2))
def S_J_fill_WI (rec : Nat → List Int32 → gS → Option (Int32 × gS)) (k : Nat) (l : List Int32) (σ0 : gS) : Option (Int32 × gS) := match k, l with
  | 0, [x1] => B_J_fill_WI_0 rec x1 σ0
  | 1, [x1, x2, x3] => B_J_fill_WI_1 rec x1 x2 x3 σ0
  | _, _ => none
def R_J_fill_WI : Nat → Nat → List Int32 → gS → Option (Int32 × gS)
  | 0 => fun _ _ _ => none
  | t + 1 => fun k l σ0 => S_J_fill_WI (R_J_fill_WI t) k l σ0
def f_J_fill_WI (σ : gS) (x1 : Int32) : Option (Int32 × gS) := R_J_fill_WI gFuel 0 [x1] σ
set_option maxHeartbeats 4000000 in
set_option maxRecDepth 100000 in
theorem m_J_fill_WI {l : Launch} {X : va_G} {cI cC cZ : ClassId} {aK aV : Nat → Nat} {a : Nat → Nat} {σ σ' : gS} {r : Int32} {q1 : Int32} (hf : f_J_fill_WI σ q1 = some (r, σ')) {sz : Nat} : Met l y_J_fill w_J_fill { frames := 0, cells := 0, slots := 0, locals := 0 } (gPc X vwCl (gT cI cC cZ) aK aV (cW cI cC cZ a σ) sz [.ref (a 18), .int q1]) (gQv X vwCl (cW cI cC cZ a σ) sz (fun (_ : Unit) => True) (fun _ => cW cI cC cZ a σ')) 0 0 (va_A (cW cI cC cZ a σ) sz) := by
  refine g_met (cc := b_J_fill) (maxL := 4) (ret := none) (by decide) rfl (Nat.le_of_ble_eq_true rfl) ?_
  intro p e s m below meth c A ls hx hb hr hml hown hts hlocks hnm hsz hAe hA hP hK hD hS hl hE
  have hown : s.vm.findClass R_J = some m.cls := hown
  unfold f_J_fill_WI at hf
  have key : ∀ t : Nat, (∀ (x1 : Int32) (σ0 : gS) (H : Heap) (locs : List Loc) (ls : Array Slot), R_J_fill_WI t 0 [x1] σ0 = some (r, σ') → va_P X vwCl (cW cI cC cZ a σ0) H → va_D A (cW cI cC cZ a σ0) → va_S A s.heap H locs → lv_has ls 4 [(0, .ref (a 18)), (1, .int x1)] → W p l e (headSpec w_J_fill { frames := 0, cells := 0, slots := 0, locals := 0 }).room s m [.ref (a 18), .int q1].toArray below meth c H locs 0 0 (MQ below (gQv X vwCl (cW cI cC cZ a σ) sz (fun (_ : Unit) => True) (fun _ => cW cI cC cZ a σ')) [.ref (a 18), .int q1].toArray s 0 0 (va_A (cW cI cC cZ a σ) sz)) (F0 m 0 ls [])) ∧ (∀ (x1 : Int32) (x2 : Int32) (x3 : Int32) (σ0 : gS) (H : Heap) (locs : List Loc) (ls : Array Slot), R_J_fill_WI t 1 [x1, x2, x3] σ0 = some (r, σ') → va_P X vwCl (cW cI cC cZ a σ0) H → va_D A (cW cI cC cZ a σ0) → va_S A s.heap H locs → lv_has ls 4 [(0, .ref (a 18)), (1, .int x1), (2, .int x2), (3, .int x3)] → W p l e (headSpec w_J_fill { frames := 0, cells := 0, slots := 0, locals := 0 }).room s m [.ref (a 18), .int q1].toArray below meth c H locs 0 0 (MQ below (gQv X vwCl (cW cI cC cZ a σ) sz (fun (_ : Unit) => True) (fun _ => cW cI cC cZ a σ')) [.ref (a 18), .int q1].toArray s 0 0 (va_A (cW cI cC cZ a σ) sz)) (F0 m 5 ls [])) := by
    intro t
    induction t with
    | zero => exact ⟨fun _ _ _ _ _ hf => (by have hf : (none : Option (Int32 × gS)) = some (r, σ') := hf; cases hf), fun _ _ _ _ _ _ _ hf => (by have hf : (none : Option (Int32 × gS)) = some (r, σ') := hf; cases hf)⟩
    | succ t ih =>
      obtain ⟨ih0, ih1⟩ := ih
      refine ⟨?_, ?_⟩
      · intro x1 σ0 H locs ls hf hP hD hS hl
        have hf : B_J_fill_WI_0 (R_J_fill_WI t) x1 σ0 = some (r, σ') := hf
        unfold B_J_fill_WI_0 at hf
        refine lv_iconst (v := 0) hx hb d_J_fill_0 (by decide) ?_
        refine lv_istore_n hx hb d_J_fill_1 rfl hl (by decide) rfl (fun ls hl => ?_)
        refine lv_aload_n hx hb d_J_fill_2 rfl (lv_at hl 1 rfl) ?_
        refine va_alen (v := 16) hx hb hK hP 18 0 gc_18 rfl rfl d_J_fill_3 ?_
        refine lv_istore_n hx hb d_J_fill_4 rfl hl (by decide) rfl (fun ls hl => ?_)
        exact ih1 (x1) (0) (16) σ0 _ _ _ hf hP hD hS (lv_sub hl [2, 3, 1, 0] rfl)
      · intro x1 x2 x3 σ0 H locs ls hf hP hD hS hl
        have hf : B_J_fill_WI_1 (R_J_fill_WI t) x1 x2 x3 σ0 = some (r, σ') := hf
        unfold B_J_fill_WI_1 at hf
        refine lv_iload_n hx hb d_J_fill_5 rfl (lv_at hl 2 rfl) ?_
        refine lv_iload_n hx hb d_J_fill_6 rfl (lv_at hl 3 rfl) ?_
        refine lv_icmp_ge (tgt := 20) hx hb d_J_fill_7 rfl (fun c1 => ?_) (fun c1 => ?_)
        · skip
          rw [if_pos c1] at hf
          obtain ⟨-, rfl⟩ := gRt_e hf
          exact g_vret hx hb hr hlocks hAe hS () trivial hP d_J_fill_20
        rw [if_neg c1] at hf
        refine lv_aload_n hx hb d_J_fill_10 rfl (lv_at hl 0 rfl) ?_
        refine lv_iload_n hx hb d_J_fill_11 rfl (lv_at hl 2 rfl) ?_
        refine lv_iload_n hx hb d_J_fill_12 rfl (lv_at hl 1 rfl) ?_
        obtain ⟨σ2, h3, e4, hf⟩ := gSt_e hf
        refine va_iast hx hb hK hP hD hS 18 0 gc_18 rfl h3 d_J_fill_13 (fun H locs hP hD hS => ?_)
        rw [sc_18, ← e4] at hP hD
        refine lv_iinc (k := 2) (v := (x2 + 1)) hx hb d_J_fill_14 hl rfl (by rw [show Int32.ofInt (1) = (1 : Int32) by decide]) (by decide) rfl (fun ls hl => ?_)
        refine lv_goto (tgt := 5) hx hb d_J_fill_17 rfl ?_
        exact ih1 (x1) ((x2 + 1)) (x3) σ2 _ _ _ hf hP hD hS (lv_sub hl [1, 2, 0, 3] rfl)
  exact (key gFuel).1 q1 σ _ _ _ hf hP hD hS hl

def B_J_fill_GI_0 (rec : Nat → List Int32 → gS → Option (Int32 × gS)) (x1 : Int32) (σ0 : gS) : Option (Int32 × gS) := rec 1 [x1, 0, 100] σ0
def B_J_fill_GI_1 (rec : Nat → List Int32 → gS → Option (Int32 × gS)) (x1 : Int32) (x2 : Int32) (x3 : Int32) (σ0 : gS) : Option (Int32 × gS) := if x3 ≤ x2 then (some (0, σ0)) else (gSt σ0 35 100 x2 x1 (fun σ2 => rec 1 [x1, (x2 + 1), x3] σ2))
def S_J_fill_GI (rec : Nat → List Int32 → gS → Option (Int32 × gS)) (k : Nat) (l : List Int32) (σ0 : gS) : Option (Int32 × gS) := match k, l with
  | 0, [x1] => B_J_fill_GI_0 rec x1 σ0
  | 1, [x1, x2, x3] => B_J_fill_GI_1 rec x1 x2 x3 σ0
  | _, _ => none
def R_J_fill_GI : Nat → Nat → List Int32 → gS → Option (Int32 × gS)
  | 0 => fun _ _ _ => none
  | t + 1 => fun k l σ0 => S_J_fill_GI (R_J_fill_GI t) k l σ0
def f_J_fill_GI (σ : gS) (x1 : Int32) : Option (Int32 × gS) := R_J_fill_GI gFuel 0 [x1] σ
set_option maxHeartbeats 4000000 in
set_option maxRecDepth 100000 in
theorem m_J_fill_GI {l : Launch} {X : va_G} {cI cC cZ : ClassId} {aK aV : Nat → Nat} {a : Nat → Nat} {σ σ' : gS} {r : Int32} {q1 : Int32} (hf : f_J_fill_GI σ q1 = some (r, σ')) {sz : Nat} : Met l y_J_fill w_J_fill { frames := 0, cells := 0, slots := 0, locals := 0 } (gPc X vwCl (gT cI cC cZ) aK aV (cW cI cC cZ a σ) sz [.ref (a 35), .int q1]) (gQv X vwCl (cW cI cC cZ a σ) sz (fun (_ : Unit) => True) (fun _ => cW cI cC cZ a σ')) 0 0 (va_A (cW cI cC cZ a σ) sz) := by
  refine g_met (cc := b_J_fill) (maxL := 4) (ret := none) (by decide) rfl (Nat.le_of_ble_eq_true rfl) ?_
  intro p e s m below meth c A ls hx hb hr hml hown hts hlocks hnm hsz hAe hA hP hK hD hS hl hE
  have hown : s.vm.findClass R_J = some m.cls := hown
  unfold f_J_fill_GI at hf
  have key : ∀ t : Nat, (∀ (x1 : Int32) (σ0 : gS) (H : Heap) (locs : List Loc) (ls : Array Slot), R_J_fill_GI t 0 [x1] σ0 = some (r, σ') → va_P X vwCl (cW cI cC cZ a σ0) H → va_D A (cW cI cC cZ a σ0) → va_S A s.heap H locs → lv_has ls 4 [(0, .ref (a 35)), (1, .int x1)] → W p l e (headSpec w_J_fill { frames := 0, cells := 0, slots := 0, locals := 0 }).room s m [.ref (a 35), .int q1].toArray below meth c H locs 0 0 (MQ below (gQv X vwCl (cW cI cC cZ a σ) sz (fun (_ : Unit) => True) (fun _ => cW cI cC cZ a σ')) [.ref (a 35), .int q1].toArray s 0 0 (va_A (cW cI cC cZ a σ) sz)) (F0 m 0 ls [])) ∧ (∀ (x1 : Int32) (x2 : Int32) (x3 : Int32) (σ0 : gS) (H : Heap) (locs : List Loc) (ls : Array Slot), R_J_fill_GI t 1 [x1, x2, x3] σ0 = some (r, σ') → va_P X vwCl (cW cI cC cZ a σ0) H → va_D A (cW cI cC cZ a σ0) → va_S A s.heap H locs → lv_has ls 4 [(0, .ref (a 35)), (1, .int x1), (2, .int x2), (3, .int x3)] → W p l e (headSpec w_J_fill { frames := 0, cells := 0, slots := 0, locals := 0 }).room s m [.ref (a 35), .int q1].toArray below meth c H locs 0 0 (MQ below (gQv X vwCl (cW cI cC cZ a σ) sz (fun (_ : Unit) => True) (fun _ => cW cI cC cZ a σ')) [.ref (a 35), .int q1].toArray s 0 0 (va_A (cW cI cC cZ a σ) sz)) (F0 m 5 ls [])) := by
    intro t
    induction t with
    | zero => exact ⟨fun _ _ _ _ _ hf => (by have hf : (none : Option (Int32 × gS)) = some (r, σ') := hf; cases hf), fun _ _ _ _ _ _ _ hf => (by have hf : (none : Option (Int32 × gS)) = some (r, σ') := hf; cases hf)⟩
    | succ t ih =>
      obtain ⟨ih0, ih1⟩ := ih
      refine ⟨?_, ?_⟩
      · intro x1 σ0 H locs ls hf hP hD hS hl
        have hf : B_J_fill_GI_0 (R_J_fill_GI t) x1 σ0 = some (r, σ') := hf
        unfold B_J_fill_GI_0 at hf
        refine lv_iconst (v := 0) hx hb d_J_fill_0 (by decide) ?_
        refine lv_istore_n hx hb d_J_fill_1 rfl hl (by decide) rfl (fun ls hl => ?_)
        refine lv_aload_n hx hb d_J_fill_2 rfl (lv_at hl 1 rfl) ?_
        refine va_alen (v := 100) hx hb hK hP 35 0 gc_35 rfl rfl d_J_fill_3 ?_
        refine lv_istore_n hx hb d_J_fill_4 rfl hl (by decide) rfl (fun ls hl => ?_)
        exact ih1 (x1) (0) (100) σ0 _ _ _ hf hP hD hS (lv_sub hl [2, 3, 1, 0] rfl)
      · intro x1 x2 x3 σ0 H locs ls hf hP hD hS hl
        have hf : B_J_fill_GI_1 (R_J_fill_GI t) x1 x2 x3 σ0 = some (r, σ') := hf
        unfold B_J_fill_GI_1 at hf
        refine lv_iload_n hx hb d_J_fill_5 rfl (lv_at hl 2 rfl) ?_
        refine lv_iload_n hx hb d_J_fill_6 rfl (lv_at hl 3 rfl) ?_
        refine lv_icmp_ge (tgt := 20) hx hb d_J_fill_7 rfl (fun c1 => ?_) (fun c1 => ?_)
        · skip
          rw [if_pos c1] at hf
          obtain ⟨-, rfl⟩ := gRt_e hf
          exact g_vret hx hb hr hlocks hAe hS () trivial hP d_J_fill_20
        rw [if_neg c1] at hf
        refine lv_aload_n hx hb d_J_fill_10 rfl (lv_at hl 0 rfl) ?_
        refine lv_iload_n hx hb d_J_fill_11 rfl (lv_at hl 2 rfl) ?_
        refine lv_iload_n hx hb d_J_fill_12 rfl (lv_at hl 1 rfl) ?_
        obtain ⟨σ2, h3, e4, hf⟩ := gSt_e hf
        refine va_iast hx hb hK hP hD hS 35 0 gc_35 rfl h3 d_J_fill_13 (fun H locs hP hD hS => ?_)
        rw [sc_35, ← e4] at hP hD
        refine lv_iinc (k := 2) (v := (x2 + 1)) hx hb d_J_fill_14 hl rfl (by rw [show Int32.ofInt (1) = (1 : Int32) by decide]) (by decide) rfl (fun ls hl => ?_)
        refine lv_goto (tgt := 5) hx hb d_J_fill_17 rfl ?_
        exact ih1 (x1) ((x2 + 1)) (x3) σ2 _ _ _ hf hP hD hS (lv_sub hl [1, 2, 0, 3] rfl)
  exact (key gFuel).1 q1 σ _ _ _ hf hP hD hS hl
