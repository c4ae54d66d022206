def gLx {β : Type} (xs : Nat → Int32) (L : Nat) (i : Int32) (K : Int32 → Option β) : Option β := if i < 0 ∨ L ≤ i.toNatClampNeg then none else K (xs i.toNatClampNeg)
theorem gLx_e {β : Type} {xs : Nat → Int32} {L : Nat} {i : Int32} {K : Int32 → Option β} {z : β} (h : gLx xs L i K = some z) : ∃ y : Int32, vp_in i L ∧ y = xs i.toNatClampNeg ∧ K y = some z := by
  unfold gLx at h
  by_cases hin : i < 0 ∨ L ≤ i.toNatClampNeg
  · rw [if_pos hin] at h
    cases h
  · rw [if_neg hin] at h
    exact ⟨_, hin, rfl, h⟩
def Bl_1 (xs : Nat → Int32) (L : Nat) (rec : Nat → Int32 → gS → gS → Option Int32) (x3 : Int32) (σ0 τ0 : gS) : Option Int32 := if ((Int32.ofNat L) - 4) < x3 then (some 1) else (gLx xs L x3 (fun y2 => if (y2 &&& 31) = 0 then (gLx xs L (x3 + 1) (fun y6 => gLx xs L (x3 + 2) (fun y9 => gBd (f_O_make σ0 y6 y9) (fun y12 σ13 => gLx xs L (x3 + 1) (fun y15 => gLx xs L (x3 + 2) (fun y18 => gBd (f_M_make τ0 y15 y18) (fun y21 τ22 => if y12 = y21 then (rec 2 (x3) σ13 τ22) else (some 0)))))))) else (if (y2 &&& 31) = 1 then (gLx xs L (x3 + 1) (fun y26 => gLx xs L (x3 + 2) (fun y29 => gBd (f_O_type σ0 y26 (y29.toUInt32 % 65536).toInt32) (fun y32 σ33 => gLx xs L (x3 + 1) (fun y35 => gLx xs L (x3 + 2) (fun y38 => gBd (f_M_type τ0 y35 (y38.toUInt32 % 65536).toInt32) (fun y41 τ42 => if y32 = y41 then (rec 2 (x3) σ33 τ42) else (some 0)))))))) else (if (y2 &&& 31) = 2 then (gLx xs L (x3 + 1) (fun y46 => gLx xs L (x3 + 2) (fun y49 => gLx xs L (x3 + 3) (fun y52 => gBd (f_O_put σ0 y46 y49 y52) (fun y55 σ56 => gLx xs L (x3 + 1) (fun y58 => gLx xs L (x3 + 2) (fun y61 => gLx xs L (x3 + 3) (fun y64 => gBd (f_M_put τ0 y58 y61 y64) (fun y67 τ68 => if y55 = y67 then (rec 2 (x3) σ56 τ68) else (some 0)))))))))) else (if (y2 &&& 31) = 3 then (gLx xs L (x3 + 1) (fun y72 => gLx xs L (x3 + 2) (fun y75 => gLx xs L (x3 + 3) (fun y78 => gBd (f_O_link σ0 y72 y75 y78) (fun y81 σ82 => gLx xs L (x3 + 1) (fun y84 => gLx xs L (x3 + 2) (fun y87 => gLx xs L (x3 + 3) (fun y90 => gBd (f_M_link τ0 y84 y87 y90) (fun y93 τ94 => if y81 = y93 then (rec 2 (x3) σ82 τ94) else (some 0)))))))))) else (if (y2 &&& 31) = 4 then (gBd (f_O_objects σ0) (fun y98 σ99 => gBd (f_M_objects τ0) (fun y101 τ102 => if y98 = y101 then (rec 2 (x3) σ99 τ102) else (some 0)))) else (if (y2 &&& 31) = 5 then (gLx xs L (x3 + 1) (fun y106 => gBd (f_O_kind σ0 y106) (fun y109 σ110 => gLx xs L (x3 + 1) (fun y112 => gBd (f_M_kind τ0 y112) (fun y115 τ116 => if y109 = y115 then (rec 2 (x3) σ110 τ116) else (some 0)))))) else (if (y2 &&& 31) = 6 then (gLx xs L (x3 + 1) (fun y120 => gBd (f_O_size σ0 y120) (fun y123 σ124 => gLx xs L (x3 + 1) (fun y126 => gBd (f_M_size τ0 y126) (fun y129 τ130 => if y123 = y129 then (rec 2 (x3) σ124 τ130) else (some 0)))))) else (if (y2 &&& 31) = 7 then (gLx xs L (x3 + 1) (fun y134 => gLx xs L (x3 + 2) (fun y137 => gBd (f_O_holds σ0 y134 y137) (fun y140 σ141 => gLx xs L (x3 + 1) (fun y143 => gLx xs L (x3 + 2) (fun y146 => gBd (f_M_holds τ0 y143 y146) (fun y149 τ150 => if y140 = y149 then (rec 2 (x3) σ141 τ150) else (some 0)))))))) else (if (y2 &&& 31) = 8 then (gLx xs L (x3 + 1) (fun y154 => gLx xs L (x3 + 2) (fun y157 => gBd (f_O_value σ0 y154 y157) (fun y160 σ161 => gLx xs L (x3 + 1) (fun y163 => gLx xs L (x3 + 2) (fun y166 => gBd (f_M_value τ0 y163 y166) (fun y169 τ170 => if y160 = y169 then (rec 2 (x3) σ161 τ170) else (some 0)))))))) else (if (y2 &&& 31) = 9 then (gLx xs L (x3 + 1) (fun y174 => gLx xs L (x3 + 2) (fun y177 => gBd (f_O_alike σ0 y174 y177) (fun y180 σ181 => gLx xs L (x3 + 1) (fun y183 => gLx xs L (x3 + 2) (fun y186 => gBd (f_M_alike τ0 y183 y186) (fun y189 τ190 => if y180 = y189 then (rec 2 (x3) σ181 τ190) else (some 0)))))))) else (if (y2 &&& 31) = 10 then (gLx xs L (x3 + 1) (fun y194 => gBd (f_O_shared σ0 y194) (fun y197 σ198 => gLx xs L (x3 + 1) (fun y200 => gBd (f_M_shared τ0 y200) (fun y203 τ204 => if y197 = y203 then (rec 2 (x3) σ198 τ204) else (some 0)))))) else (if (y2 &&& 31) = 11 then (gLx xs L (x3 + 1) (fun y208 => gBd (f_O_encode σ0 y208) (fun y211 σ212 => gLx xs L (x3 + 1) (fun y214 => gBd (f_M_encode τ0 y214) (fun y217 τ218 => if y211 = y217 then (rec 2 (x3) σ212 τ218) else (some 0)))))) else (if (y2 &&& 31) = 12 then (gBd (f_O_decode σ0) (fun y222 σ223 => gBd (f_M_decode τ0) (fun y225 τ226 => if y222 = y225 then (rec 2 (x3) σ223 τ226) else (some 0)))) else (if (y2 &&& 31) = 13 then (gBd (f_O_clear σ0) (fun _ σ231 => gBd (f_M_clear τ0) (fun _ τ234 => rec 2 (x3) σ231 τ234))) else (if (y2 &&& 31) = 14 then (gLx xs L (x3 + 1) (fun y237 => gLx xs L (x3 + 2) (fun y240 => if y240 = 0 then (gBd (f_O_understand σ0 y237 0) (fun y244 σ245 => gLx xs L (x3 + 1) (fun y247 => gLx xs L (x3 + 2) (fun y250 => if y250 = 0 then (gBd (f_M_understand τ0 y247 0) (fun y254 τ255 => if y244 = y254 then (rec 2 (x3) σ245 τ255) else (some 0))) else (gBd (f_M_understand τ0 y247 1) (fun y258 τ259 => if y244 = y258 then (rec 2 (x3) σ245 τ259) else (some 0))))))) else (gBd (f_O_understand σ0 y237 1) (fun y262 σ263 => gLx xs L (x3 + 1) (fun y265 => gLx xs L (x3 + 2) (fun y268 => if y268 = 0 then (gBd (f_M_understand τ0 y265 0) (fun y272 τ273 => if y262 = y272 then (rec 2 (x3) σ263 τ273) else (some 0))) else (gBd (f_M_understand τ0 y265 1) (fun y276 τ277 => if y262 = y276 then (rec 2 (x3) σ263 τ277) else (some 0)))))))))) else (if (y2 &&& 31) = 15 then (gBd (f_O_length σ0) (fun y281 σ282 => gBd (f_M_length τ0) (fun y284 τ285 => if y281 = y284 then (rec 2 (x3) σ282 τ285) else (some 0)))) else (if (y2 &&& 31) = 16 then (gLx xs L (x3 + 1) (fun y289 => gBd (f_O_charAt σ0 y289) (fun y292 σ293 => gLx xs L (x3 + 1) (fun y295 => gBd (f_M_charAt τ0 y295) (fun y298 τ299 => if y292 = y298 then (rec 2 (x3) σ293 τ299) else (some 0)))))) else (if (y2 &&& 31) = 17 then (gLx xs L (x3 + 1) (fun y303 => gBd (f_O_feed σ0 (y303.toUInt32 % 65536).toInt32) (fun y306 σ307 => gLx xs L (x3 + 1) (fun y309 => gBd (f_M_feed τ0 (y309.toUInt32 % 65536).toInt32) (fun y312 τ313 => if y306 = y312 then (rec 2 (x3) σ307 τ313) else (some 0)))))) else (if (y2 &&& 31) = 18 then (gLx xs L (x3 + 1) (fun y317 => gLx xs L (x3 + 2) (fun y320 => gBd (f_O_alter σ0 y317 (y320.toUInt32 % 65536).toInt32) (fun y323 σ324 => gLx xs L (x3 + 1) (fun y326 => gLx xs L (x3 + 2) (fun y329 => gBd (f_M_alter τ0 y326 (y329.toUInt32 % 65536).toInt32) (fun y332 τ333 => if y323 = y332 then (rec 2 (x3) σ324 τ333) else (some 0)))))))) else (if (y2 &&& 31) = 19 then (gLx xs L (x3 + 1) (fun y337 => gBd (f_O_cut σ0 y337) (fun y340 σ341 => gLx xs L (x3 + 1) (fun y343 => gBd (f_M_cut τ0 y343) (fun y346 τ347 => if y340 = y346 then (rec 2 (x3) σ341 τ347) else (some 0)))))) else (rec 2 (x3) σ0 τ0))))))))))))))))))))))
def Bl_2 (rec : Nat → Int32 → gS → gS → Option Int32) (x3 : Int32) (σ0 τ0 : gS) : Option Int32 := rec 1 ((x3 + 4)) σ0 τ0
def Sl_ (xs : Nat → Int32) (L : Nat) (rec : Nat → Int32 → gS → gS → Option Int32) : Nat → Int32 → gS → gS → Option Int32 := fun k x3 σ0 τ0 => match k with
  | 1 => Bl_1 xs L rec x3 σ0 τ0
  | 2 => Bl_2 rec x3 σ0 τ0
  | _ => none
def Rl_ (xs : Nat → Int32) (L : Nat) : Nat → Nat → Int32 → gS → gS → Option Int32
  | 0 => fun _ _ _ _ => none
  | t + 1 => Sl_ xs L (Rl_ xs L t)
theorem g_rng : ∀ (a pre b : va_W), ((List.range a.length).map (fun i => pre.length + i)).map (fun i => (pre ++ a ++ b)[i]?) = a.map some := by
  intro a
  induction a with
  | nil => intro pre b; rfl
  | cons x a ih =>
    intro pre b
    have h := ih (pre ++ [x]) b
    rw [List.length_cons, List.range_succ_eq_map, List.map_cons, List.map_cons, List.map_cons]
    congr 1
    · rw [Nat.add_zero, List.append_assoc, List.getElem?_append_right (Nat.le_refl _), Nat.sub_self]
      rfl
    · rw [← h, List.map_map, List.map_map, List.map_map]
      apply List.map_congr_left
      intro i _
      show (pre ++ x :: a ++ b)[pre.length + (i + 1)]? = (pre ++ [x] ++ a ++ b)[(pre ++ [x]).length + i]?
      rw [show pre ++ [x] ++ a ++ b = pre ++ x :: a ++ b by simp, show (pre ++ [x]).length + i = pre.length + (i + 1) by simp; omega]
theorem g_gset : ∀ (a' a pre b : va_W), a.length = a'.length → gset (pre ++ a ++ b) ((List.range a.length).map (fun i => pre.length + i)) a' = pre ++ a' ++ b := by
  intro a'
  induction a' with
  | nil =>
    intro a pre b h
    cases a with
    | nil => rfl
    | cons x a => cases h
  | cons y a' ih =>
    intro a pre b h
    cases a with
    | nil => cases h
    | cons x a =>
      have hl : a.length = a'.length := by simpa using h
      have h2 := ih a (pre ++ [y]) b hl
      rw [List.length_cons, List.range_succ_eq_map, List.map_cons, List.map_map]
      show gset ((pre ++ x :: a ++ b).set (pre.length + 0) y) _ a' = _
      have e1 : (pre ++ x :: a ++ b).set (pre.length + 0) y = pre ++ [y] ++ a ++ b := by
        rw [Nat.add_zero, List.append_assoc, List.set_append_right _ _ (Nat.le_refl _), Nat.sub_self]
        simp
      have e2 : (List.range a.length).map ((fun i => pre.length + i) ∘ Nat.succ) = (List.range a.length).map (fun i => (pre ++ [y]).length + i) := by
        apply List.map_congr_left
        intro i _
        simp
        omega
      rw [e1, e2, h2]
      simp
theorem lwc {cI cC cZ : ClassId} {a b : Nat → Nat} {σ τ : gS} : ((List.range 38).map (fun i => 0 + i)).map (fun i => (cW cI cC cZ a σ ++ mW cI cC cZ b τ)[i]?) = (cW cI cC cZ a σ).map some := g_rng (cW cI cC cZ a σ) [] (mW cI cC cZ b τ)
theorem lwm {cI cC cZ : ClassId} {a b : Nat → Nat} {σ τ : gS} : ((List.range 26).map (fun i => 38 + i)).map (fun i => (cW cI cC cZ a σ ++ mW cI cC cZ b τ)[i]?) = (mW cI cC cZ b τ).map some := by
  have h := g_rng (mW cI cC cZ b τ) (cW cI cC cZ a σ) []
  rw [List.append_nil] at h
  exact h
theorem lwcs {cI cC cZ : ClassId} {a b : Nat → Nat} {σ σ' τ : gS} : gset (cW cI cC cZ a σ ++ mW cI cC cZ b τ) ((List.range 38).map (fun i => 0 + i)) (cW cI cC cZ a σ') = (cW cI cC cZ a σ' ++ mW cI cC cZ b τ) := g_gset (cW cI cC cZ a σ') (cW cI cC cZ a σ) [] (mW cI cC cZ b τ) rfl
theorem lwms {cI cC cZ : ClassId} {a b : Nat → Nat} {σ τ τ' : gS} : gset (cW cI cC cZ a σ ++ mW cI cC cZ b τ) ((List.range 26).map (fun i => 38 + i)) (mW cI cC cZ b τ') = (cW cI cC cZ a σ ++ mW cI cC cZ b τ') := by
  have h := g_gset (mW cI cC cZ b τ') (mW cI cC cZ b τ) (cW cI cC cZ a σ) [] rfl
  rw [List.append_nil, List.append_nil] at h
  exact h
theorem lwcf {cI cC cZ : ClassId} {a b : Nat → Nat} {σ σ' τ : gS} : (gset (cW cI cC cZ a σ ++ mW cI cC cZ b τ) ((List.range 38).map (fun i => 0 + i)) (cW cI cC cZ a σ')).map (fun q => q.1) = (cW cI cC cZ a σ ++ mW cI cC cZ b τ).map (fun q => q.1) := by
  rw [lwcs, List.map_append, List.map_append, cW_fst (σ := σ)]
theorem lwmf {cI cC cZ : ClassId} {a b : Nat → Nat} {σ τ τ' : gS} : (gset (cW cI cC cZ a σ ++ mW cI cC cZ b τ) ((List.range 26).map (fun i => 38 + i)) (mW cI cC cZ b τ')).map (fun q => q.1) = (cW cI cC cZ a σ ++ mW cI cC cZ b τ).map (fun q => q.1) := by
  rw [lwms, List.map_append, List.map_append, mW_fst (σ := τ)]
set_option maxRecDepth 100000 in
theorem lw0c {cI cC cZ : ClassId} {a b : Nat → Nat} {σ τ : gS} : (cW cI cC cZ a σ ++ mW cI cC cZ b τ)[0]? = some (a 0, .inr (8, [.ref (a 1), .ref (a 7), .ref (a 9), .ref (a 10), .ref (a 13), .ref (a 17), .ref (a 32), .ref (a 33)])) := rfl
set_option maxRecDepth 100000 in
theorem lw0m {cI cC cZ : ClassId} {a b : Nat → Nat} {σ τ : gS} : (cW cI cC cZ a σ ++ mW cI cC cZ b τ)[38]? = some (b 0, .inr (9, [.int (τ.1 0), .ref (b 1), .ref (b 2), .ref (b 3), .ref (b 4), .ref (b 5), .ref (b 6), .int (τ.1 1), .ref (b 7), .int (τ.1 2), .ref (b 8), .ref (b 9), .ref (b 10), .ref (b 11), .ref (b 12), .ref (b 13), .ref (b 14), .ref (b 15), .int (τ.1 3), .ref (b 16), .ref (b 17), .ref (b 18), .int (τ.1 4), .int (τ.1 5), .int (τ.1 6), .int (τ.1 7), .ref (b 19), .ref (b 20), .ref (b 21), .ref (b 22), .int (τ.1 8), .ref (b 23), .int (τ.1 9), .ref (b 24), .ref (b 25)])) := rfl
