def gFuel : Nat := 100000
def gLd {β : Type} (σ : gS) (k n : Nat) (i : Int32) (K : Int32 → Option β) : Option β := if i < 0 ∨ n ≤ i.toNatClampNeg then none else K (σ.2 k i.toNatClampNeg)
def gSt {β : Type} (σ : gS) (k n : Nat) (i v : Int32) (K : gS → Option β) : Option β := if i < 0 ∨ n ≤ i.toNatClampNeg then none else K (sA σ k (upd (σ.2 k) i.toNatClampNeg v))
def gPut {β : Type} (σ : gS) (k : Nat) (x : Int32) (K : gS → Option β) : Option β := K (sI σ k x)
def gBd {α β : Type} (o : Option (α × gS)) (K : α → gS → Option β) : Option β := match o with
  | none => none
  | some q => K q.1 q.2
def gNe {β : Type} (y : Int32) (K : Option β) : Option β := if y = 0 then none else K
def gNel {β : Type} (y : Int64) (K : Option β) : Option β := if y = 0 then none else K
def gNr {β : Type} (ty : FieldType) (v : Int32) (K : Option β) : Option β := if narrow ty (.int v) = .int v then K else none
theorem gLd_e {β : Type} {σ : gS} {k n : Nat} {i : Int32} {K : Int32 → Option β} {z : β} (h : gLd σ k n i K = some z) : ∃ y : Int32, vp_in i n ∧ y = σ.2 k i.toNatClampNeg ∧ K y = some z := by
  unfold gLd at h
  by_cases hin : i < 0 ∨ n ≤ i.toNatClampNeg
  · rw [if_pos hin] at h
    cases h
  · rw [if_neg hin] at h
    exact ⟨_, hin, rfl, h⟩
theorem gSt_e {β : Type} {σ : gS} {k n : Nat} {i v : Int32} {K : gS → Option β} {z : β} (h : gSt σ k n i v K = some z) : ∃ σ1 : gS, vp_in i n ∧ σ1 = sA σ k (upd (σ.2 k) i.toNatClampNeg v) ∧ K σ1 = some z := by
  unfold gSt at h
  by_cases hin : i < 0 ∨ n ≤ i.toNatClampNeg
  · rw [if_pos hin] at h
    cases h
  · rw [if_neg hin] at h
    exact ⟨_, hin, rfl, h⟩
theorem gPut_e {β : Type} {σ : gS} {k : Nat} {x : Int32} {K : gS → Option β} {z : β} (h : gPut σ k x K = some z) : ∃ σ1 : gS, σ1 = sI σ k x ∧ K σ1 = some z := ⟨_, rfl, h⟩
theorem gBd_e {α β : Type} {o : Option (α × gS)} {K : α → gS → Option β} {z : β} (h : gBd o K = some z) : ∃ (y : α) (σ1 : gS), o = some (y, σ1) ∧ K y σ1 = some z := by
  cases o with
  | none => cases h
  | some q => exact ⟨q.1, q.2, rfl, h⟩
theorem gNe_e {β : Type} {y : Int32} {K : Option β} {z : β} (h : gNe y K = some z) : ¬ y = 0 ∧ K = some z := by
  unfold gNe at h
  by_cases hy : y = 0
  · rw [if_pos hy] at h
    cases h
  · rw [if_neg hy] at h
    exact ⟨hy, h⟩
theorem gNel_e {β : Type} {y : Int64} {K : Option β} {z : β} (h : gNel y K = some z) : ¬ y = 0 ∧ K = some z := by
  unfold gNel at h
  by_cases hy : y = 0
  · rw [if_pos hy] at h
    cases h
  · rw [if_neg hy] at h
    exact ⟨hy, h⟩
theorem gNr_e {β : Type} {ty : FieldType} {v : Int32} {K : Option β} {z : β} (h : gNr ty v K = some z) : narrow ty (.int v) = .int v ∧ K = some z := by
  unfold gNr at h
  by_cases hy : narrow ty (.int v) = .int v
  · rw [if_pos hy] at h
    exact ⟨hy, h⟩
  · rw [if_neg hy] at h
    cases h
theorem gRt_e {α : Type} {t r : α} {σ σ' : gS} (h : (some (t, σ) : Option (α × gS)) = some (r, σ')) : t = r ∧ σ = σ' := by
  have h2 := Option.some.inj h
  exact ⟨congrArg Prod.fst h2, congrArg Prod.snd h2⟩
section GW
variable {p : Program} {l : Launch} {e : Env} {R : Room} {s : State} {m : MethodId} {args : Array Value} {below : List Frame} {meth : Method} {c : Code} {H H0 : Heap} {locs : List Loc} {cells slots : Nat} {Q : State → Prop}
variable {X : va_G} {cl : List vw_C} {T : List (ClassId × FieldType)} {ws : va_W} {A : Nat → Prop} {pc : Nat} {ls : Array Slot} {S : Type}
theorem g_freeW (hD : va_D A ws) (hS : va_S A H0 H locs) (hA : ∀ q : Nat, H0.size ≤ q → A q) : ∀ q : Nat, va_A ws H.size q → A q := by
  intro q h
  rcases h with ⟨k, e, h⟩ | h
  · exact hD.2 k (q, e) h
  · exact hA q (Nat.le_trans hS.1 h)
theorem g_preSW {aK aV : Nat → Nat} {av : List Value} (hE : gE aK aV A s s.heap) (hK : va_K X cl T s) (hP : va_P X cl ws H) (hD : va_D A ws) (hS : va_S A s.heap H locs) (hA : ∀ q : Nat, s.heap.size ≤ q → A q) : PreS s H (gPc X cl T aK aV ws H.size av) av := by
  refine ⟨fun a U g mk q => ?_, fun U hU hW => ⟨rfl, by rw [hU], by rw [hU]; exact hP, va_K.moved hW.alike hK, hD.weaken (fun _ _ _ _ => trivial), by rw [hU]; exact hE.go hW hS.2.1 (g_freeW hD hS hA)⟩⟩
  obtain ⟨q0, q1, qP, qK, qD, qE⟩ := q
  exact ⟨q0, q1, qP, va_K.moved (u := U) (U := U.calling g mk a) (Vm.Alike.refl U.vm) qK, qD, qE.same rfl⟩
theorem g_preVW {aK aV : Nat → Nat} {b : Nat} {As : List Value} {C : String} {TT : u_T} {N q0 ci : Nat} {fs : List Value} (hE : gE aK aV A s s.heap) (hK : va_K X cl T s) (hP : va_P X cl ws H) (hD : va_D A ws) (hS : va_S A s.heap H locs) (hA : ∀ q : Nat, s.heap.size ≤ q → A q) (hq : ws[q0]? = some (b, .inr (ci, fs))) (hc : cl[ci]? = some (C, TT, N)) : PreV s H C b (gPc X cl T aK aV ws H.size (.ref b :: As)) As := by
  have h := g_preSW (av := .ref b :: As) hE hK hP hD hS hA
  exact ⟨h.1, va_recv hK hP hc hq, h.2⟩
theorem g_wi {post : Int32 → S → Prop} {w1 : S → va_W} {st0 rest : List Value} {a : Array Value} (hr : va_Run p l e R s m args below meth c H locs cells slots 0 0 (F0 m pc ls st0) rest (gQi X cl ws H.size post w1 a) (va_A ws H.size)) (hD : va_D A ws) (hS : va_S A H0 H locs) (hA : ∀ q : Nat, H0.size ≤ q → A q) (ha : ∀ u, (w1 u).map (fun q => q.1) = ws.map (fun q => q.1))
    (kk : ∀ (r : Int32) (u : S) (H1 : Heap) (locs1 : List Loc), post r u → va_P X cl (w1 u) H1 → va_D A (w1 u) → va_S A H0 H1 locs1 → W p l e R s m args below meth c H1 locs1 cells slots Q (F0 m (pc + 3) ls (.int r :: rest))) : W p l e R s m args below meth c H locs cells slots Q (F0 m pc ls st0) := by
  have hF := g_freeW hD hS hA
  refine va_calli hr hS (fun q _ h => hF q h) hF (fun r u t H1 locs1 ht hvm hp hB hz1 hk1 hS1 => ?_)
  rw [ht] at hB
  exact kk r u H1 locs1 hp hB (g_D hD (ha u)) hS1
theorem g_wl {post : Int64 → S → Prop} {w1 : S → va_W} {st0 rest : List Value} {a : Array Value} (hr : va_Run p l e R s m args below meth c H locs cells slots 0 0 (F0 m pc ls st0) rest (gQl X cl ws H.size post w1 a) (va_A ws H.size)) (hD : va_D A ws) (hS : va_S A H0 H locs) (hA : ∀ q : Nat, H0.size ≤ q → A q) (ha : ∀ u, (w1 u).map (fun q => q.1) = ws.map (fun q => q.1))
    (kk : ∀ (r : Int64) (u : S) (H1 : Heap) (locs1 : List Loc), post r u → va_P X cl (w1 u) H1 → va_D A (w1 u) → va_S A H0 H1 locs1 → W p l e R s m args below meth c H1 locs1 cells slots Q (F0 m (pc + 3) ls (.long r :: rest))) : W p l e R s m args below meth c H locs cells slots Q (F0 m pc ls st0) := by
  have hF := g_freeW hD hS hA
  refine va_calll hr hS (fun q _ h => hF q h) hF (fun r u t H1 locs1 ht hvm hp hB hz1 hk1 hS1 => ?_)
  rw [ht] at hB
  exact kk r u H1 locs1 hp hB (g_D hD (ha u)) hS1
theorem g_wv {post : S → Prop} {w1 : S → va_W} {st0 rest : List Value} {a : Array Value} (hr : va_Run p l e R s m args below meth c H locs cells slots 0 0 (F0 m pc ls st0) rest (gQv X cl ws H.size post w1 a) (va_A ws H.size)) (hD : va_D A ws) (hS : va_S A H0 H locs) (hA : ∀ q : Nat, H0.size ≤ q → A q) (ha : ∀ u, (w1 u).map (fun q => q.1) = ws.map (fun q => q.1))
    (kk : ∀ (u : S) (H1 : Heap) (locs1 : List Loc), post u → va_P X cl (w1 u) H1 → va_D A (w1 u) → va_S A H0 H1 locs1 → W p l e R s m args below meth c H1 locs1 cells slots Q (F0 m (pc + 3) ls rest)) : W p l e R s m args below meth c H locs cells slots Q (F0 m pc ls st0) := by
  have hF := g_freeW hD hS hA
  refine va_callv hr hS (fun q _ h => hF q h) hF (fun u t H1 locs1 ht hvm hp hB hz1 hk1 hS1 => ?_)
  rw [ht] at hB
  exact kk u H1 locs1 hp hB (g_D hD (ha u)) hS1
end GW
