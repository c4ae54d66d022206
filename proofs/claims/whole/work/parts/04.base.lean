/-! My own base: cells replaced in their places; one contract form for methods that make nothing; rows for entry, return and calls -/
def gset : va_W → List Nat → va_W → va_W
  | ws, i :: is, x :: xs => gset (ws.set i x) is xs
  | ws, _, _ => ws
theorem gset_get : ∀ (is : List Nat) (xs ws : va_W), is.length = xs.length → ∀ (k : Nat) (q : Nat × va_E), (gset ws is xs)[k]? = some q → (∃ j : Nat, xs[j]? = some q) ∨ (ws[k]? = some q ∧ k ∉ is) := by
  intro is
  induction is with
  | nil =>
    intro xs ws _ k q h
    exact Or.inr ⟨by simpa [gset] using h, List.not_mem_nil⟩
  | cons i is ih =>
    intro xs ws hl k q h
    cases xs with
    | nil => cases hl
    | cons x xs =>
      have hl' : is.length = xs.length := by simpa using hl
      rcases ih xs (ws.set i x) hl' k q h with ⟨j, hj⟩ | ⟨h1, h2⟩
      · exact Or.inl ⟨j + 1, by simpa using hj⟩
      · rw [List.getElem?_set] at h1
        by_cases hik : i = k
        · rw [if_pos hik] at h1
          by_cases hlt : i < ws.length
          · rw [if_pos hlt] at h1
            exact Or.inl ⟨0, by simpa using h1⟩
          · rw [if_neg hlt] at h1
            cases h1
        · rw [if_neg hik] at h1
          refine Or.inr ⟨h1, fun hm => ?_⟩
          rcases List.mem_cons.mp hm with h3 | h3
          · exact hik h3.symm
          · exact h2 h3
theorem g_fst {ws ws' : va_W} (h : ws'.map (fun q => q.1) = ws.map (fun q => q.1)) {k : Nat} {q : Nat × va_E} (hq : ws'[k]? = some q) : ∃ q0 : Nat × va_E, ws[k]? = some q0 ∧ q0.1 = q.1 := by
  have h1 : (ws.map (fun q => q.1))[k]? = some q.1 := by rw [← h, List.getElem?_map, hq]; rfl
  rw [List.getElem?_map] at h1
  cases h2 : ws[k]? with
  | none => rw [h2] at h1; cases h1
  | some q0 => rw [h2] at h1; exact ⟨q0, rfl, Option.some.inj h1⟩
theorem g_D {A : Nat → Prop} {ws ws' : va_W} (hD : va_D A ws) (h : ws'.map (fun q => q.1) = ws.map (fun q => q.1)) : va_D A ws' := by
  refine ⟨fun i j p q hp hq he => ?_, fun k q hq => ?_⟩
  · obtain ⟨p0, a1, a2⟩ := g_fst h hp
    obtain ⟨q0, b1, b2⟩ := g_fst h hq
    exact hD.1 i j p0 q0 a1 b1 (by rw [a2, b2, he])
  · obtain ⟨q0, b1, b2⟩ := g_fst h hq
    rw [← b2]
    exact hD.2 k q0 b1
theorem g_join {A0 : Nat → Prop} {D : va_G} {cl : List vw_C} {ws wc w1 : va_W} {H H1 : Heap} (hP : va_P D cl ws H) (hD : va_D A0 ws) (is : List Nat) (hC : is.map (fun i => ws[i]?) = wc.map some) (ha : (gset ws is w1).map (fun q => q.1) = ws.map (fun q => q.1)) (hl : is.length = w1.length)
    (hk : ∀ q : Nat, q < H.size → ¬ va_A wc H.size q → H1[q]? = H[q]?) (hP1 : va_P D cl w1 H1) : va_P D cl (gset ws is w1) H1 ∧ va_D A0 (gset ws is w1) := by
  refine ⟨fun k q hq => ?_, g_D hD ha⟩
  rcases gset_get is w1 ws hl k q hq with ⟨j, h1⟩ | ⟨h1, h2⟩
  · exact hP1 j q h1
  · have hlt := (hP k q h1).lt
    refine (hP k q h1).kept (hk q.1 hlt fun h => ?_)
    rcases h with ⟨k2, e, h⟩ | h
    · have h3 : (is.map (fun i => ws[i]?))[k2]? = some (some (q.1, e)) := by rw [hC, List.getElem?_map, h]; rfl
      rw [List.getElem?_map] at h3
      cases hi : is[k2]? with
      | none => rw [hi] at h3; cases h3
      | some i =>
        rw [hi] at h3
        have h4 := hD.1 i k (q.1, e) q (Option.some.inj h3) h1 rfl
        subst h4
        exact h2 (List.mem_of_getElem? hi)
    · omega
/-- the nest mates' links, which no list of words carries -/
def gN (U : State) : Prop := ∀ q ∈ gNs, va_Nw (.methodLinkNest q.1 q.2.1 q.2.2.1 q.2.2.2) U
theorem gN.warm {s U : State} (h : gN s) (hW : s.WarmedH U.vm) : gN U := fun q hq => va_Nw.warmM hW (h q hq)
theorem gN.same {u U : State} (h : gN u) (hv : u.vm = U.vm) : gN U := fun q hq => va_Nw.same rfl hv (h q hq)
/-- what a method is given beside its cells: nest links, the String constants (text i at aK i, its bytes at aV i), the static that says how they are held -/
def gE (aK aV : Nat → Nat) (A : Nat → Prop) (U : State) (H : Heap) : Prop := gN U ∧ (∀ q ∈ gLs, vk_R q.1 q.2.1 q.2.2.1 (aK q.2.2.2) U ∧ vk_S 1 [(gTx.getD q.2.2.2 []).length] [(gTx.getD q.2.2.2 []).map nI] (fun _ => aK q.2.2.2) (fun _ => aV q.2.2.2) A U H) ∧ va_Z "java/lang/String" "COMPACT_STRINGS" "Z" (.int 1) A U H ∧ va_Zq "jdk/internal/util/Preconditions" "SIOOBE_FORMATTER" "Ljava/util/function/BiFunction;" A U H
theorem gE.go {aK aV : Nat → Nat} {A B : Nat → Prop} {s U : State} {H H1 : Heap} (h : gE aK aV A s H) (hW : s.WarmedH U.vm) (hk : ∀ a : Nat, a < H.size → ¬ A a → H1[a]? = H[a]?) (hB : ∀ q, B q → A q) : gE aK aV B U H1 := ⟨h.1.warm hW, fun q hq => ⟨(h.2.1 q hq).1.warm hW, (((h.2.1 q hq).2.moved hW.alike).kept hk).narrow hB⟩, ((h.2.2.1.moved hW.alike).kept hk).narrow hB, ((h.2.2.2.moved hW.alike).kept hk).narrow hB⟩
theorem gE.same {aK aV : Nat → Nat} {A : Nat → Prop} {u U : State} {H : Heap} (h : gE aK aV A u H) (hv : u.vm = U.vm) : gE aK aV A U H := ⟨h.1.same hv, fun q hq => ⟨(h.2.1 q hq).1.same hv.symm, (h.2.1 q hq).2.moved (hv ▸ Vm.Alike.refl u.vm)⟩, h.2.2.1.moved (hv ▸ Vm.Alike.refl u.vm), h.2.2.2.moved (hv ▸ Vm.Alike.refl u.vm)⟩
theorem gG {big : List Cond} (hb : ∀ w ∈ gTb, w ∈ big) {c : Cond} (h : c ∈ gTb) : GoodIn big (c :: gTb) := fun w hw => by
  rcases List.mem_cons.mp hw with rfl | hw
  · exact ⟨hb _ h, good_of_word (List.mem_filter.mp h).2⟩
  · exact ⟨hb _ hw, good_of_word (List.mem_filter.mp hw).2⟩
theorem gG4 {big : List Cond} (hb : ∀ w ∈ gTb, w ∈ big) {a b c d e : Cond} (ha : a ∈ gTb) (hb1 : b ∈ gTb) (hc : c ∈ gTb) (hd : d ∈ gTb) (h : e ∈ gTb) : GoodIn big ([a, b, c, d] ++ (e :: gTb)) := fun w hw => by
  rcases List.mem_append.mp hw with hw | hw
  · have hg : w ∈ gTb := by
      simp only [List.mem_cons, List.not_mem_nil, or_false] at hw
      rcases hw with rfl | rfl | rfl | rfl <;> assumption
    exact ⟨hb _ hg, good_of_word (List.mem_filter.mp hg).2⟩
  · exact gG hb h w hw
theorem gG3 {big : List Cond} (hb : ∀ w ∈ gTb, w ∈ big) {a b c e : Cond} (ha : a ∈ gTb) (hb1 : b ∈ gTb) (hc : c ∈ gTb) (h : e ∈ gTb) : GoodIn big ([a, b, c] ++ (e :: gTb)) := fun w hw => by
  rcases List.mem_append.mp hw with hw | hw
  · have hg : w ∈ gTb := by
      simp only [List.mem_cons, List.not_mem_nil, or_false] at hw
      rcases hw with rfl | rfl | rfl <;> assumption
    exact ⟨hb _ hg, good_of_word (List.mem_filter.mp hg).2⟩
  · exact gG hb h w hw
theorem g_fm {α : Type} : ∀ (is : List Nat) (f : Nat → Option α) (wc : List α), is.map f = wc.map some → is.filterMap f = wc := by
  intro is
  induction is with
  | nil =>
    intro f wc h
    cases wc with
    | nil => rfl
    | cons x xs => cases h
  | cons i is ih =>
    intro f wc h
    cases wc with
    | nil => cases h
    | cons x xs =>
      rw [List.map_cons, List.map_cons] at h
      injection h with h1 h2
      rw [List.filterMap_cons, h1]
      show x :: is.filterMap f = x :: xs
      rw [ih f xs h2]
/-- a contract's start: the cells ws, the array classes T -/
abbrev gPc (X : va_G) (cl : List vw_C) (T : List (ClassId × FieldType)) (aK aV : Nat → Nat) (ws : va_W) (sz : Nat) (av : List Value) : Array Value → State → Prop := va_Pc av (fun U => U.heap.size = sz ∧ va_P X cl ws U.heap ∧ va_K X cl T U ∧ va_D (fun _ => True) ws ∧ gE aK aV (va_A ws sz) U U.heap)
abbrev gQi (X : va_G) (cl : List vw_C) (ws : va_W) (sz : Nat) {S : Type} (post : Int32 → S → Prop) (w1 : S → va_W) : Array Value → State → Outcome → State → Prop := va_Qi post (fun u t => va_P X cl (w1 u) t.heap) (va_A ws sz)
abbrev gQl (X : va_G) (cl : List vw_C) (ws : va_W) (sz : Nat) {S : Type} (post : Int64 → S → Prop) (w1 : S → va_W) : Array Value → State → Outcome → State → Prop := va_Ql post (fun u t => va_P X cl (w1 u) t.heap) (va_A ws sz)
abbrev gQv (X : va_G) (cl : List vw_C) (ws : va_W) (sz : Nat) {S : Type} (post : S → Prop) (w1 : S → va_W) : Array Value → State → Outcome → State → Prop := va_Qv post (fun u t => va_P X cl (w1 u) t.heap) (va_A ws sz)
/-- a constructor's end: the cells come with their being apart -/
abbrev gQn (X : va_G) (cl : List vw_C) (ws : va_W) (sz : Nat) {S : Type} (post : S → Prop) (w1 : S → va_W) : Array Value → State → Outcome → State → Prop := va_Qv post (fun u t => va_P X cl (w1 u) t.heap ∧ va_D (va_A ws sz) (w1 u)) (va_A ws sz)
theorem g_met {l : Launch} {y : MethodName} {ws ws' : List Cond} {rm : Room} {Qc : Array Value → State → Outcome → State → Prop} {mc ms : Nat} {free : Addr → Prop} {cc : ByteArray} {maxL : Nat} {ret : Option FieldType} {X : va_G} {cl : List vw_C} {T : List (ClassId × FieldType)} {aK aV : Nat → Nat} {WS : va_W} {sz : Nat} {av : List Value}
    (hy : plainName y.cls = true) (hw : ws = Cond.code y cc maxL ret :: ws') (hn : (lg_sl av).length ≤ maxL)
    (body : ∀ (p : Program) (e : Env) (s : State) (m : MethodId) (below : List Frame) (meth : Method) (c : Code) (A : Nat → Prop) (ls : Array Slot), p.tables.exec = Jvm.exec → c.code = cc → meth.sig.returnType = ret → c.maxLocals = maxL → s.vm.findClass y.cls = some m.cls → (∀ w ∈ ws, w.before av.toArray s = true) → meth.locks = false → meth.name = y.name → s.heap.size = sz → A = va_A WS sz → (∀ q : Nat, s.heap.size ≤ q → A q) → va_P X cl WS s.heap → va_K X cl T s → va_D A WS → va_S A s.heap s.heap [] → lv_has ls maxL (lv_args 0 av) → gE aK aV A s s.heap →
      W p l e (headSpec ws rm).room s m av.toArray below meth c s.heap [] 0 0 (MQ below Qc av.toArray s mc ms free) (F0 m 0 ls [])) : Met l y ws rm (gPc X cl T aK aV WS sz av) Qc mc ms free := by
  refine Met.ofW (cc := cc) (maxL := maxL) (ret := ret) hy hw ?_
  intro p e s m args below meth c s₁ B hml hv
  obtain ⟨rfl, hsz, hP, hK, hD0, hE⟩ := hv
  have hl := lv_entry av (n := maxL) hn
  rw [lg_entry_eq]
  exact body p e s m below meth c (va_A WS sz) _ B.exec B.bytes B.returns hml (findClass_of_methodNamed B.named) (atoms_spec (ws := ws) B.pre) B.notSynchronized (name_of_methodNamed B.named B.method).1 hsz rfl (fun q h => Or.inr (by rw [← hsz]; exact h)) hP hK (hD0.self (sz := sz)) va_S.rf hl hE
section G1
variable {p : Program} {l : Launch} {e : Env} {R : Room} {s : State} {m : MethodId} {args : Array Value} {below : List Frame} {meth : Method} {c : Code} {H H0 : Heap} {locs : List Loc} {cells slots : Nat} {Q : State → Prop}
variable {X : va_G} {cl : List vw_C} {T : List (ClassId × FieldType)} {ws wc WS : va_W} {A : Nat → Prop} {sz : Nat} {cc : ByteArray} {pc : Nat} {ls : Array Slot} {S : Type}
theorem g_zret {post : Int32 → S → Prop} {w1 : S → va_W} {v : Int32} {ty : FieldType} (hx : p.tables.exec = Jvm.exec) (hb : c.code = cc) (hr : meth.sig.returnType = some ty) (hlocks : meth.locks = false) (hn : narrow ty (.int v) = .int v) (hAe : A = va_A WS sz) (hS : va_S A s.heap H locs) (u : S) (hpost : post v u) (hP : va_P X cl (w1 u) H) (hdg : decode cc pc = .ok (.ireturn, 1)) : W p l e R s m args below meth c H locs cells slots (MQ below (gQi X cl WS sz post w1) args s cells slots (va_A WS sz)) (F0 m pc ls [.int v]) := by
  subst hAe
  exact W.zret hx hb hr hn (fun t ht _ => ⟨⟨v, u, rfl, hpost, (by show va_P X cl (w1 u) t.heap; rw [ht]; exact hP)⟩, hS.F ht⟩) hS.2.2 hdg hlocks
theorem g_lret {post : Int64 → S → Prop} {w1 : S → va_W} {v : Int64} (hx : p.tables.exec = Jvm.exec) (hb : c.code = cc) (hr : meth.sig.returnType = some .long) (hlocks : meth.locks = false) (hAe : A = va_A WS sz) (hS : va_S A s.heap H locs) (u : S) (hpost : post v u) (hP : va_P X cl (w1 u) H) (hdg : decode cc pc = .ok (.lreturn, 1)) : W p l e R s m args below meth c H locs cells slots (MQ below (gQl X cl WS sz post w1) args s cells slots (va_A WS sz)) (F0 m pc ls [.long v]) := by
  subst hAe
  exact W.lret hx hb hr (fun t ht _ => ⟨⟨v, u, rfl, hpost, (by show va_P X cl (w1 u) t.heap; rw [ht]; exact hP)⟩, hS.F ht⟩) hS.2.2 hdg hlocks
theorem g_vret {post : S → Prop} {w1 : S → va_W} (hx : p.tables.exec = Jvm.exec) (hb : c.code = cc) (hr : meth.sig.returnType = none) (hlocks : meth.locks = false) (hAe : A = va_A WS sz) (hS : va_S A s.heap H locs) (u : S) (hpost : post u) (hP : va_P X cl (w1 u) H) (hdg : decode cc pc = .ok (.return_, 1)) : W p l e R s m args below meth c H locs cells slots (MQ below (gQv X cl WS sz post w1) args s cells slots (va_A WS sz)) (F0 m pc ls []) := by
  subst hAe
  exact W.vret hx hb hr (fun t ht _ => ⟨⟨u, rfl, hpost, (by show va_P X cl (w1 u) t.heap; rw [ht]; exact hP)⟩, hS.F ht⟩) hS.2.2 hdg hlocks
theorem g_nret {post : S → Prop} {w1 : S → va_W} (hx : p.tables.exec = Jvm.exec) (hb : c.code = cc) (hr : meth.sig.returnType = none) (hlocks : meth.locks = false) (hAe : A = va_A WS sz) (hS : va_S A s.heap H locs) (u : S) (hpost : post u) (hP : va_P X cl (w1 u) H) (hD : va_D A (w1 u)) (hdg : decode cc pc = .ok (.return_, 1)) : W p l e R s m args below meth c H locs cells slots (MQ below (gQn X cl WS sz post w1) args s cells slots (va_A WS sz)) (F0 m pc ls []) := by
  subst hAe
  exact W.vret hx hb hr (fun t ht _ => ⟨⟨u, rfl, hpost, (by show va_P X cl (w1 u) t.heap ∧ va_D (va_A WS sz) (w1 u); rw [ht]; exact ⟨hP, hD⟩)⟩, hS.F ht⟩) hS.2.2 hdg hlocks
theorem g_preS {aK aV : Nat → Nat} {av : List Value} (hE : gE aK aV A s s.heap) (hK : va_K X cl T s) (hP : va_P X cl ws H) (hD : va_D A ws) (hS : va_S A s.heap H locs) (hA : ∀ q : Nat, s.heap.size ≤ q → A q) (is : List Nat) (hC : is.map (fun i => ws[i]?) = wc.map some) (hnd : va_nd is = true) : PreS s H (gPc X cl T aK aV wc H.size av) av := by
  refine ⟨fun a U g mk q => ?_, fun U hU hW => ⟨rfl, by rw [hU], by rw [hU]; exact hP.sub is (g_fm is _ wc hC), va_K.moved hW.alike hK, (hD.sub is hnd hC).weaken (fun _ _ _ _ => trivial), by rw [hU]; exact hE.go hW hS.2.1 (va_free (wc := wc) hD hS hA is hC)⟩⟩
  obtain ⟨q0, q1, qP, qK, qD, qE⟩ := q
  exact ⟨q0, q1, qP, va_K.moved (u := U) (U := U.calling g mk a) (Vm.Alike.refl U.vm) qK, qD, qE.same rfl⟩
theorem g_preV {aK aV : Nat → Nat} {b : Nat} {As : List Value} {C : String} {TT : u_T} {N q0 ci : Nat} {fs : List Value} (hE : gE aK aV A s s.heap) (hK : va_K X cl T s) (hP : va_P X cl ws H) (hD : va_D A ws) (hS : va_S A s.heap H locs) (hA : ∀ q : Nat, s.heap.size ≤ q → A q) (is : List Nat) (hC : is.map (fun i => ws[i]?) = wc.map some) (hnd : va_nd is = true) (hq : ws[q0]? = some (b, .inr (ci, fs))) (hc : cl[ci]? = some (C, TT, N)) : PreV s H C b (gPc X cl T aK aV wc H.size (.ref b :: As)) As := by
  have h := g_preS (av := .ref b :: As) hE hK hP hD hS hA is hC hnd
  exact ⟨h.1, va_recv hK hP hc hq, h.2⟩
theorem g_goi {post : Int32 → S → Prop} {w1 : S → va_W} {st0 rest : List Value} {a : Array Value} (hr : va_Run p l e R s m args below meth c H locs cells slots 0 0 (F0 m pc ls st0) rest (gQi X cl wc H.size post w1 a) (va_A wc H.size)) (hP : va_P X cl ws H) (hD : va_D A ws) (hS : va_S A H0 H locs) (hA : ∀ q : Nat, H0.size ≤ q → A q) (is : List Nat) (hC : is.map (fun i => ws[i]?) = wc.map some) (ha : ∀ u, (gset ws is (w1 u)).map (fun q => q.1) = ws.map (fun q => q.1)) (hl : ∀ u, is.length = (w1 u).length)
    (kk : ∀ (r : Int32) (u : S) (H1 : Heap) (locs1 : List Loc), post r u → va_P X cl (gset ws is (w1 u)) H1 → va_D A (gset ws is (w1 u)) → va_S A H0 H1 locs1 → W p l e R s m args below meth c H1 locs1 cells slots Q (F0 m (pc + 3) ls (.int r :: rest))) : W p l e R s m args below meth c H locs cells slots Q (F0 m pc ls st0) := by
  have hF := va_free (wc := wc) hD hS hA is hC
  refine va_calli hr hS (fun q _ h => hF q h) hF (fun r u t H1 locs1 ht hvm hp hB hz1 hk1 hS1 => ?_)
  rw [ht] at hB
  have hj := g_join hP hD is hC (ha u) (hl u) hk1 hB
  exact kk r u H1 locs1 hp hj.1 hj.2 hS1
theorem g_gol {post : Int64 → S → Prop} {w1 : S → va_W} {st0 rest : List Value} {a : Array Value} (hr : va_Run p l e R s m args below meth c H locs cells slots 0 0 (F0 m pc ls st0) rest (gQl X cl wc H.size post w1 a) (va_A wc H.size)) (hP : va_P X cl ws H) (hD : va_D A ws) (hS : va_S A H0 H locs) (hA : ∀ q : Nat, H0.size ≤ q → A q) (is : List Nat) (hC : is.map (fun i => ws[i]?) = wc.map some) (ha : ∀ u, (gset ws is (w1 u)).map (fun q => q.1) = ws.map (fun q => q.1)) (hl : ∀ u, is.length = (w1 u).length)
    (kk : ∀ (r : Int64) (u : S) (H1 : Heap) (locs1 : List Loc), post r u → va_P X cl (gset ws is (w1 u)) H1 → va_D A (gset ws is (w1 u)) → va_S A H0 H1 locs1 → W p l e R s m args below meth c H1 locs1 cells slots Q (F0 m (pc + 3) ls (.long r :: rest))) : W p l e R s m args below meth c H locs cells slots Q (F0 m pc ls st0) := by
  have hF := va_free (wc := wc) hD hS hA is hC
  refine va_calll hr hS (fun q _ h => hF q h) hF (fun r u t H1 locs1 ht hvm hp hB hz1 hk1 hS1 => ?_)
  rw [ht] at hB
  have hj := g_join hP hD is hC (ha u) (hl u) hk1 hB
  exact kk r u H1 locs1 hp hj.1 hj.2 hS1
theorem g_gov {post : S → Prop} {w1 : S → va_W} {st0 rest : List Value} {a : Array Value} (hr : va_Run p l e R s m args below meth c H locs cells slots 0 0 (F0 m pc ls st0) rest (gQv X cl wc H.size post w1 a) (va_A wc H.size)) (hP : va_P X cl ws H) (hD : va_D A ws) (hS : va_S A H0 H locs) (hA : ∀ q : Nat, H0.size ≤ q → A q) (is : List Nat) (hC : is.map (fun i => ws[i]?) = wc.map some) (ha : ∀ u, (gset ws is (w1 u)).map (fun q => q.1) = ws.map (fun q => q.1)) (hl : ∀ u, is.length = (w1 u).length)
    (kk : ∀ (u : S) (H1 : Heap) (locs1 : List Loc), post u → va_P X cl (gset ws is (w1 u)) H1 → va_D A (gset ws is (w1 u)) → va_S A H0 H1 locs1 → W p l e R s m args below meth c H1 locs1 cells slots Q (F0 m (pc + 3) ls rest)) : W p l e R s m args below meth c H locs cells slots Q (F0 m pc ls st0) := by
  have hF := va_free (wc := wc) hD hS hA is hC
  refine va_callv hr hS (fun q _ h => hF q h) hF (fun u t H1 locs1 ht hvm hp hB hz1 hk1 hS1 => ?_)
  rw [ht] at hB
  have hj := g_join hP hD is hC (ha u) (hl u) hk1 hB
  exact kk u H1 locs1 hp hj.1 hj.2 hS1
theorem g_gon {post : S → Prop} {w1 : S → va_W} {st0 rest : List Value} {a : Array Value} {mc ms : Nat} {wr : va_W} (hr : va_Run p l e R s m args below meth c H locs cells slots mc ms (F0 m pc ls st0) rest (gQn X cl wc H.size post w1 a) (va_A wc H.size)) (hP : va_P X cl ws H) (hD : va_D A ws) (hS : va_S A H0 H locs) (hA : ∀ q : Nat, H0.size ≤ q → A q) (isC isR : List Nat) (hC : isC.map (fun i => ws[i]?) = wc.map some) (hR : isR.map (fun i => ws[i]?) = wr.map some) (hn : va_nd isR = true) (hdis : ∀ i ∈ isR, i ∉ isC)
    (kk : ∀ (u : S) (H1 : Heap) (locs1 : List Loc), post u → va_P X cl (wr ++ w1 u) H1 → va_D A (wr ++ w1 u) → va_S A H0 H1 locs1 → W p l e R s m args below meth c H1 locs1 (cells + mc) (slots + ms) Q (F0 m (pc + 3) ls rest)) : W p l e R s m args below meth c H locs cells slots Q (F0 m pc ls st0) := by
  have hF := va_free (wc := wc) hD hS hA isC hC
  refine va_callv hr hS (fun q _ h => hF q h) hF (fun u t H1 locs1 ht hvm hp hB hz1 hk1 hS1 => ?_)
  rw [ht] at hB
  obtain ⟨hP1, hD1⟩ := va_join hP hD isC isR hC hR hn hdis hk1 hF hB.1 hB.2
  exact kk u H1 locs1 hp hP1 hD1 hS1
/-- an array whose class the world knows already -/
theorem g_newa (hexec : p.tables.exec = Jvm.exec) (hb : c.code = cc) {atype : ArrayType} (harr : (Cond.arrayClass (newarray.typeOf atype)).before args s = true) {ty : FieldType} (hty : newarray.typeOf atype = ty) (hK : va_K X cl T s) (hP : va_P X cl ws H) (hD : va_D A ws) (hS : va_S A H0 H locs) (hA : ∀ q : Nat, H0.size ≤ q → A q)
    {n : Int32} {N' : Nat} {a0 : vp_A} {rest : List Value} (t0 : Nat) {cA : ClassId} (ht : T[t0]? = some (cA, ty)) (hp : ∀ C, ty ≠ .object C) (ha : ∀ cA : ClassId, vp_cell cA a0 = arrV cA N' (fun _ => defaultValue ty)) (hn : ¬ n < 0) (hN : n.toNatClampNeg = N') (hbytes : N' * componentBytes ty ≤ 536870912) (hcells : cells + 1 ≤ R.cells) (hslots : slots + N' ≤ R.slots) (hdg : decode cc pc = .ok (.newarray atype, 2))
    (kk : ∀ (q : Nat) (H1 : Heap), va_P X cl (ws ++ [(q, .inl (cA, a0))]) H1 → va_D A (ws ++ [(q, .inl (cA, a0))]) → va_S A H0 H1 locs →
      W p l e R s m args below meth c H1 locs (cells + 1) (slots + N') Q (F0 m (pc + 2) ls (.ref q :: rest))) : W p l e R s m args below meth c H locs cells slots Q (F0 m pc ls (.int n :: rest)) := by
  refine va_newa hexec hb harr hty hK hP hD hS hA ha hn hN hbytes hcells hslots hdg (fun q cB H1 hK1 hP1 hD1 hS1 => ?_)
  have h1 := (hK.2 t0 _ ht).2
  have h2 : va_RA s cB ty := (hK1.2 T.length (cB, ty) (by rw [List.getElem?_append_right (Nat.le_refl _)]; simp)).2
  have h3 : cB = cA := by
    cases ty with
    | object C => exact absurd rfl (hp C)
    | _ => exact Option.some.inj (h2.symm.trans h1)
  subst h3
  exact kk q H1 hP1 hD1 hS1
end G1
def bI (b : Bool) : Int32 := if b then 1 else 0
theorem bI_0 {b : Bool} (h : bI b = 0) : b = false := by cases b with | false => rfl | true => exact absurd h (by decide)
theorem bI_1 {b : Bool} (h : ¬ bI b = 0) : b = true := by cases b with | true => rfl | false => exact absurd rfl h
theorem bI_nz (b : Bool) : narrow .boolean (.int (bI b)) = .int (bI b) := by cases b <;> rfl
theorem g_in {x : Int32} {n N : Nat} (h1 : ¬ x < 0) (h2 : ¬ nI n ≤ x) (hn : n ≤ N) (hN : N < 2 ^ 31) : ∃ j : Nat, j < n ∧ x = nI j ∧ vp_in x N := by
  obtain ⟨j, a, b, -⟩ := pk_mu h1 h2 (Nat.lt_of_le_of_lt hn hN)
  exact ⟨j, a, b, by rw [b]; exact vp_in_nI (Nat.lt_of_lt_of_le a hn) hN⟩
theorem g_x4 (j i : Nat) : nI j * 4 + nI i = nI (4 * j + i) := by
  rw [show (4 : Int32) = nI 4 from rfl, pk_mul, nI_add, Nat.mul_comm]
theorem g_x6 (j i : Nat) : nI j * 6 + nI i = nI (6 * j + i) := by
  rw [show (6 : Int32) = nI 6 from rfl, pk_mul, nI_add, Nat.mul_comm]
theorem g_4x (j i : Nat) : 4 * nI j + nI i = nI (4 * j + i) := by
  rw [show (4 : Int32) = nI 4 from rfl, pk_mul, nI_add]
theorem g_6x (j i : Nat) : 6 * nI j + nI i = nI (6 * j + i) := by
  rw [show (6 : Int32) = nI 6 from rfl, pk_mul, nI_add]
theorem g_arr {s : State} {args : Array Value} {ty : FieldType} (h : (Cond.arrayClass ty).before args s = true) (hp : ∀ C, ty ≠ .object C) : ∃ cA : ClassId, ArrOfT s cA ty ∧ va_RA s cA ty := by
  obtain ⟨cA, kA, comp, h1, h2, h3⟩ := Cond.arrayClass_spec h
  refine ⟨cA, fun n z => ⟨fun k h => (by cases h), kA, h2, comp, h3⟩, ?_⟩
  cases ty with
  | object C => exact absurd rfl (hp C)
  | _ => exact h1
theorem g_known {ws : List Cond} {s : State} {args : Array Value} (hts : ∀ w ∈ ws, w.before args s = true) : ∀ cl : List vw_C, (∀ q ∈ cl, (∀ w ∈ u_ws q.1 q.2.1 q.2.2, w ∈ ws) ∧ Cond.instantiable q.1 q.2.2 ∈ ws) → ∃ X : va_G, ∀ (c : Nat) (q : vw_C), cl[c]? = some q → u_Kn s q.1 q.2.1 q.2.2 (X.1 c) (X.2 c) := by
  intro cl
  induction cl with
  | nil => exact fun _ => ⟨(fun _ => 0, fun _ _ => 0), fun c q h => by simp at h⟩
  | cons q0 cl ih =>
    intro h
    obtain ⟨X, hX⟩ := ih (fun q hq => h q (List.mem_cons_of_mem _ hq))
    obtain ⟨h1, h2⟩ := h q0 List.mem_cons_self
    obtain ⟨c0, i0, h0⟩ := u_known hts h1 (hts _ h2)
    refine ⟨(fun c => match c with | 0 => c0 | c + 1 => X.1 c, fun c => match c with | 0 => i0 | c + 1 => X.2 c), fun c q hq => ?_⟩
    cases c with
    | zero =>
      have e : q0 = q := by simpa using hq
      subst e
      exact h0
    | succ c => exact hX c q (by simpa using hq)
