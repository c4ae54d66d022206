/-! decode: objects are laid on both sides -/
def tyL (x : aS) (j : Nat) : List Nat → aS
  | [] => x
  | c :: l => tyL (aTy x j c) j l
def layE (a : aS) (D : dS) (e : Nat) (x : aS) : aS := if zM D e = 16 then aMk x 0 2 else if zM D e = 1 then aMk x 1 (szO a D e) else tyL (aMk x 2 0) (sN x) (zX D e)
def aO (a : aS) (D : dS) (b : Nat) : Nat → aS
  | 0 => a
  | m + 1 => if b < m ∧ ob D m = true then layE a D m (aO a D b m) else aO a D b m
theorem aO_y {a : aS} {D : dS} {b m : Nat} (h : b < m ∧ ob D m = true) : aO a D b (m + 1) = layE a D m (aO a D b m) := if_pos h
theorem aO_n {a : aS} {D : dS} {b m : Nat} (h : ¬ (b < m ∧ ob D m = true)) : aO a D b (m + 1) = aO a D b m := if_neg h
theorem aO_0 {a : aS} {D : dS} {b : Nat} : ∀ m, m ≤ b + 1 → aO a D b m = a := by
  intro m
  induction m with
  | zero => intro _; rfl
  | succ m ih => intro h; rw [aO_n (fun q => by omega)]; exact ih (by omega)
/-- x has a's objects and more -/
def extA (a x : aS) : Prop := sN a ≤ sN x ∧ (∀ j, j < sN a → sK x j = sK a j ∧ sZ x j = sZ a j) ∧ (∀ i, i < 4 * sN a → sC x i = sC a i ∧ sV x i = sV a i) ∧ (∀ i, i < 6 * sN a → sT x i = sT a i) ∧ sP x = sP a ∧ sU x = sU a
theorem extA_r (a : aS) : extA a a := ⟨Nat.le_refl _, fun _ _ => ⟨rfl, rfl⟩, fun _ _ => ⟨rfl, rfl⟩, fun _ _ => rfl, rfl, rfl⟩
theorem extA_t {a x y : aS} (h : extA a x) (h2 : extA x y) : extA a y := by
  obtain ⟨p1, p2, p3, p4, p5, p6⟩ := h
  obtain ⟨q1, q2, q3, q4, q5, q6⟩ := h2
  exact ⟨by omega, fun j hj => ⟨(q2 j (by omega)).1.trans (p2 j hj).1, (q2 j (by omega)).2.trans (p2 j hj).2⟩, fun i hi => ⟨(q3 i (by omega)).1.trans (p3 i hi).1, (q3 i (by omega)).2.trans (p3 i hi).2⟩, fun i hi => (q4 i (by omega)).trans (p4 i hi), q5.trans p5, q6.trans p6⟩
theorem extA_mk (x : aS) (w z : Nat) : extA x (aMk x w z) := by
  refine ⟨by show sN x ≤ sN x + 1; omega, fun j hj => ⟨?_, ?_⟩, fun i hi => ⟨?_, ?_⟩, fun _ _ => rfl, rfl, rfl⟩
  · rw [mk_K, if_neg (by omega)]
  · rw [mk_Z, if_neg (by omega)]
  · rw [mk_C, if_neg (by omega)]
  · rw [mk_V, if_neg (by omega)]
/-- a letter more for j: the objects before j stay -/
theorem extA_ty {a x : aS} {j : Nat} (c : Nat) (h : extA a x) (hj : sN a ≤ j) : extA a (aTy x j c) := by
  obtain ⟨p1, p2, p3, p4, p5, p6⟩ := h
  refine ⟨p1, fun i hi => ⟨(p2 i hi).1, ?_⟩, p3, fun i hi => ?_, p5, p6⟩
  · rw [ty_Z, if_neg (by omega)]; exact (p2 i hi).2
  · rw [ty_T, if_neg (by omega)]; exact p4 i hi
theorem extA_set {a x : aS} {k c : Nat} {v : Int32} (h : extA a x) (hk : 4 * sN a ≤ k) : extA a (aSet x k c v) := by
  obtain ⟨p1, p2, p3, p4, p5, p6⟩ := h
  refine ⟨p1, p2, fun i hi => ⟨?_, ?_⟩, p4, p5, p6⟩
  · show (if i = k then c else sC x i) = _
    rw [if_neg (by omega)]; exact (p3 i hi).1
  · show (if i = k then v else sV x i) = _
    rw [if_neg (by omega)]; exact (p3 i hi).2
theorem absC_ext {a x : aS} (ha : okA a) (h : extA a x) {σ : gS} {u : Int32} (hc : absC (sI σ 0 u) x) (h0 : σ.1 0 = nI (sN a)) : absC σ a := by
  obtain ⟨p1, p2, p3, p4, p5, p6⟩ := h
  obtain ⟨q0, q1, q2, q3, q4, q5, q6⟩ := hc
  refine ⟨h0, ?_, fun j hj => ?_, fun j i hj hk hi => ?_, fun j i hj hk hi => ?_, fun p hp => ?_, fun k hk => ?_⟩
  · rw [p5] at q1; exact q1
  · have := q2 j (by omega)
    rw [(p2 j hj).1, (p2 j hj).2] at this
    exact this
  · have z := (okA_K ha hj).2.2 hk
    have := q3 j i (by omega) (by rw [(p2 j hj).1]; exact hk) (by rw [(p2 j hj).2]; exact hi)
    rw [(p3 (4 * j + i) (by omega)).1, (p3 (4 * j + i) (by omega)).2] at this
    exact this
  · have z := (okA_K ha hj).2.1
    have := q4 j i (by omega) (by rw [(p2 j hj).1]; exact hk) (by rw [(p2 j hj).2]; exact hi)
    rw [p4 (6 * j + i) (by omega)] at this
    exact this
  · have := q5 p (by rw [p5]; exact hp)
    rw [p5] at this
    exact this
  · have := q6 k hk
    rw [p6] at this
    exact this
theorem tyL_N (j : Nat) : ∀ (l : List Nat) (x : aS), sN (tyL x j l) = sN x := by
  intro l
  induction l with
  | nil => intro x; rfl
  | cons c l ih => intro x; show sN (tyL (aTy x j c) j l) = _; rw [ih]; rfl
theorem tyL_K (j : Nat) : ∀ (l : List Nat) (x : aS), sK (tyL x j l) = sK x := by
  intro l
  induction l with
  | nil => intro x; rfl
  | cons c l ih => intro x; show sK (tyL (aTy x j c) j l) = _; rw [ih]; rfl
theorem tyL_ext {a : aS} {j : Nat} (hj : sN a ≤ j) : ∀ (l : List Nat) (x : aS), extA a x → extA a (tyL x j l) := by
  intro l
  induction l with
  | nil => intro x h; exact h
  | cons c l ih => intro x h; exact ih _ (extA_ty c h hj)
theorem ok_tyL {j : Nat} : ∀ (l : List Nat) (x : aS), okA x → j < sN x → sK x j = 2 → sZ x j + l.length ≤ 6 → prL l → okA (tyL x j l) := by
  intro l
  induction l with
  | nil => intro x h _ _ _ _; exact h
  | cons c l ih =>
    intro x h hj hk hz hp
    simp only [List.length_cons] at hz
    refine ih _ (ok_ty h hj hk (by omega) (hp c (List.mem_cons_self ..))) hj hk ?_ (fun d hd => hp d (List.mem_cons_of_mem _ hd))
    rw [ty_Z, if_pos rfl]
    omega
theorem layE_N (a : aS) (D : dS) (e : Nat) (x : aS) : sN (layE a D e x) = sN x + 1 := by
  unfold layE
  split
  · rfl
  · split
    · rfl
    · rw [tyL_N]; rfl
theorem layE_ext {a0 : aS} (a : aS) (D : dS) (e : Nat) {x : aS} (h : extA a0 x) : extA a0 (layE a D e x) := by
  unfold layE
  split
  · exact extA_t h (extA_mk x 0 2)
  · split
    · exact extA_t h (extA_mk x 1 _)
    · exact tyL_ext h.1 _ _ (extA_t h (extA_mk x 2 0))
/-- an object element whose lay is sound -/
def sndO (a : aS) (D : dS) (e : Nat) : Prop := (zM D e = 16 ∨ zM D e = 1 ∨ zM D e = 20) ∧ (zM D e = 1 → ∃ n, cIn a D e 14 = some n ∧ n ≤ 4) ∧ (zM D e = 20 → (zX D e).length ≤ 6)
theorem sndO_of {a : aS} {D : dS} {e : Nat} (h : snd' a D e = true) (ho : ob D e = true) : sndO a D e := by
  obtain ⟨s1, s2, s3, s4, s5, s6, s7, s8⟩ := snd_f h
  refine ⟨ob_3.mp ho, fun q => ?_, fun q => ?_⟩
  · have := s4 q
    unfold szOK at this
    cases c : cIn a D e 14 with
    | none => rw [c] at this; cases this
    | some n =>
      rw [c] at this
      have this : n ≤ 4 ∧ _ := of_decide_eq_true this
      exact ⟨n, rfl, this.1⟩
  · have := s3 (by omega)
    rw [if_pos q] at this
    exact this
theorem szO_A {a : aS} {D : dS} {e n : Nat} (h1 : zM D e = 1) (h2 : cIn a D e 14 = some n) : szO a D e = n := by
  unfold szO
  rw [if_neg (by omega), if_pos h1, h2]
  rfl
theorem ok_lay {a : aS} {D : dS} (h : wB a D) {e : Nat} (he : e < zN D) {x : aS} (hx : okA x) (hn : sN x < 16) (hs : sndO a D e) : okA (layE a D e x) := by
  unfold layE
  by_cases e1 : zM D e = 16
  · rw [if_pos e1]; exact ok_mk hx hn (Or.inl ⟨rfl, rfl⟩)
  · rw [if_neg e1]
    by_cases e2 : zM D e = 1
    · obtain ⟨n, n1, n2⟩ := hs.2.1 e2
      rw [if_pos e2, szO_A e2 n1]
      exact ok_mk hx hn (Or.inr (Or.inl ⟨rfl, n2⟩))
    · rw [if_neg e2]
      have e3 : zM D e = 20 := by have := hs.1; omega
      refine ok_tyL _ _ (ok_mk hx hn (Or.inr (Or.inr ⟨rfl, rfl⟩))) (by show sN x < sN x + 1; omega) (by rw [mk_K, if_pos rfl]) ?_ (h.2.2.2.2.2.2.2.2.1 e he).1
      rw [mk_Z, if_pos rfl]
      have := hs.2.2 e3
      omega
/-! the class lays an object -/
theorem lay_sI (σ : gS) (u v : Int32) (j : Nat) (w z : Int32) : sI (layS (sI σ 0 u) j w z) 0 v = sI (layS σ j w z) 0 v := sI_sI (layS σ j w z) 0 u v
theorem layS_k (σ : gS) (j : Nat) (w z : Int32) {k : Nat} (hk : 6 ≤ k) : (layS σ j w z).2 k = σ.2 k := by
  unfold layS
  simp (disch := omega) only [sA_ne]
theorem layS_1 (σ : gS) (j : Nat) (w z : Int32) : (layS σ j w z).1 = σ.1 := rfl
theorem c_chrs {a : aS} {D : dS} (h : wB a D) {e : Nat} (he : e < zN D) (hk0 : kc D e = 0) {j : Nat} (hj : j < 16) : ∀ (l : List Nat) (k t : Nat) (σ : gS) (x : aS), (zX D e).drop k = l → k ≤ (zX D e).length → l.length + 1 ≤ t → okA x → absC (sI σ 0 (nI (sN x))) x → j < sN x → sK x j = 2 → sZ x j + l.length ≤ 6 → tC σ D → ∃ σ', R_H_layObject t 1 [nI e, nI j, nI k] σ = some (0, σ') ∧ absC (sI σ' 0 (nI (sN x))) (tyL x j l) ∧ σ'.1 = σ.1 ∧ ∀ k, 7 ≤ k → σ'.2 k = σ.2 k := by
  have hn := h.1
  have hC := h.2.2.1
  have hl := h.2.2.2.2.2.2.2.1 e he hk0
  have hpr := (h.2.2.2.2.2.2.2.2.1 e he).1
  intro l
  induction l with
  | nil =>
    intro k t σ x hd hk ht hx hc hjx hK hZ tc
    obtain ⟨t, rfl⟩ : ∃ t', t = t' + 1 := ⟨t - 1, by omega⟩
    have hkl : k = (zX D e).length := by
      have := congrArg List.length hd
      rw [List.length_drop] at this
      simp only [List.length_nil] at this
      omega
    refine ⟨σ, ?_, hc, rfl, fun _ _ => rfl⟩
    obtain ⟨u1, u2, u3, u4, u5, u6, u7⟩ := tc.2.2.2.1 e he
    rw [st_H_layObject_1]
    unfold B_H_layObject_1
    rw [gLd_n (by omega) (by decide), u7, if_pos (show nI (zX D e).length ≤ nI k by rw [n_le (by omega) (by omega)]; omega)]
  | cons c l ih =>
    intro k t σ x hd hk ht hx hc hjx hK hZ tc
    obtain ⟨t, rfl⟩ : ∃ t', t = t' + 1 := ⟨t - 1, by omega⟩
    simp only [List.length_cons] at ht hZ
    obtain ⟨d1, d2, d3⟩ := drop_c hd
    obtain ⟨u1, u2, u3, u4, u5, u6, u7⟩ := tc.2.2.2.1 e he
    have cell := tc.2.2.2.2.2 e he hk0 k d1
    rw [d2] at cell
    have hpc : prtN c := by have := hpr _ (gD_mem d1); rw [d2] at this; exact this
    have hc126 := hpc.2
    have z3 : σ.2 3 j = nI (sZ x j) := (hc.2.2.1 j hjx).2
    have ac : f_G_addCharacter σ (nI j) (nI c) = some (1, sA (sA σ 6 (upd (σ.2 6) (6 * j + sZ x j) (nI c))) 3 (upd (σ.2 3) j (nI (sZ x j + 1)))) := by
      unfold f_G_addCharacter
      rw [gLd_n hj (by decide), z3, if_pos (show nI (sZ x j) < 6 by rw [lt_c6 (by omega)]; omega), gLd_n hj (by decide), z3, gSt_ok (6 * j + sZ x j) (g_x6 j (sZ x j)) (by omega) (by decide), nar_c (by omega), gLd_n hj (by decide), sA_ne (by decide), z3, gSt_n hj (by decide), sA_ne (by decide), add_c1]
    have hc2 : absC (sI (sA (sA σ 6 (upd (σ.2 6) (6 * j + sZ x j) (nI c))) 3 (upd (σ.2 3) j (nI (sZ x j + 1)))) 0 (nI (sN x))) (aTy x j c) := c_ty hx hc hK hjx
    obtain ⟨σ', w1, w2, w3, w4⟩ := ih (k + 1) t _ (aTy x j c) d3 (by omega) (by omega) (ok_ty hx hjx hK (by omega) hpc) hc2 hjx hK (by rw [ty_Z, if_pos rfl]; omega) (show tC (sA (sA σ 6 (upd (σ.2 6) (6 * j + sZ x j) (nI c))) 3 (upd (σ.2 3) j (nI (sZ x j + 1)))) D from tc)
    refine ⟨σ', ?_, w2, w3, fun k hk => ?_⟩
    · rw [st_H_layObject_1]
      unfold B_H_layObject_1
      rw [gLd_n (by omega) (by decide), u7, if_neg (show ¬ nI (zX D e).length ≤ nI k by rw [n_le (by omega) (by omega)]; omega), gLd_n (by omega) (by decide), u6, nI_add, gLd_n (by omega) (by decide), cell, ac, gBd_s, add_c1]
      exact w1
    · rw [w4 k hk, sA_ne (by omega), sA_ne (by omega)]
theorem c_layO {a : aS} (ha : okA a) {D : dS} (h : wB a D) {e : Nat} (he : e < zN D) (hs : sndO a D e) (hk20 : zM D e = 20 → kc D e = 0) {x : aS} (hx : okA x) (hn : sN x < 16) (hext : extA a x) {σ : gS} (hc : absC (sI σ 0 (nI (sN x))) x) (h0 : σ.1 0 = nI (sN a)) (tc : tC σ D) : ∃ σ', f_H_layObject σ (nI e) (nI (sN x)) = some (0, σ') ∧ absC (sI σ' 0 (nI (sN x + 1))) (layE a D e x) ∧ σ'.1 = σ.1 ∧ (∀ k, 7 ≤ k → k ≠ 36 → k ≠ 37 → σ'.2 k = σ.2 k) ∧ σ'.2 36 = upd (σ.2 36) (sN x) (nI (offE a D e)) ∧ σ'.2 37 = upd (σ.2 37) (sN x) 0 := by
  have hN := h.1
  have hM := h.2.2.2.1 e he
  obtain ⟨T, hT⟩ := gFx
  have hca := absC_ext ha hext hc h0
  obtain ⟨u1, u2, u3, u4, u5, u6, u7⟩ := tc.2.2.2.1 e he
  have hoff : (if oI (cIn a D e 15) < 0 then 0 else oI (cIn a D e 15)) = nI (offE a D e) := by
    unfold offE
    cases c : cIn a D e 15 with
    | none => rw [if_pos (show oI none < 0 by decide)]; rfl
    | some v =>
      have := cIn_lt ha c
      rw [if_neg (show ¬ oI (some v) < 0 from nI_pos (by omega))]; rfl
  have hσ1 : ∃ σ1, σ1 = sA (sA σ 36 (upd (σ.2 36) (sN x) (nI (offE a D e)))) 37 (upd (σ.2 37) (sN x) 0) := ⟨_, rfl⟩
  obtain ⟨σ1, e1⟩ := hσ1
  have c1 : absC (sI σ1 0 (nI (sN x))) x := by rw [e1]; exact hc
  have tc1 : tC σ1 D := by rw [e1]; exact tc
  have k1 : ∀ k, k ≠ 36 → k ≠ 37 → σ1.2 k = σ.2 k := fun k h1 h2 => by rw [e1, sA_ne h2, sA_ne h1]
  have k36 : σ1.2 36 = upd (σ.2 36) (sN x) (nI (offE a D e)) := by rw [e1, sA_ne (by decide), sA_eq]
  have k37 : σ1.2 37 = upd (σ.2 37) (sN x) 0 := by rw [e1, sA_eq]
  have i1 : σ1.1 = σ.1 := by rw [e1]; rfl
  have mk : ∀ w z : Nat, goodMk w z → absC (sI (layS σ1 (sN x) (nI w) (nI z)) 0 (nI (sN x + 1))) (aMk x w z) := fun w z hg => by
    have := c_mk hx c1 hg
    rw [lay_sI] at this
    exact this
  have start : f_H_layObject σ (nI e) (nI (sN x)) = gLd σ1 21 533 (nI e) (fun y13 => if y13 = 16 then (gBd (f_G_lay σ1 (nI (sN x)) 0 2) (fun _ σ31 => some (0, σ31))) else (gLd σ1 21 533 (nI e) (fun y17 => if y17 = 1 then (gBd (f_H_countIn σ1 (nI e) 14) (fun y24 σ25 => gBd (f_G_lay σ25 (nI (sN x)) 1 y24) (fun _ σ28 => some (0, σ28)))) else (gBd (f_G_lay σ1 (nI (sN x)) 2 0) (fun _ σ22 => R_H_layObject (T + 49999) 1 [nI e, nI (sN x), 0] σ22))))) := by
    rw [fx_H_layObject hT]
    unfold B_H_layObject_0
    rw [c_cin ha h hca tc he (v := 15) (x := 15) (by decide) rfl, gBd_s, hoff, gSt_n hn (by decide), gSt_n hn (by decide), sA_ne (by decide), ← e1]
  have v1 : σ1.2 21 e = nI (zM D e) := (tc1.2.2.2.1 e he).1
  rw [start, gLd_n (by omega) (by decide), v1]
  unfold layE
  by_cases x16 : zM D e = 16
  · rw [if_pos (show nI (zM D e) = 16 by rw [x16]; rfl), if_pos x16, p_lay σ1 hn, gBd_s]
    refine ⟨_, rfl, mk 0 2 (Or.inl ⟨rfl, rfl⟩), ?_, fun k h1 h2 h3 => ?_, ?_, ?_⟩
    · rw [layS_1, i1]
    · rw [layS_k _ _ _ _ (by omega), k1 k h2 h3]
    · rw [layS_k _ _ _ _ (by decide), k36]
    · rw [layS_k _ _ _ _ (by decide), k37]
  · rw [if_neg (show ¬ nI (zM D e) = 16 by rw [eq_c16 (by omega)]; exact x16), if_neg x16, gLd_n (by omega) (by decide), v1]
    have hca1 := absC_ext ha hext c1 (by rw [i1]; exact h0)
    by_cases x1 : zM D e = 1
    · obtain ⟨n, n1, n2⟩ := hs.2.1 x1
      rw [if_pos (show nI (zM D e) = 1 by rw [x1]; rfl), if_pos x1, c_cin ha h hca1 tc1 he (v := 14) (x := 14) (by decide) rfl, gBd_s, n1, show oI (some n) = nI n from rfl, p_lay σ1 hn, gBd_s, szO_A x1 n1]
      refine ⟨_, rfl, mk 1 n (Or.inr (Or.inl ⟨rfl, n2⟩)), ?_, fun k h1 h2 h3 => ?_, ?_, ?_⟩
      · rw [layS_1, i1]
      · rw [layS_k _ _ _ _ (by omega), k1 k h2 h3]
      · rw [layS_k _ _ _ _ (by decide), k36]
      · rw [layS_k _ _ _ _ (by decide), k37]
    · have x20 : zM D e = 20 := by have := hs.1; omega
      have hlen := hs.2.2 x20
      rw [if_neg (show ¬ nI (zM D e) = 1 by rw [eq_c1 (by omega)]; exact x1), if_neg x1, p_lay σ1 hn, gBd_s]
      have hmk := mk 2 0 (Or.inr (Or.inr ⟨rfl, rfl⟩))
      have tc2 : tC (layS σ1 (sN x) 2 0) D := by
        obtain ⟨q1, q2, q3, q4, q5, q6⟩ := tc1
        refine ⟨q1, q2, q3, ?_, ?_, ?_⟩
        · rw [layS_k _ _ _ _ (show 6 ≤ 21 by decide), layS_k _ _ _ _ (show 6 ≤ 22 by decide), layS_k _ _ _ _ (show 6 ≤ 23 by decide), layS_k _ _ _ _ (show 6 ≤ 24 by decide), layS_k _ _ _ _ (show 6 ≤ 25 by decide), layS_k _ _ _ _ (show 6 ≤ 26 by decide), layS_k _ _ _ _ (show 6 ≤ 27 by decide)]; exact q4
        · rw [layS_k _ _ _ _ (show 6 ≤ 28 by decide), layS_k _ _ _ _ (show 6 ≤ 29 by decide), layS_k _ _ _ _ (show 6 ≤ 30 by decide)]; exact q5
        · rw [layS_k _ _ _ _ (show 6 ≤ 31 by decide)]; exact q6
      obtain ⟨σ', w1, w2, w3, w4⟩ := c_chrs h he (hk20 x20) hn (zX D e) 0 (T + 49999) (layS σ1 (sN x) 2 0) (aMk x 2 0) (List.drop_zero) (Nat.zero_le _) (by omega) (ok_mk hx hn (Or.inr (Or.inr ⟨rfl, rfl⟩))) hmk (by show sN x < sN x + 1; omega) (by rw [mk_K, if_pos rfl]) (by rw [mk_Z, if_pos rfl]; omega) tc2
      rw [nI_0] at w1
      refine ⟨σ', w1, w2, ?_, fun k h1 h2 h3 => ?_, ?_, ?_⟩
      · rw [w3, layS_1, i1]
      · rw [w4 k h1, layS_k _ _ _ _ (by omega), k1 k h2 h3]
      · rw [w4 36 (by decide), layS_k _ _ _ _ (by decide), k36]
      · rw [w4 37 (by decide), layS_k _ _ _ _ (by decide), k37]
