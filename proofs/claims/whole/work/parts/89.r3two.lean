/-! decode: slots are filled: the states, and the class's second loop -/
theorem aO_N {a : aS} {D : dS} {b : Nat} : ∀ m, sN (aO a D b m) = sN a + oc D b m := by
  intro m
  induction m with
  | zero => rfl
  | succ m ih =>
    rw [oc_s]
    by_cases c : b < m ∧ ob D m = true
    · rw [aO_y c, layE_N, ih, if_pos c]; omega
    · rw [aO_n c, ih, if_neg c]; rfl
theorem aO_kz {a : aS} {D : dS} {b : Nat} : ∀ m c, b < c → c < m → (zM D c = 16 ∨ zM D c = 1) → sK (aO a D b m) (sN a + oc D b c) ≠ 2 ∧ sZ (aO a D b m) (sN a + oc D b c) = szO a D c := by
  intro m
  induction m with
  | zero => intro c _ h; omega
  | succ m ih =>
    intro c h1 h2 hk
    have hoc : ob D c = true := ob_3.mpr (by omega)
    by_cases y : b < m ∧ ob D m = true
    · rw [aO_y y]
      by_cases c1 : c = m
      · rw [c1] at hk ⊢
        have hN : sN (aO a D b m) = sN a + oc D b m := aO_N m
        unfold layE
        rcases hk with k | k
        · rw [if_pos k, ← hN, mk_K, mk_Z, if_pos rfl, if_pos rfl]
          exact ⟨by decide, by unfold szO; rw [if_pos k]⟩
        · rw [if_neg (by omega), if_pos k, ← hN, mk_K, mk_Z, if_pos rfl, if_pos rfl]
          exact ⟨by decide, rfl⟩
      · have w := ih c h1 (by omega) hk
        have hx := layE_ext a D m (extA_r (aO a D b m))
        have hlt := oc_lt (D := D) h1 (show c < m by omega) hoc
        have hj := hx.2.1 (sN a + oc D b c) (by rw [aO_N]; omega)
        rw [hj.1, hj.2]
        exact w
    · rw [aO_n y]
      exact ih c h1 (by
        by_cases c1 : c = m
        · rw [c1] at h1 hoc; exact absurd ⟨h1, hoc⟩ y
        · omega) hk
def qP (D : dS) (e : Nat) : Nat := (zP D e).getD 0
def onE (a : aS) (D : dS) (b c : Nat) : Nat := sN a + oc D b c
def ixE (a : aS) (D : dS) (b e : Nat) : Nat := 4 * onE a D b (qP D e) + slS a D (qP D e) e
def setE (a : aS) (D : dS) (b m : Nat) (x : aS) : aS := if b < m ∧ zP D m ≠ some b ∧ zM D m ≠ 14 then (if zM D m = 9 then aSet x (ixE a D b m) 1 (nV (zX D m)).toInt32 else aSet x (ixE a D b m) 2 (nI (onE a D b ((tgE a D b m).getD 0)))) else x
def aP (a : aS) (D : dS) (b : Nat) : Nat → aS
  | 0 => aO a D b (zN D)
  | m + 1 => setE a D b m (aP a D b m)
theorem aP_s (a : aS) (D : dS) (b m : Nat) : aP a D b (m + 1) = setE a D b m (aP a D b m) := rfl
theorem setE_same (a : aS) (D : dS) (b m : Nat) (x : aS) : sN (setE a D b m x) = sN x ∧ sK (setE a D b m x) = sK x ∧ sZ (setE a D b m x) = sZ x := by
  unfold setE
  split
  · split
    · exact ⟨rfl, rfl, rfl⟩
    · exact ⟨rfl, rfl, rfl⟩
  · exact ⟨rfl, rfl, rfl⟩
theorem aP_same (a : aS) (D : dS) (b : Nat) : ∀ m, sN (aP a D b m) = sN a + oc D b (zN D) ∧ sK (aP a D b m) = sK (aO a D b (zN D)) ∧ sZ (aP a D b m) = sZ (aO a D b (zN D)) := by
  intro m
  induction m with
  | zero => exact ⟨aO_N _, rfl, rfl⟩
  | succ m ih =>
    obtain ⟨s1, s2, s3⟩ := setE_same a D b m (aP a D b m)
    rw [aP_s, s1, s2, s3]
    exact ih
theorem aP_0 {a : aS} {D : dS} {b : Nat} : ∀ m, m ≤ b + 1 → aP a D b m = aO a D b (zN D) := by
  intro m
  induction m with
  | zero => intro _; rfl
  | succ m ih =>
    intro h
    rw [aP_s, ih (by omega)]
    unfold setE
    rw [if_neg (fun q => by omega)]
theorem tgE_in {a : aS} {D : dS} {b e c : Nat} (hbe : b < e) (he : e < zN D) (h : tgE a D b e = some c) : b < c ∧ c < zN D ∧ ob D c = true := by
  unfold tgE at h
  by_cases h18 : zM D e = 18
  · rw [if_pos h18] at h
    cases c8 : cIn a D e 8 with
    | none => rw [c8] at h; cases h
    | some v =>
      rw [c8] at h
      obtain ⟨w1, w2, w3, w4⟩ := wI_in _ _ h
      exact ⟨w1, w2, w3⟩
  · rw [if_neg h18] at h
    by_cases ho : ob D e = true
    · rw [if_pos ho] at h
      rw [← Option.some.inj h]
      exact ⟨hbe, he, ho⟩
    · rw [if_neg ho] at h; cases h
/-- an element that stands in a slot: its place there is good, and so is the state behind it -/
theorem set_ok {a : aS} {D : dS} {b e q s : Nat} (hbe : b < e) (he : e < zN D) (hp : zP D e = some q) (hqb : q ≠ b) (hq : b < q) (hqe : q < e) (hkq : zM D q = 16 ∨ zM D q = 1) (hs : slS a D q e = s) (hs4 : s < 4) (ht : zM D e = 14 ∨ zM D e = 9 ∨ tgE a D b e ≠ none) {x : aS} (hx : okA x) (hxN : sN x = sN a + oc D b (zN D)) (hext : extA a x) : okA (setE a D b e x) ∧ extA a (setE a D b e x) := by
  have hoq : ob D q = true := ob_3.mpr (by omega)
  have hix : ixE a D b e = 4 * (sN a + oc D b q) + s := by
    unfold ixE onE qP
    rw [hp]
    show 4 * (sN a + oc D b q) + slS a D q e = _
    rw [hs]
  have hge : 4 * sN a ≤ ixE a D b e := by rw [hix]; omega
  unfold setE
  by_cases c : b < e ∧ zP D e ≠ some b ∧ zM D e ≠ 14
  · rw [if_pos c]
    by_cases n9 : zM D e = 9
    · rw [if_pos n9]
      exact ⟨ok_set hx ⟨by decide, fun z => (by cases z), fun z => (by cases z)⟩, extA_set hext hge⟩
    · rw [if_neg n9]
      refine ⟨ok_set hx ⟨by decide, fun z => (by cases z), fun _ => ?_⟩, extA_set hext hge⟩
      cases hc : tgE a D b e with
      | none =>
        rcases ht with w | w | w
        · exact absurd w c.2.2
        · exact absurd w n9
        · exact absurd hc w
      | some g =>
        obtain ⟨g1, g2, g3⟩ := tgE_in hbe he hc
        have := oc_lt (D := D) g1 g2 g3
        exact ⟨onE a D b g, by unfold onE; rw [hxN]; omega, rfl⟩
  · rw [if_neg c]
    exact ⟨hx, hext⟩
def L2 (a : aS) (D : dS) (b e : Nat) (σ : gS) : Prop := tC σ D ∧ σ.1 0 = nI (sN a) ∧ absC (sI σ 0 (nI (sN a + oc D b (zN D)))) (aP a D b e) ∧ okA (aP a D b e) ∧ extA a (aP a D b e) ∧ σ.1 11 = nI (sN a + oc D b (zN D)) ∧ (∀ c, b < c → c < zN D → σ.2 34 c = oI (if ob D c = true then some (sN a + oc D b c) else none)) ∧ (∀ v, v < 100 → σ.2 35 v = oI ((wI a D b v (zN D)).map (fun c => sN a + oc D b c))) ∧ ∀ c, b < c → c < zN D → ob D c = true → ∃ r, sca a D c e = some r ∧ σ.2 36 (sN a + oc D b c) = nI r.1 ∧ σ.2 37 (sN a + oc D b c) = nI r.2
theorem L2_a {a : aS} (ha : okA a) {D : dS} {b e : Nat} {σ : gS} (h : L2 a D b e σ) : absC σ a := absC_ext ha h.2.2.2.2.1 h.2.2.1 h.2.1
theorem c_ref {a : aS} (ha : okA a) {D : dS} (h : wB a D) {b e : Nat} (hbe : b < e) (he : e < zN D) {σ : gS} (hL : L2 a D b e σ) {e' : Nat} (hb' : b < e') (he' : e' < zN D) : f_H_referredBy σ (nI e') = some (oI ((tgE a D b e').map (fun c => sN a + oc D b c)), σ) := by
  have hn := h.1
  have hca := L2_a ha hL
  obtain ⟨l1, l2, l3, l4, l5, l6, l7, l8, l9⟩ := hL
  have hM := h.2.2.2.1 e' he'
  unfold f_H_referredBy tgE
  rw [gLd_n (by omega) (by decide), (l1.2.2.2.1 e' he').1]
  by_cases h18 : zM D e' = 18
  · rw [if_pos (show nI (zM D e') = 18 by rw [h18]; rfl), if_pos h18, c_cin ha h hca l1 he' (v := 8) (x := 8) (by decide) rfl, gBd_s]
    cases c : cIn a D e' 8 with
    | none => rw [if_pos (show oI none = -1 from rfl)]; rfl
    | some v =>
      have hv := cIn_lt ha c
      rw [if_neg (show ¬ oI (some v) = -1 from n_m1 (by omega)), show oI (some v) = nI v from rfl, gLd_n (by omega) (by decide), l8 v hv]
  · rw [if_neg (show ¬ nI (zM D e') = 18 by rw [eq_c18 (by omega)]; exact h18), if_neg h18, gLd_n (by omega) (by decide), l7 e' hb' he']
    cases ho : ob D e' with
    | false => rfl
    | true => rfl
theorem c_body2 {a : aS} (ha : okA a) {D : dS} (h : wB a D) {b e : Nat} (hbe : b < e) (he : e < zN D) {σ : gS} (hL : L2 a D b e σ) (h16 : sN a + oc D b (zN D) ≤ 16) : (((e = b + 1 → tgE a D b e ≠ none) ∧ (e ≠ b + 1 → ob D e = true ∧ fA D e 247 ≠ none)) ∧ f_H_mayStandInBody σ (nI e) (nI b) = some (1, σ)) ∨ (¬ ((e = b + 1 → tgE a D b e ≠ none) ∧ (e ≠ b + 1 → ob D e = true ∧ fA D e 247 ≠ none)) ∧ f_H_mayStandInBody σ (nI e) (nI b) = some (0, σ)) := by
  have hn := h.1
  have hW := h.2.1
  unfold f_H_mayStandInBody
  rw [add_c1]
  by_cases c1 : e = b + 1
  · rw [if_pos (show nI e = nI (b + 1) by rw [c1]), c_ref ha h hbe he hL hbe he, gBd_s]
    cases ht : tgE a D b e with
    | none =>
      rw [if_pos (show oI (Option.map (fun c => sN a + oc D b c) none) = -1 from rfl)]
      exact Or.inr ⟨fun q => q.1 c1 rfl, rfl⟩
    | some g =>
      obtain ⟨g1, g2, g3⟩ := tgE_in hbe he ht
      have := oc_lt (D := D) g1 g2 g3
      rw [if_neg (show ¬ oI (Option.map (fun c => sN a + oc D b c) (some g)) = -1 from n_m1 (a := sN a + oc D b g) (by omega))]
      exact Or.inl ⟨⟨fun _ => by simp, fun q => absurd c1 q⟩, rfl⟩
  · rw [if_neg (show ¬ nI e = nI (b + 1) by rw [n_eq (by omega) (by omega)]; exact c1), c_ob h hL.1 he, gBd_s]
    cases ho : ob D e with
    | false =>
      rw [bI_f, if_pos rfl]
      exact Or.inr ⟨fun q => (by have := (q.2 c1).1; cases this), rfl⟩
    | true =>
      rw [bI_t, if_neg i10, show (247 : Int32) = nI 247 from rfl, c_find h hL.1 he (by decide), gBd_s]
      cases hf : fA D e 247 with
      | none =>
        rw [if_pos (show oI none = -1 from rfl)]
        exact Or.inr ⟨fun q => (q.2 c1).2 rfl, rfl⟩
      | some i =>
        have := (fA_lt h he hf).1
        rw [if_neg (show ¬ oI (some i) = -1 from n_m1 (by omega))]
        exact Or.inl ⟨⟨fun q => absurd q c1, fun _ => ⟨rfl, by simp⟩⟩, rfl⟩
theorem L2_keep {a : aS} {D : dS} {b e : Nat} (hbe : b < e) (he : e < zN D) {σ : gS} (hL : L2 a D b e σ) (hp : zP D e = some b) : L2 a D b (e + 1) σ := by
  obtain ⟨l1, l2, l3, l4, l5, l6, l7, l8, l9⟩ := hL
  have hs : aP a D b (e + 1) = aP a D b e := by
    rw [aP_s]
    unfold setE
    rw [if_neg (fun q => q.2.1 hp)]
  unfold L2
  rw [hs]
  refine ⟨l1, l2, l3, l4, l5, l6, l7, l8, fun c h1 h2 ho => ?_⟩
  obtain ⟨r, r1, r2, r3⟩ := l9 c h1 h2 ho
  exact ⟨r, by rw [sca_no (fun z => by rw [hp] at z; have := Option.some.inj z; omega)]; exact r1, r2, r3⟩
def c5 (a : aS) (D : dS) (b e q : Nat) : Prop := ob D q = true ∧ sca a D q (e + 1) ≠ none ∧ (zM D e = 14 ∨ zM D e = 9 ∨ tgE a D b e ≠ none)
theorem c_fill {a : aS} (ha : okA a) {D : dS} (h : wB a D) {b e q : Nat} (hbe : b < e) (he : e < zN D) (hp : zP D e = some q) (hqb : b < q) (hqe : q < e) {σ : gS} (hL : L2 a D b e σ) (h16 : sN a + oc D b (zN D) ≤ 16) (hsnd : ∀ c, b < c → c < zN D → snd' a D c = true) : (c5 a D b e q ∧ ∃ σ', f_H_fillSlot σ (nI e) = some (1, σ') ∧ L2 a D b (e + 1) σ') ∨ (¬ c5 a D b e q ∧ ∃ σ', f_H_fillSlot σ (nI e) = some (0, σ') ∧ absC σ' a) := by
  have hn := h.1
  have hW := h.2.1
  have hca := L2_a ha hL
  have hL' := hL
  obtain ⟨T, hT⟩ := gFx
  obtain ⟨l1, l2, l3, l4, l5, l6, l7, l8, l9⟩ := hL
  obtain ⟨u1, u2, u3, u4, u5, u6, u7⟩ := l1.2.2.2.1 e he
  have hM := h.2.2.2.1 e he
  rw [fx_H_fillSlot hT]
  unfold B_H_fillSlot_0
  rw [gLd_n (by omega) (by decide), u2, hp, show oI (some q) = nI q from rfl, gLd_n (by omega) (by decide), l7 q hqb (by omega)]
  cases hoq : ob D q with
  | false =>
    rw [if_neg (show ¬ (false = true) by decide), if_pos (show oI none = -1 from rfl)]
    exact Or.inr ⟨fun z => (by have := z.1; rw [hoq] at this; cases this), σ, rfl, hca⟩
  | true =>
    have hlt := oc_lt (D := D) hqb (show q < zN D by omega) hoq
    have hkq : zM D q = 16 ∨ zM D q = 1 := by
      rcases ob_3.mp hoq with o | o | o
      · exact Or.inl o
      · exact Or.inr o
      · have := (snd_f (hsnd q hqb (by omega))).2.2.2.2.2.1 o
        exact absurd this (kc_pos he hp)
    have hsq := hsnd q hqb (by omega)
    have hz4 : szO a D q ≤ 4 := szO_4 (hkq.elim Or.inl (fun z => Or.inr ((snd_f hsq).2.2.2.1 z))) hkq
    obtain ⟨r, r1, r2, r3⟩ := l9 q hqb (by omega) hoq
    obtain ⟨i1, i2, i3⟩ := sca_pc hz4 _ _ r1
    have hnx := sca_nx ha hz4 _ _ r1
    have hs100 : (cIn a D e 47).getD r.1 < 100 := by
      cases z : cIn a D e 47 with
      | none => exact hnx
      | some v => exact cIn_lt ha z
    obtain ⟨s, hsdef⟩ : ∃ s, s = (cIn a D e 47).getD r.1 := ⟨_, rfl⟩
    have hslS : slS a D q e = s := by unfold slS; rw [r1, hsdef]
    have hat := snd_at (hsnd e hbe he)
    rw [if_pos rfl, if_neg (show ¬ oI (some (sN a + oc D b q)) = -1 from n_m1 (a := sN a + oc D b q) (by omega)), show (47 : Int32) = nI 47 from rfl, c_find h l1 he (by decide), gBd_s, show oI (some (sN a + oc D b q)) = nI (sN a + oc D b q) from rfl]
    have to1 : (if oI (fA D e 47) = -1 then gLd σ 36 16 (nI (sN a + oc D b q)) (fun y15 => R_H_fillSlot (T + 49999) 1 [nI e, nI (sN a + oc D b q), y15] σ) else gBd (f_H_countIn σ (nI e) (nI 47)) (fun y12 σ13 => R_H_fillSlot (T + 49999) 1 [nI e, nI (sN a + oc D b q), y12] σ13)) = R_H_fillSlot (T + 49999) 1 [nI e, nI (sN a + oc D b q), nI s] σ := by
      cases hf : fA D e 47 with
      | none =>
        have hcn : cIn a D e 47 = none := by unfold cIn; rw [hf]
        rw [if_pos (show oI none = -1 from rfl), gLd_n (by omega) (by decide), r2, hsdef, hcn]
        rfl
      | some i =>
        have hi := (fA_lt h he hf).1
        have hne := (atS_in h he hat (v := 47) (by rw [hf]; simp)).2
        rw [if_neg (show ¬ oI (some i) = -1 from n_m1 (by omega)), c_cin ha h hca l1 he (v := 47) (by decide) rfl, gBd_s, hsdef]
        cases hcc : cIn a D e 47 with
        | none => exact absurd hcc hne
        | some v => rfl
    rw [to1, show T + 49999 = T + 49998 + 1 from rfl, st_H_fillSlot_1]
    unfold B_H_fillSlot_1
    have hsame := aP_same a D b e
    have hkz := aO_kz (a := a) (D := D) (b := b) (zN D) q hqb (by omega) hkq
    have z3 : σ.2 3 (sN a + oc D b q) = nI (szO a D q) := by
      have := (l3.2.2.1 (sN a + oc D b q) (by rw [hsame.1]; omega)).2
      rw [hsame.2.2, hkz.2] at this
      exact this
    have hstep := sca_s a D q e
    rw [if_pos hp, r1] at hstep
    have hstep : sca a D q (e + 1) = if szO a D q ≤ (cIn a D e 47).getD r.1 ∨ bit r.2 ((cIn a D e 47).getD r.1) = true then none else some ((cIn a D e 47).getD r.1 + 1, r.2 + 2 ^ ((cIn a D e 47).getD r.1)) := hstep
    rw [← hsdef] at hstep
    rw [gLd_n (by omega) (by decide), z3]
    by_cases x1 : szO a D q ≤ s
    · rw [if_pos (show nI (szO a D q) ≤ nI s by rw [n_le (by omega) (by omega)]; exact x1)]
      exact Or.inr ⟨fun z => z.2.1 (by rw [hstep, if_pos (Or.inl x1)]), σ, rfl, hca⟩
    · rw [if_neg (show ¬ nI (szO a D q) ≤ nI s by rw [n_le (by omega) (by omega)]; exact x1), gLd_n (by omega) (by decide), r3, bit_c r.2 i1 s (by omega)]
      cases x2 : bit r.2 s with
      | true =>
        rw [bI_t, if_pos rfl]
        exact Or.inr ⟨fun z => z.2.1 (by rw [hstep, if_pos (Or.inr x2)]), σ, rfl, hca⟩
      | false =>
        rw [if_neg (fun z => z.elim x1 (fun w => by rw [x2] at w; cases w))] at hstep
        rw [bI_f, if_neg i01, gSt_n (by omega) (by decide), gLd_n (by omega) (by decide), sA_ne (by decide), r3, gSt_n (by omega) (by decide), sA_ne (by decide), add_c1, or_c r.2 i1 s (by omega) x2]
        obtain ⟨σ1, e1⟩ : ∃ σ1, σ1 = sA (sA σ 36 (upd (σ.2 36) (sN a + oc D b q) (nI (s + 1)))) 37 (upd (σ.2 37) (sN a + oc D b q) (nI (r.2 + 2 ^ s))) := ⟨_, rfl⟩
        rw [← e1]
        have tc1 : tC σ1 D := by rw [e1]; exact l1
        have k1 : ∀ k, k ≠ 36 → k ≠ 37 → σ1.2 k = σ.2 k := fun k h1 h2 => by rw [e1, sA_ne h2, sA_ne h1]
        have i1' : σ1.1 = σ.1 := by rw [e1]; rfl
        have c1 : absC (sI σ1 0 (nI (sN a + oc D b (zN D)))) (aP a D b e) := absC_of l3 rfl (by show σ1.1 1 = σ.1 1; rw [i1']) (fun k hk => k1 k (by omega) (by omega))
        have hca1 : absC σ1 a := absC_ext ha l5 c1 (by rw [i1']; exact l2)
        have k36 : σ1.2 36 = upd (σ.2 36) (sN a + oc D b q) (nI (s + 1)) := by rw [e1, sA_ne (by decide), sA_eq]
        have k37 : σ1.2 37 = upd (σ.2 37) (sN a + oc D b q) (nI (r.2 + 2 ^ s)) := by rw [e1, sA_eq]
        have cells9 : ∀ c, b < c → c < zN D → ob D c = true → ∃ r', sca a D c (e + 1) = some r' ∧ σ1.2 36 (sN a + oc D b c) = nI r'.1 ∧ σ1.2 37 (sN a + oc D b c) = nI r'.2 := by
          intro c h1 h2 ho
          rw [k36, k37]
          by_cases cq : c = q
          · rw [cq, up_eq, up_eq]
            exact ⟨_, hstep, rfl, rfl⟩
          · obtain ⟨r', y1, y2, y3⟩ := l9 c h1 h2 ho
            have hne : sN a + oc D b c ≠ sN a + oc D b q := by
              rcases Nat.lt_or_gt_of_ne cq with z | z
              · have := oc_lt (D := D) h1 z ho
                omega
              · have := oc_lt (D := D) hqb z hoq
                omega
            rw [up_ne hne, up_ne hne]
            exact ⟨r', by rw [sca_no (fun z => by rw [hp] at z; exact cq (Option.some.inj z).symm)]; exact y1, y2, y3⟩
        have cond : b < e ∧ zP D e ≠ some b := ⟨hbe, fun z => by rw [hp] at z; have := Option.some.inj z; omega⟩
        have hix : ixE a D b e = 4 * (sN a + oc D b q) + s := by
          unfold ixE onE qP
          rw [hp]
          show 4 * (sN a + oc D b q) + slS a D q e = _
          rw [hslS]
        have build : ∀ σ2 : gS, (zM D e = 14 ∨ zM D e = 9 ∨ tgE a D b e ≠ none) → (∀ k, σ2.1 k = σ1.1 k) → (∀ k, 6 ≤ k → σ2.2 k = σ1.2 k) → absC (sI σ2 0 (nI (sN a + oc D b (zN D)))) (setE a D b e (aP a D b e)) → L2 a D b (e + 1) σ2 := by
          intro σ2 ht g1 g2 g3
          obtain ⟨o1, o2⟩ := set_ok hbe he hp (by omega) hqb hqe hkq hslS (by omega) ht l4 hsame.1 l5
          unfold L2
          rw [aP_s]
          refine ⟨?_, by rw [g1, i1']; exact l2, g3, o1, o2, by rw [g1, i1']; exact l6, fun c h1 h2 => ?_, fun v hv => ?_, fun c h1 h2 ho => ?_⟩
          · obtain ⟨q1, q2, q3, q4, q5, q6⟩ := tc1
            refine ⟨by rw [g1]; exact q1, by rw [g1]; exact q2, by rw [g1]; exact q3, ?_, ?_, ?_⟩
            · rw [g2 21 (by decide), g2 22 (by decide), g2 23 (by decide), g2 24 (by decide), g2 25 (by decide), g2 26 (by decide), g2 27 (by decide)]; exact q4
            · rw [g2 28 (by decide), g2 29 (by decide), g2 30 (by decide)]; exact q5
            · rw [g2 31 (by decide)]; exact q6
          · rw [g2 34 (by decide), k1 34 (by decide) (by decide)]; exact l7 c h1 h2
          · rw [g2 35 (by decide), k1 35 (by decide) (by decide)]; exact l8 v hv
          · rw [g2 36 (by decide), g2 37 (by decide)]; exact cells9 c h1 h2 ho
        have setS : ∀ w v : Int32, f_G_setSlot σ1 (nI (sN a + oc D b q)) (nI s) w v = some (0, sA (sA σ1 4 (upd (σ1.2 4) (ixE a D b e) w)) 5 (upd (σ1.2 5) (ixE a D b e) v)) := fun w v => by
          rw [p_setSlot σ1 (j := sN a + oc D b q) (i := s) (by omega) (by omega) rfl, hix]
        have c5ok : (zM D e = 14 ∨ zM D e = 9 ∨ tgE a D b e ≠ none) → c5 a D b e q := fun z => ⟨hoq, by rw [hstep]; simp, z⟩
        have v1 : σ1.2 21 e = nI (zM D e) := (tc1.2.2.2.1 e he).1
        unfold f_H_holdElement
        rw [gLd_n (by omega) (by decide), v1]
        by_cases n14 : zM D e = 14
        · rw [if_pos (show nI (zM D e) = 14 by rw [n14]; rfl), gBd_s, nr_1]
          refine Or.inl ⟨c5ok (Or.inl n14), σ1, rfl, build σ1 (Or.inl n14) (fun _ => rfl) (fun _ _ => rfl) ?_⟩
          unfold setE
          rw [if_neg (fun z => z.2.2 n14)]
          exact c1
        · rw [if_neg (show ¬ nI (zM D e) = 14 by rw [eq_c14 (by omega)]; exact n14), gLd_n (by omega) (by decide), v1]
          by_cases n9 : zM D e = 9
          · have hk0 := (snd_f (hsnd e hbe he)).2.2.2.2.2.2.2 (by omega) (by omega)
            rw [if_pos (show nI (zM D e) = 9 by rw [n9]; rfl), c_num h tc1 he hk0, gBd_s, setS, gBd_s, gBd_s, nr_1]
            refine Or.inl ⟨c5ok (Or.inr (Or.inl n9)), _, rfl, build _ (Or.inr (Or.inl n9)) (fun _ => rfl) (fun k hk => by rw [sA_ne (by omega), sA_ne (by omega)]) ?_⟩
            unfold setE
            rw [if_pos ⟨cond.1, cond.2, n14⟩, if_pos n9]
            exact c_set c1
          · have hL1 : L2 a D b e σ → f_H_referredBy σ1 (nI e) = some (oI ((tgE a D b e).map (fun c => sN a + oc D b c)), σ1) := fun _ => by
              unfold f_H_referredBy tgE
              rw [gLd_n (by omega) (by decide), v1]
              by_cases h18 : zM D e = 18
              · rw [if_pos (show nI (zM D e) = 18 by rw [h18]; rfl), if_pos h18, c_cin ha h hca1 tc1 he (v := 8) (x := 8) (by decide) rfl, gBd_s]
                cases c : cIn a D e 8 with
                | none => rw [if_pos (show oI none = -1 from rfl)]; rfl
                | some v =>
                  have hv := cIn_lt ha c
                  rw [if_neg (show ¬ oI (some v) = -1 from n_m1 (by omega)), show oI (some v) = nI v from rfl, gLd_n (by omega) (by decide), k1 35 (by decide) (by decide), l8 v hv]
              · rw [if_neg (show ¬ nI (zM D e) = 18 by rw [eq_c18 (by omega)]; exact h18), if_neg h18, gLd_n (by omega) (by decide), k1 34 (by decide) (by decide), l7 e hbe he]
                cases ho : ob D e with
                | false => rfl
                | true => rfl
            rw [if_neg (show ¬ nI (zM D e) = 9 by rw [eq_c9 (by omega)]; exact n9), hL1 hL', gBd_s]
            cases ht : tgE a D b e with
            | none =>
              rw [if_pos (show oI (Option.map (fun c => sN a + oc D b c) none) = -1 from rfl), gBd_s, nr_0]
              refine Or.inr ⟨fun z => ?_, σ1, rfl, hca1⟩
              rcases z.2.2 with w | w | w
              · exact n14 w
              · exact n9 w
              · exact w ht
            | some g =>
              obtain ⟨g1, g2, g3⟩ := tgE_in hbe he ht
              have hg := oc_lt (D := D) g1 g2 g3
              have hne : tgE a D b e ≠ none := by rw [ht]; simp
              rw [if_neg (show ¬ oI (Option.map (fun c => sN a + oc D b c) (some g)) = -1 from n_m1 (a := sN a + oc D b g) (by omega)), show oI (Option.map (fun c => sN a + oc D b c) (some g)) = nI (sN a + oc D b g) from rfl, setS, gBd_s, gBd_s, nr_1]
              refine Or.inl ⟨c5ok (Or.inr (Or.inr hne)), _, rfl, build _ (Or.inr (Or.inr hne)) (fun _ => rfl) (fun k hk => by rw [sA_ne (by omega), sA_ne (by omega)]) ?_⟩
              unfold setE
              rw [if_pos ⟨cond.1, cond.2, n14⟩, if_neg n9, ht]
              exact c_set c1
