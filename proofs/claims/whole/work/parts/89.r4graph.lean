/-! decode: the class reads the graph -/
theorem chA_P {a x : aS} (h : sP x = sP a) (p : Nat) : chA x p = chA a p := by unfold chA; rw [h]
theorem cntA_P {a x : aS} (h : sP x = sP a) (D : dS) (i : Nat) : cntA x D i = cntA a D i := by
  have hd : ∀ f k, dv x f k = dv a f k := by
    intro f k
    induction k with
    | zero => rfl
    | succ k ih => rw [dv_s, dv_s, ih, chA_P h]
  unfold cntA
  rw [chA_P h, chA_P h, hd, hd]
theorem cIn_P {a x : aS} (h : sP x = sP a) (D : dS) (e v : Nat) : cIn x D e v = cIn a D e v := by
  unfold cIn
  cases fA D e v with
  | none => rfl
  | some i => exact cntA_P h D i
theorem wB_P {a x : aS} (h : sP x = sP a) {D : dS} (hw : wB a D) : wB x D := by
  unfold wB at hw ⊢
  rw [h]
  exact hw
def p2 (a : aS) (D : dS) (b e : Nat) : Prop := (zP D e = some b → (e = b + 1 → tgE a D b e ≠ none) ∧ (e ≠ b + 1 → ob D e = true ∧ fA D e 247 ≠ none)) ∧ ∀ q, zP D e = some q → q ≠ b → c5 a D b e q
theorem c_lp2 {a : aS} (ha : okA a) {D : dS} (h : wB a D) {b : Nat} (hb : bdy D b) (hb1 : b + 1 < zN D) (h16 : sN a + oc D b (zN D) ≤ 16) (hsnd : ∀ c, b < c → c < zN D → snd' a D c = true) : ∀ (d e : Nat) (σ : gS) (t : Nat), e + d = zN D → b < e → 2 * d + 1 ≤ t → L2 a D b e σ → ((∀ c, e ≤ c → c < zN D → p2 a D b c) ∧ ∃ σ', R_H_readGraph t 2 [nI b, nI e] σ = some (oI ((tgE a D b (b + 1)).map (fun c => sN a + oc D b c)), σ') ∧ absC σ' (aP a D b (zN D)) ∧ okA (aP a D b (zN D))) ∨ (¬ (∀ c, e ≤ c → c < zN D → p2 a D b c) ∧ ∃ σ', R_H_readGraph t 2 [nI b, nI e] σ = some (-1, σ') ∧ absC σ' a) := by
  have hn := h.1
  intro d
  induction d with
  | zero =>
    intro e σ t he hbe ht hL
    obtain ⟨t, rfl⟩ : ∃ t', t = t' + 1 := ⟨t - 1, by omega⟩
    obtain rfl : e = zN D := by omega
    obtain ⟨l1, l2, l3, l4, l5, l6, l7, l8, l9⟩ := hL
    have hP : sP (aP a D b (zN D)) = sP a := l5.2.2.2.2.1
    refine Or.inl ⟨fun c h1 h2 => by omega, sI σ 0 (nI (sN a + oc D b (zN D))), ?_, l3, l4⟩
    rw [st_H_readGraph_2]
    unfold B_H_readGraph_2
    rw [l1.1, if_pos (Int32.le_refl _), gPut_s, l6, add_c1]
    have tcx : tC (sI σ 0 (nI (sN a + oc D b (zN D)))) D := l1
    have hM := h.2.2.2.1 (b + 1) hb1
    have hr : f_H_referredBy (sI σ 0 (nI (sN a + oc D b (zN D)))) (nI (b + 1)) = some (oI ((tgE a D b (b + 1)).map (fun c => sN a + oc D b c)), sI σ 0 (nI (sN a + oc D b (zN D)))) := by
      unfold f_H_referredBy tgE
      rw [gLd_n (by omega) (by decide), sI_2, (l1.2.2.2.1 (b + 1) hb1).1]
      by_cases h18 : zM D (b + 1) = 18
      · rw [if_pos (show nI (zM D (b + 1)) = 18 by rw [h18]; rfl), if_pos h18, c_cin l4 (wB_P hP h) l3 tcx hb1 (v := 8) (x := 8) (by decide) rfl, gBd_s, cIn_P hP]
        cases c : cIn a D (b + 1) 8 with
        | none => rw [if_pos (show oI none = -1 from rfl)]; rfl
        | some v =>
          have hv := cIn_lt ha c
          rw [if_neg (show ¬ oI (some v) = -1 from n_m1 (by omega)), show oI (some v) = nI v from rfl, gLd_n (by omega) (by decide), sI_2, l8 v hv]
      · rw [if_neg (show ¬ nI (zM D (b + 1)) = 18 by rw [eq_c18 (by omega)]; exact h18), if_neg h18, gLd_n (by omega) (by decide), sI_2, l7 (b + 1) (by omega) hb1]
        cases ho : ob D (b + 1) with
        | false => rfl
        | true => rfl
    rw [hr, gBd_s]
  | succ d ih =>
    intro e σ t he hbe ht hL
    obtain ⟨t, rfl⟩ : ∃ t', t = t' + 1 + 1 := ⟨t - 2, by omega⟩
    have heN : e < zN D := by omega
    have hca := L2_a ha hL
    obtain ⟨q, p1, p2', p3⟩ := desc h hb hbe heN
    have f3 : ∀ (σ' : gS), L2 a D b (e + 1) σ' → p2 a D b e → ((∀ c, e ≤ c → c < zN D → p2 a D b c) ∧ ∃ σ'', R_H_readGraph (t + 1) 3 [nI b, nI e, 1] σ' = some (oI ((tgE a D b (b + 1)).map (fun c => sN a + oc D b c)), σ'') ∧ absC σ'' (aP a D b (zN D)) ∧ okA (aP a D b (zN D))) ∨ (¬ (∀ c, e ≤ c → c < zN D → p2 a D b c) ∧ ∃ σ'', R_H_readGraph (t + 1) 3 [nI b, nI e, 1] σ' = some (-1, σ'') ∧ absC σ'' a) := by
      intro σ' hL' hp2
      rw [st_H_readGraph_3]
      unfold B_H_readGraph_3
      rw [if_neg i10, add_c1]
      rcases ih (e + 1) σ' t (by omega) (by omega) (by omega) hL' with ⟨z1, z2⟩ | ⟨z1, z2⟩
      · refine Or.inl ⟨fun c h1 h2 => ?_, z2⟩
        by_cases c1 : c = e
        · rw [c1]; exact hp2
        · exact z1 c (by omega) h2
      · exact Or.inr ⟨fun z => z1 (fun c h1 h2 => z c (by omega) h2), z2⟩
    have f0 : ∀ (σ' : gS), absC σ' a → ¬ p2 a D b e → ((∀ c, e ≤ c → c < zN D → p2 a D b c) ∧ ∃ σ'', R_H_readGraph (t + 1) 3 [nI b, nI e, 0] σ' = some (oI ((tgE a D b (b + 1)).map (fun c => sN a + oc D b c)), σ'') ∧ absC σ'' (aP a D b (zN D)) ∧ okA (aP a D b (zN D))) ∨ (¬ (∀ c, e ≤ c → c < zN D → p2 a D b c) ∧ ∃ σ'', R_H_readGraph (t + 1) 3 [nI b, nI e, 0] σ' = some (-1, σ'') ∧ absC σ'' a) := by
      intro σ' hc' hno
      rw [st_H_readGraph_3]
      unfold B_H_readGraph_3
      rw [if_pos rfl]
      exact Or.inr ⟨fun z => hno (z e (Nat.le_refl _) heN), σ', rfl, hc'⟩
    rw [st_H_readGraph_2]
    unfold B_H_readGraph_2
    rw [hL.1.1, if_neg (show ¬ nI (zN D) ≤ nI e by rw [n_le (by omega) (by omega)]; omega), gLd_n (by omega) (by decide), (hL.1.2.2.2.1 e heN).2.1, p1, show oI (some q) = nI q from rfl]
    by_cases c : q = b
    · rw [c] at p1
      rw [if_pos (show nI q = nI b by rw [c])]
      rcases c_body2 ha h hbe heN hL h16 with ⟨w1, w2⟩ | ⟨w1, w2⟩
      · rw [w2, gBd_s]
        exact f3 σ (L2_keep hbe heN hL p1) ⟨fun _ => w1, fun q' hq' hne => by rw [p1] at hq'; exact absurd (Option.some.inj hq').symm hne⟩
      · rw [w2, gBd_s]
        exact f0 σ hca (fun z => w1 (z.1 p1))
    · rw [if_neg (show ¬ nI q = nI b by rw [n_eq (by omega) (by omega)]; exact c)]
      rcases c_fill ha h hbe heN p1 (by omega) p3 hL h16 hsnd with ⟨w1, σ', w2, w3⟩ | ⟨w1, σ', w2, w3⟩
      · rw [w2, gBd_s]
        exact f3 σ' w3 ⟨fun z => by rw [p1] at z; exact absurd (Option.some.inj z) c, fun q' hq' _ => by rw [p1] at hq'; rw [← Option.some.inj hq']; exact w1⟩
      · rw [w2, gBd_s]
        exact f0 σ' w3 (fun z => w1 (z.2 q p1 c))
theorem c_fill35 : ∀ (d i : Nat) (σ : gS) (t : Nat) (v : Int32), i + d = 100 → d + 1 ≤ t → ∃ σ', R_J_fill_GI t 1 [v, nI i, 100] σ = some (0, σ') ∧ σ'.1 = σ.1 ∧ (∀ k, k ≠ 35 → σ'.2 k = σ.2 k) ∧ (∀ j, i ≤ j → j < 100 → σ'.2 35 j = v) ∧ ∀ j, j < i → σ'.2 35 j = σ.2 35 j := by
  intro d
  induction d with
  | zero =>
    intro i σ t v hi ht
    obtain rfl : i = 100 := by omega
    obtain ⟨t, rfl⟩ : ∃ t', t = t' + 1 := ⟨t - 1, by omega⟩
    refine ⟨σ, ?_, rfl, fun _ _ => rfl, fun j h1 h2 => by omega, fun _ _ => rfl⟩
    rw [st_J_fill_GI_1]
    unfold B_J_fill_GI_1
    rw [if_pos (by decide)]
  | succ d ih =>
    intro i σ t v hi ht
    obtain ⟨t, rfl⟩ : ∃ t', t = t' + 1 := ⟨t - 1, by omega⟩
    rw [st_J_fill_GI_1]
    unfold B_J_fill_GI_1
    rw [if_neg (show ¬ 100 ≤ nI i from by rw [c100_le (by omega)]; omega), gSt_n (by omega) (by decide), add_c1]
    obtain ⟨σ', q1, q2, q3, q4, q5⟩ := ih (i + 1) (sA σ 35 (upd (σ.2 35) i v)) t v (by omega) (by omega)
    refine ⟨σ', q1, q2, fun k hk => (q3 k hk).trans (sA_ne hk), fun j h1 h2 => ?_, fun j h1 => ?_⟩
    · by_cases e : j = i
      · rw [e, q5 i (by omega), sA_eq, up_eq]
      · exact q4 j (by omega) h2
    · rw [q5 j (by omega), sA_eq, up_ne (by omega)]
theorem wI_0 {a : aS} {D : dS} {b v : Nat} : ∀ m, m ≤ b + 1 → wI a D b v m = none := by
  intro m
  induction m with
  | zero => intro _; rfl
  | succ m ih => intro h; rw [wI_n (ih (by omega)), if_neg (fun q => by omega)]
theorem CC_k {a : aS} {D : dS} {b : Nat} : CC a D b ↔ ((∀ c, b < c → c < zN D → cE a D b c) ∧ sN a + oc D b (zN D) ≤ 16) ∧ ∀ c, b < c → c < zN D → p2 a D b c := by
  constructor
  · rintro ⟨C1, C2, C3, C4, C5⟩
    exact ⟨⟨fun c h1 h2 => ⟨C1 c h1 h2, fun v ho hv => C2 c v h1 h2 ho hv⟩, C3⟩, fun c h1 h2 => ⟨fun hp => C4 c h1 h2 hp, fun q hp hq => C5 c q h1 h2 hp hq⟩⟩
  · rintro ⟨⟨E, C3⟩, P⟩
    exact ⟨fun c h1 h2 => (E c h1 h2).1, fun c v h1 h2 ho hv => (E c h1 h2).2 v ho hv, C3, fun c h1 h2 hp => (P c h1 h2).1 hp, fun c q h1 h2 hp hq => (P c h1 h2).2 q hp hq⟩
theorem c_rg {a : aS} (ha : okA a) {D : dS} (h : wB a D) (h0 : 0 < zN D) {σ : gS} (hc : absC σ a) (tc : tC σ D) : (∃ b g, bF D 1 (zN D - 1) none = some b ∧ sB D b ∧ CC a D b ∧ tgE a D b (b + 1) = some g ∧ ∃ σ', f_H_readGraph σ = some (nI (sN a + oc D b g), σ') ∧ absC σ' (aP a D b (zN D)) ∧ okA (aP a D b (zN D))) ∨ (¬ (∃ b, bF D 1 (zN D - 1) none = some b ∧ sB D b ∧ CC a D b) ∧ ∃ σ', f_H_readGraph σ = some (-1, σ') ∧ absC σ' a) := by
  have hn := h.1
  have hsn := ha.1
  obtain ⟨T, hT⟩ := gFx
  rw [fx_H_readGraph hT]
  unfold B_H_readGraph_0
  rw [c_fb h h0 tc, gBd_s]
  cases hbF : bF D 1 (zN D - 1) none with
  | none =>
    rw [if_pos (show oI none = -1 from rfl)]
    exact Or.inr ⟨fun ⟨b, q, _⟩ => (by cases q), σ, rfl, hc⟩
  | some b =>
    have hb := bF_bdy h0 hbF
    have hb1 := hb.1
    have hb2 := hb.2.1
    have uni : ∀ b', some b = some b' → b' = b := fun b' q => (Option.some.inj q).symm
    rw [if_neg (show ¬ oI (some b) = -1 from n_m1 (by omega)), show oI (some b) = nI b from rfl]
    rcases c_sb h hb tc with ⟨w1, w2⟩ | ⟨w1, w2⟩
    · have hbN : b + 1 < zN D := w1.2.2.2.2
      obtain ⟨σ1, a1, a2, a3, a4, a5⟩ := c_fill35 100 0 σ (T + 49999) (-1) (by omega) (by omega)
      rw [nI_0] at a1
      rw [w2, gBd_s, if_neg i10, fx_J_fill_GI hT]
      unfold B_J_fill_GI_0
      rw [a1, gBd_s, gPut_s, a2, hc.1, add_c1]
      have L : L1 a D b (b + 1) (sI σ1 11 (nI (sN a))) := by
        have hO := aO_0 (a := a) (D := D) (b := b) (b + 1) (Nat.le_refl _)
        have hoc := oc_0 D b (b + 1) (Nat.le_refl _)
        unfold L1
        rw [hO, hoc]
        refine ⟨?_, by rw [sI_ne (by decide), a2]; exact hc.1, ?_, ha, extA_r a, rfl, sI_eq _ _ _, by omega, fun c h1 h2 => by omega, fun v hv => ?_, fun c h1 h2 => by omega⟩
        · obtain ⟨q1, q2, q3, q4, q5, q6⟩ := tc
          refine ⟨by rw [sI_ne (by decide), a2]; exact q1, by rw [sI_ne (by decide), a2]; exact q2, by rw [sI_ne (by decide), a2]; exact q3, ?_, ?_, ?_⟩
          · rw [sI_2, a3 21 (by decide), a3 22 (by decide), a3 23 (by decide), a3 24 (by decide), a3 25 (by decide), a3 26 (by decide), a3 27 (by decide)]; exact q4
          · rw [sI_2, a3 28 (by decide), a3 29 (by decide), a3 30 (by decide)]; exact q5
          · rw [sI_2, a3 31 (by decide)]; exact q6
        · exact absC_of hc (by rw [sI_eq]; exact hc.1.symm) (by rw [sI_ne (by decide), sI_ne (by decide), a2]) (fun k hk => by rw [sI_2, sI_2, a3 k (by omega)])
        · rw [sI_2, wI_0 (b + 1) (Nat.le_refl _)]
          exact a4 v (by omega) hv
      rcases c_lp1 ha h (zN D - (b + 1)) (b + 1) _ (T + 49999) (by omega) (by omega) (by omega) L with ⟨z1, t', σ', z2, z3, z4⟩ | ⟨z1, σ', z2, z3⟩
      · rw [z3]
        have h16 := z4.2.2.2.2.2.2.2.1
        have hsnd : ∀ c, b < c → c < zN D → snd' a D c = true := fun c h1 h2 => (z1 c (by omega) h2).1
        have M : L2 a D b (b + 1) σ' := by
          obtain ⟨l1, l2, l3, l4, l5, l6, l7, l8, l9, l10, l11⟩ := z4
          unfold L2
          rw [aP_0 (b + 1) (Nat.le_refl _)]
          refine ⟨l1, l2, l3, l4, l5, l7, l9, l10, fun c h1 h2 ho => ?_⟩
          exact ⟨(offE a D c, 0), sca_init h (b + 1) (by omega) (by omega), (l11 c h1 h2 ho).1, (l11 c h1 h2 ho).2⟩
        rcases c_lp2 ha h hb hbN h16 hsnd (zN D - (b + 1)) (b + 1) σ' t' (by omega) (by omega) (by omega) M with ⟨y1, σ'', y2, y3, y4⟩ | ⟨y1, σ'', y2, y3⟩
        · have hCC : CC a D b := CC_k.mpr ⟨⟨fun c h1 h2 => z1 c (by omega) h2, h16⟩, fun c h1 h2 => y1 c (by omega) h2⟩
          have hpb : zP D (b + 1) = some b := by
            obtain ⟨q, p1, p2', p3⟩ := desc h hb (e := b + 1) (by omega) hbN
            rw [p1]
            congr 1
            omega
          have ht := ((y1 (b + 1) (Nat.le_refl _) hbN).1 hpb).1 rfl
          cases hg : tgE a D b (b + 1) with
          | none => exact absurd hg ht
          | some g =>
            rw [hg] at y2
            exact Or.inl ⟨b, g, rfl, w1, hCC, hg, σ'', y2, y3, y4⟩
        · rw [y2]
          refine Or.inr ⟨?_, σ'', rfl, y3⟩
          rintro ⟨b', q1, q2, q3⟩
          rw [uni b' q1] at q3
          exact y1 (fun c h1 h2 => (CC_k.mp q3).2 c (by omega) h2)
      · rw [z2]
        refine Or.inr ⟨?_, σ', rfl, z3⟩
        rintro ⟨b', q1, q2, q3⟩
        rw [uni b' q1] at q3
        have := (CC_k.mp q3).1
        exact z1 ⟨fun c h1 h2 => this.1 c (by omega) h2, this.2⟩
    · rw [w2, gBd_s, if_pos rfl]
      refine Or.inr ⟨?_, σ, rfl, hc⟩
      rintro ⟨b', q1, q2, q3⟩
      rw [uni b' q1] at q2
      exact w1 q2
