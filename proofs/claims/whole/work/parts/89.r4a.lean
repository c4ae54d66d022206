/-! decode: the class reads the graph -/
theorem chA_P {a x : aS} (h : sP x = sP a) (p : Nat) : chA x p = chA a p := by unfold chA; rw [h]
theorem cntA_P {a x : aS} (h : sP x = sP a) (D : dS) (i : Nat) : cntA x D i = cntA a D i := by
  have hd : ∀ f k, dv x f k = dv a f k := by
    intro f k
    induction k with
    | zero => rfl
    | succ k ih => rw [dv_s, dv_s, ih, chA_P h]
  unfold cntA
  rw [chA_P h, chA_P h, hd, hd]
theorem cIn_P {a x : aS} (h : sP x = sP a) (D : dS) (e v : Nat) : cIn x D e v = cIn a D e v := by
  unfold cIn
  cases fA D e v with
  | none => rfl
  | some i => exact cntA_P h D i
theorem wB_P {a x : aS} (h : sP x = sP a) {D : dS} (hw : wB a D) : wB x D := by
  unfold wB at hw ⊢
  rw [h]
  exact hw
def p2 (a : aS) (D : dS) (b e : Nat) : Prop := (zP D e = some b → (e = b + 1 → tgE a D b e ≠ none) ∧ (e ≠ b + 1 → ob D e = true ∧ fA D e 247 ≠ none)) ∧ ∀ q, zP D e = some q → q ≠ b → c5 a D b e q
theorem c_lp2 {a : aS} (ha : okA a) {D : dS} (h : wB a D) {b : Nat} (hb : bdy D b) (hb1 : b + 1 < zN D) (h16 : sN a + oc D b (zN D) ≤ 16) (hsnd : ∀ c, b < c → c < zN D → snd' a D c = true) : ∀ (d e : Nat) (σ : gS) (t : Nat), e + d = zN D → b < e → 2 * d + 1 ≤ t → L2 a D b e σ → ((∀ c, e ≤ c → c < zN D → p2 a D b c) ∧ ∃ σ', R_H_readGraph t 2 [nI b, nI e] σ = some (oI ((tgE a D b (b + 1)).map (fun c => sN a + oc D b c)), σ') ∧ absC σ' (aP a D b (zN D)) ∧ okA (aP a D b (zN D))) ∨ (¬ (∀ c, e ≤ c → c < zN D → p2 a D b c) ∧ ∃ σ', R_H_readGraph t 2 [nI b, nI e] σ = some (-1, σ') ∧ absC σ' a) := by
  have hn := h.1
  intro d
  induction d with
  | zero =>
    intro e σ t he hbe ht hL
    obtain ⟨t, rfl⟩ : ∃ t', t = t' + 1 := ⟨t - 1, by omega⟩
    obtain rfl : e = zN D := by omega
    obtain ⟨l1, l2, l3, l4, l5, l6, l7, l8, l9⟩ := hL
    have hP : sP (aP a D b (zN D)) = sP a := l5.2.2.2.2.1
    refine Or.inl ⟨fun c h1 h2 => by omega, sI σ 0 (nI (sN a + oc D b (zN D))), ?_, l3, l4⟩
    rw [st_H_readGraph_2]
    unfold B_H_readGraph_2
    rw [l1.1, if_pos (Int32.le_refl _), gPut_s, l6, add_c1]
    have tcx : tC (sI σ 0 (nI (sN a + oc D b (zN D)))) D := l1
    have hM := h.2.2.2.1 (b + 1) hb1
    have hr : f_H_referredBy (sI σ 0 (nI (sN a + oc D b (zN D)))) (nI (b + 1)) = some (oI ((tgE a D b (b + 1)).map (fun c => sN a + oc D b c)), sI σ 0 (nI (sN a + oc D b (zN D)))) := by
      unfold f_H_referredBy tgE
      rw [gLd_n (by omega) (by decide), sI_2, (l1.2.2.2.1 (b + 1) hb1).1]
      by_cases h18 : zM D (b + 1) = 18
      · rw [if_pos (show nI (zM D (b + 1)) = 18 by rw [h18]; rfl), if_pos h18, c_cin l4 (wB_P hP h) l3 tcx hb1 (v := 8) (x := 8) (by decide) rfl, gBd_s, cIn_P hP]
        cases c : cIn a D (b + 1) 8 with
        | none => rw [if_pos (show oI none = -1 from rfl)]; rfl
        | some v =>
          have hv := cIn_lt ha c
          rw [if_neg (show ¬ oI (some v) = -1 from n_m1 (by omega)), show oI (some v) = nI v from rfl, gLd_n (by omega) (by decide), sI_2, l8 v hv]
      · rw [if_neg (show ¬ nI (zM D (b + 1)) = 18 by rw [eq_c18 (by omega)]; exact h18), if_neg h18, gLd_n (by omega) (by decide), sI_2, l7 (b + 1) (by omega) hb1]
        cases ho : ob D (b + 1) with
        | false => rfl
        | true => rfl
    rw [hr, gBd_s]
  | succ d ih =>
    intro e σ t he hbe ht hL
    obtain ⟨t, rfl⟩ : ∃ t', t = t' + 1 + 1 := ⟨t - 2, by omega⟩
    have heN : e < zN D := by omega
    have hca := L2_a ha hL
    obtain ⟨q, p1, p2', p3⟩ := desc h hb hbe heN
    have f3 : ∀ (σ' : gS), L2 a D b (e + 1) σ' → p2 a D b e → ((∀ c, e ≤ c → c < zN D → p2 a D b c) ∧ ∃ σ'', R_H_readGraph (t + 1) 3 [nI b, nI e, 1] σ' = some (oI ((tgE a D b (b + 1)).map (fun c => sN a + oc D b c)), σ'') ∧ absC σ'' (aP a D b (zN D)) ∧ okA (aP a D b (zN D))) ∨ (¬ (∀ c, e ≤ c → c < zN D → p2 a D b c) ∧ ∃ σ'', R_H_readGraph (t + 1) 3 [nI b, nI e, 1] σ' = some (-1, σ'') ∧ absC σ'' a) := by
      intro σ' hL' hp2
      rw [st_H_readGraph_3]
      unfold B_H_readGraph_3
      rw [if_neg i10, add_c1]
      rcases ih (e + 1) σ' t (by omega) (by omega) (by omega) hL' with ⟨z1, z2⟩ | ⟨z1, z2⟩
      · refine Or.inl ⟨fun c h1 h2 => ?_, z2⟩
        by_cases c1 : c = e
        · rw [c1]; exact hp2
        · exact z1 c (by omega) h2
      · exact Or.inr ⟨fun z => z1 (fun c h1 h2 => z c (by omega) h2), z2⟩
    have f0 : ∀ (σ' : gS), absC σ' a → ¬ p2 a D b e → ((∀ c, e ≤ c → c < zN D → p2 a D b c) ∧ ∃ σ'', R_H_readGraph (t + 1) 3 [nI b, nI e, 0] σ' = some (oI ((tgE a D b (b + 1)).map (fun c => sN a + oc D b c)), σ'') ∧ absC σ'' (aP a D b (zN D)) ∧ okA (aP a D b (zN D))) ∨ (¬ (∀ c, e ≤ c → c < zN D → p2 a D b c) ∧ ∃ σ'', R_H_readGraph (t + 1) 3 [nI b, nI e, 0] σ' = some (-1, σ'') ∧ absC σ'' a) := by
      intro σ' hc' hno
      rw [st_H_readGraph_3]
      unfold B_H_readGraph_3
      rw [if_pos rfl]
      exact Or.inr ⟨fun z => hno (z e (Nat.le_refl _) heN), σ', rfl, hc'⟩
    rw [st_H_readGraph_2]
    unfold B_H_readGraph_2
    rw [hL.1.1, if_neg (show ¬ nI (zN D) ≤ nI e by rw [n_le (by omega) (by omega)]; omega), gLd_n (by omega) (by decide), (hL.1.2.2.2.1 e heN).2.1, p1, show oI (some q) = nI q from rfl]
    by_cases c : q = b
    · rw [c] at p1
      rw [if_pos (show nI q = nI b by rw [c])]
      rcases c_body2 ha h hbe heN hL h16 with ⟨w1, w2⟩ | ⟨w1, w2⟩
      · rw [w2, gBd_s]
        exact f3 σ (L2_keep hbe heN hL p1) ⟨fun _ => w1, fun q' hq' hne => by rw [p1] at hq'; exact absurd (Option.some.inj hq').symm hne⟩
      · rw [w2, gBd_s]
        exact f0 σ hca (fun z => w1 (z.1 p1))
    · rw [if_neg (show ¬ nI q = nI b by rw [n_eq (by omega) (by omega)]; exact c)]
      rcases c_fill ha h hbe heN p1 (by omega) p3 hL h16 hsnd with ⟨w1, σ', w2, w3⟩ | ⟨w1, σ', w2, w3⟩
      · rw [w2, gBd_s]
        exact f3 σ' w3 ⟨fun z => by rw [p1] at z; exact absurd (Option.some.inj z) c, fun q' hq' _ => by rw [p1] at hq'; rw [← Option.some.inj hq']; exact w1⟩
      · rw [w2, gBd_s]
        exact f0 σ' w3 (fun z => w1 (z.2 q p1 c))
