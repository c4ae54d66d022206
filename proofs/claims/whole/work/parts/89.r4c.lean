/-! decode: the class reads the graph, whole -/
theorem L1_L2 {a : aS} {D : dS} (h : wB a D) {b : Nat} (hbN : b + 1 < zN D) {σ : gS} (z4 : L1 a D b (zN D) σ) : L2 a D b (b + 1) σ := by
  obtain ⟨l1, l2, l3, l4, l5, l6, l7, l8, l9, l10, l11⟩ := z4
  have e := aP_0 (a := a) (D := D) (b := b) (b + 1) (Nat.le_refl _)
  unfold L2
  rw [e]
  refine ⟨l1, l2, l3, l4, l5, l7, l9, l10, fun c h1 h2 ho => ?_⟩
  have w := l11 c h1 h2 ho
  refine ⟨(offE a D c, 0), sca_init h (b + 1) (by omega) (by omega), w.1, ?_⟩
  rw [w.2]
  rfl
theorem c_rg2 {a : aS} (ha : okA a) {D : dS} (h : wB a D) {b : Nat} (hb : bdy D b) (hbN : b + 1 < zN D) {σ : gS} (hE : ∀ c, b < c → c < zN D → cE a D b c) (z4 : L1 a D b (zN D) σ) {t : Nat} (ht : 2 * zN D + 1 ≤ t) : (∃ g σ', CC a D b ∧ tgE a D b (b + 1) = some g ∧ R_H_readGraph t 2 [nI b, nI (b + 1)] σ = some (nI (sN a + oc D b g), σ') ∧ absC σ' (aP a D b (zN D)) ∧ okA (aP a D b (zN D))) ∨ (¬ CC a D b ∧ ∃ σ', R_H_readGraph t 2 [nI b, nI (b + 1)] σ = some (-1, σ') ∧ absC σ' a) := by
  have h16 : sN a + oc D b (zN D) ≤ 16 := z4.2.2.2.2.2.2.2.1
  have hsnd : ∀ c, b < c → c < zN D → snd' a D c = true := fun c h1 h2 => (hE c h1 h2).1
  have M := L1_L2 h hbN z4
  rcases c_lp2 ha h hb hbN h16 hsnd (zN D - (b + 1)) (b + 1) σ t (by omega) (by omega) (by omega) M with ⟨y1, σ'', y2, y3, y4⟩ | ⟨y1, σ'', y2, y3⟩
  · have hCC : CC a D b := CC_k.mpr ⟨⟨hE, h16⟩, fun c h1 h2 => y1 c (by omega) h2⟩
    obtain ⟨q, p1, p2', p3⟩ := desc h hb (e := b + 1) (by omega) hbN
    have hqb : q = b := by omega
    rw [hqb] at p1
    have ht := ((y1 (b + 1) (Nat.le_refl _) hbN).1 p1).1 rfl
    obtain ⟨g, hg⟩ : ∃ g, tgE a D b (b + 1) = some g := by
      cases hg : tgE a D b (b + 1) with
      | none => exact absurd hg ht
      | some g => exact ⟨g, rfl⟩
    rw [hg] at y2
    exact Or.inl ⟨g, σ'', hCC, hg, y2, y3, y4⟩
  · exact Or.inr ⟨fun q3 => y1 (fun c h1 h2 => (CC_k.mp q3).2 c (by omega) h2), σ'', y2, y3⟩
