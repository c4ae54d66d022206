/-! decode: the class reads the graph, whole -/
theorem c_rg {a : aS} (ha : okA a) {D : dS} (h : wB a D) (h0 : 0 < zN D) {σ : gS} (hc : absC σ a) (tc : tC σ D) : (∃ b g, bF D 1 (zN D - 1) none = some b ∧ sB D b ∧ CC a D b ∧ tgE a D b (b + 1) = some g ∧ ∃ σ', f_H_readGraph σ = some (nI (sN a + oc D b g), σ') ∧ absC σ' (aP a D b (zN D)) ∧ okA (aP a D b (zN D))) ∨ (¬ (∃ b, bF D 1 (zN D - 1) none = some b ∧ sB D b ∧ CC a D b) ∧ ∃ σ', f_H_readGraph σ = some (-1, σ') ∧ absC σ' a) := by
  have hn := h.1
  have hsn := ha.1
  obtain ⟨T, hT⟩ := gFx
  rw [fx_H_readGraph hT]
  unfold B_H_readGraph_0
  rw [c_fb h h0 tc, gBd_s]
  cases hbF : bF D 1 (zN D - 1) none with
  | none =>
    rw [if_pos (show oI none = -1 from rfl)]
    exact Or.inr ⟨fun ⟨b, q, _⟩ => (by cases q), σ, rfl, hc⟩
  | some b =>
    have hb := bF_bdy h0 hbF
    have hb1 := hb.1
    have hb2 := hb.2.1
    have uni : ∀ b', some b = some b' → b' = b := fun b' q => (Option.some.inj q).symm
    rw [if_neg (show ¬ oI (some b) = -1 from n_m1 (by omega)), show oI (some b) = nI b from rfl]
    rcases c_sb h hb tc with ⟨w1, w2⟩ | ⟨w1, w2⟩
    · have hbN : b + 1 < zN D := w1.2.2.2.2
      obtain ⟨σ1, a1, a2, a3, a4, a5⟩ := c_fill35 100 0 σ (T + 49999) (-1) (by omega) (by omega)
      rw [nI_0] at a1
      rw [w2, gBd_s, if_neg i10, fx_J_fill_GI hT]
      unfold B_J_fill_GI_0
      rw [a1, gBd_s, gPut_s, a2, hc.1, add_c1]
      have L : L1 a D b (b + 1) (sI σ1 11 (nI (sN a))) := by
        have hO := aO_0 (a := a) (D := D) (b := b) (b + 1) (Nat.le_refl _)
        have hoc := oc_0 D b (b + 1) (Nat.le_refl _)
        unfold L1
        rw [hO, hoc]
        refine ⟨?_, by rw [sI_ne (by decide), a2]; exact hc.1, ?_, ha, extA_r a, rfl, sI_eq _ _ _, by omega, fun c h1 h2 => by omega, fun v hv => ?_, fun c h1 h2 => by omega⟩
        · obtain ⟨q1, q2, q3, q4, q5, q6⟩ := tc
          refine ⟨by rw [sI_ne (by decide), a2]; exact q1, by rw [sI_ne (by decide), a2]; exact q2, by rw [sI_ne (by decide), a2]; exact q3, ?_, ?_, ?_⟩
          · rw [sI_2, a3 21 (by decide), a3 22 (by decide), a3 23 (by decide), a3 24 (by decide), a3 25 (by decide), a3 26 (by decide), a3 27 (by decide)]; exact q4
          · rw [sI_2, a3 28 (by decide), a3 29 (by decide), a3 30 (by decide)]; exact q5
          · rw [sI_2, a3 31 (by decide)]; exact q6
        · exact absC_of hc (by rw [sI_eq]; exact hc.1.symm) (by rw [sI_ne (by decide), sI_ne (by decide), a2]) (fun k hk => by rw [sI_2, sI_2, a3 k (by omega)])
        · rw [sI_2, wI_0 (b + 1) (Nat.le_refl _)]
          exact a4 v (by omega) hv
      rcases c_lp1 ha h (zN D - (b + 1)) (b + 1) _ (T + 49999) (by omega) (by omega) (by omega) L with ⟨z1, t', σ', z2, z3, z4⟩ | ⟨z1, σ', z2, z3⟩
      · rw [z3]
        rcases c_rg2 ha h hb hbN (fun c h1 h2 => z1 c (by omega) h2) z4 (t := t') (by omega) with ⟨g, σ'', y1, y2, y3, y4, y5⟩ | ⟨y1, σ'', y2, y3⟩
        · rw [y3]
          exact Or.inl ⟨b, g, rfl, w1, y1, y2, σ'', rfl, y4, y5⟩
        · rw [y2]
          refine Or.inr ⟨?_, σ'', rfl, y3⟩
          rintro ⟨b', q1, q2, q3⟩
          rw [uni b' q1] at q3
          exact y1 q3
      · rw [z2]
        refine Or.inr ⟨?_, σ', rfl, z3⟩
        rintro ⟨b', q1, q2, q3⟩
        rw [uni b' q1] at q3
        have := (CC_k.mp q3).1
        exact z1 ⟨fun c h1 h2 => this.1 c (by omega) h2, this.2⟩
    · rw [w2, gBd_s, if_pos rfl]
      refine Or.inr ⟨?_, σ, rfl, hc⟩
      rintro ⟨b', q1, q2, q3⟩
      rw [uni b' q1] at q2
      exact w1 q2
