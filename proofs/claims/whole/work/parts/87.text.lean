/-! decode: an end, a character of a text -/
theorem smN_ge {f : Nat → Nat} {i : Nat} : ∀ n, i < n → f i ≤ smN f n := by
  intro n
  induction n with
  | zero => intro h; omega
  | succ n ih =>
    intro h
    rw [smN_s]
    by_cases e : i = n
    · rw [e]; omega
    · have := ih (by omega); omega
theorem kc_pos {D : dS} {e q : Nat} (he : e < zN D) (hq : zP D e = some q) : kc D q ≠ 0 := by
  have := smN_ge (f := fun c => if zP D c = some q then 1 else 0) (zN D) he
  have this : (if zP D e = some q then 1 else 0) ≤ kc D q := this
  rw [if_pos hq] at this
  omega
theorem end_both {a : aS} (ha : okA a) {D : dS} {p o : Nat} {S : List Nat} (h : wB a D) (hs : wS a D p (o :: S)) {σ τ : gS} (hc : absC σ a) (hm : absM τ a) (tc : tC σ D) (tmm : tM τ D) (pc : pC σ p (o :: S)) (pm : pM τ D p (o :: S)) (hp : p < (sP a).length) : pcOut a p (f_F_readEnd σ) (f_M_end τ) := by
  have hpl := ha.2.1
  obtain ⟨c8, c9, c10⟩ := pc
  obtain ⟨m2, m4, m5, m6⟩ := pm
  have c9 : σ.1 9 = nI o := c9
  have m5 : τ.1 5 = nI o := m5
  have c10 : σ.1 10 = nI (S.length + 1) := c10
  have m6 : τ.1 6 = nI (S.length + 1) := m6
  have hn := h.1
  obtain ⟨ho, hpo, hst⟩ := hs.2.2.2.2.2.1
  obtain ⟨u1, u2, u3, u4, u5, u6, u7⟩ := tc.2.2.2.1 o ho
  obtain ⟨v1, v2, v3, v4, v5⟩ := tmm.2.1 o ho
  have hM := h.2.2.2.1 o ho
  obtain ⟨k, hk⟩ := nk_ex a (p + 2)
  have hk7 := hk.1
  have hc1 := absC_I hc (k := 8) (by decide) (nI (p + 2))
  have cn := c_name ha (by omega) hk hc1 (sI_eq _ _ _)
  rw [sI_sI] at cn
  have mn := m_name ha (by omega) hk hm
  have hc2 := absC_I hc (k := 8) (by decide) (nI (p + 2 + min k 6))
  have hm1 := absM_I hm (k := 7) (by decide) (nI (p + 2 + k))
  have hsk := c_skip ha hc2 (p := p + 2 + min k 6) (c := 62) (by omega) (sI_eq _ _ _) (by decide) (by decide) (x := 62) rfl
  unfold f_F_readEnd f_M_end
  rw [gPut_s, c8, show nI p + 2 = nI (p + 2) from add_c2 p, cn, gBd_s, sI_ne (by decide), c9, gLd_n (by omega) (by decide), sI_2, u1, m5, if_neg (nI_pos (by omega)), m4, show nI p + 2 = nI (p + 2) from add_c2 p, mn, gBd_s, sI_ne (by decide), m5, gLd_n (by omega) (by decide), sI_2, v1]
  by_cases hbad : k = 0 ∨ k = 7
  · rw [if_pos hbad, if_neg (show ¬ (-1 : Int32) = nI (zM D o) from m1_n (by omega))]
    by_cases e : nI (nv a (p + 2) (min k 6)) = nI (zM D o)
    · rw [if_pos e, hsk]
      have hne : ¬ chA a (p + 2 + min k 6) = 62 := by
        rcases hbad with k0 | k7
        · rw [k0] at e
          have e : nI 0 = nI (zM D o) := e
          rw [n_eq (by omega) (by omega)] at e
          omega
        · have := hk.2.1 6 (by omega)
          unfold isL at this
          rw [show min k 6 = 6 by omega]
          omega
      rw [if_neg hne, gBd_s, if_pos rfl]
      exact Or.inl ⟨_, _, rfl, rfl, hc2, hm1⟩
    · rw [if_neg e]
      exact Or.inl ⟨_, _, rfl, rfl, hc2, hm1⟩
  · have k6 : min k 6 = k := by omega
    have hv := nv_6 hk (by omega)
    rw [k6] at hsk hc2 ⊢
    rw [if_neg hbad]
    by_cases e : nI (nv a (p + 2) k) = nI (zM D o)
    · have c127 := chA_lt ha (p + 2 + k)
      rw [if_pos e, if_pos e, hsk, sI_eq, m_or0 ha hm1 (by omega), gBd_s]
      by_cases h62 : chA a (p + 2 + k) = 62
      · have hin := chA_in (a := a) (p := p + 2 + k) (by rw [h62]; decide)
        rw [if_pos h62, gBd_s, if_neg i10, if_pos (show nI (chA a (p + 2 + k)) = 62 by rw [h62]; rfl), sI_sI, sI_ne (by decide), c9, gLd_n (by omega) (by decide), sI_2, u2, gPut_s, gPut_s, sI_ne (by decide), sI_ne (by decide), c10, nI_pred, gPut_s, sI_eq, add_c1, sI_ne (by decide), sI_ne (by decide), m5, gLd_n (by omega) (by decide), sI_2, sI_2, v2, gPut_s, gPut_s, sI_ne (by decide), sI_ne (by decide), sI_ne (by decide), m6, nI_pred]
        refine Or.inr ⟨_, _, D, p + 2 + k + 1, S, rfl, rfl, absC_I (absC_I (absC_I hc (by decide) _) (by decide) _) (by decide) _, absM_I (absM_I (absM_I hm1 (by decide) _) (by decide) _) (by decide) _, tC_I (tC_I (tC_I tc (by decide) _) (by decide) _) (by decide) _, tM_I (tM_I (tM_I (tM_I tmm (by decide) _) (by decide) _) (by decide) _) (by decide) _, h, ⟨?_, ?_, ?_, by omega, ?_, hst, fun q S' hS' hkq => ?_, fun b hb hpb z hz hzb => hs.2.2.2.2.2.2.2.1 b hb hpb z (List.mem_cons_of_mem _ hz) hzb, fun z => by omega⟩, by omega, by omega, ⟨?_, ?_, ?_⟩, ?_, ?_, ?_, ?_⟩
        · have := hs.1
          rw [List.length_cons] at this
          omega
        · have := hs.2.1
          omega
        · have := hs.2.2.1
          omega
        · have := hs.2.2.2.2.1
          rw [List.length_cons] at this
          omega
        · rw [hS'] at hpo
          exact absurd hkq (kc_pos ho hpo)
        · rw [sI_ne (by decide), sI_ne (by decide), sI_eq]
        · rw [sI_ne (by decide), sI_eq, hpo]
        · rw [sI_eq]
        · rw [sI_ne (by decide), sI_ne (by decide), sI_ne (by decide), sI_ne (by decide)]; exact m2
        · rw [sI_ne (by decide), sI_ne (by decide), sI_eq]
        · rw [sI_ne (by decide), sI_eq, hpo]
        · rw [sI_eq]
      · rw [if_neg h62, gBd_s, if_pos rfl, if_neg (show ¬ nI (chA a (p + 2 + k)) = 62 by rw [eq_c62 (by omega)]; exact h62)]
        exact Or.inl ⟨_, _, rfl, rfl, hc2, hm1⟩
    · rw [if_neg e, if_neg e]
      exact Or.inl ⟨_, _, rfl, rfl, hc2, hm1⟩
/-! a character -/
theorem kc_addX (D : dS) (o c e : Nat) : kc (addX D o c) e = kc D e := rfl
theorem c_addX {a : aS} {D : dS} (h : wB a D) (hC : zC D < 1600) {σ : gS} (ht : tC σ D) {o c : Nat} (ho : o < zN D) (hc : prtN c) (hcur : kc D o = 0 → zS D o + (zX D o).length = zC D) : ∃ σ', f_E_addText σ (nI o) (nI c) = some (1, σ') ∧ tC σ' (addX D o c) ∧ (∀ k, k ≠ 7 → σ'.1 k = σ.1 k) ∧ ∀ k, k < 21 → σ'.2 k = σ.2 k := by
  have hn := h.1
  have c126 := hc.2
  obtain ⟨t1, t2, t3, t4, t5, t6⟩ := ht
  obtain ⟨u1, u2, u3, u4, u5, u6, u7⟩ := t4 o ho
  unfold f_E_addText
  rw [if_neg (n_m1 (by omega)), t3, if_pos (show nI (zC D) < 1600 by rw [lt_c1600 (by omega)]; exact hC), ch_n (by omega), nar_c (by omega)]
  simp (disch := omega) only [gSt_n, gLd_n, sA_1, sA_ne, gPut_s, t3, u7, add_c1]
  refine ⟨_, rfl, ⟨t1, t2, ?_, fun e he => ?_, fun i hi => ?_, fun e he hk k hk2 => ?_⟩, fun k hk => sI_ne hk, fun k hk => ?_⟩
  · rw [sI_eq]; rfl
  · have he : e < zN D := he
    obtain ⟨v1, v2, v3, v4, v5, v6, v7⟩ := t4 e he
    simp (disch := decide) only [sI_2, sA_eq, sA_ne]
    refine ⟨v1, v2, v3, v4, v5, v6, ?_⟩
    show _ = nI (fU (zX D) o (zX D o ++ [c]) e).length
    by_cases e0 : e = o
    · rw [e0, up_eq, fU_e, List.length_append]; rfl
    · rw [up_ne e0, fU_n e0]; exact v7
  · simp (disch := decide) only [sI_2, sA_ne]
    exact t5 i hi
  · have he : e < zN D := he
    have hk : kc D e = 0 := hk
    have hk2 : k < (fU (zX D) o (zX D o ++ [c]) e).length := hk2
    simp (disch := decide) only [sI_2, sA_eq, sA_ne]
    show upd (σ.2 31) (zC D) (nI c) (zS D e + k) = nI ((fU (zX D) o (zX D o ++ [c]) e).getD k 0)
    by_cases e0 : e = o
    · rw [e0] at hk
      rw [e0, fU_e, List.length_append] at hk2
      simp only [List.length_singleton] at hk2
      have hcu := hcur hk
      rw [e0, fU_e, app_getD]
      by_cases e1 : k = (zX D o).length
      · rw [e1, hcu, up_eq, if_pos rfl]
      · rw [up_ne (by omega), if_neg e1]
        exact t6 o ho hk k (by omega)
    · rw [fU_n e0] at hk2 ⊢
      have := h.2.2.2.2.2.2.2.1 e he hk
      rw [up_ne (by omega)]
      exact t6 e he hk k hk2
  · simp (disch := omega) only [sI_2, sA_ne]
theorem m_addX {a : aS} {D : dS} (h : wB a D) (hC : zC D < 1600) {τ : gS} (ht : tM τ D) (hm : absM τ a) {o c : Nat} (ho : o < zN D) (hc : prtN c) (m5 : τ.1 5 = nI o) (p' t : Nat) : ∃ τ', R_M_content (t + 2) 11 [nI c, nI p'] τ = some (1, τ') ∧ tM τ' (addX D o c) ∧ absM τ' a ∧ τ'.1 4 = nI p' ∧ ∀ k, k ≠ 4 → τ'.1 k = τ.1 k := by
  have hn := h.1
  have c126 := hc.2
  obtain ⟨t1, t2, t3, t4⟩ := ht
  obtain ⟨v1, v2, v3, v4, v5⟩ := t2 o ho
  have hl := (h.2.2.2.2.2.2.2.2.1 o ho).2
  have tail : ∀ τ1 : gS, (∀ k, τ1.1 k = τ.1 k) → (∀ k, k ≠ 13 → τ1.2 k = τ.2 k) → (∀ e, e < zN D → ∀ k, k < 12 → k < (zX (addX D o c) e).length → τ1.2 13 (12 * e + k) = nI ((zX (addX D o c) e).getD k 0)) → ∃ τ', R_M_content (t + 1) 12 [nI p'] τ1 = some (1, τ') ∧ tM τ' (addX D o c) ∧ absM τ' a ∧ τ'.1 4 = nI p' ∧ ∀ k, k ≠ 4 → τ'.1 k = τ.1 k := by
    intro τ1 g1 g2 g3
    rw [st_M_content_12]
    unfold B_M_content_12
    rw [g1 5, m5, gLd_n (by omega) (by decide), g2 12 (by decide), v5, gSt_n (by omega) (by decide), add_c1, gPut_s]
    refine ⟨_, rfl, ⟨?_, fun e he => ?_, fun i hi => ?_, fun e he k hk hk2 => ?_⟩, absM_of hm ?_ ?_ (fun k hk => ?_), sI_eq _ _ _, fun k hk => ?_⟩
    · rw [sI_ne (by decide), sA_1, g1 3]; exact t1
    · have he : e < zN D := he
      obtain ⟨w1, w2, w3, w4, w5⟩ := t2 e he
      simp (disch := decide) only [sI_2, sA_eq, sA_ne, g2]
      refine ⟨w1, w2, w3, w4, ?_⟩
      show _ = nI (fU (zX D) o (zX D o ++ [c]) e).length
      by_cases e0 : e = o
      · rw [e0, up_eq, fU_e, List.length_append]; rfl
      · rw [up_ne e0, fU_n e0]; exact w5
    · simp (disch := decide) only [sI_2, sA_ne, g2]
      exact t3 i hi
    · rw [sI_2, sA_ne (by decide)]
      exact g3 e he k hk hk2
    · rw [sI_ne (by decide), sA_1, g1 0]
    · rw [sI_ne (by decide), sA_1, g1 1]
    · rw [sI_2, sA_ne (by omega), g2 k (by omega)]
    · rw [sI_ne hk, sA_1, g1 k]
  rw [show t + 2 = t + 1 + 1 from rfl, st_M_content_11]
  unfold B_M_content_11
  rw [m5, gLd_n (by omega) (by decide), v5]
  by_cases e12 : 12 ≤ (zX D o).length
  · rw [if_pos (show (12 : Int32) ≤ nI (zX D o).length by rw [c12_le (by omega)]; exact e12)]
    refine tail τ (fun _ => rfl) (fun _ _ => rfl) (fun e he k hk hk2 => ?_)
    have hk2 : k < (fU (zX D) o (zX D o ++ [c]) e).length := hk2
    show _ = nI ((fU (zX D) o (zX D o ++ [c]) e).getD k 0)
    by_cases e0 : e = o
    · rw [e0, fU_e, app_getD, if_neg (by omega)]
      exact t4 o ho k hk (by omega)
    · rw [fU_n e0] at hk2 ⊢
      exact t4 e he k hk hk2
  · rw [if_neg (show ¬ (12 : Int32) ≤ nI (zX D o).length by rw [c12_le (by omega)]; exact e12), gLd_n (by omega) (by decide), v5, show 12 * nI o = nI (12 * o) from pk_mul 12 o, nI_add, gSt_n (by omega) (by decide), ch_n (by omega), nar_c (by omega)]
    refine tail _ (fun _ => rfl) (fun _ hk => sA_ne hk) (fun e he k hk hk2 => ?_)
    have hk2 : k < (fU (zX D) o (zX D o ++ [c]) e).length := hk2
    show upd (τ.2 13) (12 * o + (zX D o).length) (nI c) (12 * e + k) = nI ((fU (zX D) o (zX D o ++ [c]) e).getD k 0)
    by_cases e0 : e = o
    · rw [e0, fU_e, List.length_append] at hk2
      simp only [List.length_singleton] at hk2
      rw [e0, fU_e, app_getD]
      by_cases e1 : k = (zX D o).length
      · rw [e1, up_eq, if_pos rfl]
      · rw [up_ne (by omega), if_neg e1]
        exact t4 o ho k hk (by omega)
    · rw [fU_n e0] at hk2 ⊢
      rw [up_ne (by omega)]
      exact t4 e he k hk hk2
theorem wB_addX {a : aS} {D : dS} (h : wB a D) (hC : zC D < 1600) {o c : Nat} (hc : prtN c) (hcur : kc D o = 0 → zS D o + (zX D o).length = zC D) : wB a (addX D o c) := by
  obtain ⟨h1, h2, h3, h4, h5, h6, h7, h8, h9, h10, h11⟩ := h
  refine ⟨h1, h2, hC, h4, h5, h6, h7, fun e he hk => ?_, fun e he => ?_, h10, h11⟩
  · have hk : kc D e = 0 := hk
    show zS D e + (fU (zX D) o (zX D o ++ [c]) e).length ≤ zC D + 1
    by_cases e0 : e = o
    · rw [e0] at hk
      have := hcur hk
      rw [e0, fU_e, List.length_append]
      simp only [List.length_singleton]
      omega
    · rw [fU_n e0]
      have := h8 e he hk
      omega
  · show prL (fU (zX D) o (zX D o ++ [c]) e) ∧ (fU (zX D) o (zX D o ++ [c]) e).length ≤ zC D + 1
    have he : e < zN D := he
    by_cases e0 : e = o
    · rw [e0] at he
      have := h9 o he
      rw [e0, fU_e, List.length_append]
      simp only [List.length_singleton]
      refine ⟨prL_app this.1 (fun q hq => ?_), by omega⟩
      rw [List.mem_singleton.mp hq]
      exact hc
    · rw [fU_n e0]
      have := h9 e he
      exact ⟨this.1, by omega⟩
/-- both add c to the text of the innermost element and go on at p' -/
theorem ch_both {a : aS} (ha : okA a) {D : dS} {p o c p' : Nat} {S : List Nat} (h : wB a D) (hs : wS a D p (o :: S)) {σ τ : gS} (hc : absC σ a) (hm : absM τ a) (tc : tC σ D) (tmm : tM τ D) (c8 : σ.1 8 = nI p') (c9 : σ.1 9 = nI o) (c10 : σ.1 10 = nI (o :: S).length) (pm : pM τ D p (o :: S)) (hp : p < (sP a).length) (hcc : prtN c) (hp' : p < p') (hp2 : p' ≤ (sP a).length) (t : Nat) : ∃ σ' τ' D' S', f_E_addText σ (nI o) (nI c) = some (1, σ') ∧ R_M_content (t + 2) 11 [nI c, nI p'] τ = some (1, τ') ∧ absC σ' a ∧ absM τ' a ∧ tC σ' D' ∧ tM τ' D' ∧ wB a D' ∧ wS a D' p' S' ∧ p < p' ∧ 0 < zN D' ∧ pC σ' p' S' ∧ pM τ' D' p' S' := by
  have hpl := ha.2.1
  obtain ⟨m2, m4, m5, m6⟩ := pm
  have hC : zC D < 1600 := by have := hs.2.2.1; omega
  have ho := hs.2.2.2.2.2.1.1
  have hcur := hs.2.2.2.2.2.2.1 o S rfl
  obtain ⟨σ', x1, x2, x3, x4⟩ := c_addX h hC tc ho hcc hcur
  obtain ⟨τ', y1, y2, y3, y4, y5⟩ := m_addX h hC tmm hm ho hcc m5 p' t
  refine ⟨σ', τ', addX D o c, o :: S, x1, y1, absC_of hc (x3 0 (by decide)) (x3 1 (by decide)) (fun k hk => x4 k (by omega)), y3, x2, y2, wB_addX h hC hcc hcur, ⟨?_, ?_, ?_, hp2, hs.2.2.2.2.1, stk_same (D := D) (D' := addX D o c) (Nat.le_refl (zN D)) (fun _ _ => rfl) hs.2.2.2.2.2.1, fun q S' hS' hk => ?_, hs.2.2.2.2.2.2.2.1, hs.2.2.2.2.2.2.2.2⟩, hp', by show 0 < zN D; omega, ⟨?_, ?_, ?_⟩, ?_, ?_, ?_, ?_⟩
  · show 4 * zN D ≤ _
    have := hs.1
    omega
  · show 5 * zW D ≤ _
    have := hs.2.1
    omega
  · show zC D + 1 ≤ _
    have := hs.2.2.1
    omega
  · have e := (List.cons.inj hS').1
    rw [← e] at hk ⊢
    have hk : kc D o = 0 := hk
    show zS D o + (fU (zX D) o (zX D o ++ [c]) o).length = zC D + 1
    rw [fU_e, List.length_append]
    simp only [List.length_singleton]
    have := hcur hk
    omega
  · rw [x3 8 (by decide)]; exact c8
  · rw [x3 9 (by decide)]; exact c9
  · rw [x3 10 (by decide)]; exact c10
  · rw [y5 2 (by decide)]; exact m2
  · exact y4
  · rw [y5 5 (by decide)]; exact m5
  · rw [y5 6 (by decide)]; exact m6
