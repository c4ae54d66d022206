/-! decode: an attribute on both sides -/
theorem kc_addQ (D : dS) (e v f t o : Nat) : kc (addQ D e v f t) o = kc D o := rfl
theorem c_addQ {a : aS} {D : dS} (h : wB a D) (hL : zW D < 320) {σ : gS} (ht : tC σ D) {e v f w : Nat} (he : zN D = e + 1) : ∃ σ', f_E_addAttribute σ (nI v) (nI f) (nI w) = some (1, σ') ∧ tC σ' (addQ D e v f (f + w)) ∧ (∀ k, k ≠ 6 → σ'.1 k = σ.1 k) ∧ ∀ k, k < 21 → σ'.2 k = σ.2 k := by
  have hn := h.1
  obtain ⟨t1, t2, t3, t4, t5, t6⟩ := ht
  obtain ⟨u1, u2, u3, u4, u5, u6, u7⟩ := t4 e (by omega)
  unfold f_E_addAttribute
  rw [t1, if_neg (nI_ne0 (by omega) (by omega)), t2, if_pos (by rw [lt_c320 (by omega)]; exact hL)]
  simp (disch := omega) only [gSt_n, sA_1, t1, t2]
  rw [he, nI_pred]
  simp (disch := omega) only [gSt_n, gLd_n, sA_1, sA_ne, gPut_s, t2, u5, add_c1]
  refine ⟨_, rfl, ⟨?_, ?_, ?_, fun o ho => ?_, fun i hi => ?_, fun o ho hk k hk2 => ?_⟩, fun k hk => sI_ne hk, fun k hk => ?_⟩
  · exact t1
  · exact sI_eq _ _ _
  · exact t3
  · have ho : o < zN D := ho
    obtain ⟨v1, v2, v3, v4, v5, v6, v7⟩ := t4 o ho
    simp (disch := decide) only [sI_2, sA_eq, sA_ne]
    refine ⟨v1, v2, v3, v4, ?_, v6, v7⟩
    show _ = nI (fU (zB D) e (zB D e + 1) o)
    by_cases e0 : o = e
    · rw [e0, up_eq, fU_e]
    · rw [up_ne e0, fU_n e0]; exact v5
  · have hi : i < zW D + 1 := hi
    simp (disch := decide) only [sI_2, sA_eq, sA_ne]
    show _ = nI (fU (zQ D) (zW D) v i) ∧ _ = nI (fU (zF D) (zW D) f i) ∧ _ = nI (fU (zT D) (zW D) (f + w) i - fU (zF D) (zW D) f i)
    by_cases e0 : i = zW D
    · rw [e0, up_eq, up_eq, up_eq, fU_e, fU_e, fU_e, show f + w - f = w by omega]
      exact ⟨rfl, rfl, rfl⟩
    · rw [up_ne e0, up_ne e0, up_ne e0, fU_n e0, fU_n e0, fU_n e0]
      exact t5 i (by omega)
  · simp (disch := decide) only [sI_2, sA_ne]
    exact t6 o ho hk k hk2
  · simp (disch := omega) only [sI_2, sA_ne]
theorem wB_addQ {a : aS} {D : dS} (h : wB a D) (hL : zW D < 320) {e v f w : Nat} (he : zN D = e + 1) (hlast : zA D e + zB D e = zW D) (hv : v < 387420489) (hw : f + w < (sP a).length) : wB a (addQ D e v f (f + w)) := by
  obtain ⟨h1, h2, h3, h4, h5, h6, h7, h8, h9, h10, h11⟩ := h
  refine ⟨h1, hL, h3, h4, h5, fun o ho => ?_, fun i hi => ?_, h8, h9, h10, h11⟩
  · show zA D o + fU (zB D) e (zB D e + 1) o ≤ zW D + 1
    by_cases e0 : o = e
    · rw [e0, fU_e]; omega
    · rw [fU_n e0]
      have := h6 o ho
      omega
  · have hi : i < zW D + 1 := hi
    show fU (zQ D) (zW D) v i < _ ∧ fU (zF D) (zW D) f i ≤ fU (zT D) (zW D) (f + w) i ∧ fU (zT D) (zW D) (f + w) i < _
    by_cases e0 : i = zW D
    · rw [e0, fU_e, fU_e, fU_e]
      exact ⟨hv, by omega, hw⟩
    · rw [fU_n e0, fU_n e0, fU_n e0]
      exact h7 i (by omega)
/-- an attribute of e at p -/
theorem at_both {a : aS} (ha : okA a) {D : dS} (h : wB a D) (hL : zW D < 320) {e : Nat} (he : zN D = e + 1) (hlast : zA D e + zB D e = zW D) {σ τ : gS} (hc : absC σ a) (hm : absM τ a) (tc : tC σ D) (tm : tM τ D) {p : Nat} (hp : p < (sP a).length) (h8 : σ.1 8 = nI p) (hl : isL (chA a p)) :
    (∃ σ' τ', f_F_readAttribute σ (nI e) = some (0, σ') ∧ f_M_attributeAt τ (nI e) (nI p) = some (-1, τ') ∧ absC σ' a ∧ absM τ' a) ∨
    (∃ σ' τ' D' p', f_F_readAttribute σ (nI e) = some (1, σ') ∧ f_M_attributeAt τ (nI e) (nI p) = some (nI p', τ') ∧ absC σ' a ∧ absM τ' a ∧ tC σ' D' ∧ tM τ' D' ∧ wB a D' ∧ zN D' = zN D ∧ zP D' = zP D ∧ zX D' = zX D ∧ zS D' = zS D ∧ zC D' = zC D ∧ zW D' = zW D + 1 ∧ zA D' e + zB D' e = zW D' ∧ zB D' e = zB D e + 1 ∧ p + 4 ≤ p' ∧ p' ≤ (sP a).length ∧ σ'.1 8 = nI p' ∧ (∀ k, k ≠ 6 → k ≠ 8 → σ'.1 k = σ.1 k) ∧ (∀ k, k ≠ 3 → k ≠ 7 → τ'.1 k = τ.1 k)) := by
  have hpl := ha.2.1
  have hn := h.1
  obtain ⟨T, hT⟩ := gFx
  obtain ⟨k, hk⟩ := nk_ex a p
  have hk7 := hk.1
  have hk1 : 1 ≤ k := by
    by_cases e0 : k = 0
    · exact absurd (by rw [e0]; exact hl) (hk.2.2 (by omega))
    · omega
  have cn := c_name ha (by omega) hk hc h8
  have mn := m_name ha (by omega) hk hm
  have hc1 := absC_I hc (k := 8) (by decide) (nI (p + min k 6))
  have hm1 := absM_I hm (k := 7) (by decide) (nI (p + k))
  have tc1 : tC (sI σ 8 (nI (p + min k 6))) D := tc
  have tm1 : tM (sI τ 7 (nI (p + k))) D := tm
  rw [fx_F_readAttribute hT, fx_M_attributeAt hT]
  unfold B_F_readAttribute_0 B_M_attributeAt_0
  rw [cn, gBd_s, mn, gBd_s]
  by_cases k7 : k = 7
  · -- a name of seven letters
    refine Or.inl ?_
    rw [if_pos (Or.inr k7), if_pos iml]
    have hv6 : nv a p (min k 6) < 387420489 := by
      have h1 := (nv_lt hk (min k 6) (by omega)).1
      rw [show min k 6 = 6 by omega, show (27 : Nat) ^ 6 = 387420489 from rfl] at h1
      rw [show min k 6 = 6 by omega]
      exact h1
    rw [c_find h tc1 (by omega) hv6, gBd_s]
    have hsk := c_skip ha hc1 (p := p + min k 6) (c := 61) (by omega) (sI_eq _ _ _) (by decide) (by decide) (x := 61) rfl
    have h6 := hk.2.1 6 (by omega)
    have hne : ¬ chA a (p + min k 6) = 61 := fun q => by
      rw [show min k 6 = 6 by omega] at q
      unfold isL at h6
      omega
    rw [if_neg hne] at hsk
    by_cases ef : oI (fA D e (nv a p (min k 6))) = -1
    · rw [if_pos ef, hsk, gBd_s, if_pos rfl]
      exact ⟨_, _, rfl, rfl, hc1, hm1⟩
    · rw [if_neg ef]
      exact ⟨_, _, rfl, rfl, hc1, hm1⟩
  · have k6 : min k 6 = k := by omega
    have hv := nv_6 hk (by omega)
    rw [k6] at hc1 tc1 ⊢
    rw [if_neg (show ¬ (k = 0 ∨ k = 7) from fun q => q.elim (by omega) k7), if_neg (nI_pos (by omega)), sI_eq, m_or0 ha hm1 (by omega), gBd_s, c_find h tc1 (by omega) hv, gBd_s]
    have c127 := chA_lt ha (p + k)
    have hsk := c_skip ha hc1 (p := p + k) (c := 61) (by omega) (sI_eq _ _ _) (by decide) (by decide) (x := 61) rfl
    -- the class's fail, whatever the reason
    by_cases q1 : chA a (p + k) = 61
    · have c127b := chA_lt ha (p + k + 1)
      have hk1in := chA_in (a := a) (p := p + k) (by rw [q1]; decide)
      rw [if_pos q1, sI_sI] at hsk
      have hc2 := absC_I hc (k := 8) (by decide) (nI (p + k + 1))
      have hsk2 := c_skip ha hc2 (p := p + k + 1) (c := 34) (by omega) (sI_eq _ _ _) (by decide) (by decide) (x := 34) rfl
      rw [if_pos (show nI (chA a (p + k)) = 61 by rw [q1]; rfl), sI_eq, add_c1, m_or0 ha hm1 (by omega), gBd_s]
      by_cases q2 : chA a (p + k + 1) = 34
      · have hk2in := chA_in (a := a) (p := p + k + 1) (by rw [q2]; decide)
        rw [if_pos q2, sI_sI] at hsk2
        rw [if_pos (show nI (chA a (p + k + 1)) = 34 by rw [q2]; rfl), m_find h tm1 (by omega) hv, gBd_s]
        cases hf : fA D e (nv a p k) with
        | some i =>
          have hi := (fA_lt h (by omega) hf).1
          have hLL := h.2.1
          rw [if_neg (show ¬ oI (some i) = -1 from n_m1 (by omega)), if_neg (show ¬ oI (some i) < 0 from nI_pos (by omega))]
          exact Or.inl ⟨_, _, rfl, rfl, hc1, hm1⟩
        | none =>
          rw [if_pos (show oI none = -1 from rfl), if_pos (show oI none < 0 by decide), hsk, gBd_s, if_neg i10, hsk2, gBd_s, if_neg i10, sI_eq, show nI (p + k) + 2 = nI (p + k + 2) from add_c2 _]
          obtain ⟨w, w1, w2⟩ := vl_ex a (p + k + 2)
          have hvl := vl_le w1 (by omega)
          have cv := c_val ha w1 w2 (by omega) hc (nI (nv a p k)) (nI (p + k + 2)) w 0 (T + 49999 - (w + 1)) (by omega)
          have mv := m_val ha w1 w2 (by omega) hm1 (nI e) (nI (nv a p k)) (nI (p + k + 2)) w 0 (T + 49999 - (w + 1)) (by omega)
          rw [show T + 49999 - (w + 1) + (w + 1) = T + 49999 by omega, show p + k + 2 + 0 = p + k + 2 from rfl] at cv mv
          have hc3 := absC_I hc (k := 8) (by decide) (nI (p + k + 2 + w))
          have tc3 : tC (sI σ 8 (nI (p + k + 2 + w))) D := tc
          have hsk3 := c_skip ha hc3 (p := p + k + 2 + w) (c := 34) (by omega) (sI_eq _ _ _) (by decide) (by decide) (x := 34) rfl
          have c127c := chA_lt ha (p + k + 2 + w)
          obtain ⟨tt, htt⟩ : ∃ tt, T + 49999 - (w + 1) = tt + 1 := ⟨T + 49998 - (w + 1), by omega⟩
          rw [show p + k + 1 + 1 = p + k + 2 from rfl, cv, mv, htt, st_F_readAttribute_2, st_M_attributeAt_2]
          unfold B_F_readAttribute_2 B_M_attributeAt_2
          rw [hsk3, m_or0 ha hm1 (by omega), gBd_s]
          by_cases q3 : chA a (p + k + 2 + w) = 34
          · have hk3in := chA_in (a := a) (p := p + k + 2 + w) (by rw [q3]; decide)
            have tc4 : tC (sI (sI σ 8 (nI (p + k + 2 + w))) 8 (nI (p + k + 2 + w + 1))) D := tc
            have hc4 := absC_I hc3 (k := 8) (by decide) (nI (p + k + 2 + w + 1))
            obtain ⟨σ', x1, x2, x3, x4⟩ := c_addQ h hL tc4 (e := e) (v := nv a p k) (f := p + k + 2) (w := w) he
            obtain ⟨y1, y2, y3, y4⟩ := tm1
            obtain ⟨u1, u2, u3, u4, u5⟩ := y2 e (by omega)
            rw [if_pos q3, gBd_s, if_neg i10, sI_eq, nI_pred, show nI (p + k + 2 + w) - nI (p + k + 2) = nI w by rw [pk_sub (by omega)]; congr 1; omega, x1, gBd_s, if_neg i10, if_pos (show nI (chA a (p + k + 2 + w)) = 34 by rw [q3]; rfl)]
            rw [show (sI τ 7 (nI (p + k))).1 3 = nI (zW D) from y1]
            simp (disch := omega) only [gSt_n, gLd_n, sA_1, y1, gPut_s, sI_2, sA_ne, u4, add_c1]
            refine Or.inr ⟨σ', _, addQ D e (nv a p k) (p + k + 2) (p + k + 2 + w), p + k + 2 + w + 1, rfl, rfl, absC_of hc4 (x3 0 (by decide)) (x3 1 (by decide)) (fun q hq => x4 q (by omega)), ?_, x2, ⟨?_, fun o ho => ?_, fun i hi => ?_, fun o ho i hi hi2 => ?_⟩, wB_addQ h hL he hlast hv hk3in, rfl, rfl, rfl, rfl, rfl, rfl, ?_, ?_, by omega, by omega, ?_, fun q hq1 hq2 => ?_, fun q hq1 hq2 => ?_⟩
            · refine absM_of hm1 rfl rfl (fun q hq => ?_)
              simp (disch := omega) only [sI_2, sA_ne]
            · rw [sA_1, sI_eq]; rfl
            · have ho : o < zN D := ho
              obtain ⟨v1, v2, v3, v4, v5⟩ := y2 o ho
              simp (disch := decide) only [sI_2, sA_eq, sA_ne]
              refine ⟨v1, v2, v3, ?_, v5⟩
              show _ = nI (fU (zB D) e (zB D e + 1) o)
              by_cases e0 : o = e
              · rw [e0, up_eq, fU_e]
              · rw [up_ne e0, fU_n e0]; exact v4
            · have hi : i < zW D + 1 := hi
              simp (disch := decide) only [sI_2, sA_eq, sA_ne]
              show _ = nI (fU (zQ D) (zW D) _ i) ∧ _ = nI (fU (zF D) (zW D) _ i) ∧ _ = nI (fU (zT D) (zW D) _ i)
              by_cases e0 : i = zW D
              · rw [e0, up_eq, up_eq, up_eq, fU_e, fU_e, fU_e]
                exact ⟨rfl, rfl, rfl⟩
              · rw [up_ne e0, up_ne e0, up_ne e0, fU_n e0, fU_n e0, fU_n e0]
                exact y3 i (by omega)
            · simp (disch := decide) only [sI_2, sA_ne]
              exact y4 o ho i hi hi2
            · show zA D e + fU (zB D) e (zB D e + 1) e = zW D + 1
              rw [fU_e]; omega
            · show fU (zB D) e (zB D e + 1) e = _
              rw [fU_e]
            · rw [x3 8 (by decide), sI_eq]
            · rw [x3 q hq1, sI_ne hq2, sI_ne hq2]
            · show (sI (sA (sA (sA (sI τ 7 (nI (p + k))) 16 _) 17 _) 18 _) 3 (nI (zW D + 1))).1 q = τ.1 q
              rw [sI_ne hq1, sA_1, sA_1, sA_1, sI_ne hq2]
          · rw [if_neg q3, gBd_s, if_pos rfl, if_neg (show ¬ nI (chA a (p + k + 2 + w)) = 34 by rw [eq_c34 (by omega)]; exact q3)]
            exact Or.inl ⟨_, _, rfl, rfl, hc3, hm1⟩
      · rw [if_neg q2] at hsk2
        rw [if_neg (show ¬ nI (chA a (p + k + 1)) = 34 by rw [eq_c34 (by omega)]; exact q2)]
        refine Or.inl ?_
        by_cases ef : oI (fA D e (nv a p k)) = -1
        · rw [if_pos ef, hsk, gBd_s, if_neg i10, hsk2, gBd_s, if_pos rfl]
          exact ⟨_, _, rfl, rfl, hc2, hm1⟩
        · rw [if_neg ef]
          exact ⟨_, _, rfl, rfl, hc1, hm1⟩
    · rw [if_neg q1] at hsk
      rw [if_neg (show ¬ nI (chA a (p + k)) = 61 by rw [eq_c61 (by omega)]; exact q1)]
      refine Or.inl ?_
      by_cases ef : oI (fA D e (nv a p k)) = -1
      · rw [if_pos ef, hsk, gBd_s, if_pos rfl]
        exact ⟨_, _, rfl, rfl, hc1, hm1⟩
      · rw [if_neg ef]
        exact ⟨_, _, rfl, rfl, hc1, hm1⟩
