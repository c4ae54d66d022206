/-! decode: the form on both sides -/
theorem ct_fail {v : Int32} (hv : v < 0) (t : Nat) (x : Int32) (τ : gS) : R_M_content (t + 1) 10 [v, x] τ = some (0, τ) := by
  rw [st_M_content_10]
  unfold B_M_content_10
  rw [if_pos hv]
theorem code_both {a : aS} (ha : okA a) {D : dS} {p o : Nat} {S : List Nat} (h : wB a D) (hs : wS a D p (o :: S)) {σ τ : gS} (hc : absC σ a) (hm : absM τ a) (tc : tC σ D) (tmm : tM τ D) (pc : pC σ p (o :: S)) (pm : pM τ D p (o :: S)) (hp : p < (sP a).length) (h38 : chA a p = 38) (h35 : chA a (p + 1) = 35) : pcOut a p (f_F_readCode σ) (f_M_content τ) := by
  have hpl := ha.2.1
  have hin := chA_in (a := a) (p := p + 1) (by rw [h35]; decide)
  obtain ⟨T, hT⟩ := gFx
  obtain ⟨c8, c9, c10⟩ := pc
  have pm' := pm
  obtain ⟨m2, m4, m5, m6⟩ := pm
  have c9 : σ.1 9 = nI o := c9
  obtain ⟨k, hk⟩ := dk_ex a (p + 2)
  have hk3 := hk.1
  have hv := dv_1000 hk
  have pg7 : τ.2 7 p = nI (chA a p) := hm.2.2.2.2.2.1 p hp
  have c127 := chA_lt ha (p + 2 + k)
  have cc := c_cd1 ha (by omega) hk hc k 0 (T + 49999 - (k + 1)) (by omega)
  rw [show T + 49999 - (k + 1) + (k + 1) = T + 49999 by omega, show p + 2 + 0 = p + 2 from rfl, show dv a (p + 2) 0 = 0 from rfl, nI_0] at cc
  have mc := m_cd1 ha (by omega) hk hm m4 k 0 (T + 49999 - (k + 1)) (by omega)
  rw [show T + 49999 - (k + 1) + (k + 1) = T + 49999 by omega, show p + 2 + 0 = p + 2 from rfl, show dv a (p + 2) 0 = 0 from rfl, nI_0] at mc
  obtain ⟨tt, htt⟩ : ∃ tt, T + 49999 - (k + 1) = tt + 6 := ⟨T + 49993 - (k + 1), by omega⟩
  have hc2 := absC_I hc (k := 8) (by decide) (nI (p + 2 + k))
  have hlen : p + 2 + k ≤ (sP a).length := by
    cases k with
    | zero => omega
    | succ k =>
      have := chA_in (a := a) (p := p + 2 + k) (by have := hk.2.1 k (by omega); unfold isG at this; omega)
      omega
  rw [fx_F_readCode hT, fx_M_content hT]
  unfold B_F_readCode_0 B_M_content_0
  rw [gPut_s, c8, show nI p + 2 = nI (p + 2) from add_c2 p, cc, m4, gLd_n (by omega) (by decide), pg7, h38, if_pos (show nI 38 = 38 from rfl), add_c1, add_c1, m_or0 ha hm (by omega), gBd_s, m_or0 ha hm (by omega), gBd_s, h35, if_pos (show nI 35 = 35 from rfl), show p + 1 + 1 = p + 2 from rfl, mc, htt, show tt + 6 = tt + 5 + 1 from rfl, st_F_readCode_2, st_M_content_2]
  unfold B_F_readCode_2 B_M_content_2
  by_cases hpr : prtN (dv a (p + 2) k)
  · have h1 := hpr.1
    have h2 := hpr.2
    have hsk := c_skip ha hc2 (p := p + 2 + k) (c := 59) (by omega) (sI_eq _ _ _) (by decide) (by decide) (x := 59) rfl
    rw [r_prtY _ hpr, gBd_s, if_neg i10, hsk, if_neg (show ¬ nI (dv a (p + 2) k) < 32 by rw [lt_c32 (by omega)]; omega), if_pos (show nI (dv a (p + 2) k) ≤ 126 by rw [le_c126 (by omega)]; omega), show tt + 5 = tt + 4 + 1 from rfl, st_M_content_4]
    unfold B_M_content_4
    rw [show tt + 4 = tt + 3 + 1 from rfl, st_M_content_10]
    unfold B_M_content_10
    rw [if_neg (nI_pos (n := dv a (p + 2) k) (by omega)), m_or0 ha hm (by omega), gBd_s]
    by_cases h59 : chA a (p + 2 + k) = 59
    · have hin2 := chA_in (a := a) (p := p + 2 + k) (by rw [h59]; decide)
      rw [if_pos h59, gBd_s, if_neg i10, sI_sI, sI_ne (by decide), c9, if_pos (show nI (chA a (p + 2 + k)) = 59 by rw [h59]; rfl), add_c1, show tt + 3 = tt + 1 + 2 from rfl]
      obtain ⟨σ', τ', D', S', w1, w2, w3⟩ := ch_both ha (p' := p + 2 + k + 1) (c := dv a (p + 2) k) h hs (absC_I hc (k := 8) (by decide) (nI (p + 2 + k + 1))) hm (tC_I tc (by decide) _) tmm (sI_eq _ _ _) (by rw [sI_ne (by decide)]; exact c9) (by rw [sI_ne (by decide)]; exact c10) pm' hp hpr (by omega) (by omega) (tt + 1)
      rw [w1, w2, gBd_s, if_neg i10]
      exact Or.inr ⟨σ', τ', D', _, S', rfl, rfl, w3⟩
    · rw [if_neg h59, gBd_s, if_pos rfl, if_neg (show ¬ nI (chA a (p + 2 + k)) = 59 by rw [eq_c59 (by omega)]; exact h59)]
      exact Or.inl ⟨_, _, rfl, rfl, hc2, hm⟩
  · have h3 : ∀ t : Nat, R_M_content (t + 3) 3 [nI (p + 2 + k)] τ = some (0, τ) := fun t => by
      rw [show t + 3 = t + 2 + 1 from rfl, st_M_content_3]
      unfold B_M_content_3
      rw [show t + 2 = t + 1 + 1 from rfl, st_M_content_4]
      unfold B_M_content_4
      rw [ct_fail iml]
    rw [show tt + 5 = tt + 2 + 3 from rfl, h3]
    by_cases h32 : dv a (p + 2) k < 32
    · rw [r_prtN _ (Or.inl (show nI (dv a (p + 2) k) < 32 by rw [lt_c32 (by omega)]; exact h32)), gBd_s, if_pos rfl, if_pos (show nI (dv a (p + 2) k) < 32 by rw [lt_c32 (by omega)]; exact h32)]
      exact Or.inl ⟨_, _, rfl, rfl, hc2, hm⟩
    · have h126 : 126 < dv a (p + 2) k := Nat.lt_of_not_le (fun q => hpr ⟨by omega, q⟩)
      rw [r_prtN _ (Or.inr ⟨show ¬ nI (dv a (p + 2) k) < 32 by rw [lt_c32 (by omega)]; exact h32, show 126 < nI (dv a (p + 2) k) by rw [c126_lt (by omega)]; exact h126⟩), gBd_s, if_pos rfl, if_neg (show ¬ nI (dv a (p + 2) k) < 32 by rw [lt_c32 (by omega)]; exact h32), if_neg (show ¬ nI (dv a (p + 2) k) ≤ 126 by rw [le_c126 (by omega)]; omega)]
      exact Or.inl ⟨_, _, rfl, rfl, hc2, hm⟩
theorem ent_both {a : aS} (ha : okA a) {D : dS} {p o : Nat} {S : List Nat} (h : wB a D) (hs : wS a D p (o :: S)) {σ τ : gS} (hc : absC σ a) (hm : absM τ a) (tc : tC σ D) (tmm : tM τ D) (pc : pC σ p (o :: S)) (pm : pM τ D p (o :: S)) (hp : p < (sP a).length) (h38 : chA a p = 38) (h35 : ¬ chA a (p + 1) = 35) : pcOut a p (f_F_readEntity σ) (f_M_content τ) := by
  have hpl := ha.2.1
  obtain ⟨T, hT⟩ := gFx
  obtain ⟨c8, c9, c10⟩ := pc
  have pm' := pm
  obtain ⟨m2, m4, m5, m6⟩ := pm
  have c9 : σ.1 9 = nI o := c9
  have pg7 : τ.2 7 p = nI (chA a p) := hm.2.2.2.2.2.1 p hp
  have l1 := chA_lt ha (p + 1)
  have l2 := chA_lt ha (p + 2)
  have l3 := chA_lt ha (p + 3)
  have l4 := chA_lt ha (p + 4)
  have l5 := chA_lt ha (p + 5)
  obtain ⟨b1, s1, e1⟩ := c_sh21 ha hc (p := p) (by omega) h38
  obtain ⟨b2, s2, e2⟩ := c_sh22 ha hc (p := p) (by omega) h38
  obtain ⟨b3, s3, e3⟩ := c_sh23 ha hc (p := p) (by omega) h38
  obtain ⟨b4, s4, e4⟩ := c_sh24 ha hc (p := p) (by omega) h38
  -- the reference from where its letter is known and a semicolon must follow
  have sem : ∀ (c q t : Nat), prtN c → q < 2000 → (¬ chA a q = 59 ∧ R_M_content (t + 3) 10 [nI c, nI q] τ = some (0, τ)) ∨ (chA a q = 59 ∧ R_M_content (t + 3) 10 [nI c, nI q] τ = R_M_content (t + 2) 11 [nI c, nI (q + 1)] τ) := by
    intro c q t hcc hq2
    have h126 := hcc.2
    have lq := chA_lt ha q
    rw [show t + 3 = t + 2 + 1 from rfl, st_M_content_10]
    unfold B_M_content_10
    rw [if_neg (nI_pos (n := c) (by omega)), m_or0 ha hm (by omega), gBd_s]
    by_cases h59 : chA a q = 59
    · rw [if_pos (show nI (chA a q) = 59 by rw [h59]; rfl), add_c1]
      exact Or.inr ⟨h59, rfl⟩
    · rw [if_neg (show ¬ nI (chA a q) = 59 by rw [eq_c59 (by omega)]; exact h59)]
      exact Or.inl ⟨h59, rfl⟩
  -- the class once it has seen an entity of n characters for c
  have hit : ∀ (c n t : Nat) (F : Option (Int32 × gS)), prtN c → 0 < n → p + n ≤ (sP a).length → (∀ σ', f_E_addText (sI σ 8 (nI (p + n))) (nI o) (nI c) = some (1, σ') → F = some (1, σ')) → pcOut a p F (R_M_content (t + 2) 11 [nI c, nI (p + n)] τ) := by
    intro c n t F hcc hn hl hF
    obtain ⟨σ', τ', D', S', w1, w2, w3⟩ := ch_both ha (p' := p + n) (c := c) h hs (absC_I hc (k := 8) (by decide) (nI (p + n))) hm (tC_I tc (by decide) _) tmm (sI_eq _ _ _) (by rw [sI_ne (by decide)]; exact c9) (by rw [sI_ne (by decide)]; exact c10) pm' hp hcc (by omega) hl t
    exact Or.inr ⟨σ', τ', D', _, S', hF σ' w1, w2, w3⟩
  -- each entity as the class reads it
  have r1 : f_F_readEntityOf_S21 σ 60 = if b1 = true then gBd (f_E_addText (sI σ 8 (nI (p + 4))) (nI o) (nI 60)) (fun y10 σ11 => gNr .boolean y10 (some (y10, σ11))) else some (0, σ) := by
    unfold f_F_readEntityOf_S21
    rw [c8, s1, gBd_s]
    cases b1 with
    | false => rw [bI_f, if_pos rfl, if_neg (by decide)]
    | true => rw [bI_t, if_neg i10, if_pos rfl, gPut_s, c8, show nI p + 4 = nI (p + 4) from add_c4 p, sI_ne (by decide), c9]; rfl
  have r2 : f_F_readEntityOf_S22 σ 62 = if b2 = true then gBd (f_E_addText (sI σ 8 (nI (p + 4))) (nI o) (nI 62)) (fun y10 σ11 => gNr .boolean y10 (some (y10, σ11))) else some (0, σ) := by
    unfold f_F_readEntityOf_S22
    rw [c8, s2, gBd_s]
    cases b2 with
    | false => rw [bI_f, if_pos rfl, if_neg (by decide)]
    | true => rw [bI_t, if_neg i10, if_pos rfl, gPut_s, c8, show nI p + 4 = nI (p + 4) from add_c4 p, sI_ne (by decide), c9]; rfl
  have r3 : f_F_readEntityOf_S23 σ 38 = if b3 = true then gBd (f_E_addText (sI σ 8 (nI (p + 5))) (nI o) (nI 38)) (fun y10 σ11 => gNr .boolean y10 (some (y10, σ11))) else some (0, σ) := by
    unfold f_F_readEntityOf_S23
    rw [c8, s3, gBd_s]
    cases b3 with
    | false => rw [bI_f, if_pos rfl, if_neg (by decide)]
    | true => rw [bI_t, if_neg i10, if_pos rfl, gPut_s, c8, show nI p + 5 = nI (p + 5) from add_c5 p, sI_ne (by decide), c9]; rfl
  have r4 : f_F_readEntityOf_S24 σ 34 = if b4 = true then gBd (f_E_addText (sI σ 8 (nI (p + 6))) (nI o) (nI 34)) (fun y10 σ11 => gNr .boolean y10 (some (y10, σ11))) else some (0, σ) := by
    unfold f_F_readEntityOf_S24
    rw [c8, s4, gBd_s]
    cases b4 with
    | false => rw [bI_f, if_pos rfl, if_neg (by decide)]
    | true => rw [bI_t, if_neg i10, if_pos rfl, gPut_s, c8, show nI p + 6 = nI (p + 6) from add_c6 p, sI_ne (by decide), c9]; rfl
  have n1 : ∀ {q : Prop}, (b1 = true ↔ q) → ¬ q → f_F_readEntityOf_S21 σ 60 = some (0, σ) := fun e hq => by rw [r1, if_neg (fun z => hq (e.mp z))]
  have n2' : ∀ {q : Prop}, (b2 = true ↔ q) → ¬ q → f_F_readEntityOf_S22 σ 62 = some (0, σ) := fun e hq => by rw [r2, if_neg (fun z => hq (e.mp z))]
  have n3 : ∀ {q : Prop}, (b3 = true ↔ q) → ¬ q → f_F_readEntityOf_S23 σ 38 = some (0, σ) := fun e hq => by rw [r3, if_neg (fun z => hq (e.mp z))]
  have n4 : ∀ {q : Prop}, (b4 = true ↔ q) → ¬ q → f_F_readEntityOf_S24 σ 34 = some (0, σ) := fun e hq => by rw [r4, if_neg (fun z => hq (e.mp z))]
  have none4 : ¬ (chA a (p + 1) = 108 ∧ chA a (p + 2) = 116 ∧ chA a (p + 3) = 59) → ¬ (chA a (p + 1) = 103 ∧ chA a (p + 2) = 116 ∧ chA a (p + 3) = 59) → ¬ (chA a (p + 1) = 97 ∧ chA a (p + 2) = 109 ∧ chA a (p + 3) = 112 ∧ chA a (p + 4) = 59) → ¬ (chA a (p + 1) = 113 ∧ chA a (p + 2) = 117 ∧ chA a (p + 3) = 111 ∧ chA a (p + 4) = 116 ∧ chA a (p + 5) = 59) → f_F_readEntity σ = some (0, σ) := fun q1 q2 q3 q4 => by
    unfold f_F_readEntity
    rw [n1 e1 q1, gBd_s, if_pos rfl, n2' e2 q2, gBd_s, if_pos rfl, n3 e3 q3, gBd_s, if_pos rfl, n4 e4 q4, gBd_s, if_pos rfl]
  rw [fx_M_content hT]
  unfold B_M_content_0
  rw [m4, gLd_n (by omega) (by decide), pg7, h38, if_pos (show nI 38 = 38 from rfl), add_c1, add_c1, m_or0 ha hm (by omega), gBd_s, m_or0 ha hm (by omega), gBd_s, if_neg (show ¬ nI (chA a (p + 1)) = 35 by rw [eq_c35 (by omega)]; exact h35), m_or0 ha hm (by omega), gBd_s, show p + 1 + 1 = p + 2 from rfl]
  have q6 : ∀ (t c : Nat), c = (if chA a (p + 1) = 108 then 60 else 62) → R_M_content (t + 5) 6 [nI (p + 1)] τ = R_M_content (t + 3) 10 [nI c, nI (p + 3)] τ := by
    intro t c hcc
    rw [show t + 5 = t + 4 + 1 from rfl, st_M_content_6]
    unfold B_M_content_6
    rw [m_or0 ha hm (by omega), gBd_s]
    by_cases e : chA a (p + 1) = 108
    · rw [if_pos e] at hcc
      rw [if_pos (show nI (chA a (p + 1)) = 108 by rw [e]; rfl), hcc, show t + 4 = t + 3 + 1 from rfl, st_M_content_7]
      unfold B_M_content_7
      rw [show nI (p + 1) + 2 = nI (p + 3) from add_c2 (p + 1)]
      rfl
    · rw [if_neg e] at hcc
      rw [if_neg (show ¬ nI (chA a (p + 1)) = 108 from fun q => e ((n_eq (b := 108) (by omega) (by decide)).mp q)), hcc, show t + 4 = t + 3 + 1 from rfl, st_M_content_7]
      unfold B_M_content_7
      rw [show nI (p + 1) + 2 = nI (p + 3) from add_c2 (p + 1)]
      rfl
  by_cases A : chA a (p + 1) = 108 ∧ chA a (p + 2) = 116
  · rw [if_pos (show nI (chA a (p + 1)) = 108 by rw [A.1]; rfl), if_pos (show nI (chA a (p + 2)) = 116 by rw [A.2]; rfl), show T + 49999 = T + 49994 + 5 from rfl, q6 _ 60 (if_pos A.1).symm]
    rcases sem 60 (p + 3) (T + 49994) (by unfold prtN; decide) (by omega) with ⟨z1, z2⟩ | ⟨z1, z2⟩
    · rw [z2, none4 (fun q => z1 q.2.2) (fun q => by omega) (fun q => by omega) (fun q => by omega)]
      exact Or.inl ⟨σ, τ, rfl, rfl, hc, hm⟩
    · have hin := chA_in (a := a) (p := p + 3) (by rw [z1]; decide)
      rw [z2]
      refine hit 60 4 (T + 49994) _ (by unfold prtN; decide) (by decide) (by omega) (fun σ' h' => ?_)
      unfold f_F_readEntity
      rw [r1, if_pos (e1.mpr ⟨A.1, A.2, z1⟩), h', gBd_s, nr_1, gBd_s, if_neg i10]
  · have top : (if nI (chA a (p + 1)) = 108 then if nI (chA a (p + 2)) = 116 then R_M_content (T + 49999) 6 [nI (p + 1)] τ else R_M_content (T + 49999) 5 [-1, nI (p + 1), nI (chA a (p + 2))] τ else R_M_content (T + 49999) 5 [-1, nI (p + 1), nI (chA a (p + 2))] τ) = R_M_content (T + 49999) 5 [-1, nI (p + 1), nI (chA a (p + 2))] τ := by
      by_cases x1 : nI (chA a (p + 1)) = 108
      · rw [if_pos x1]
        by_cases x2 : nI (chA a (p + 2)) = 116
        · exact absurd ⟨(n_eq (b := 108) (by omega) (by decide)).mp x1, (n_eq (b := 116) (by omega) (by decide)).mp x2⟩ A
        · rw [if_neg x2]
      · rw [if_neg x1]
    rw [top, show T + 49999 = T + 49998 + 1 from rfl, st_M_content_5]
    unfold B_M_content_5
    rw [m_or0 ha hm (by omega), gBd_s]
    by_cases B : chA a (p + 1) = 103 ∧ chA a (p + 2) = 116
    · rw [if_pos (show nI (chA a (p + 1)) = 103 by rw [B.1]; rfl), if_pos (show nI (chA a (p + 2)) = 116 by rw [B.2]; rfl), show T + 49998 = T + 49993 + 5 from rfl, q6 _ 62 (if_neg (by omega)).symm]
      rcases sem 62 (p + 3) (T + 49993) (by unfold prtN; decide) (by omega) with ⟨z1, z2⟩ | ⟨z1, z2⟩
      · rw [z2, none4 (fun q => by omega) (fun q => z1 q.2.2) (fun q => by omega) (fun q => by omega)]
        exact Or.inl ⟨σ, τ, rfl, rfl, hc, hm⟩
      · have hin := chA_in (a := a) (p := p + 3) (by rw [z1]; decide)
        rw [z2]
        refine hit 62 4 (T + 49993) _ (by unfold prtN; decide) (by decide) (by omega) (fun σ' h' => ?_)
        unfold f_F_readEntity
        rw [n1 e1 (fun q => by omega), gBd_s, if_pos rfl, r2, if_pos (e2.mpr ⟨B.1, B.2, z1⟩), h', gBd_s, nr_1, gBd_s, if_neg i10]
    · have top5 : (if nI (chA a (p + 1)) = 103 then if nI (chA a (p + 2)) = 116 then R_M_content (T + 49998) 6 [nI (p + 1)] τ else R_M_content (T + 49998) 8 [-1, nI (p + 1), nI (chA a (p + 2))] τ else R_M_content (T + 49998) 8 [-1, nI (p + 1), nI (chA a (p + 2))] τ) = R_M_content (T + 49998) 8 [-1, nI (p + 1), nI (chA a (p + 2))] τ := by
        by_cases x1 : nI (chA a (p + 1)) = 103
        · rw [if_pos x1]
          by_cases x2 : nI (chA a (p + 2)) = 116
          · exact absurd ⟨(n_eq (b := 103) (by omega) (by decide)).mp x1, (n_eq (b := 116) (by omega) (by decide)).mp x2⟩ B
          · rw [if_neg x2]
        · rw [if_neg x1]
      rw [top5, show T + 49998 = T + 49997 + 1 from rfl, st_M_content_8]
      unfold B_M_content_8
      rw [m_or0 ha hm (by omega), gBd_s, show nI (p + 1) + 2 = nI (p + 3) from add_c2 (p + 1), m_or0 ha hm (by omega), gBd_s, show nI (p + 1) + 3 = nI (p + 4) from add_c3 (p + 1)]
      by_cases C : chA a (p + 1) = 97 ∧ chA a (p + 2) = 109 ∧ chA a (p + 3) = 112
      · rw [if_pos (show nI (chA a (p + 1)) = 97 by rw [C.1]; rfl), if_pos (show nI (chA a (p + 2)) = 109 by rw [C.2.1]; rfl), if_pos (show nI (chA a (p + 3)) = 112 by rw [C.2.2]; rfl), show T + 49997 = T + 49994 + 3 from rfl]
        have w := sem 38 (p + 4) (T + 49994) (by unfold prtN; decide) (by omega)
        rw [show nI 38 = 38 from rfl] at w
        rcases w with ⟨z1, z2⟩ | ⟨z1, z2⟩
        · rw [z2, none4 (fun q => by omega) (fun q => by omega) (fun q => z1 q.2.2.2) (fun q => by omega)]
          exact Or.inl ⟨σ, τ, rfl, rfl, hc, hm⟩
        · have hin := chA_in (a := a) (p := p + 4) (by rw [z1]; decide)
          rw [z2]
          refine hit 38 5 (T + 49994) _ (by unfold prtN; decide) (by decide) (by omega) (fun σ' h' => ?_)
          unfold f_F_readEntity
          rw [n1 e1 (fun q => by omega), gBd_s, if_pos rfl, n2' e2 (fun q => by omega), gBd_s, if_pos rfl, r3, if_pos (e3.mpr ⟨C.1, C.2.1, C.2.2, z1⟩), h', gBd_s, nr_1, gBd_s, if_neg i10]
      · have top8 : (if nI (chA a (p + 1)) = 97 then if nI (chA a (p + 2)) = 109 then if nI (chA a (p + 3)) = 112 then R_M_content (T + 49997) 10 [38, nI (p + 4)] τ else R_M_content (T + 49997) 9 [-1, nI (p + 1), nI (chA a (p + 2))] τ else R_M_content (T + 49997) 9 [-1, nI (p + 1), nI (chA a (p + 2))] τ else R_M_content (T + 49997) 9 [-1, nI (p + 1), nI (chA a (p + 2))] τ) = R_M_content (T + 49997) 9 [-1, nI (p + 1), nI (chA a (p + 2))] τ := by
          by_cases x1 : nI (chA a (p + 1)) = 97
          · rw [if_pos x1]
            by_cases x2 : nI (chA a (p + 2)) = 109
            · rw [if_pos x2]
              by_cases x3 : nI (chA a (p + 3)) = 112
              · exact absurd ⟨(n_eq (b := 97) (by omega) (by decide)).mp x1, (n_eq (b := 109) (by omega) (by decide)).mp x2, (n_eq (b := 112) (by omega) (by decide)).mp x3⟩ C
              · rw [if_neg x3]
            · rw [if_neg x2]
          · rw [if_neg x1]
        rw [top8, show T + 49997 = T + 49996 + 1 from rfl, st_M_content_9]
        unfold B_M_content_9
        rw [m_or0 ha hm (by omega), gBd_s, show nI (p + 1) + 2 = nI (p + 3) from add_c2 (p + 1), m_or0 ha hm (by omega), gBd_s, show nI (p + 1) + 3 = nI (p + 4) from add_c3 (p + 1), m_or0 ha hm (by omega), gBd_s, show nI (p + 1) + 4 = nI (p + 5) from add_c4 (p + 1)]
        have hno : ∀ t : Nat, R_M_content (t + 1) 10 [-1, nI (p + 1)] τ = some (0, τ) := fun t => ct_fail iml t _ τ
        rw [show T + 49996 = T + 49993 + 3 from rfl]
        by_cases E : chA a (p + 1) = 113 ∧ chA a (p + 2) = 117 ∧ chA a (p + 3) = 111 ∧ chA a (p + 4) = 116
        · rw [if_pos (show nI (chA a (p + 1)) = 113 by rw [E.1]; rfl), if_pos (show nI (chA a (p + 2)) = 117 by rw [E.2.1]; rfl), if_pos (show nI (chA a (p + 3)) = 111 by rw [E.2.2.1]; rfl), if_pos (show nI (chA a (p + 4)) = 116 by rw [E.2.2.2]; rfl)]
          have w := sem 34 (p + 5) (T + 49993) (by unfold prtN; decide) (by omega)
          rw [show nI 34 = 34 from rfl] at w
          rcases w with ⟨z1, z2⟩ | ⟨z1, z2⟩
          · rw [z2, none4 (fun q => by omega) (fun q => by omega) (fun q => by omega) (fun q => z1 q.2.2.2.2)]
            exact Or.inl ⟨σ, τ, rfl, rfl, hc, hm⟩
          · have hin := chA_in (a := a) (p := p + 5) (by rw [z1]; decide)
            rw [z2]
            refine hit 34 6 (T + 49993) _ (by unfold prtN; decide) (by decide) (by omega) (fun σ' h' => ?_)
            unfold f_F_readEntity
            rw [n1 e1 (fun q => by omega), gBd_s, if_pos rfl, n2' e2 (fun q => by omega), gBd_s, if_pos rfl, n3 e3 (fun q => by omega), gBd_s, if_pos rfl, r4, if_pos (e4.mpr ⟨E.1, E.2.1, E.2.2.1, E.2.2.2, z1⟩), h', gBd_s, nr_1, gBd_s, if_neg i10]
        · rw [none4 (fun q => A ⟨q.1, q.2.1⟩) (fun q => B ⟨q.1, q.2.1⟩) (fun q => C ⟨q.1, q.2.1, q.2.2.1⟩) (fun q => E ⟨q.1, q.2.1, q.2.2.1, q.2.2.2.1⟩), show T + 49993 + 3 = T + 49995 + 1 from rfl, hno]
          have fin : ∀ z : Option (Int32 × gS), (if nI (chA a (p + 1)) = 113 then if nI (chA a (p + 2)) = 117 then if nI (chA a (p + 3)) = 111 then if nI (chA a (p + 4)) = 116 then z else some (0, τ) else some (0, τ) else some (0, τ) else some (0, τ)) = some (0, τ) := by
            intro z
            by_cases x1 : nI (chA a (p + 1)) = 113
            · rw [if_pos x1]
              by_cases x2 : nI (chA a (p + 2)) = 117
              · rw [if_pos x2]
                by_cases x3 : nI (chA a (p + 3)) = 111
                · rw [if_pos x3]
                  by_cases x4 : nI (chA a (p + 4)) = 116
                  · exact absurd ⟨(n_eq (b := 113) (by omega) (by decide)).mp x1, (n_eq (b := 117) (by omega) (by decide)).mp x2, (n_eq (b := 111) (by omega) (by decide)).mp x3, (n_eq (b := 116) (by omega) (by decide)).mp x4⟩ E
                  · rw [if_neg x4]
                · rw [if_neg x3]
              · rw [if_neg x2]
            · rw [if_neg x1]
          rw [fin]
          exact Or.inl ⟨σ, τ, rfl, rfl, hc, hm⟩
