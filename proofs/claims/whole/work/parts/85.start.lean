/-! decode: a start on both sides -/
def stk (D : dS) : List Nat → Prop
  | [] => True
  | o :: S => o < zN D ∧ zP D o = S.head? ∧ stk D S
theorem stk_lt {D : dS} : ∀ {S : List Nat}, stk D S → ∀ o ∈ S, o < zN D := by
  intro S
  induction S with
  | nil => intro _ o ho; cases ho
  | cons o S ih =>
    intro h q hq
    rcases List.mem_cons.mp hq with e | hq
    · rw [e]; exact h.1
    · exact ih h.2.2 q hq
theorem stk_same {D D' : dS} (hn : zN D ≤ zN D') (hp : ∀ o, o < zN D → zP D' o = zP D o) : ∀ {S : List Nat}, stk D S → stk D' S := by
  intro S
  induction S with
  | nil => intro _; trivial
  | cons o S ih =>
    intro h
    exact ⟨by have := h.1; omega, by rw [hp o h.1]; exact h.2.1, ih h.2.2⟩
/-- the place and the open elements -/
def wS (a : aS) (D : dS) (p : Nat) (S : List Nat) : Prop := 4 * zN D ≤ p + S.length ∧ 5 * zW D ≤ p ∧ zC D ≤ p ∧ p ≤ (sP a).length ∧ S.length ≤ 20 ∧ stk D S ∧ (∀ o S', S = o :: S' → kc D o = 0 → zS D o + (zX D o).length = zC D) ∧ (∀ b, b < zN D → zP D b = some 0 → ∀ q ∈ S, q < b → q = 0) ∧ (zN D = 0 → S = [])
def pC (σ : gS) (p : Nat) (S : List Nat) : Prop := σ.1 8 = nI p ∧ σ.1 9 = oI S.head? ∧ σ.1 10 = nI S.length
def pM (τ : gS) (D : dS) (p : Nat) (S : List Nat) : Prop := τ.1 2 = nI (zN D) ∧ τ.1 4 = nI p ∧ τ.1 5 = oI S.head? ∧ τ.1 6 = nI S.length
theorem wB_addE {a : aS} {D : dS} (h : wB a D) (hn : zN D < 420) {v : Nat} {S : List Nat} {p : Nat} (hs : wS a D p S) (hv : 0 < v ∧ v < 387420489) (h0 : zN D ≠ 0 → S ≠ []) : wB a (addE D v S.head?) := by
  have hq : ∀ o, S.head? = some o → o < zN D := fun o ho => by
    cases S with
    | nil => cases ho
    | cons q S =>
      have ho : some q = some o := ho
      rw [← Option.some.inj ho]
      exact hs.2.2.2.2.2.1.1
  have hw := h
  obtain ⟨h1, h2, h3, h4, h5, h6, h7, h8, h9, h10, h11⟩ := h
  refine ⟨hn, h2, h3, fun e he => ?_, fun e q he hp => ?_, fun e he => ?_, h7, fun e he hk => ?_, fun e he => ?_, fun e he => ?_, fun e b q hb he hpb hpe hqb => ?_⟩
  · have he : e < zN D + 1 := he
    show 0 < fU (zM D) (zN D) v e ∧ fU (zM D) (zN D) v e < _
    by_cases e0 : e = zN D
    · rw [e0, fU_e]; exact hv
    · rw [fU_n e0]; exact h4 e (by omega)
  · have he : e < zN D + 1 := he
    have hp : fU (zP D) (zN D) S.head? e = some q := hp
    by_cases e0 : e = zN D
    · rw [e0, fU_e] at hp
      rw [e0]
      exact hq q hp
    · rw [fU_n e0] at hp
      exact h5 e q (by omega) hp
  · have he : e < zN D + 1 := he
    show fU (zA D) (zN D) (zW D) e + fU (zB D) (zN D) 0 e ≤ zW D
    by_cases e0 : e = zN D
    · rw [e0, fU_e, fU_e]; omega
    · rw [fU_n e0, fU_n e0]; exact h6 e (by omega)
  · have he : e < zN D + 1 := he
    show fU (zS D) (zN D) (zC D) e + (fU (zX D) (zN D) [] e).length ≤ zC D
    by_cases e0 : e = zN D
    · rw [e0, fU_e, fU_e]; exact Nat.le_refl _
    · rw [fU_n e0, fU_n e0]
      exact h8 e (by omega) (by rw [kc_addE hw hq] at hk; omega)
  · have he : e < zN D + 1 := he
    show prL (fU (zX D) (zN D) [] e) ∧ (fU (zX D) (zN D) [] e).length ≤ zC D
    by_cases e0 : e = zN D
    · rw [e0, fU_e]; exact ⟨prL_nil, Nat.zero_le _⟩
    · rw [fU_n e0]; exact h9 e (by omega)
  · have he : e < zN D + 1 := he
    show fU (zP D) (zN D) S.head? e = none ↔ e = 0
    by_cases e0 : e = zN D
    · rw [e0, fU_e]
      constructor
      · intro q
        by_cases z : zN D = 0
        · exact z
        · cases S with
          | nil => exact absurd rfl (h0 z)
          | cons o S => cases q
      · intro q
        rw [hs.2.2.2.2.2.2.2.2 q]
        rfl
    · rw [fU_n e0]; exact h10 e (by omega)
  · have he : e < zN D + 1 := he
    have hpb : fU (zP D) (zN D) S.head? b = some 0 := hpb
    have hpe : fU (zP D) (zN D) S.head? e = some q := hpe
    rw [fU_n (by omega)] at hpb
    by_cases e0 : e = zN D
    · rw [e0, fU_e] at hpe
      refine hs.2.2.2.2.2.2.2.1 b (by omega) hpb q ?_ hqb
      cases S with
      | nil => cases hpe
      | cons o S =>
        have hpe : some o = some q := hpe
        rw [← Option.some.inj hpe]
        exact List.mem_cons_self ..
    · rw [fU_n e0] at hpe
      exact h11 e b q hb (by omega) hpb hpe hqb
/-- what a piece of the page may do: both fail, or both go on -/
def pcOut (a : aS) (p : Nat) (F G : Option (Int32 × gS)) : Prop := (∃ σ' τ', F = some (0, σ') ∧ G = some (0, τ') ∧ absC σ' a ∧ absM τ' a) ∨ (∃ σ' τ' D' p' S', F = some (1, σ') ∧ G = some (1, τ') ∧ absC σ' a ∧ absM τ' a ∧ tC σ' D' ∧ tM τ' D' ∧ wB a D' ∧ wS a D' p' S' ∧ p < p' ∧ 0 < zN D' ∧ pC σ' p' S' ∧ pM τ' D' p' S')
def sI1 (a : aS) (e p0 : Nat) (S : List Nat) (D : dS) (q j : Nat) : Prop := wB a D ∧ zN D = e + 1 ∧ zA D e + zB D e = zW D ∧ zB D e = j ∧ zP D e = S.head? ∧ zX D e = [] ∧ zS D e = zC D ∧ kc D e = 0 ∧ 4 * e ≤ p0 + S.length ∧ p0 + 2 ≤ q ∧ 5 * zW D ≤ q ∧ zC D ≤ q ∧ stk D S ∧ (∀ o S', S = o :: S' → kc D o ≠ 0) ∧ ∀ b, b < zN D → zP D b = some 0 → ∀ z ∈ S, z < b → z = 0
theorem m_st8 (t : Nat) (x : Int32) (z : Int32) (τ : gS) : R_M_start (t + 1) 8 [x, z] τ = some (1, sI (sI τ 6 z) 2 (x + 1)) := by
  rw [st_M_start_8]
  unfold B_M_start_8
  rw [gPut_s, gPut_s]
theorem m_closed {e n : Nat} {q : Nat} (t : Nat) {τ : gS} (h6 : τ.1 6 = nI n) : R_M_start (t + 4) 5 [nI e, nI q, 1] τ = some (1, sI (sI (sI (sI τ 4 (nI (q + 2))) 5 (τ.1 5)) 6 (nI n)) 2 (nI (e + 1))) := by
  rw [show t + 4 = t + 1 + 1 + 1 + 1 from rfl, st_M_start_5]
  unfold B_M_start_5
  rw [if_neg i10, add_c2, st_M_start_6]
  unfold B_M_start_6
  rw [gPut_s, if_neg i10, sI_ne (by decide), st_M_start_7]
  unfold B_M_start_7
  rw [gPut_s, if_neg i10, sI_ne (by decide), sI_ne (by decide), h6, m_st8, add_c1]
theorem m_opened {e n : Nat} {q : Nat} (t : Nat) {τ : gS} (h6 : τ.1 6 = nI n) : R_M_start (t + 4) 5 [nI e, nI q, 0] τ = some (1, sI (sI (sI (sI τ 4 (nI (q + 1))) 5 (nI e)) 6 (nI (n + 1))) 2 (nI (e + 1))) := by
  rw [show t + 4 = t + 1 + 1 + 1 + 1 from rfl, st_M_start_5]
  unfold B_M_start_5
  rw [if_pos rfl, add_c1, st_M_start_6]
  unfold B_M_start_6
  rw [gPut_s, if_pos rfl, st_M_start_7]
  unfold B_M_start_7
  rw [gPut_s, if_pos rfl, sI_ne (by decide), sI_ne (by decide), h6, add_c1, m_st8, add_c1]
theorem tM_I {τ : gS} {D : dS} (h : tM τ D) {k : Nat} (hk : k ≠ 3) (v : Int32) : tM (sI τ k v) D := by
  obtain ⟨t1, t2, t3, t4⟩ := h
  exact ⟨by rw [sI_ne (Ne.symm hk)]; exact t1, t2, t3, t4⟩
theorem tC_I {σ : gS} {D : dS} (h : tC σ D) {k : Nat} (hk : 8 ≤ k) (v : Int32) : tC (sI σ k v) D := by
  obtain ⟨t1, t2, t3, t4, t5, t6⟩ := h
  exact ⟨by rw [sI_ne (by omega)]; exact t1, by rw [sI_ne (by omega)]; exact t2, by rw [sI_ne (by omega)]; exact t3, t4, t5, t6⟩
/-- all that may follow in a start but an attribute -/
theorem st_one {a : aS} (ha : okA a) {e p0 : Nat} {S : List Nat} (hSl : S.length < 20) (he420 : e < 420) {j : Nat} (hj : j ≤ 6) {σ τ : gS} {D : dS} {q s : Nat} (t tm : Nat) (hs1 : ∀ i, i < s → chA a (q + i) = 32) (hs2 : chA a (q + s) ≠ 32) (hq : q ≤ (sP a).length) (hc : absC σ a) (hm : absM τ a) (tc : tC σ D) (tmm : tM τ D) (hI : sI1 a e p0 S D q j) (h8 : σ.1 8 = nI (q + s)) (h9 : σ.1 9 = oI S.head?) (h10 : σ.1 10 = nI S.length) (m5 : τ.1 5 = oI S.head?) (m6 : τ.1 6 = nI S.length) : (isL (chA a (q + s)) ∧ 0 < s ∧ j < 6) ∨ pcOut a p0 (R_F_readStart (t + 2) 1 [nI e, bI (decide (0 < s)), nI j] σ) (R_M_start (tm + 12 + s) 1 [nI e, nI q, nI j] τ) := by
  have hpl := ha.2.1
  have hqs := sp_le hs1 hq
  obtain ⟨hB, hN, hAB, hBj, hP, hX, hS, hK, h4, hp0, h5L, hCq, hst, hko, hsp⟩ := hI
  have c127 := chA_lt ha (q + s)
  have c127b := chA_lt ha (q + s + 1)
  by_cases hattr : isL (chA a (q + s)) ∧ 0 < s ∧ j < 6
  · exact Or.inl hattr
  refine Or.inr ?_
  -- the class goes to its last block
  have cls : R_F_readStart (t + 2) 1 [nI e, bI (decide (0 < s)), nI j] σ = R_F_readStart (t + 1) 2 [nI e] σ := by
    rw [show t + 2 = t + 1 + 1 from rfl, st_F_readStart_1]
    unfold B_F_readStart_1
    by_cases e6 : 6 ≤ j
    · rw [if_pos (by rw [c6_le (by omega)]; exact e6)]
    · rw [if_neg (by rw [c6_le (by omega)]; exact e6)]
      by_cases e0 : 0 < s
      · rw [decide_eq_true e0, bI_t, if_neg i10, h8, c_code ha hc (by omega), gBd_s, (c_let ha _ _).2 (fun q => hattr ⟨q, e0, by omega⟩), gBd_s, if_pos rfl]
      · rw [decide_eq_false e0, bI_f, if_pos rfl]
  have ref : R_M_start (tm + 12 + s) 1 [nI e, nI q, nI j] τ = R_M_start (tm + 11) 2 [nI e, nI (q + s), nI j, nI q] τ := by
    rw [show tm + 12 + s = tm + 11 + s + 1 by omega, st_M_start_1]
    unfold B_M_start_1
    rw [if_neg (by rw [c7_lt (by omega)]; omega), m_sp ha (s := s) hm (nI e) (nI j) (nI q) s q (tm + 11) (by omega) hs1]
  rw [cls, ref, show tm + 11 = tm + 10 + 1 from rfl, st_M_start_2, st_F_readStart_2]
  unfold B_M_start_2 B_F_readStart_2
  rw [h8, c_code ha hc (by omega), gBd_s, m_or0 ha hm (by omega), gBd_s, if_neg (show ¬ nI (chA a (q + s)) = 32 by rw [eq_c32 (by omega)]; exact hs2), m_or0 ha hm (by omega), gBd_s]
  -- the reference's fail
  have mfail : ¬ chA a (q + s) = 62 → (¬ isL (chA a (q + s)) ∨ s = 0 ∨ j = 6) → ∃ τ', R_M_start (tm + 9) 4 [nI e, nI (q + s), nI j, nI q, 0] τ = some (0, τ') ∧ absM τ' a := by
    intro h62 hwhy
    have e10 : ∀ (t' : Nat) (τ' : gS), R_M_start (t' + 1) 10 [nI e, nI j, -1] τ' = some (0, τ') := fun t' τ' => by
      rw [st_M_start_10]
      unfold B_M_start_10
      rw [if_neg (by decide)]
    have e9 : ∀ (t' : Nat) (τ' : gS), R_M_start (t' + 1 + 1) 9 [nI e, nI j] τ' = some (0, τ') := fun t' τ' => by
      rw [st_M_start_9]
      unfold B_M_start_9
      rw [e10]
    rw [show tm + 9 = tm + 6 + 1 + 1 + 1 from rfl, st_M_start_4]
    unfold B_M_start_4
    rw [if_pos rfl, m_or0 ha hm (by omega), gBd_s, if_neg (by rw [eq_c62 (by omega)]; exact h62)]
    by_cases es : s = 0
    · rw [if_pos (by rw [es]; rfl), e9]
      exact ⟨τ, rfl, hm⟩
    · rw [if_neg (by rw [n_eq (by omega) (by omega)]; omega), gLd_n (by omega) (by decide), (tmm.2.1 e (by omega)).2.2.2.1, hBj]
      by_cases e6 : j = 6
      · rw [if_pos (by rw [e6]; rfl), e9]
        exact ⟨τ, rfl, hm⟩
      · have hnl : ¬ isL (chA a (q + s)) := by
          rcases hwhy with q | q | q
          · exact q
          · exact absurd q es
          · exact absurd q e6
        rw [if_neg (by rw [eq_c6 (by omega)]; exact e6)]
        have hk : nk a (q + s) 0 := ⟨by decide, fun i hi => absurd hi (Nat.not_lt_zero i), fun _ => hnl⟩
        have mn := m_name ha (by omega) hk hm
        obtain ⟨T, hT⟩ := gFx
        have fa' : f_M_attributeAt τ (nI e) (nI (q + s)) = some (-1, sI τ 7 (nI (q + s + 0))) := by
          rw [fx_M_attributeAt hT]
          unfold B_M_attributeAt_0
          rw [mn, gBd_s, if_pos (Or.inl rfl), if_pos iml]
        rw [fa', gBd_s, e10]
        exact ⟨_, rfl, absM_I hm (by decide) _⟩
  by_cases h47 : chA a (q + s) = 47
  · have hin := chA_in (a := a) (p := q + s) (by rw [h47]; decide)
    have e47 : cI a (q + s) = 47 := (cI_eq ha (c := 47) (by decide) (by decide)).mpr h47
    have hc1 := absC_I hc (k := 8) (by decide) (nI (q + s + 1))
    have hsk := c_skip ha hc1 (p := q + s + 1) (c := 62) (by omega) (sI_eq _ _ _) (by decide) (by decide) (x := 62) rfl
    rw [if_pos e47, gPut_s, h8, add_c1, hsk, if_pos (show nI (chA a (q + s)) = 47 by rw [h47]; rfl), m_or0 ha hm (by omega), gBd_s]
    by_cases h62 : chA a (q + s + 1) = 62
    · have hin2 := chA_in (a := a) (p := q + s + 1) (by rw [h62]; decide)
      rw [if_pos h62, gBd_s, nr_1, if_pos (show nI (chA a (q + s + 1)) = 62 by rw [h62]; rfl), show tm + 10 = tm + 9 + 1 from rfl, st_M_start_4]
      unfold B_M_start_4
      rw [if_neg i10, show tm + 9 = tm + 5 + 4 from rfl, m_closed _ m6, sI_sI]
      refine Or.inr ⟨_, _, D, q + s + 2, S, rfl, rfl, absC_I hc (by decide) _, absM_I (absM_I (absM_I (absM_I hm (by decide) _) (by decide) _) (by decide) _) (by decide) _, tC_I tc (by decide) _, tM_I (tM_I (tM_I (tM_I tmm (by decide) _) (by decide) _) (by decide) _) (by decide) _, hB, ⟨by omega, by omega, by omega, by omega, by omega, hst, fun o S' hS' hk => absurd hk (hko o S' hS'), hsp, fun z => by omega⟩, by omega, by omega, ⟨?_, ?_, ?_⟩, ?_, ?_, ?_, ?_⟩
      · rw [sI_eq]
      · rw [sI_ne (by decide)]; exact h9
      · rw [sI_ne (by decide)]; exact h10
      · rw [sI_eq, hN]
      · rw [sI_ne (by decide), sI_ne (by decide), sI_ne (by decide), sI_eq]
      · rw [sI_ne (by decide), sI_ne (by decide), sI_eq]; exact m5
      · rw [sI_ne (by decide), sI_eq]
    · rw [if_neg h62, gBd_s, nr_0, if_neg (show ¬ nI (chA a (q + s + 1)) = 62 by rw [eq_c62 (by omega)]; exact h62)]
      obtain ⟨τ', w1, w2⟩ := mfail (by rw [h47]; decide) (Or.inl (by unfold isL; omega))
      refine Or.inl ⟨_, τ', rfl, ?_, hc1, w2⟩
      rw [show tm + 10 = tm + 9 + 1 from rfl, st_M_start_3]
      unfold B_M_start_3
      exact w1
  · have e47 : ¬ cI a (q + s) = 47 := fun q => h47 ((cI_eq ha (c := 47) (by decide) (by decide)).mp q)
    have hc1 := absC_I (absC_I hc (k := 9) (by decide) (nI e)) (k := 10) (by decide) (nI (S.length + 1))
    have hsk := c_skip ha hc1 (p := q + s) (c := 62) (by omega) (by rw [sI_ne (by decide), sI_ne (by decide)]; exact h8) (by decide) (by decide) (x := 62) rfl
    rw [if_neg e47, gPut_s, gPut_s, sI_ne (by decide), h10, add_c1, hsk, if_neg (show ¬ nI (chA a (q + s)) = 47 by rw [eq_c47 (by omega)]; exact h47), show tm + 10 = tm + 9 + 1 from rfl, st_M_start_3]
    unfold B_M_start_3
    by_cases h62 : chA a (q + s) = 62
    · have hin := chA_in (a := a) (p := q + s) (by rw [h62]; decide)
      rw [if_pos h62, gBd_s, nr_1, show tm + 9 = tm + 8 + 1 from rfl, st_M_start_4]
      unfold B_M_start_4
      rw [if_pos rfl, m_or0 ha hm (by omega), gBd_s, if_pos (show nI (chA a (q + s)) = 62 by rw [h62]; rfl), show tm + 8 = tm + 4 + 4 from rfl, m_opened _ m6]
      refine Or.inr ⟨_, _, D, q + s + 1, e :: S, rfl, rfl, absC_I hc1 (by decide) _, absM_I (absM_I (absM_I (absM_I hm (by decide) _) (by decide) _) (by decide) _) (by decide) _, tC_I (tC_I (tC_I tc (by decide) _) (by decide) _) (by decide) _, tM_I (tM_I (tM_I (tM_I tmm (by decide) _) (by decide) _) (by decide) _) (by decide) _, hB, ⟨?_, by omega, by omega, by omega, ?_, ⟨by omega, hP, hst⟩, fun o S' hS' hk => ?_, fun b hb hpb z hz hzb => ?_, fun z => by omega⟩, by omega, by omega, ⟨?_, ?_, ?_⟩, ?_, ?_, ?_, ?_⟩
      · rw [List.length_cons]; omega
      · rw [List.length_cons]; omega
      · have := (List.cons.inj hS').1
        rw [← this, hX, hS]
        rfl
      · rcases List.mem_cons.mp hz with q | q
        · omega
        · exact hsp b hb hpb z q hzb
      · rw [sI_eq]
      · rw [sI_ne (by decide), sI_ne (by decide), sI_eq]; rfl
      · rw [sI_ne (by decide), sI_eq]; rfl
      · rw [sI_eq, hN]
      · rw [sI_ne (by decide), sI_ne (by decide), sI_ne (by decide), sI_eq]
      · rw [sI_ne (by decide), sI_ne (by decide), sI_eq]; rfl
      · rw [sI_ne (by decide), sI_eq]; rfl
    · rw [if_neg h62, gBd_s, nr_0]
      obtain ⟨τ', w1, w2⟩ := mfail h62 (by
        by_cases e0 : isL (chA a (q + s))
        · by_cases e1 : s = 0
          · exact Or.inr (Or.inl e1)
          · by_cases e2 : j = 6
            · exact Or.inr (Or.inr e2)
            · exact absurd ⟨e0, by omega, by omega⟩ hattr
        · exact Or.inl e0)
      exact Or.inl ⟨_, τ', rfl, w1, hc1, w2⟩
