/-! decode: a start on both sides, whole -/
theorem kc_same {D D' : dS} (hn : zN D' = zN D) (hp : zP D' = zP D) (o : Nat) : kc D' o = kc D o := by
  unfold kc
  rw [hn, hp]
theorem m_toattr {a : aS} (ha : okA a) {e q s j : Nat} (tm : Nat) {τ : gS} {D : dS} (hm : absM τ a) (tmm : tM τ D) (he : e < zN D) (he420 : e < 420) (hBj : zB D e = j) (hj : j < 6) (hs1 : ∀ i, i < s → chA a (q + i) = 32) (hs0 : 0 < s) (hq : q ≤ (sP a).length) (hl : isL (chA a (q + s))) : R_M_start (tm + 12 + s) 1 [nI e, nI q, nI j] τ = gBd (f_M_attributeAt τ (nI e) (nI (q + s))) (fun y44 σ45 => R_M_start (tm + 8) 10 [nI e, nI j, y44] σ45) := by
  have hpl := ha.2.1
  have hqs := sp_le hs1 hq
  unfold isL at hl
  rw [show tm + 12 + s = tm + 11 + s + 1 by omega, st_M_start_1]
  unfold B_M_start_1
  rw [if_neg (by rw [c7_lt (by omega)]; omega), m_sp ha (s := s) hm (nI e) (nI j) (nI q) s q (tm + 11) (by omega) hs1, show tm + 11 = tm + 10 + 1 from rfl, st_M_start_2]
  unfold B_M_start_2
  rw [m_or0 ha hm (by omega), gBd_s, if_neg (show ¬ nI (chA a (q + s)) = 32 by rw [eq_c32 (by omega)]; omega), m_or0 ha hm (by omega), gBd_s, if_neg (show ¬ nI (chA a (q + s)) = 47 by rw [eq_c47 (by omega)]; omega), show tm + 10 = tm + 9 + 1 from rfl, st_M_start_3]
  unfold B_M_start_3
  rw [show tm + 9 = tm + 8 + 1 from rfl, st_M_start_4]
  unfold B_M_start_4
  rw [if_pos rfl, m_or0 ha hm (by omega), gBd_s, if_neg (show ¬ nI (chA a (q + s)) = 62 by rw [eq_c62 (by omega)]; omega), if_neg (show ¬ nI q = nI (q + s) by rw [n_eq (by omega) (by omega)]; omega), gLd_n (by omega) (by decide), (tmm.2.1 e he).2.2.2.1, hBj, if_neg (show ¬ nI j = 6 by rw [eq_c6 (by omega)]; omega)]
theorem st_loop {a : aS} (ha : okA a) {e p0 : Nat} {S : List Nat} (hSl : S.length < 20) (he420 : e < 420) : ∀ (d j : Nat) (σ τ : gS) (D : dS) (q s t tm : Nat), j + d = 6 → d + 2 ≤ t → 1700 * (d + 1) ≤ tm → (∀ i, i < s → chA a (q + i) = 32) → chA a (q + s) ≠ 32 → q ≤ (sP a).length → absC σ a → absM τ a → tC σ D → tM τ D → sI1 a e p0 S D q j → σ.1 8 = nI (q + s) → σ.1 9 = oI S.head? → σ.1 10 = nI S.length → τ.1 5 = oI S.head? → τ.1 6 = nI S.length → pcOut a p0 (R_F_readStart t 1 [nI e, bI (decide (0 < s)), nI j] σ) (R_M_start tm 1 [nI e, nI q, nI j] τ) := by
  have hpl := ha.2.1
  intro d
  induction d with
  | zero =>
    intro j σ τ D q s t tm hj ht htm hs1 hs2 hq hc hm tc tmm hI h8 h9 h10 m5 m6
    have hqs := sp_le hs1 hq
    obtain ⟨t, rfl⟩ : ∃ t', t = t' + 2 := ⟨t - 2, by omega⟩
    obtain ⟨tm, rfl⟩ : ∃ t', tm = t' + 12 + s := ⟨tm - 12 - s, by omega⟩
    rcases st_one ha hSl he420 (j := j) (by omega) t tm hs1 hs2 hq hc hm tc tmm hI h8 h9 h10 m5 m6 with h | h
    · omega
    · exact h
  | succ d ih =>
    intro j σ τ D q s t tm hj ht htm hs1 hs2 hq hc hm tc tmm hI h8 h9 h10 m5 m6
    have hqs := sp_le hs1 hq
    obtain ⟨t, rfl⟩ : ∃ t', t = t' + 2 := ⟨t - 2, by omega⟩
    obtain ⟨tm, rfl⟩ : ∃ t', tm = t' + 12 + s := ⟨tm - 12 - s, by omega⟩
    rcases st_one ha hSl he420 (j := j) (by omega) t tm hs1 hs2 hq hc hm tc tmm hI h8 h9 h10 m5 m6 with ⟨hl, hs0, hj6⟩ | h
    · obtain ⟨hB, hN, hAB, hBj, hP, hX, hS, hK, h4, hp0, h5L, hCq, hst, hko, hsp⟩ := hI
      have hin : q + s < (sP a).length := chA_in (by unfold isL at hl; omega)
      rw [m_toattr ha tm hm tmm (by omega) he420 hBj hj6 hs1 hs0 hq hl, show t + 2 = t + 1 + 1 from rfl, st_F_readStart_1]
      unfold B_F_readStart_1
      rw [if_neg (show ¬ (6 : Int32) ≤ nI j by rw [c6_le (by omega)]; omega), decide_eq_true hs0, bI_t, if_neg i10, h8, c_code ha hc (by omega), gBd_s, (c_let ha _ _).1 hl, gBd_s, if_neg i10]
      rcases at_both ha hB (by omega) hN hAB hc hm tc tmm hin h8 hl with ⟨σ', τ', w1, w2, w3, w4⟩ | ⟨σ', τ', D', p', w1, w2, w3, w4, w5, w6, w7, w8, w9, w10, w11, w12, w13, w14, w15, w16, w17, w18, w19, w20⟩
      · rw [w1, gBd_s, if_pos rfl, w2, gBd_s, show tm + 8 = tm + 7 + 1 from rfl, st_M_start_10]
        unfold B_M_start_10
        rw [if_neg (show ¬ (0 : Int32) ≤ -1 by decide)]
        exact Or.inl ⟨σ', τ', rfl, rfl, w3, w4⟩
      · obtain ⟨s', z1, z2⟩ := sp_ex a p'
        rw [w1, gBd_s, if_neg i10, w2, gBd_s, c_sp ha z1 z2 w17 w3 w18, gBd_s, add_c1, show tm + 8 = tm + 7 + 1 from rfl, st_M_start_10]
        unfold B_M_start_10
        rw [if_pos (show (0 : Int32) ≤ nI p' from nI_pos' (by omega)), add_c1]
        refine ih (j + 1) (sI σ' 8 (nI (p' + s'))) τ' D' p' s' (t + 1) (tm + 7) (by omega) (by omega) (by omega) z1 z2 w17 (absC_I w3 (by decide) _) w4 (tC_I w5 (by decide) _) w6 ⟨w7, by omega, w14, by omega, by rw [w9]; exact hP, by rw [w10]; exact hX, by rw [w11, w12]; exact hS, by rw [kc_same w8 w9]; exact hK, h4, by omega, by omega, by omega, stk_same (by omega) (fun o _ => by rw [w9]) hst, fun o S' hS' => by rw [kc_same w8 w9]; exact hko o S' hS', fun b hb hpb => hsp b (by omega) (by rw [← w9]; exact hpb)⟩ (sI_eq _ _ _) ?_ ?_ ?_ ?_
        · rw [sI_ne (by decide), w19 9 (by decide) (by decide)]; exact h9
        · rw [sI_ne (by decide), w19 10 (by decide) (by decide)]; exact h10
        · rw [w20 5 (by decide) (by decide)]; exact m5
        · rw [w20 6 (by decide) (by decide)]; exact m6
    · exact h
/-- the reference lays a new element -/
theorem m_addE {a : aS} {D : dS} (h : wB a D) {τ : gS} (ht : tM τ D) (hm : absM τ a) (v : Nat) (q : Option Nat) : tM (sA (sA (sA (sA (sA τ 8 (upd (τ.2 8) (zN D) (nI v))) 9 (upd (τ.2 9) (zN D) (oI q))) 10 (upd (τ.2 10) (zN D) (nI (zW D)))) 11 (upd (τ.2 11) (zN D) 0)) 12 (upd (τ.2 12) (zN D) 0)) (addE D v q) := by
  obtain ⟨t1, t2, t3, t4⟩ := ht
  refine ⟨t1, fun e he => ?_, fun i hi => ?_, fun e he k hk hk2 => ?_⟩
  · have he : e < zN D + 1 := he
    simp (disch := decide) only [sA_eq, sA_ne]
    show _ = nI (fU (zM D) (zN D) v e) ∧ _ = oI (fU (zP D) (zN D) q e) ∧ _ = nI (fU (zA D) (zN D) (zW D) e) ∧ _ = nI (fU (zB D) (zN D) 0 e) ∧ _ = nI (fU (zX D) (zN D) [] e).length
    by_cases e0 : e = zN D
    · rw [e0, up_eq, up_eq, up_eq, up_eq, up_eq, fU_e, fU_e, fU_e, fU_e, fU_e]
      exact ⟨rfl, rfl, rfl, rfl, rfl⟩
    · rw [up_ne e0, up_ne e0, up_ne e0, up_ne e0, up_ne e0, fU_n e0, fU_n e0, fU_n e0, fU_n e0, fU_n e0]
      exact t2 e (by omega)
  · simp (disch := decide) only [sA_ne]
    exact t3 i hi
  · have he : e < zN D + 1 := he
    have hk2 : k < (fU (zX D) (zN D) [] e).length := hk2
    simp (disch := decide) only [sA_ne]
    show _ = nI ((fU (zX D) (zN D) [] e).getD k 0)
    by_cases e0 : e = zN D
    · rw [e0, fU_e] at hk2
      exact absurd hk2 (Nat.not_lt_zero k)
    · rw [fU_n e0] at hk2 ⊢
      exact t4 e (by omega) k hk hk2
theorem start_both {a : aS} (ha : okA a) {D : dS} {p : Nat} {S : List Nat} (h : wB a D) (hs : wS a D p S) (h0 : zN D ≠ 0 → S ≠ []) {σ τ : gS} (hc : absC σ a) (hm : absM τ a) (tc : tC σ D) (tmm : tM τ D) (pc : pC σ p S) (pm : pM τ D p S) (hp : p < (sP a).length) : pcOut a p (f_F_readStart σ) (f_M_start τ) := by
  have hpl := ha.2.1
  obtain ⟨T, hT⟩ := gFx
  obtain ⟨c8, c9, c10⟩ := pc
  obtain ⟨m2, m4, m5, m6⟩ := pm
  have hS20 := hs.2.2.2.2.1
  have hn : zN D < 420 := by have := hs.1; omega
  have hq : ∀ o, S.head? = some o → o < zN D := fun o ho => by
    cases S with
    | nil => cases ho
    | cons q S =>
      have ho : some q = some o := ho
      rw [← Option.some.inj ho]
      exact hs.2.2.2.2.2.1.1
  obtain ⟨k, hk⟩ := nk_ex a (p + 1)
  have hk7 := hk.1
  have hc1 := absC_I hc (k := 8) (by decide) (nI (p + 1))
  have cn := c_name ha (by omega) hk hc1 (sI_eq _ _ _)
  rw [sI_sI] at cn
  have mn := m_name ha (by omega) hk hm
  have hc2 := absC_I hc (k := 8) (by decide) (nI (p + 1 + min k 6))
  have hm1 := absM_I hm (k := 7) (by decide) (nI (p + 1 + k))
  rw [fx_F_readStart hT, fx_M_start hT]
  unfold B_F_readStart_0 B_M_start_0
  rw [gPut_s, c8, add_c1, cn, gBd_s, m4, add_c1, mn, gBd_s]
  by_cases k0 : k = 0
  · rw [k0, if_pos (show nI (nv a (p + 1) (min 0 6)) = 0 from rfl), if_pos (show (0 : Nat) = 0 ∨ (0 : Nat) = 7 from Or.inl rfl), if_pos iml]
    rw [k0] at hc2 hm1
    exact Or.inl ⟨_, _, rfl, rfl, hc2, hm1⟩
  · have hv0 : 0 < nv a (p + 1) (min k 6) := (nv_lt hk (min k 6) (by omega)).2 (by omega)
    have hv6 : nv a (p + 1) (min k 6) < 387420489 := by
      have h1 := (nv_lt hk (min k 6) (by omega)).1
      have h2 : (27 : Nat) ^ (min k 6) ≤ 27 ^ 6 := Nat.pow_le_pow_right (by decide) (by omega)
      rw [show (27 : Nat) ^ 6 = 387420489 from rfl] at h2
      omega
    rw [if_neg (nI_ne0 hv0 (by omega)), sI_ne (by decide), c10]
    by_cases hS : S.length = 20
    · rw [if_pos (show (20 : Int32) ≤ nI S.length by rw [hS]; decide)]
      by_cases k7 : k = 7
      · rw [if_pos (show k = 0 ∨ k = 7 from Or.inr k7), if_pos iml]
        exact Or.inl ⟨_, _, rfl, rfl, hc2, hm1⟩
      · have hv7 := nv_6 hk (by omega)
        rw [if_neg (show ¬ (k = 0 ∨ k = 7) from fun q => q.elim k0 k7), if_neg (nI_pos (n := nv a (p + 1) k) (by omega)), sI_ne (by decide), m6, if_pos (show nI S.length = 20 by rw [hS]; rfl)]
        exact Or.inl ⟨_, _, rfl, rfl, hc2, hm1⟩
    · rw [if_neg (show ¬ (20 : Int32) ≤ nI S.length by rw [c20_le (by omega)]; omega)]
      have tc2 : tC (sI σ 8 (nI (p + 1 + min k 6))) D := tC_I tc (by decide) _
      obtain ⟨σ2, x1, x2, x3, x4⟩ := c_addE h hn tc2 (v := nv a (p + 1) (min k 6)) hq
      have hca : absC σ2 a := absC_of hc2 (x3 0 (by decide)) (x3 1 (by decide)) (fun q hq => x4 q (by omega))
      have h28 : σ2.1 8 = nI (p + 1 + min k 6) := by rw [x3 8 (by decide), sI_eq]
      have h29 : σ2.1 9 = oI S.head? := by rw [x3 9 (by decide), sI_ne (by decide)]; exact c9
      have h210 : σ2.1 10 = nI S.length := by rw [x3 10 (by decide), sI_ne (by decide)]; exact c10
      have h25 : σ2.1 5 = nI (zN D + 1) := x2.1
      have hlen : p + 1 + min k 6 ≤ (sP a).length := by
        have := chA_in (a := a) (p := p + 1 + (min k 6 - 1)) (by have := hk.2.1 (min k 6 - 1) (by omega); unfold isL at this; omega)
        omega
      rw [sI_ne (by decide), c9, x1, gBd_s, if_neg i10]
      by_cases k7 : k = 7
      · rw [if_pos (show k = 0 ∨ k = 7 from Or.inr k7), if_pos iml]
        have h6 : isL (chA a (p + 1 + min k 6)) := by rw [show min k 6 = 6 by omega]; exact hk.2.1 6 (by omega)
        unfold isL at h6
        have sp := c_sp ha (p := p + 1 + min k 6) (s := 0) (fun i hi => absurd hi (Nat.not_lt_zero i)) (by show chA a (p + 1 + min k 6) ≠ 32; omega) hlen hca h28
        rw [show p + 1 + min k 6 + 0 = p + 1 + min k 6 from rfl, sI_self h28] at sp
        rw [sp, gBd_s, h25, nI_pred, decide_eq_false (Nat.lt_irrefl 0), bI_f, show T + 49999 = T + 49997 + 1 + 1 from rfl, st_F_readStart_1]
        unfold B_F_readStart_1
        rw [if_neg (show ¬ (6 : Int32) ≤ 0 by decide), if_pos rfl, st_F_readStart_2]
        unfold B_F_readStart_2
        have hc3 := absC_I (absC_I hca (k := 9) (by decide) (nI (zN D))) (k := 10) (by decide) (nI (S.length + 1))
        have hsk := c_skip ha hc3 (p := p + 1 + min k 6) (c := 62) (by omega) (by rw [sI_ne (by decide), sI_ne (by decide)]; exact h28) (by decide) (by decide) (x := 62) rfl
        rw [if_neg (by omega)] at hsk
        rw [h28, c_code ha hca (by omega), gBd_s, if_neg (show ¬ cI a (p + 1 + min k 6) = 47 from fun q => by have := (cI_eq ha (c := 47) (by decide) (by decide)).mp q; omega), gPut_s, gPut_s, sI_ne (by decide), h210, add_c1, hsk, gBd_s, nr_0]
        exact Or.inl ⟨_, _, rfl, rfl, hc3, hm1⟩
      · have k6 : min k 6 = k := by omega
        rw [k6] at hv0 hv6 x2 hlen h28
        rw [if_neg (show ¬ (k = 0 ∨ k = 7) from fun q => q.elim k0 k7), if_neg (nI_pos (n := nv a (p + 1) k) (by omega)), sI_ne (by decide), m6, if_neg (show ¬ nI S.length = 20 by rw [eq_c20 (by omega)]; exact hS), sI_ne (by decide), m2]
        have t3 : τ.1 3 = nI (zW D) := tmm.1
        simp (disch := omega) only [gSt_n, sA_1, sA_ne, sA_eq, sI_ne, sI_eq, sI_2, t3, m5]
        obtain ⟨s, z1, z2⟩ := sp_ex a (p + 1 + k)
        rw [c_sp ha z1 z2 hlen hca h28, gBd_s, h25, nI_pred]
        have tm1 : tM (sI τ 7 (nI (p + 1 + k))) D := tM_I tmm (by decide) _
        have ml := m_addE h tm1 hm1 (nv a (p + 1) k) S.head?
        simp only [sI_2] at ml
        have hW := wB_addE h hn hs ⟨hv0, hv6⟩ h0
        have go := st_loop ha (p0 := p) (S := S) (by omega) hn 6 0 (sI σ2 8 (nI (p + 1 + k + s))) _ (addE D (nv a (p + 1) k) S.head?) (p + 1 + k) s (T + 49999) (T + 49999) (by omega) (by omega) (by omega) z1 z2 hlen (absC_I hca (by decide) _) (by exact absM_of hm1 rfl rfl (fun q hq => by simp (disch := omega) only [sA_ne])) (tC_I x2 (by decide) _) ml ⟨hW, rfl, by show fU (zA D) (zN D) (zW D) (zN D) + fU (zB D) (zN D) 0 (zN D) = zW D; rw [fU_e, fU_e]; rfl, by show fU (zB D) (zN D) 0 (zN D) = 0; rw [fU_e], by show fU (zP D) (zN D) S.head? (zN D) = _; rw [fU_e], by show fU (zX D) (zN D) [] (zN D) = _; rw [fU_e], by show fU (zS D) (zN D) (zC D) (zN D) = zC D; rw [fU_e], kc_new h hq, hs.1, by omega, by show 5 * zW D ≤ _; have := hs.2.1; omega, by show zC D ≤ _; have := hs.2.2.1; omega, stk_same (by show zN D ≤ zN D + 1; omega) (fun o ho => by show fU (zP D) (zN D) S.head? o = _; rw [fU_n (by omega)]) hs.2.2.2.2.2.1, fun o S' hS' => ?_, fun b hb hpb z hz hzb => ?_⟩ (sI_eq _ _ _) (by rw [sI_ne (by decide)]; exact h29) (by rw [sI_ne (by decide)]; exact h210) (by rw [sA_1, sA_1, sA_1, sA_1, sA_1, sI_ne (by decide)]; exact m5) (by rw [sA_1, sA_1, sA_1, sA_1, sA_1, sI_ne (by decide)]; exact m6)
        · rw [nI_0] at go
          exact go
        · rw [kc_addE h hq, hS', if_pos (show (o :: S').head? = some o from rfl)]
          omega
        · have hb : b < zN D + 1 := hb
          have hpb : fU (zP D) (zN D) S.head? b = some 0 := hpb
          by_cases e0 : b = zN D
          · rw [e0, fU_e] at hpb
            cases S with
            | nil => cases hpb
            | cons o S' =>
              have ho : some o = some 0 := hpb
              have ho := Option.some.inj ho
              have hz0 : 0 < zN D := by have := hq 0 hpb; omega
              have hp0 := (h.2.2.2.2.2.2.2.2.2.1 0 hz0).mpr rfl
              have hst := hs.2.2.2.2.2.1.2.1
              rw [ho, hp0] at hst
              cases S' with
              | nil =>
                rcases List.mem_cons.mp hz with q | q
                · rw [q]; exact ho
                · cases q
              | cons o' S'' => cases hst
          · rw [fU_n e0] at hpb
            exact hs.2.2.2.2.2.2.2.1 b (by omega) hpb z hz hzb
