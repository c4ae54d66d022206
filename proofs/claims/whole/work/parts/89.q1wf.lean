/-! decode: a piece, the whole form -/
def pwOut (a : aS) (p : Nat) (σ τ : gS) : Prop := (∃ σ' τ', f_F_readPiece σ = some (0, σ') ∧ (∀ t : Nat, R_M_wellFormed (t + 8) 1 [] τ = some (0, τ')) ∧ absC σ' a ∧ absM τ' a) ∨ (∃ σ' τ' D' p' S', f_F_readPiece σ = some (1, σ') ∧ (∀ t : Nat, ∃ t', t ≤ t' ∧ R_M_wellFormed (t + 8) 1 [] τ = R_M_wellFormed t' 1 [] τ') ∧ absC σ' a ∧ absM τ' a ∧ tC σ' D' ∧ tM τ' D' ∧ wB a D' ∧ wS a D' p' S' ∧ p < p' ∧ 0 < zN D' ∧ pC σ' p' S' ∧ pM τ' D' p' S')
theorem pw_of {a : aS} {p : Nat} {σ τ : gS} {F G : Option (Int32 × gS)} (h : pcOut a p F G) (f0 : ∀ σ', F = some (0, σ') → f_F_readPiece σ = some (0, σ')) (f1 : ∀ σ', F = some (1, σ') → f_F_readPiece σ = some (1, σ')) (g0 : ∀ (t : Nat) (τ' : gS), G = some (0, τ') → R_M_wellFormed (t + 8) 1 [] τ = some (0, τ')) (g1 : ∀ (t : Nat) (τ' : gS), G = some (1, τ') → ∃ t', t ≤ t' ∧ R_M_wellFormed (t + 8) 1 [] τ = R_M_wellFormed t' 1 [] τ') : pwOut a p σ τ := by
  rcases h with ⟨σ', τ', w1, w2, w3, w4⟩ | ⟨σ', τ', D', p', S', w1, w2, w3⟩
  · exact Or.inl ⟨σ', τ', f0 σ' w1, fun t => g0 t τ' w2, w3, w4⟩
  · exact Or.inr ⟨σ', τ', D', p', S', f1 σ' w1, fun t => g1 t τ' w2, w3⟩
theorem mw6_0 (t : Nat) (τ : gS) : R_M_wellFormed (t + 1) 6 [0] τ = some (0, τ) := by
  rw [st_M_wellFormed_6]
  unfold B_M_wellFormed_6
  rw [if_pos rfl]
theorem mw6_1 (t : Nat) (τ : gS) : R_M_wellFormed (t + 1) 6 [1] τ = R_M_wellFormed t 1 [] τ := by
  rw [st_M_wellFormed_6]
  unfold B_M_wellFormed_6
  rw [if_neg i10]
theorem mw5 (t : Nat) (τ : gS) : R_M_wellFormed (t + 2) 5 [] τ = some (0, τ) := by
  rw [show t + 2 = t + 1 + 1 from rfl, st_M_wellFormed_5]
  unfold B_M_wellFormed_5
  rw [mw6_0]
theorem piece {a : aS} (ha : okA a) {D : dS} {p : Nat} {S : List Nat} (h : wB a D) (hs : wS a D p S) {σ τ : gS} (hc : absC σ a) (hm : absM τ a) (tc : tC σ D) (tmm : tM τ D) (pc : pC σ p S) (pm : pM τ D p S) (hp : p < (sP a).length) : pwOut a p σ τ := by
  have hpl := ha.2.1
  have hn := h.1
  have pc' := pc
  have pm' := pm
  obtain ⟨c8, c9, c10⟩ := pc
  obtain ⟨m2, m4, m5, m6⟩ := pm
  have c5 : σ.1 5 = nI (zN D) := tc.1
  have pg7 : τ.2 7 p = nI (chA a p) := hm.2.2.2.2.2.1 p hp
  have cp := chA_p ha hp
  have l1 := chA_lt ha (p + 1)
  have e60 : cI a p = 60 ↔ chA a p = 60 := cI_eq ha (c := 60) (by decide) (by decide)
  have e38 : cI a p = 38 ↔ chA a p = 38 := cI_eq ha (c := 38) (by decide) (by decide)
  have e47 : cI a (p + 1) = 47 ↔ chA a (p + 1) = 47 := cI_eq ha (c := 47) (by decide) (by decide)
  have e35 : cI a (p + 1) = 35 ↔ chA a (p + 1) = 35 := cI_eq ha (c := 35) (by decide) (by decide)
  -- the reference's blocks 1 and 2
  have b12 : ∀ t : Nat, (zN D = 0 ∨ S ≠ []) → R_M_wellFormed (t + 8) 1 [] τ = if chA a p = 60 then R_M_wellFormed (t + 6) 3 [1] τ else R_M_wellFormed (t + 6) 3 [0] τ := by
    intro t hz
    have e2 : R_M_wellFormed (t + 7) 2 [] τ = if chA a p = 60 then R_M_wellFormed (t + 6) 3 [1] τ else R_M_wellFormed (t + 6) 3 [0] τ := by
      rw [show t + 7 = t + 6 + 1 from rfl, st_M_wellFormed_2]
      unfold B_M_wellFormed_2
      rw [m4, gLd_n (by omega) (by decide), pg7]
      by_cases e : chA a p = 60
      · rw [if_pos e, if_pos (show nI (chA a p) = 60 by rw [e]; rfl)]
      · rw [if_neg e, if_neg (show ¬ nI (chA a p) = 60 by rw [eq_c60 (by omega)]; exact e)]
    rw [show t + 8 = t + 7 + 1 from rfl, st_M_wellFormed_1]
    unfold B_M_wellFormed_1
    rw [hm.2.1, m4, if_neg (show ¬ nI (sP a).length ≤ nI p by rw [n_le (by omega) (by omega)]; omega), m2]
    by_cases z : zN D = 0
    · rw [if_pos (show nI (zN D) ≤ 0 by rw [z]; decide), e2]
    · rw [if_neg (show ¬ nI (zN D) ≤ 0 by rw [le_c0 (by omega)]; omega)]
      cases S with
      | nil => exact absurd rfl (hz.resolve_left z)
      | cons o S' =>
        have ho := hs.2.2.2.2.2.1.1
        rw [m5, if_pos (show (0 : Int32) ≤ oI (o :: S').head? from nI_pos' (n := o) (by omega)), e2]
  have b3 : ∀ t : Nat, ¬ chA a (p + 1) = 47 → R_M_wellFormed (t + 6) 3 [1] τ = gBd (f_M_start τ) (fun y34 σ35 => R_M_wellFormed (t + 4) 6 [y34] σ35) := by
    intro t hne
    rw [show t + 6 = t + 5 + 1 from rfl, st_M_wellFormed_3]
    unfold B_M_wellFormed_3
    rw [if_neg i10, m4, add_c1, m_or0 ha hm (by omega), gBd_s, if_neg (show ¬ nI (chA a (p + 1)) = 47 by rw [eq_c47 (by omega)]; exact hne), show t + 5 = t + 4 + 1 from rfl, st_M_wellFormed_4]
    unfold B_M_wellFormed_4
    rw [if_neg i10]
  have b3e : ∀ t : Nat, chA a (p + 1) = 47 → R_M_wellFormed (t + 6) 3 [1] τ = gBd (f_M_end τ) (fun y25 σ26 => R_M_wellFormed (t + 5) 6 [y25] σ26) := by
    intro t he
    rw [show t + 6 = t + 5 + 1 from rfl, st_M_wellFormed_3]
    unfold B_M_wellFormed_3
    rw [if_neg i10, m4, add_c1, m_or0 ha hm (by omega), gBd_s, if_pos (show nI (chA a (p + 1)) = 47 by rw [he]; rfl)]
  have b3c : ∀ t : Nat, R_M_wellFormed (t + 6) 3 [0] τ = if τ.1 5 < 0 then some (0, τ) else gBd (f_M_content τ) (fun y30 σ31 => if y30 = 0 then some (0, σ31) else R_M_wellFormed (t + 3) 1 [] σ31) := by
    intro t
    rw [show t + 6 = t + 5 + 1 from rfl, st_M_wellFormed_3]
    unfold B_M_wellFormed_3
    rw [if_pos rfl, show t + 5 = t + 4 + 1 from rfl, st_M_wellFormed_4]
    unfold B_M_wellFormed_4
    rw [if_pos rfl, show t + 4 = t + 2 + 2 from rfl, mw5]
    congr 1
  have hread : f_P_codeAt σ (σ.1 8) = some (cI a p, σ) := by rw [c8]; exact c_code ha hc (by omega)
  have hread1 : f_P_codeAt σ (σ.1 8 + 1) = some (cI a (p + 1), σ) := by rw [c8, add_c1]; exact c_code ha hc (by omega)
  cases S with
  | nil =>
    have c9 : σ.1 9 = -1 := c9
    by_cases z : zN D = 0
    · by_cases h60 : chA a p = 60
      · have F0 : ∀ y σ', (y = 0 ∨ y = 1) → f_F_readStart σ = some (y, σ') → f_F_readPiece σ = some (y, σ') := by
          intro y σ' hy hF
          unfold f_F_readPiece
          rw [hread, gBd_s, c9, if_pos rfl, c5, if_pos (show nI (zN D) = 0 by rw [z]; rfl), if_pos (e60.mpr h60), hF, gBd_s]
          rcases hy with rfl | rfl
          · rw [if_pos rfl]
          · rw [if_neg i10]
        by_cases h47 : chA a (p + 1) = 47
        · -- the class reads no name
          obtain ⟨T, hT⟩ := gFx
          have hk : nk a (p + 1) 0 := ⟨by decide, fun i hi => absurd hi (Nat.not_lt_zero i), fun _ => by show ¬ isL (chA a (p + 1)); rw [h47]; unfold isL; omega⟩
          have hc1 := absC_I hc (k := 8) (by decide) (nI (p + 1))
          have cn := c_name ha (by omega) hk hc1 (sI_eq _ _ _)
          refine Or.inl ⟨_, τ, F0 0 _ (Or.inl rfl) ?_, fun t => ?_, absC_I hc1 (k := 8) (by decide) (nI (p + 1 + min 0 6)), hm⟩
          · rw [fx_F_readStart hT]
            unfold B_F_readStart_0
            rw [gPut_s, c8, add_c1, cn, gBd_s, if_pos (show nI (nv a (p + 1) (min 0 6)) = 0 from rfl)]
          · rw [b12 t (Or.inl z), if_pos h60, b3e t h47]
            have me : f_M_end τ = some (0, τ) := by
              unfold f_M_end
              rw [m5, if_pos (show oI ([] : List Nat).head? < 0 by decide)]
            rw [me, gBd_s, show t + 5 = t + 4 + 1 from rfl, mw6_0]
        · refine pw_of (start_both ha h hs (fun q => absurd z q) hc hm tc tmm pc' pm' hp) (fun σ' hF => F0 0 σ' (Or.inl rfl) hF) (fun σ' hF => F0 1 σ' (Or.inr rfl) hF) (fun t τ' hG => ?_) (fun t τ' hG => ?_)
          · rw [b12 t (Or.inl z), if_pos h60, b3 t h47, hG, gBd_s, show t + 4 = t + 3 + 1 from rfl, mw6_0]
          · exact ⟨t + 3, by omega, by rw [b12 t (Or.inl z), if_pos h60, b3 t h47, hG, gBd_s, show t + 4 = t + 3 + 1 from rfl, mw6_1]⟩
      · refine Or.inl ⟨σ, τ, ?_, fun t => ?_, hc, hm⟩
        · unfold f_F_readPiece
          rw [hread, gBd_s, c9, if_pos rfl, c5, if_pos (show nI (zN D) = 0 by rw [z]; rfl), if_neg (fun q => h60 (e60.mp q))]
        · rw [b12 t (Or.inl z), if_neg h60, b3c t, m5, if_pos (show oI ([] : List Nat).head? < 0 by decide)]
    · refine Or.inl ⟨σ, τ, ?_, fun t => ?_, hc, hm⟩
      · unfold f_F_readPiece
        rw [hread, gBd_s, c9, if_pos rfl, c5, if_neg (show ¬ nI (zN D) = 0 from nI_ne0 (by omega) (by omega))]
      · rw [show t + 8 = t + 7 + 1 from rfl, st_M_wellFormed_1]
        unfold B_M_wellFormed_1
        rw [hm.2.1, m4, if_neg (show ¬ nI (sP a).length ≤ nI p by rw [n_le (by omega) (by omega)]; omega), m2, if_neg (show ¬ nI (zN D) ≤ 0 by rw [le_c0 (by omega)]; omega), m5, if_neg (show ¬ (0 : Int32) ≤ oI ([] : List Nat).head? by decide)]
  | cons o S' =>
    have ho := hs.2.2.2.2.2.1.1
    have c9o : σ.1 9 = nI o := c9
    have m5o : τ.1 5 = nI o := m5
    have hne : (o :: S') ≠ [] := by simp
    have hopen : ¬ σ.1 9 = -1 := by rw [c9o]; exact n_m1 (by omega)
    by_cases h60 : chA a p = 60
    · by_cases h47 : chA a (p + 1) = 47
      · have F0 : ∀ y σ', (y = 0 ∨ y = 1) → f_F_readEnd σ = some (y, σ') → f_F_readPiece σ = some (y, σ') := by
          intro y σ' hy hF
          unfold f_F_readPiece
          rw [hread, gBd_s, if_neg hopen, if_pos (e60.mpr h60), hread1, gBd_s, if_pos (e47.mpr h47), hF, gBd_s]
          rcases hy with rfl | rfl
          · rw [nr_0]
          · rw [nr_1]
        refine pw_of (end_both ha h hs hc hm tc tmm pc' pm' hp) (fun σ' hF => F0 0 σ' (Or.inl rfl) hF) (fun σ' hF => F0 1 σ' (Or.inr rfl) hF) (fun t τ' hG => ?_) (fun t τ' hG => ?_)
        · rw [b12 t (Or.inr hne), if_pos h60, b3e t h47, hG, gBd_s, show t + 5 = t + 4 + 1 from rfl, mw6_0]
        · exact ⟨t + 4, by omega, by rw [b12 t (Or.inr hne), if_pos h60, b3e t h47, hG, gBd_s, show t + 5 = t + 4 + 1 from rfl, mw6_1]⟩
      · have F0 : ∀ y σ', (y = 0 ∨ y = 1) → f_F_readStart σ = some (y, σ') → f_F_readPiece σ = some (y, σ') := by
          intro y σ' hy hF
          unfold f_F_readPiece
          rw [hread, gBd_s, if_neg hopen, if_pos (e60.mpr h60), hread1, gBd_s, if_neg (fun q => h47 (e47.mp q)), hF, gBd_s]
          rcases hy with rfl | rfl
          · rw [nr_0]
          · rw [nr_1]
        refine pw_of (start_both ha h hs (fun _ => hne) hc hm tc tmm pc' pm' hp) (fun σ' hF => F0 0 σ' (Or.inl rfl) hF) (fun σ' hF => F0 1 σ' (Or.inr rfl) hF) (fun t τ' hG => ?_) (fun t τ' hG => ?_)
        · rw [b12 t (Or.inr hne), if_pos h60, b3 t h47, hG, gBd_s, show t + 4 = t + 3 + 1 from rfl, mw6_0]
        · exact ⟨t + 3, by omega, by rw [b12 t (Or.inr hne), if_pos h60, b3 t h47, hG, gBd_s, show t + 4 = t + 3 + 1 from rfl, mw6_1]⟩
    · -- a text's character
      have key : ∀ F : Option (Int32 × gS), pcOut a p F (f_M_content τ) → (∀ y σ', (y = 0 ∨ y = 1) → F = some (y, σ') → f_F_readPiece σ = some (y, σ')) → pwOut a p σ τ := by
        intro F hF hf
        refine pw_of hF (fun σ' hF => hf 0 σ' (Or.inl rfl) hF) (fun σ' hF => hf 1 σ' (Or.inr rfl) hF) (fun t τ' hG => ?_) (fun t τ' hG => ?_)
        · rw [b12 t (Or.inr hne), if_neg h60, b3c t, m5o, if_neg (nI_pos (by omega)), hG, gBd_s, if_pos rfl]
        · exact ⟨t + 3, by omega, by rw [b12 t (Or.inr hne), if_neg h60, b3c t, m5o, if_neg (nI_pos (by omega)), hG, gBd_s, if_neg i10]⟩
      by_cases h38 : chA a p = 38
      · by_cases h35 : chA a (p + 1) = 35
        · refine key _ (code_both ha h hs hc hm tc tmm pc' pm' hp h38 h35) (fun y σ' hy hF => ?_)
          unfold f_F_readPiece
          rw [hread, gBd_s, if_neg hopen, if_neg (fun q => h60 (e60.mp q)), if_pos (e38.mpr h38), hread1, gBd_s, if_pos (e35.mpr h35), hF, gBd_s]
          rcases hy with rfl | rfl
          · rw [nr_0]
          · rw [nr_1]
        · refine key _ (ent_both ha h hs hc hm tc tmm pc' pm' hp h38 h35) (fun y σ' hy hF => ?_)
          unfold f_F_readPiece
          rw [hread, gBd_s, if_neg hopen, if_neg (fun q => h60 (e60.mp q)), if_pos (e38.mpr h38), hread1, gBd_s, if_neg (fun q => h35 (e35.mp q)), hF, gBd_s]
          rcases hy with rfl | rfl
          · rw [nr_0]
          · rw [nr_1]
      · obtain ⟨T, hT⟩ := gFx
        obtain ⟨σ', τ', D', S2, w1, w2, w3⟩ := ch_both ha (p' := p + 1) (c := chA a p) h hs (absC_I hc (k := 8) (by decide) (nI (p + 1))) hm (tC_I tc (by decide) _) tmm (sI_eq _ _ _) (by rw [sI_ne (by decide)]; exact c9o) (by rw [sI_ne (by decide)]; exact c10) pm' hp cp (by omega) (by omega) (T + 49997)
        refine key (some (1, σ')) (Or.inr ⟨σ', τ', D', _, S2, rfl, ?_, w3⟩) (fun y σ2 hy hF => ?_)
        · rw [fx_M_content hT]
          unfold B_M_content_0
          rw [m4, gLd_n (by omega) (by decide), pg7, if_neg (show ¬ nI (chA a p) = 38 by rw [eq_c38 (by omega)]; exact h38), add_c1]
          exact w2
        · have hF := Option.some.inj hF
          have hy1 : (1 : Int32) = y := congrArg Prod.fst hF
          have hs1 : σ' = σ2 := congrArg Prod.snd hF
          unfold f_F_readPiece
          rw [hread, gBd_s, if_neg hopen, if_neg (fun q => h60 (e60.mp q)), if_neg (fun q => h38 (e38.mp q)), gPut_s, c8, add_c1, sI_ne (by decide), c9o, cI_in (by omega), w1, gBd_s, nr_1, ← hy1, ← hs1]
/-- both find the form good, with one document; or both don't -/
theorem form {a : aS} (ha : okA a) {σ τ : gS} (hc : absC σ a) (hm : absM τ a) : (∃ σ' τ', f_F_isWellFormed σ = some (0, σ') ∧ f_M_wellFormed τ = some (0, τ') ∧ absC σ' a ∧ absM τ' a) ∨ (∃ σ' τ' D, f_F_isWellFormed σ = some (1, σ') ∧ f_M_wellFormed τ = some (1, τ') ∧ absC σ' a ∧ absM τ' a ∧ tC σ' D ∧ tM τ' D ∧ wB a D ∧ 0 < zN D ∧ τ'.1 2 = nI (zN D)) := by
  have hpl := ha.2.1
  obtain ⟨T, hT⟩ := gFx
  have lp : ∀ (d i : Nat) (σ τ : gS) (D : dS) (p : Nat) (S : List Nat) (t tr : Nat), i + d = 1600 → i ≤ p → d + 2 ≤ t → 8 * ((sP a).length - p) + 1 ≤ tr → absC σ a → absM τ a → tC σ D → tM τ D → wB a D → wS a D p S → pC σ p S → pM τ D p S → (∃ σ' τ', R_F_isWellFormed t 1 [nI i] σ = some (0, σ') ∧ R_M_wellFormed tr 1 [] τ = some (0, τ') ∧ absC σ' a ∧ absM τ' a) ∨ (∃ σ' τ' D, R_F_isWellFormed t 1 [nI i] σ = some (1, σ') ∧ R_M_wellFormed tr 1 [] τ = some (1, τ') ∧ absC σ' a ∧ absM τ' a ∧ tC σ' D ∧ tM τ' D ∧ wB a D ∧ 0 < zN D ∧ τ'.1 2 = nI (zN D)) := by
    have fin : ∀ (i : Nat) (σ τ : gS) (D : dS) (p : Nat) (S : List Nat) (t tr : Nat), i ≤ 1600 → (sP a).length ≤ p → absC σ a → absM τ a → tC σ D → tM τ D → wB a D → wS a D p S → pC σ p S → pM τ D p S → (∃ σ' τ', R_F_isWellFormed (t + 2) 1 [nI i] σ = some (0, σ') ∧ R_M_wellFormed (tr + 1) 1 [] τ = some (0, τ') ∧ absC σ' a ∧ absM τ' a) ∨ (∃ σ' τ' D, R_F_isWellFormed (t + 2) 1 [nI i] σ = some (1, σ') ∧ R_M_wellFormed (tr + 1) 1 [] τ = some (1, τ') ∧ absC σ' a ∧ absM τ' a ∧ tC σ' D ∧ tM τ' D ∧ wB a D ∧ 0 < zN D ∧ τ'.1 2 = nI (zN D)) := by
      intro i σ τ D p S t tr hi hpp hc hm tc tmm hB hs pc pm
      have hn := hB.1
      have hp1 := hs.2.2.2.1
      obtain ⟨c8, c9, c10⟩ := pc
      obtain ⟨m2, m4, m5, m6⟩ := pm
      have c5 : σ.1 5 = nI (zN D) := tc.1
      have e1 : R_F_isWellFormed (t + 2) 1 [nI i] σ = R_F_isWellFormed (t + 1) 2 [] σ := by
        rw [show t + 2 = t + 1 + 1 from rfl, st_F_isWellFormed_1]
        unfold B_F_isWellFormed_1
        by_cases e : (1600 : Int32) ≤ nI i
        · rw [if_pos e]
        · rw [if_neg e, hc.2.1, c8, if_pos (show nI (sP a).length ≤ nI p by rw [n_le (by omega) (by omega)]; exact hpp)]
      rw [e1, st_F_isWellFormed_2, st_M_wellFormed_1]
      unfold B_F_isWellFormed_2 B_M_wellFormed_1
      rw [c5, hm.2.1, m4, if_pos (show nI (sP a).length ≤ nI p by rw [n_le (by omega) (by omega)]; exact hpp), m2]
      by_cases z : zN D = 0
      · rw [if_pos (show nI (zN D) ≤ 0 by rw [z]; decide), if_pos (show nI (zN D) ≤ 0 by rw [z]; decide)]
        exact Or.inl ⟨σ, τ, rfl, rfl, hc, hm⟩
      · rw [if_neg (show ¬ nI (zN D) ≤ 0 by rw [le_c0 (by omega)]; omega), if_neg (show ¬ nI (zN D) ≤ 0 by rw [le_c0 (by omega)]; omega), c9, m5]
        cases S with
        | nil =>
          rw [if_pos (show oI ([] : List Nat).head? = -1 from rfl), if_neg (show ¬ (0 : Int32) ≤ oI ([] : List Nat).head? by decide), c8, hc.2.1, if_neg (show ¬ nI p < nI (sP a).length by rw [n_lt (by omega) (by omega)]; omega)]
          exact Or.inr ⟨σ, τ, D, rfl, rfl, hc, hm, tc, tmm, hB, by omega, m2⟩
        | cons o S' =>
          have ho := hs.2.2.2.2.2.1.1
          rw [if_neg (show ¬ oI (o :: S').head? = -1 from n_m1 (a := o) (by omega)), if_pos (show (0 : Int32) ≤ oI (o :: S').head? from nI_pos' (n := o) (by omega))]
          exact Or.inl ⟨σ, τ, rfl, rfl, hc, hm⟩
    intro d
    induction d with
    | zero =>
      intro i σ τ D p S t tr hi hip ht htr hc hm tc tmm hB hs pc pm
      obtain ⟨t, rfl⟩ : ∃ t', t = t' + 2 := ⟨t - 2, by omega⟩
      obtain ⟨tr, rfl⟩ : ∃ t', tr = t' + 1 := ⟨tr - 1, by omega⟩
      exact fin i σ τ D p S t tr (by omega) (by omega) hc hm tc tmm hB hs pc pm
    | succ d ih =>
      intro i σ τ D p S t tr hi hip ht htr hc hm tc tmm hB hs pc pm
      have hp1 := hs.2.2.2.1
      by_cases hpp : (sP a).length ≤ p
      · obtain ⟨t, rfl⟩ : ∃ t', t = t' + 2 := ⟨t - 2, by omega⟩
        obtain ⟨tr, rfl⟩ : ∃ t', tr = t' + 1 := ⟨tr - 1, by omega⟩
        exact fin i σ τ D p S t tr (by omega) hpp hc hm tc tmm hB hs pc pm
      · obtain ⟨t, rfl⟩ : ∃ t', t = t' + 1 := ⟨t - 1, by omega⟩
        obtain ⟨tr, rfl⟩ : ∃ t', tr = t' + 8 := ⟨tr - 8, by omega⟩
        rw [st_F_isWellFormed_1]
        unfold B_F_isWellFormed_1
        rw [if_neg (show ¬ (1600 : Int32) ≤ nI i by rw [c1600_le (by omega)]; omega), hc.2.1, pc.1, if_neg (show ¬ nI (sP a).length ≤ nI p by rw [n_le (by omega) (by omega)]; exact hpp)]
        rcases piece ha hB hs hc hm tc tmm pc pm (by omega) with ⟨σ', τ', w1, w2, w3, w4⟩ | ⟨σ', τ', D', p', S', w1, w2, w3, w4, w5, w6, w7, w8, w9, w10, w11, w12⟩
        · rw [w1, gBd_s, if_pos rfl, w2 tr]
          exact Or.inl ⟨σ', τ', rfl, rfl, w3, w4⟩
        · obtain ⟨t', z1, z2⟩ := w2 tr
          rw [w1, gBd_s, if_neg i10, add_c1, z2]
          have := w8.2.2.2.1
          exact ih (i + 1) σ' τ' D' p' S' t t' (by omega) (by omega) (by omega) (by omega) w3 w4 w5 w6 w7 w8 w11 w12
  have D0 : ∃ D : dS, zN D = 0 ∧ zW D = 0 ∧ zC D = 0 := ⟨(0, fun _ => 0, fun _ => none, fun _ => 0, fun _ => 0, fun _ => 0, fun _ => 0, fun _ => 0, 0, fun _ => [], fun _ => 0, 0), rfl, rfl, rfl⟩
  obtain ⟨D, d1, d2, d3⟩ := D0
  have no : ∀ {e : Nat} {P : Prop}, e < zN D → P := fun he => by rw [d1] at he; exact absurd he (Nat.not_lt_zero _)
  have noW : ∀ {e : Nat} {P : Prop}, e < zW D → P := fun he => by rw [d2] at he; exact absurd he (Nat.not_lt_zero _)
  rw [fx_F_isWellFormed hT, fx_M_wellFormed hT]
  unfold B_F_isWellFormed_0 B_M_wellFormed_0 f_E_removeAll
  simp only [gPut_s, gBd_s]
  have go := lp 1600 0 (sI (sI (sI (sI (sI (sI σ 5 0) 6 0) 7 0) 8 0) 9 (-1)) 10 0) (sI (sI (sI (sI (sI τ 4 0) 5 (-1)) 6 0) 2 0) 3 0) D 0 [] (T + 49999) (T + 49999) (by omega) (by omega) (by omega) (by omega) (absC_I (absC_I (absC_I (absC_I (absC_I (absC_I hc (by decide) _) (by decide) _) (by decide) _) (by decide) _) (by decide) _) (by decide) _) (absM_I (absM_I (absM_I (absM_I (absM_I hm (by decide) _) (by decide) _) (by decide) _) (by decide) _) (by decide) _) ⟨by rw [d1]; rfl, by rw [d2]; rfl, by rw [d3]; rfl, fun e he => no he, fun i hi => noW hi, fun e he => no he⟩ ⟨by rw [d2]; rfl, fun e he => no he, fun i hi => noW hi, fun e he => no he⟩ ⟨by omega, by omega, by omega, fun e he => no he, fun e q he => no he, fun e he => no he, fun i hi => noW hi, fun e he => no he, fun e he => no he, fun e he => no he, fun e b q _ he => no he⟩ ⟨by rw [d1]; exact Nat.zero_le _, by rw [d2]; exact Nat.zero_le _, by rw [d3]; exact Nat.zero_le _, Nat.zero_le _, Nat.zero_le _, trivial, fun o S' hS' => (by cases hS'), fun b hb => no hb, fun _ => rfl⟩ ⟨rfl, rfl, rfl⟩ ⟨by rw [d1]; rfl, rfl, rfl, rfl⟩
  rw [nI_0] at go
  exact go
