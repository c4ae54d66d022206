/-! what is written: the class's rows and the reference's out; numbers; attributes -/
def oC (a : aS) (σ : gS) (pg l : List Nat) (σ' : gS) : Prop := absC σ' (aPg a (pg ++ l)) ∧ (∀ k, k ≠ 1 → σ'.1 k = σ.1 k) ∧ ∀ k, k ≠ 8 → σ'.2 k = σ.2 k
def oM (a : aS) (τ : gS) (pg l : List Nat) (τ' : gS) : Prop := absM τ' (aPg a (pg ++ l)) ∧ (∀ k, k ≠ 1 → τ'.1 k = τ.1 k) ∧ ∀ k, k ≠ 7 → τ'.2 k = τ.2 k
theorem oC_r {a : aS} {σ : gS} {pg : List Nat} (h : absC σ (aPg a pg)) : oC a σ pg [] σ := ⟨by rw [List.append_nil]; exact h, fun _ _ => rfl, fun _ _ => rfl⟩
theorem oM_r {a : aS} {τ : gS} {pg : List Nat} (h : absM τ (aPg a pg)) : oM a τ pg [] τ := ⟨by rw [List.append_nil]; exact h, fun _ _ => rfl, fun _ _ => rfl⟩
theorem oC_t {a : aS} {σ σ' σ'' : gS} {pg l m : List Nat} (h : oC a σ pg l σ') (h2 : oC a σ' (pg ++ l) m σ'') : oC a σ pg (l ++ m) σ'' := ⟨by rw [← List.append_assoc]; exact h2.1, fun k hk => (h2.2.1 k hk).trans (h.2.1 k hk), fun k hk => (h2.2.2 k hk).trans (h.2.2 k hk)⟩
theorem oM_t {a : aS} {τ τ' τ'' : gS} {pg l m : List Nat} (h : oM a τ pg l τ') (h2 : oM a τ' (pg ++ l) m τ'') : oM a τ pg (l ++ m) τ'' := ⟨by rw [← List.append_assoc]; exact h2.1, fun k hk => (h2.2.1 k hk).trans (h.2.1 k hk), fun k hk => (h2.2.2 k hk).trans (h.2.2 k hk)⟩
def wC (a : aS) (F : gS → Option (Int32 × gS)) (l : List Nat) : Prop := ∀ (σ : gS) (pg : List Nat), absC σ (aPg a pg) → pg.length + l.length ≤ 1600 → ∃ r σ', F σ = some (r, σ') ∧ oC a σ pg l σ'
def wM (a : aS) (F : gS → Option (Int32 × gS)) (l : List Nat) : Prop := ∀ (τ : gS) (pg : List Nat), absM τ (aPg a pg) → pg.length + l.length ≤ 1600 → ∃ r τ', F τ = some (r, τ') ∧ oM a τ pg l τ'
theorem wC_l {a : aS} {F : gS → Option (Int32 × gS)} {l m : List Nat} (e : l = m) (h : wC a F l) : wC a F m := e ▸ h
theorem wM_l {a : aS} {F : gS → Option (Int32 × gS)} {l m : List Nat} (e : l = m) (h : wM a F l) : wM a F m := e ▸ h
theorem wC_seq {a : aS} {F G : gS → Option (Int32 × gS)} {l m : List Nat} (h1 : wC a F l) (h2 : wC a G m) : wC a (fun σ => gBd (F σ) (fun _ σ' => G σ')) (l ++ m) := by
  intro σ pg hc hl
  rw [List.length_append] at hl
  obtain ⟨r, σ1, e1, o1⟩ := h1 σ pg hc (by omega)
  obtain ⟨r2, σ2, e2, o2⟩ := h2 σ1 (pg ++ l) o1.1 (by rw [List.length_append]; omega)
  refine ⟨r2, σ2, ?_, oC_t o1 o2⟩
  show gBd (F σ) _ = _
  rw [e1, gBd_s]
  exact e2
theorem wM_seq {a : aS} {F G : gS → Option (Int32 × gS)} {l m : List Nat} (h1 : wM a F l) (h2 : wM a G m) : wM a (fun τ => gBd (F τ) (fun _ τ' => G τ')) (l ++ m) := by
  intro σ pg hc hl
  rw [List.length_append] at hl
  obtain ⟨r, σ1, e1, o1⟩ := h1 σ pg hc (by omega)
  obtain ⟨r2, σ2, e2, o2⟩ := h2 σ1 (pg ++ l) o1.1 (by rw [List.length_append]; omega)
  refine ⟨r2, σ2, ?_, oM_t o1 o2⟩
  show gBd (F σ) _ = _
  rw [e1, gBd_s]
  exact e2
theorem wC_ret (a : aS) (r : Int32) : wC a (fun σ => some (r, σ)) [] := fun σ pg hc _ => ⟨r, σ, rfl, oC_r hc⟩
theorem wM_ret (a : aS) (r : Int32) : wM a (fun σ => some (r, σ)) [] := fun σ pg hc _ => ⟨r, σ, rfl, oM_r hc⟩
theorem wC_ch (a : aS) {c : Nat} (h : prtN c) {x : Int32} (hx : x = nI c) : wC a (fun σ => f_P_append σ x) [c] := by
  intro σ pg hc hl
  simp only [List.length_singleton] at hl
  subst hx
  have h126 := h.2
  have e1 : σ.1 1 = nI pg.length := hc.2.1
  show ∃ r σ', f_P_append σ (nI c) = some (r, σ') ∧ oC a σ pg [c] σ'
  unfold f_P_append
  rw [e1, if_pos (by rw [lt_c1600 (by omega)]; omega), gSt_n (by omega) (by decide), gPut_s, sA_1, e1, add_c1, nar_c (by omega)]
  refine ⟨1, _, rfl, ⟨?_, ?_, hc.2.2.1, hc.2.2.2.1, hc.2.2.2.2.1, fun p hp => ?_, hc.2.2.2.2.2.2⟩, fun k hk => sI_ne hk, fun k hk => sA_ne hk⟩
  · exact hc.1
  · show nI (pg.length + 1) = nI (pg ++ [c]).length
    rw [List.length_append]; rfl
  · show upd (σ.2 8) pg.length (nI c) p = nI ((pg ++ [c]).getD p 0)
    have hp : p < (pg ++ [c]).length := hp
    rw [List.length_append] at hp
    simp only [List.length_singleton] at hp
    rw [app_getD]
    by_cases e : p = pg.length
    · rw [e, up_eq, if_pos rfl]
    · rw [up_ne e, if_neg e]
      exact hc.2.2.2.2.2.1 p (show p < pg.length by omega)
theorem gChr_n {β : Type} {i k : Nat} {K : Int32 → Option β} (h : k < gTn i) (h2 : gTn i < 100) : gChr i (nI k) K = K (nI ((gTx.getD i []).getD k 0)) := by
  unfold gChr
  rw [if_neg (nI_in h (by omega)), nI_clamp (by omega)]
theorem cl_row {R : Nat → Nat → List Int32 → gS → Option (Int32 × gS)} {i : Nat} {c : Int32} (hc : c = nI (gTn i)) (hn : gTn i < 100) (hp : ∀ k, k < gTn i → prtN ((gTx.getD i []).getD k 0)) (hR : ∀ (t : Nat) (x : Int32) (σ : gS), R (t + 1) 1 [x] σ = if c ≤ x then some (0, σ) else gChr i x (fun y => gBd (f_P_append σ y) (fun _ σ' => R t 1 [x + 1] σ'))) (a : aS) : ∀ (d k : Nat) (t : Nat) (σ : gS) (pg : List Nat), k + d = gTn i → d + 1 ≤ t → absC σ (aPg a pg) → pg.length + d ≤ 1600 → ∃ σ', R t 1 [nI k] σ = some (0, σ') ∧ oC a σ pg ((gTx.getD i []).drop k) σ' := by
  intro d
  induction d with
  | zero =>
    intro k t σ pg hk ht h hl
    obtain ⟨t, rfl⟩ : ∃ t', t = t' + 1 := ⟨t - 1, by omega⟩
    rw [hR, hc, if_pos (nI_le (by omega) (by omega)), List.drop_eq_nil_of_le (show (gTx.getD i []).length ≤ k from (show gTn i ≤ k by omega))]
    exact ⟨σ, rfl, oC_r h⟩
  | succ d ih =>
    intro k t σ pg hk ht h hl
    obtain ⟨t, rfl⟩ : ∃ t', t = t' + 1 := ⟨t - 1, by omega⟩
    have hk2 : k < (gTx.getD i []).length := (show k < gTn i by omega)
    obtain ⟨r, σ1, e1, o1⟩ := wC_ch a (hp k hk2) rfl σ pg h (by simp only [List.length_singleton]; omega)
    obtain ⟨σ2, e2, o2⟩ := ih (k + 1) t σ1 _ (by omega) (by omega) o1.1 (by rw [List.length_append]; simp only [List.length_singleton]; omega)
    rw [hR, hc, if_neg (nI_ge (by omega) (by omega)), gChr_n hk2 hn]
    have e1 : f_P_append σ (nI ((gTx.getD i []).getD k 0)) = some (r, σ1) := e1
    rw [e1, gBd_s, add_c1]
    refine ⟨σ2, e2, ?_⟩
    rw [List.drop_eq_getElem_cons hk2]
    have o3 := oC_t o1 o2
    rw [List.getD_eq_getElem?_getD, List.getElem?_eq_getElem hk2] at o3
    exact o3
def atL (nm l : List Nat) : List Nat := 32 :: (nm ++ (61 :: 34 :: (l ++ [34])))
theorem cw_row0 (a : aS) : wC a (fun σ => f_W_writeRow_S0 σ) [60, 101, 32, 118, 61, 34, 49, 34, 62, 60, 98, 62] := by
  intro σ pg hc hl
  obtain ⟨T, hT⟩ := gFx
  obtain ⟨σ', e, o⟩ := cl_row (R := R_W_writeRow_S0) (i := 0) (c := 12) rfl (by decide) (by unfold prtN; decide) (fun t x σ => st_W_writeRow_S0_1 t x σ) a 12 0 (T + 49999) σ pg rfl (by omega) hc hl
  rw [nI_0] at e
  refine ⟨0, σ', ?_, o⟩
  show f_W_writeRow_S0 σ = _
  rw [fx_W_writeRow_S0 hT]
  exact e
theorem cw_row1 (a : aS) : wC a (fun σ => f_W_writeRow_S1 σ) [60, 114] := by
  intro σ pg hc hl
  obtain ⟨T, hT⟩ := gFx
  obtain ⟨σ', e, o⟩ := cl_row (R := R_W_writeRow_S1) (i := 1) (c := 2) rfl (by decide) (by unfold prtN; decide) (fun t x σ => st_W_writeRow_S1_1 t x σ) a 2 0 (T + 49999) σ pg rfl (by omega) hc hl
  rw [nI_0] at e
  refine ⟨0, σ', ?_, o⟩
  show f_W_writeRow_S1 σ = _
  rw [fx_W_writeRow_S1 hT]
  exact e
theorem cw_row2 (a : aS) : wC a (fun σ => f_W_writeRow_S2 σ) [104] := by
  intro σ pg hc hl
  obtain ⟨T, hT⟩ := gFx
  obtain ⟨σ', e, o⟩ := cl_row (R := R_W_writeRow_S2) (i := 2) (c := 1) rfl (by decide) (by unfold prtN; decide) (fun t x σ => st_W_writeRow_S2_1 t x σ) a 1 0 (T + 49999) σ pg rfl (by omega) hc hl
  rw [nI_0] at e
  refine ⟨0, σ', ?_, o⟩
  show f_W_writeRow_S2 σ = _
  rw [fx_W_writeRow_S2 hT]
  exact e
theorem cw_row3 (a : aS) : wC a (fun σ => f_W_writeRow_S3 σ) [61, 34] := by
  intro σ pg hc hl
  obtain ⟨T, hT⟩ := gFx
  obtain ⟨σ', e, o⟩ := cl_row (R := R_W_writeRow_S3) (i := 3) (c := 2) rfl (by decide) (by unfold prtN; decide) (fun t x σ => st_W_writeRow_S3_1 t x σ) a 2 0 (T + 49999) σ pg rfl (by omega) hc hl
  rw [nI_0] at e
  refine ⟨0, σ', ?_, o⟩
  show f_W_writeRow_S3 σ = _
  rw [fx_W_writeRow_S3 hT]
  exact e
theorem cw_row4 (a : aS) : wC a (fun σ => f_W_writeRow_S4 σ) [47, 62] := by
  intro σ pg hc hl
  obtain ⟨T, hT⟩ := gFx
  obtain ⟨σ', e, o⟩ := cl_row (R := R_W_writeRow_S4) (i := 4) (c := 2) rfl (by decide) (by unfold prtN; decide) (fun t x σ => st_W_writeRow_S4_1 t x σ) a 2 0 (T + 49999) σ pg rfl (by omega) hc hl
  rw [nI_0] at e
  refine ⟨0, σ', ?_, o⟩
  show f_W_writeRow_S4 σ = _
  rw [fx_W_writeRow_S4 hT]
  exact e
theorem cw_row5 (a : aS) : wC a (fun σ => f_W_writeRow_S5 σ) [60, 112] := by
  intro σ pg hc hl
  obtain ⟨T, hT⟩ := gFx
  obtain ⟨σ', e, o⟩ := cl_row (R := R_W_writeRow_S5) (i := 5) (c := 2) rfl (by decide) (by unfold prtN; decide) (fun t x σ => st_W_writeRow_S5_1 t x σ) a 2 0 (T + 49999) σ pg rfl (by omega) hc hl
  rw [nI_0] at e
  refine ⟨0, σ', ?_, o⟩
  show f_W_writeRow_S5 σ = _
  rw [fx_W_writeRow_S5 hT]
  exact e
theorem cw_row6 (a : aS) : wC a (fun σ => f_W_writeRow_S6 σ) [60, 97] := by
  intro σ pg hc hl
  obtain ⟨T, hT⟩ := gFx
  obtain ⟨σ', e, o⟩ := cl_row (R := R_W_writeRow_S6) (i := 6) (c := 2) rfl (by decide) (by unfold prtN; decide) (fun t x σ => st_W_writeRow_S6_1 t x σ) a 2 0 (T + 49999) σ pg rfl (by omega) hc hl
  rw [nI_0] at e
  refine ⟨0, σ', ?_, o⟩
  show f_W_writeRow_S6 σ = _
  rw [fx_W_writeRow_S6 hT]
  exact e
theorem cw_row7 (a : aS) : wC a (fun σ => f_W_writeRow_S7 σ) [60, 116] := by
  intro σ pg hc hl
  obtain ⟨T, hT⟩ := gFx
  obtain ⟨σ', e, o⟩ := cl_row (R := R_W_writeRow_S7) (i := 7) (c := 2) rfl (by decide) (by unfold prtN; decide) (fun t x σ => st_W_writeRow_S7_1 t x σ) a 2 0 (T + 49999) σ pg rfl (by omega) hc hl
  rw [nI_0] at e
  refine ⟨0, σ', ?_, o⟩
  show f_W_writeRow_S7 σ = _
  rw [fx_W_writeRow_S7 hT]
  exact e
theorem cw_row8 (a : aS) : wC a (fun σ => f_W_writeRow_S8 σ) [105, 100] := by
  intro σ pg hc hl
  obtain ⟨T, hT⟩ := gFx
  obtain ⟨σ', e, o⟩ := cl_row (R := R_W_writeRow_S8) (i := 8) (c := 2) rfl (by decide) (by unfold prtN; decide) (fun t x σ => st_W_writeRow_S8_1 t x σ) a 2 0 (T + 49999) σ pg rfl (by omega) hc hl
  rw [nI_0] at e
  refine ⟨0, σ', ?_, o⟩
  show f_W_writeRow_S8 σ = _
  rw [fx_W_writeRow_S8 hT]
  exact e
theorem cw_row9 (a : aS) : wC a (fun σ => f_W_writeRow_S9 σ) [110] := by
  intro σ pg hc hl
  obtain ⟨T, hT⟩ := gFx
  obtain ⟨σ', e, o⟩ := cl_row (R := R_W_writeRow_S9) (i := 9) (c := 1) rfl (by decide) (by unfold prtN; decide) (fun t x σ => st_W_writeRow_S9_1 t x σ) a 1 0 (T + 49999) σ pg rfl (by omega) hc hl
  rw [nI_0] at e
  refine ⟨0, σ', ?_, o⟩
  show f_W_writeRow_S9 σ = _
  rw [fx_W_writeRow_S9 hT]
  exact e
theorem cw_row10 (a : aS) : wC a (fun σ => f_W_writeRow_S10 σ) [111] := by
  intro σ pg hc hl
  obtain ⟨T, hT⟩ := gFx
  obtain ⟨σ', e, o⟩ := cl_row (R := R_W_writeRow_S10) (i := 10) (c := 1) rfl (by decide) (by unfold prtN; decide) (fun t x σ => st_W_writeRow_S10_1 t x σ) a 1 0 (T + 49999) σ pg rfl (by omega) hc hl
  rw [nI_0] at e
  refine ⟨0, σ', ?_, o⟩
  show f_W_writeRow_S10 σ = _
  rw [fx_W_writeRow_S10 hT]
  exact e
theorem cw_row11 (a : aS) : wC a (fun σ => f_W_writeRow_S11 σ) [38, 108, 116, 59] := by
  intro σ pg hc hl
  obtain ⟨T, hT⟩ := gFx
  obtain ⟨σ', e, o⟩ := cl_row (R := R_W_writeRow_S11) (i := 11) (c := 4) rfl (by decide) (by unfold prtN; decide) (fun t x σ => st_W_writeRow_S11_1 t x σ) a 4 0 (T + 49999) σ pg rfl (by omega) hc hl
  rw [nI_0] at e
  refine ⟨0, σ', ?_, o⟩
  show f_W_writeRow_S11 σ = _
  rw [fx_W_writeRow_S11 hT]
  exact e
theorem cw_row12 (a : aS) : wC a (fun σ => f_W_writeRow_S12 σ) [38, 103, 116, 59] := by
  intro σ pg hc hl
  obtain ⟨T, hT⟩ := gFx
  obtain ⟨σ', e, o⟩ := cl_row (R := R_W_writeRow_S12) (i := 12) (c := 4) rfl (by decide) (by unfold prtN; decide) (fun t x σ => st_W_writeRow_S12_1 t x σ) a 4 0 (T + 49999) σ pg rfl (by omega) hc hl
  rw [nI_0] at e
  refine ⟨0, σ', ?_, o⟩
  show f_W_writeRow_S12 σ = _
  rw [fx_W_writeRow_S12 hT]
  exact e
theorem cw_row13 (a : aS) : wC a (fun σ => f_W_writeRow_S13 σ) [38, 97, 109, 112, 59] := by
  intro σ pg hc hl
  obtain ⟨T, hT⟩ := gFx
  obtain ⟨σ', e, o⟩ := cl_row (R := R_W_writeRow_S13) (i := 13) (c := 5) rfl (by decide) (by unfold prtN; decide) (fun t x σ => st_W_writeRow_S13_1 t x σ) a 5 0 (T + 49999) σ pg rfl (by omega) hc hl
  rw [nI_0] at e
  refine ⟨0, σ', ?_, o⟩
  show f_W_writeRow_S13 σ = _
  rw [fx_W_writeRow_S13 hT]
  exact e
theorem cw_row14 (a : aS) : wC a (fun σ => f_W_writeRow_S14 σ) [60, 110, 47, 62] := by
  intro σ pg hc hl
  obtain ⟨T, hT⟩ := gFx
  obtain ⟨σ', e, o⟩ := cl_row (R := R_W_writeRow_S14) (i := 14) (c := 4) rfl (by decide) (by unfold prtN; decide) (fun t x σ => st_W_writeRow_S14_1 t x σ) a 4 0 (T + 49999) σ pg rfl (by omega) hc hl
  rw [nI_0] at e
  refine ⟨0, σ', ?_, o⟩
  show f_W_writeRow_S14 σ = _
  rw [fx_W_writeRow_S14 hT]
  exact e
theorem cw_row15 (a : aS) : wC a (fun σ => f_W_writeRow_S15 σ) [60, 105, 62] := by
  intro σ pg hc hl
  obtain ⟨T, hT⟩ := gFx
  obtain ⟨σ', e, o⟩ := cl_row (R := R_W_writeRow_S15) (i := 15) (c := 3) rfl (by decide) (by unfold prtN; decide) (fun t x σ => st_W_writeRow_S15_1 t x σ) a 3 0 (T + 49999) σ pg rfl (by omega) hc hl
  rw [nI_0] at e
  refine ⟨0, σ', ?_, o⟩
  show f_W_writeRow_S15 σ = _
  rw [fx_W_writeRow_S15 hT]
  exact e
theorem cw_row16 (a : aS) : wC a (fun σ => f_W_writeRow_S16 σ) [60, 47, 105, 62] := by
  intro σ pg hc hl
  obtain ⟨T, hT⟩ := gFx
  obtain ⟨σ', e, o⟩ := cl_row (R := R_W_writeRow_S16) (i := 16) (c := 4) rfl (by decide) (by unfold prtN; decide) (fun t x σ => st_W_writeRow_S16_1 t x σ) a 4 0 (T + 49999) σ pg rfl (by omega) hc hl
  rw [nI_0] at e
  refine ⟨0, σ', ?_, o⟩
  show f_W_writeRow_S16 σ = _
  rw [fx_W_writeRow_S16 hT]
  exact e
theorem cw_row17 (a : aS) : wC a (fun σ => f_W_writeRow_S17 σ) [60, 47, 112, 62] := by
  intro σ pg hc hl
  obtain ⟨T, hT⟩ := gFx
  obtain ⟨σ', e, o⟩ := cl_row (R := R_W_writeRow_S17) (i := 17) (c := 4) rfl (by decide) (by unfold prtN; decide) (fun t x σ => st_W_writeRow_S17_1 t x σ) a 4 0 (T + 49999) σ pg rfl (by omega) hc hl
  rw [nI_0] at e
  refine ⟨0, σ', ?_, o⟩
  show f_W_writeRow_S17 σ = _
  rw [fx_W_writeRow_S17 hT]
  exact e
theorem cw_row18 (a : aS) : wC a (fun σ => f_W_writeRow_S18 σ) [60, 47, 97, 62] := by
  intro σ pg hc hl
  obtain ⟨T, hT⟩ := gFx
  obtain ⟨σ', e, o⟩ := cl_row (R := R_W_writeRow_S18) (i := 18) (c := 4) rfl (by decide) (by unfold prtN; decide) (fun t x σ => st_W_writeRow_S18_1 t x σ) a 4 0 (T + 49999) σ pg rfl (by omega) hc hl
  rw [nI_0] at e
  refine ⟨0, σ', ?_, o⟩
  show f_W_writeRow_S18 σ = _
  rw [fx_W_writeRow_S18 hT]
  exact e
theorem cw_row19 (a : aS) : wC a (fun σ => f_W_writeRow_S19 σ) [60, 47, 116, 62] := by
  intro σ pg hc hl
  obtain ⟨T, hT⟩ := gFx
  obtain ⟨σ', e, o⟩ := cl_row (R := R_W_writeRow_S19) (i := 19) (c := 4) rfl (by decide) (by unfold prtN; decide) (fun t x σ => st_W_writeRow_S19_1 t x σ) a 4 0 (T + 49999) σ pg rfl (by omega) hc hl
  rw [nI_0] at e
  refine ⟨0, σ', ?_, o⟩
  show f_W_writeRow_S19 σ = _
  rw [fx_W_writeRow_S19 hT]
  exact e
theorem cw_row20 (a : aS) : wC a (fun σ => f_W_writeRow_S20 σ) [60, 47, 98, 62, 60, 47, 101, 62] := by
  intro σ pg hc hl
  obtain ⟨T, hT⟩ := gFx
  obtain ⟨σ', e, o⟩ := cl_row (R := R_W_writeRow_S20) (i := 20) (c := 8) rfl (by decide) (by unfold prtN; decide) (fun t x σ => st_W_writeRow_S20_1 t x σ) a 8 0 (T + 49999) σ pg rfl (by omega) hc hl
  rw [nI_0] at e
  refine ⟨0, σ', ?_, o⟩
  show f_W_writeRow_S20 σ = _
  rw [fx_W_writeRow_S20 hT]
  exact e
theorem cw_at2 {a : aS} {x : Int32} {l : List Nat} (h : wC a (fun σ => f_W_writeNumber σ x) l) : wC a (fun σ => f_W_writeAttribute_S2 σ x) (atL [104] l) := by
  have w := wC_seq (wC_ch a (c := 32) (x := 32) (by unfold prtN; decide) rfl) (wC_seq (cw_row2 a) (wC_seq (cw_row3 a) (wC_seq h (wC_seq (wC_ch a (c := 34) (x := 34) (by unfold prtN; decide) rfl) (wC_ret a 0)))))
  refine wC_l ?_ w
  simp [atL]
theorem cw_at8 {a : aS} {x : Int32} {l : List Nat} (h : wC a (fun σ => f_W_writeNumber σ x) l) : wC a (fun σ => f_W_writeAttribute_S8 σ x) (atL [105, 100] l) := by
  have w := wC_seq (wC_ch a (c := 32) (x := 32) (by unfold prtN; decide) rfl) (wC_seq (cw_row8 a) (wC_seq (cw_row3 a) (wC_seq h (wC_seq (wC_ch a (c := 34) (x := 34) (by unfold prtN; decide) rfl) (wC_ret a 0)))))
  refine wC_l ?_ w
  simp [atL]
theorem cw_at9 {a : aS} {x : Int32} {l : List Nat} (h : wC a (fun σ => f_W_writeNumber σ x) l) : wC a (fun σ => f_W_writeAttribute_S9 σ x) (atL [110] l) := by
  have w := wC_seq (wC_ch a (c := 32) (x := 32) (by unfold prtN; decide) rfl) (wC_seq (cw_row9 a) (wC_seq (cw_row3 a) (wC_seq h (wC_seq (wC_ch a (c := 34) (x := 34) (by unfold prtN; decide) rfl) (wC_ret a 0)))))
  refine wC_l ?_ w
  simp [atL]
theorem cw_at10 {a : aS} {x : Int32} {l : List Nat} (h : wC a (fun σ => f_W_writeNumber σ x) l) : wC a (fun σ => f_W_writeAttribute_S10 σ x) (atL [111] l) := by
  have w := wC_seq (wC_ch a (c := 32) (x := 32) (by unfold prtN; decide) rfl) (wC_seq (cw_row10 a) (wC_seq (cw_row3 a) (wC_seq h (wC_seq (wC_ch a (c := 34) (x := 34) (by unfold prtN; decide) rfl) (wC_ret a 0)))))
  refine wC_l ?_ w
  simp [atL]
/-! the reference's out -/
def zL (c : Nat) : List Nat := if c = 0 then [] else [c]
def outL (c1 c2 c3 c4 : Nat) : List Nat := zL c1 ++ (zL c2 ++ (zL c3 ++ zL c4))
def okB (c : Nat) : Bool := decide (c = 0 ∨ (32 ≤ c ∧ c ≤ 126))
theorem zL_0 : zL 0 = [] := rfl
theorem zL_n {c : Nat} (h : c ≠ 0) : zL c = [c] := if_neg h
theorem ch_n {q : Nat} (h : q < 65536) : ((nI q).toUInt32 % 65536).toInt32 = nI q := by
  rw [pk_char, pk_tn (by omega), Nat.mod_eq_of_lt h]
theorem m_o2 {a : aS} {τ : gS} {pg : List Nat} (hm : absM τ (aPg a pg)) {c : Nat} (hc : okB c = true) (hl : pg.length + (zL c).length ≤ 1600) (t : Nat) (x1 x2 x3 x4 x5 : Int32) : ∃ τ', R_M_out (t + 1 + 1) 2 [x1, x2, x3, x4, x5, nI c] τ = R_M_out t 1 [x1, x2, x3, x4, x5 + 1] τ' ∧ oM a τ pg (zL c) τ' := by
  have hc := of_decide_eq_true hc
  rw [st_M_out_2]
  unfold B_M_out_2
  by_cases e : c = 0
  · rw [if_pos (by rw [e]; rfl), st_M_out_3]
    unfold B_M_out_3
    refine ⟨τ, rfl, ?_⟩
    rw [e]
    exact oM_r hm
  · have h126 : 32 ≤ c ∧ c ≤ 126 := hc.resolve_left e
    have e1 : τ.1 1 = nI pg.length := hm.2.1
    rw [zL_n e] at hl ⊢
    simp only [List.length_singleton] at hl
    rw [if_neg (nI_ne0 (by omega) (by omega)), e1, ch_n (by omega), nar_c (by omega), gSt_n (by omega) (by decide), gPut_s, sA_1, e1, add_c1, st_M_out_3]
    unfold B_M_out_3
    refine ⟨_, rfl, ⟨?_, ?_, hm.2.2.1, hm.2.2.2.1, hm.2.2.2.2.1, fun p hp => ?_, hm.2.2.2.2.2.2⟩, fun k hk => sI_ne hk, fun k hk => sA_ne hk⟩
    · exact hm.1
    · show nI (pg.length + 1) = nI (pg ++ [c]).length
      rw [List.length_append]; rfl
    · show upd (τ.2 7) pg.length (nI c) p = nI ((pg ++ [c]).getD p 0)
      have hp : p < (pg ++ [c]).length := hp
      rw [List.length_append] at hp
      simp only [List.length_singleton] at hp
      rw [app_getD]
      by_cases e : p = pg.length
      · rw [e, up_eq, if_pos rfl]
      · rw [up_ne e, if_neg e]
        exact hm.2.2.2.2.2.1 p (show p < pg.length by omega)
theorem wM_o (a : aS) {x1 x2 x3 x4 : Int32} (c1 c2 c3 c4 : Nat) (e : x1 = nI c1 ∧ x2 = nI c2 ∧ x3 = nI c3 ∧ x4 = nI c4) (h : (okB c1 && okB c2 && okB c3 && okB c4) = true) : wM a (fun τ => f_M_out τ x1 x2 x3 x4) (outL c1 c2 c3 c4) := by
  intro τ pg hm hl
  obtain ⟨rfl, rfl, rfl, rfl⟩ := e
  simp only [Bool.and_eq_true] at h
  obtain ⟨⟨⟨h1, h2⟩, h3⟩, h4⟩ := h
  obtain ⟨T, hT⟩ := gFx
  have hl : pg.length + (zL c1 ++ (zL c2 ++ (zL c3 ++ zL c4))).length ≤ 1600 := hl
  simp only [List.length_append] at hl
  obtain ⟨τ1, a1, b1⟩ := m_o2 hm h1 (by omega) (T + 49996) (nI c1) (nI c2) (nI c3) (nI c4) 0
  obtain ⟨τ2, a2, b2⟩ := m_o2 b1.1 h2 (by simp only [List.length_append]; omega) (T + 49993) (nI c1) (nI c2) (nI c3) (nI c4) (0 + 1)
  obtain ⟨τ3, a3, b3⟩ := m_o2 b2.1 h3 (by simp only [List.length_append]; omega) (T + 49990) (nI c1) (nI c2) (nI c3) (nI c4) (0 + 1 + 1)
  obtain ⟨τ4, a4, b4⟩ := m_o2 b3.1 h4 (by simp only [List.length_append]; omega) (T + 49987) (nI c1) (nI c2) (nI c3) (nI c4) (0 + 1 + 1 + 1)
  refine ⟨0, τ4, ?_, oM_t b1 (oM_t b2 (oM_t b3 b4))⟩
  show f_M_out τ (nI c1) (nI c2) (nI c3) (nI c4) = _
  rw [fx_M_out hT]
  unfold B_M_out_0
  rw [show T + 49999 = T + 49996 + 1 + 1 + 1 from rfl, st_M_out_1]
  unfold B_M_out_1
  rw [if_neg (show ¬ (4 : Int32) ≤ 0 by decide), if_pos rfl, a1, show T + 49996 = T + 49993 + 1 + 1 + 1 from rfl, st_M_out_1]
  unfold B_M_out_1
  rw [if_neg (show ¬ (4 : Int32) ≤ 0 + 1 by decide), if_neg (show ¬ (0 + 1 : Int32) = 0 by decide), if_pos (show (0 + 1 : Int32) = 1 by decide), a2, show T + 49993 = T + 49990 + 1 + 1 + 1 from rfl, st_M_out_1]
  unfold B_M_out_1
  rw [if_neg (show ¬ (4 : Int32) ≤ 0 + 1 + 1 by decide), if_neg (show ¬ (0 + 1 + 1 : Int32) = 0 by decide), if_neg (show ¬ (0 + 1 + 1 : Int32) = 1 by decide), if_pos (show (0 + 1 + 1 : Int32) = 2 by decide), a3, show T + 49990 = T + 49987 + 1 + 1 + 1 from rfl, st_M_out_1]
  unfold B_M_out_1
  rw [if_neg (show ¬ (4 : Int32) ≤ 0 + 1 + 1 + 1 by decide), if_neg (show ¬ (0 + 1 + 1 + 1 : Int32) = 0 by decide), if_neg (show ¬ (0 + 1 + 1 + 1 : Int32) = 1 by decide), if_neg (show ¬ (0 + 1 + 1 + 1 : Int32) = 2 by decide), a4, show T + 49987 = T + 49986 + 1 from rfl, st_M_out_1]
  unfold B_M_out_1
  rw [if_pos (show (4 : Int32) ≤ 0 + 1 + 1 + 1 + 1 by decide)]
/-! numbers -/
theorem p10 {k : Nat} (h : k ≤ 9) : 0 < 10 ^ k ∧ 10 ^ k ≤ 1000000000 := ⟨Nat.pow_pos (by decide), Nat.pow_le_pow_right (n := 10) (by decide) h⟩
theorem num_E {m : Nat} (h : m ≤ 2147483648) : ∃ E, E ≤ 9 ∧ m / 10 ^ E < 10 ∧ ∀ e, e < E → 10 ≤ m / 10 ^ e := by
  have h9 : m / 10 ^ 9 < 10 := by
    rw [show (10 : Nat) ^ 9 = 1000000000 from rfl]
    omega
  obtain ⟨E, h1, h2⟩ := pk_least (fun e => m / 10 ^ e < 10) ⟨9, h9⟩
  refine ⟨E, ?_, h1, fun e he => ?_⟩
  · by_cases e : E ≤ 9
    · exact e
    · exact absurd h9 (h2 9 (by omega))
  · have := h2 e he
    omega
def dgs (m : Nat) : Nat → List Nat
  | 0 => [48 + m / 10 ^ 0 % 10]
  | k + 1 => (48 + m / 10 ^ (k + 1) % 10) :: dgs m k
theorem dgs_len (m : Nat) : ∀ k, (dgs m k).length = k + 1 := by
  intro k
  induction k with
  | zero => rfl
  | succ k ih => show (dgs m k).length + 1 = _; rw [ih]
theorem dgs_prt (m : Nat) : ∀ k, ∀ c ∈ dgs m k, prtN c := by
  intro k
  induction k with
  | zero =>
    intro c hc
    have hc := List.mem_singleton.mp hc
    unfold prtN
    omega
  | succ k ih =>
    intro c hc
    rcases List.mem_cons.mp hc with hc | hc
    · unfold prtN
      omega
    · exact ih c hc
theorem l_rem10 {q : Nat} (h : q < 9223372036854775808) : lN q - lN q / 10 * 10 = lN (q % 10) := pk_lRem (b := 10) h (by decide) (by decide)
theorem l_div10 {q : Nat} (h : q < 9223372036854775808) : lN q / 10 = lN (q / 10) := pk_lDiv (b := 10) h (by decide) (by decide)
theorem gNel_ok {β : Type} {y : Int64} {K : Option β} (h : ¬ y = 0) : gNel y K = K := if_neg h
theorem l_ne0 {q : Nat} (h0 : 0 < q) (h : q < 9223372036854775808) : ¬ lN q = 0 := fun e => by
  have := (pk_lEQ (a := q) (b := 0) h (by decide)).mp e
  omega
theorem l_nle0 {q : Nat} (h0 : 0 < q) (h : q < 9223372036854775808) : ¬ lg_cmp (lN q) 0 ≤ 0 := fun e => by
  have := (pk_lLE (a := q) (b := 0) h (by decide)).mp ((lg_cmp_le _ _).mp e)
  omega
theorem c_dg {a : aS} {m : Nat} (hm : m ≤ 2147483648) : ∀ (k t : Nat) (σ : gS) (pg : List Nat), k ≤ 9 → k + 2 ≤ t → absC σ (aPg a pg) → pg.length + (k + 1) ≤ 1600 → ∃ σ', R_W_writeNumber t 3 [] [lN m, lN (10 ^ k)] σ = some (0, σ') ∧ oC a σ pg (dgs m k) σ' := by
  have step : ∀ (k t : Nat) (σ : gS) (pg : List Nat), k ≤ 9 → absC σ (aPg a pg) → pg.length + 1 ≤ 1600 → ∃ σ', R_W_writeNumber (t + 1) 3 [] [lN m, lN (10 ^ k)] σ = R_W_writeNumber t 3 [] [lN m, lN (10 ^ k / 10)] σ' ∧ oC a σ pg [48 + m / 10 ^ k % 10] σ' := by
    intro k t σ pg hk h hl
    have hp := p10 hk
    have hq : m / 10 ^ k ≤ m := Nat.div_le_self _ _
    obtain ⟨r, σ1, e1, o1⟩ := wC_ch a (c := 48 + m / 10 ^ k % 10) (by unfold prtN; omega) rfl σ pg h hl
    have e1 : f_P_append σ (nI (48 + m / 10 ^ k % 10)) = some (r, σ1) := e1
    refine ⟨σ1, ?_, o1⟩
    rw [st_W_writeNumber_3]
    unfold B_W_writeNumber_3
    rw [if_neg (l_nle0 hp.1 (by omega)), gNel_ok (l_ne0 hp.1 (by omega)), pk_lDiv (by omega) hp.1 (by omega), l_rem10 (by omega), lN_i, show (48 : Int32) + nI (m / 10 ^ k % 10) = nI (48 + m / 10 ^ k % 10) from nI_add 48 _, ch_n (by omega), e1, gBd_s, l_div10 (by omega)]
  intro k
  induction k with
  | zero =>
    intro t σ pg hk ht h hl
    obtain ⟨t, rfl⟩ : ∃ t', t = t' + 1 + 1 := ⟨t - 2, by omega⟩
    obtain ⟨σ1, e1, o1⟩ := step 0 (t + 1) σ pg hk h hl
    refine ⟨σ1, ?_, o1⟩
    rw [e1, show (10 : Nat) ^ 0 / 10 = 0 from rfl, st_W_writeNumber_3]
    unfold B_W_writeNumber_3
    rw [if_pos (by decide)]
  | succ k ih =>
    intro t σ pg hk ht h hl
    obtain ⟨t, rfl⟩ : ∃ t', t = t' + 1 := ⟨t - 1, by omega⟩
    obtain ⟨σ1, e1, o1⟩ := step (k + 1) t σ pg hk h (by omega)
    obtain ⟨σ2, e2, o2⟩ := ih t σ1 _ (by omega) (by omega) o1.1 (by rw [List.length_append]; simp only [List.length_singleton]; omega)
    refine ⟨σ2, ?_, oC_t o1 o2⟩
    rw [e1, show 10 ^ (k + 1) / 10 = 10 ^ k by rw [Nat.pow_succ, Nat.mul_div_cancel _ (by decide)], e2]
theorem m_dg {a : aS} {m : Nat} (hm : m ≤ 2147483648) : ∀ (k t : Nat) (τ : gS) (pg : List Nat), k ≤ 9 → k + 2 ≤ t → absM τ (aPg a pg) → pg.length + (k + 1) ≤ 1600 → ∃ τ', R_M_number t 4 [] [lN m, lN (10 ^ k)] τ = some (0, τ') ∧ oM a τ pg (dgs m k) τ' := by
  have step : ∀ (k t : Nat) (τ : gS) (pg : List Nat), k ≤ 9 → absM τ (aPg a pg) → pg.length + 1 ≤ 1600 → ∃ τ', R_M_number (t + 1) 4 [] [lN m, lN (10 ^ k)] τ = R_M_number t 4 [] [lN m, lN (10 ^ k / 10)] τ' ∧ oM a τ pg [48 + m / 10 ^ k % 10] τ' := by
    intro k t τ pg hk h hl
    have hp := p10 hk
    have hq : m / 10 ^ k ≤ m := Nat.div_le_self _ _
    have ol : outL (48 + m / 10 ^ k % 10) 0 0 0 = [48 + m / 10 ^ k % 10] := by
      unfold outL
      rw [zL_n (by omega)]
      rfl
    have w := wM_o a (x2 := 0) (x3 := 0) (x4 := 0) (48 + m / 10 ^ k % 10) 0 0 0 ⟨rfl, rfl, rfl, rfl⟩ (by
      have : okB (48 + m / 10 ^ k % 10) = true := decide_eq_true (Or.inr (by omega))
      rw [this]
      rfl) τ pg h (by rw [ol]; exact hl)
    rw [ol] at w
    obtain ⟨r, τ1, e1, o1⟩ := w
    have e1 : f_M_out τ (nI (48 + m / 10 ^ k % 10)) 0 0 0 = some (r, τ1) := e1
    refine ⟨τ1, ?_, o1⟩
    rw [st_M_number_4]
    unfold B_M_number_4
    rw [if_neg (l_nle0 hp.1 (by omega)), gNel_ok (l_ne0 hp.1 (by omega)), pk_lDiv (by omega) hp.1 (by omega), l_rem10 (by omega), show (48 : Int64) + lN (m / 10 ^ k % 10) = lN (48 + m / 10 ^ k % 10) from lN_add 48 _, lN_i, e1, gBd_s, l_div10 (by omega)]
  intro k
  induction k with
  | zero =>
    intro t σ pg hk ht h hl
    obtain ⟨t, rfl⟩ : ∃ t', t = t' + 1 + 1 := ⟨t - 2, by omega⟩
    obtain ⟨σ1, e1, o1⟩ := step 0 (t + 1) σ pg hk h hl
    refine ⟨σ1, ?_, o1⟩
    rw [e1, show (10 : Nat) ^ 0 / 10 = 0 from rfl, st_M_number_4]
    unfold B_M_number_4
    rw [if_pos (by decide)]
  | succ k ih =>
    intro t σ pg hk ht h hl
    obtain ⟨t, rfl⟩ : ∃ t', t = t' + 1 := ⟨t - 1, by omega⟩
    obtain ⟨σ1, e1, o1⟩ := step (k + 1) t σ pg hk h (by omega)
    obtain ⟨σ2, e2, o2⟩ := ih t σ1 _ (by omega) (by omega) o1.1 (by rw [List.length_append]; simp only [List.length_singleton]; omega)
    refine ⟨σ2, ?_, oM_t o1 o2⟩
    rw [e1, show 10 ^ (k + 1) / 10 = 10 ^ k by rw [Nat.pow_succ, Nat.mul_div_cancel _ (by decide)], e2]
theorem c_un {m E : Nat} (hm : m ≤ 2147483648) (hE : E ≤ 9) (h1 : m / 10 ^ E < 10) (h2 : ∀ e, e < E → 10 ≤ m / 10 ^ e) : ∀ (d e t : Nat) (σ : gS), e + d = E → R_W_writeNumber (t + (d + 1)) 2 [nI (e + 1)] [lN m, lN (10 ^ e)] σ = R_W_writeNumber t 3 [] [lN m, lN (10 ^ E)] σ := by
  intro d
  induction d with
  | zero =>
    intro e t σ he
    obtain rfl : e = E := by omega
    have hp := p10 hE
    rw [show t + (0 + 1) = t + 1 from rfl, st_W_writeNumber_2]
    unfold B_W_writeNumber_2
    by_cases e9 : e = 9
    · rw [if_pos (by rw [c10_le (by omega)]; omega)]
    · rw [if_neg (by rw [c10_le (by omega)]; omega), l_div10 (by omega), if_pos (by
        rw [lg_cmp_gt, pk_lLT (by omega) (by omega)]
        have := (Nat.div_lt_iff_lt_mul hp.1).mp h1
        omega)]
  | succ d ih =>
    intro e t σ he
    have hp := p10 (k := e) (by omega)
    rw [show t + (d + 1 + 1) = t + (d + 1) + 1 from rfl, st_W_writeNumber_2]
    unfold B_W_writeNumber_2
    rw [if_neg (by rw [c10_le (by omega)]; omega), l_div10 (by omega), if_neg (by
        rw [lg_cmp_gt, pk_lLT (by omega) (by omega)]
        have := (Nat.le_div_iff_mul_le hp.1).mp (h2 e (by omega))
        omega), add_c1, show lN (10 ^ e) * 10 = lN (10 ^ (e + 1)) by rw [Nat.pow_succ]; exact lN_mul _ 10]
    exact ih (e + 1) t σ (by omega)
theorem m_un {m E : Nat} (hm : m ≤ 2147483648) (hE : E ≤ 9) (h1 : m / 10 ^ E < 10) (h2 : ∀ e, e < E → 10 ≤ m / 10 ^ e) : ∀ (d e t : Nat) (σ : gS), e + d = E → R_M_number (t + (d + 1)) 3 [] [lN m, lN (10 ^ e)] σ = R_M_number t 4 [] [lN m, lN (10 ^ E)] σ := by
  intro d
  induction d with
  | zero =>
    intro e t σ he
    obtain rfl : e = E := by omega
    have hp := p10 hE
    have hq : m / 10 ^ e ≤ m := Nat.div_le_self _ _
    rw [show t + (0 + 1) = t + 1 from rfl, st_M_number_3]
    unfold B_M_number_3
    rw [gNel_ok (l_ne0 hp.1 (by omega)), pk_lDiv (by omega) hp.1 (by omega), if_pos (by
        rw [lg_cmp_lt]
        exact (pk_lLT (b := 10) (by omega) (by decide)).mpr h1)]
  | succ d ih =>
    intro e t σ he
    have hp := p10 (k := e) (by omega)
    have hq : m / 10 ^ e ≤ m := Nat.div_le_self _ _
    rw [show t + (d + 1 + 1) = t + (d + 1) + 1 from rfl, st_M_number_3]
    unfold B_M_number_3
    rw [gNel_ok (l_ne0 hp.1 (by omega)), pk_lDiv (by omega) hp.1 (by omega), if_neg (by
        rw [lg_cmp_lt]
        intro q
        have := (pk_lLT (b := 10) (by omega) (by decide)).mp q
        have := h2 e (by omega)
        omega), show lN (10 ^ e) * 10 = lN (10 ^ (e + 1)) by rw [Nat.pow_succ]; exact lN_mul _ 10]
    exact ih (e + 1) t σ (by omega)
theorem num_sgn (x : Int32) : ∃ m, m ≤ 2147483648 ∧ ((0 ≤ lg_cmp x.toInt64 0 ∧ x.toInt64 = lN m ∧ x = nI m ∧ m < 2147483648) ∨ (x < 0 ∧ ¬ 0 ≤ lg_cmp x.toInt64 0 ∧ -x.toInt64 = lN m)) := by
  by_cases h : x < 0
  · have hx := Int32.lt_iff_toInt_lt.mp h
    have hx2 := Int32.le_toInt x
    rw [show (0 : Int32).toInt = 0 from rfl] at hx
    refine ⟨x.toInt.natAbs, by omega, Or.inr ⟨h, fun q => ?_, ?_⟩⟩
    · have q := Int64.le_iff_toInt_le.mp ((lg_cmp_ge _ _).mp q)
      rw [Int32.toInt_toInt64, show (0 : Int64).toInt = 0 from rfl] at q
      omega
    · have e := lg_i2l_sub 0 x
      rw [show (0 : Int32).toInt64 = 0 from rfl, Int64.zero_sub, show (0 : Int32).toInt = 0 from rfl] at e
      refine Int64.toInt_inj.mp ?_
      rw [e, pk_lT (by omega)]
      omega
  · obtain ⟨m, hm, rfl⟩ := nI_of h
    refine ⟨m, by omega, Or.inl ⟨?_, nI_l hm, rfl, hm⟩⟩
    rw [lg_cmp_ge, nI_l hm]
    exact (pk_lLE (a := 0) (by decide) (by omega)).mpr (Nat.zero_le m)
theorem c_numT {a : aS} {m E : Nat} (hm : m ≤ 2147483648) (hE : E ≤ 9) (h1 : m / 10 ^ E < 10) (h2 : ∀ e, e < E → 10 ≤ m / 10 ^ e) {σ : gS} {pg : List Nat} (h : absC σ (aPg a pg)) (hl : pg.length + (E + 1) ≤ 1600) (t : Nat) : ∃ σ', R_W_writeNumber (t + 40) 1 [] [lN m] σ = some (0, σ') ∧ oC a σ pg (dgs m E) σ' := by
  obtain ⟨σ', e, o⟩ := c_dg hm E (t + 39 - (E + 1)) σ pg hE (by omega) h hl
  have u := c_un hm hE h1 h2 E 0 (t + 39 - (E + 1)) σ (by omega)
  rw [show t + 39 - (E + 1) + (E + 1) = t + 39 by omega, show nI (0 + 1) = 1 from rfl, show lN (10 ^ 0) = 1 from rfl] at u
  refine ⟨σ', ?_, o⟩
  rw [show t + 40 = t + 39 + 1 from rfl, st_W_writeNumber_1]
  unfold B_W_writeNumber_1
  rw [u, e]
theorem m_numT {a : aS} {m E : Nat} (hm : m ≤ 2147483648) (hE : E ≤ 9) (h1 : m / 10 ^ E < 10) (h2 : ∀ e, e < E → 10 ≤ m / 10 ^ e) {τ : gS} {pg : List Nat} (h : absM τ (aPg a pg)) (hl : pg.length + (E + 1) ≤ 1600) (t : Nat) : ∃ τ', R_M_number (t + 39) 3 [] [lN m, 1] τ = some (0, τ') ∧ oM a τ pg (dgs m E) τ' := by
  obtain ⟨σ', e, o⟩ := m_dg hm E (t + 39 - (E + 1)) τ pg hE (by omega) h hl
  have u := m_un hm hE h1 h2 E 0 (t + 39 - (E + 1)) τ (by omega)
  rw [show t + 39 - (E + 1) + (E + 1) = t + 39 by omega, show lN (10 ^ 0) = 1 from rfl] at u
  exact ⟨σ', by rw [u, e], o⟩
theorem w_num (x : Int32) : ∃ l : List Nat, (∀ c ∈ l, prtN c) ∧ l.length ≤ 11 ∧ (∀ m, x = nI m → m < 100 → l.length ≤ 2) ∧ (∀ m, x = nI m → m < 10 → l.length ≤ 1) ∧ ∀ a, wC a (fun σ => f_W_writeNumber σ x) l ∧ wM a (fun τ => f_M_number τ x.toInt64) l := by
  obtain ⟨T, hT⟩ := gFx
  obtain ⟨m, hm, hs⟩ := num_sgn x
  obtain ⟨E, hE, h1, h2⟩ := num_E hm
  have hsm : ∀ k, x = nI k → k < 100 → x.toInt64 = lN m → k = m := fun k hk hk2 hx => by
    rw [hk, nI_l (by omega)] at hx
    exact (pk_lEQ (by omega) (by omega)).mp hx
  rcases hs with ⟨s1, s2, s3, s4⟩ | ⟨s0, s1, s2⟩
  · refine ⟨dgs m E, dgs_prt m E, by rw [dgs_len]; omega, fun k hk hk2 => ?_, fun k hk hk2 => ?_, fun a => ⟨fun σ pg h hl => ?_, fun τ pg h hl => ?_⟩⟩
    · have e := hsm k hk hk2 s2
      rw [dgs_len]
      by_cases e2 : E ≤ 1
      · omega
      · have := h2 1 (by omega)
        rw [show (10 : Nat) ^ 1 = 10 from rfl] at this
        omega
    · have e := hsm k hk (by omega) s2
      rw [dgs_len]
      by_cases e2 : E ≤ 0
      · omega
      · have := h2 0 (by omega)
        rw [show (10 : Nat) ^ 0 = 1 from rfl] at this
        omega
    · rw [dgs_len] at hl
      obtain ⟨σ', e, o⟩ := c_numT hm hE h1 h2 h hl (T + 49959)
      refine ⟨0, σ', ?_, o⟩
      show f_W_writeNumber σ x = _
      rw [fx_W_writeNumber hT]
      unfold B_W_writeNumber_0
      rw [if_pos s1, s2]
      exact e
    · rw [dgs_len] at hl
      obtain ⟨r, τ1, e1, o1⟩ := wM_o a (x1 := 0) (x2 := 0) (x3 := 0) (x4 := 0) 0 0 0 0 ⟨rfl, rfl, rfl, rfl⟩ rfl τ pg h (show pg.length + 0 ≤ 1600 by omega)
      have e1 : f_M_out τ 0 0 0 0 = some (r, τ1) := e1
      have o1 : oM a τ pg [] τ1 := o1
      obtain ⟨τ', e, o⟩ := m_numT hm hE h1 h2 o1.1 (by rw [List.append_nil]; exact hl) (T + 49958)
      refine ⟨0, τ', ?_, oM_t o1 o⟩
      show f_M_number τ x.toInt64 = _
      rw [fx_M_number hT]
      unfold B_M_number_0
      rw [if_pos s1, show T + 49999 = T + 49998 + 1 from rfl, st_M_number_1]
      unfold B_M_number_1
      rw [if_pos s1, show T + 49998 = T + 49997 + 1 from rfl, st_M_number_2]
      unfold B_M_number_2
      rw [e1, gBd_s, s2]
      exact e
  · have hno : ∀ k, k < 100 → x = nI k → False := fun k hk hk2 => nI_pos (n := k) (by omega) (by rw [← hk2]; exact s0)
    refine ⟨[45] ++ dgs m E, fun c hc => ?_, by rw [List.length_append, dgs_len]; simp only [List.length_singleton]; omega, fun k hk hk2 => absurd (hno k hk2 hk) id, fun k hk hk2 => absurd (hno k (by omega) hk) id, fun a => ⟨fun σ pg h hl => ?_, fun τ pg h hl => ?_⟩⟩
    · rcases List.mem_append.mp hc with hc | hc
      · have hc := List.mem_singleton.mp hc
        unfold prtN
        omega
      · exact dgs_prt m E c hc
    · rw [List.length_append, dgs_len] at hl
      simp only [List.length_singleton] at hl
      obtain ⟨r, σ1, e1, o1⟩ := wC_ch a (c := 45) (x := 45) (by unfold prtN; decide) rfl σ pg h (by simp only [List.length_singleton]; omega)
      have e1 : f_P_append σ 45 = some (r, σ1) := e1
      obtain ⟨σ', e, o⟩ := c_numT hm hE h1 h2 o1.1 (by rw [List.length_append]; simp only [List.length_singleton]; omega) (T + 49959)
      refine ⟨0, σ', ?_, oC_t o1 o⟩
      show f_W_writeNumber σ x = _
      rw [fx_W_writeNumber hT]
      unfold B_W_writeNumber_0
      rw [if_neg s1, e1, gBd_s, s2]
      exact e
    · rw [List.length_append, dgs_len] at hl
      simp only [List.length_singleton] at hl
      obtain ⟨r, τ1, e1, o1⟩ := wM_o a (x1 := 45) (x2 := 0) (x3 := 0) (x4 := 0) 45 0 0 0 ⟨rfl, rfl, rfl, rfl⟩ rfl τ pg h (show pg.length + 1 ≤ 1600 by omega)
      have e1 : f_M_out τ 45 0 0 0 = some (r, τ1) := e1
      have o1 : oM a τ pg [45] τ1 := o1
      obtain ⟨τ', e, o⟩ := m_numT hm hE h1 h2 o1.1 (by rw [List.length_append]; simp only [List.length_singleton]; omega) (T + 49958)
      refine ⟨0, τ', ?_, oM_t o1 o⟩
      show f_M_number τ x.toInt64 = _
      rw [fx_M_number hT]
      unfold B_M_number_0
      rw [if_neg s1, show T + 49999 = T + 49998 + 1 from rfl, st_M_number_1]
      unfold B_M_number_1
      rw [if_neg s1, show T + 49998 = T + 49997 + 1 from rfl, st_M_number_2]
      unfold B_M_number_2
      rw [e1, gBd_s, s2]
      exact e
theorem mw_at {a : aS} {x : Int32} {l : List Nat} (h : wM a (fun τ => f_M_number τ x.toInt64) l) {x1 x2 : Int32} (c1 c2 : Nat) (e1 : x1 = nI c1) (e2 : x2 = nI c2) (hc : (okB c1 && okB c2) = true) : wM a (fun τ => f_M_attribute τ x1 x2 x) (atL (zL c1 ++ zL c2) l) := by
  have hc2 : (okB 32 && okB c1 && okB c2 && okB 61) = true := by
    simp only [Bool.and_eq_true] at hc ⊢
    exact ⟨⟨⟨rfl, hc.1⟩, hc.2⟩, rfl⟩
  have w := wM_seq (wM_o a (x1 := 32) (x4 := 61) 32 c1 c2 61 ⟨rfl, e1, e2, rfl⟩ hc2) (wM_seq (wM_o a (x1 := 34) (x2 := 0) (x3 := 0) (x4 := 0) 34 0 0 0 ⟨rfl, rfl, rfl, rfl⟩ rfl) (wM_seq h (wM_seq (wM_o a (x1 := 34) (x2 := 0) (x3 := 0) (x4 := 0) 34 0 0 0 ⟨rfl, rfl, rfl, rfl⟩ rfl) (wM_ret a 0))))
  refine wM_l ?_ w
  simp [atL, outL, zL]
