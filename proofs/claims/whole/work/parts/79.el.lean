/-! encode: an element on both sides -/
def fbOK (a : aS) (j f b : Nat) : Prop := (sK a j = 1 → b = bh (fun i => sC a (4 * j + i)) (sZ a j) ∧ (b = 0 → f = 0) ∧ (0 < b → f < b ∧ sC a (4 * j + f) ≠ 0) ∧ ∀ i, i < f → sC a (4 * j + i) = 0) ∧ (sK a j ≠ 1 → f = 0 ∧ b = sZ a j)
theorem fb_all (a : aS) (j : Nat) : ∃ f b, fbOK a j f b := by
  by_cases h : sK a j = 1
  · obtain ⟨f, h1, h2, h3, h4⟩ := fb_ex (fun i => sC a (4 * j + i)) (sZ a j)
    exact ⟨f, _, fun _ => ⟨rfl, h2, h3, h4⟩, fun q => absurd h q⟩
  · exact ⟨0, sZ a j, fun q => absurd q h, fun _ => ⟨rfl, rfl⟩⟩
theorem fb_le {a : aS} {j f b : Nat} (h : fbOK a j f b) : f ≤ b ∧ b ≤ sZ a j := by
  by_cases e : sK a j = 1
  · obtain ⟨h1, h2, h3, h4⟩ := h.1 e
    have := bh_le (fun i => sC a (4 * j + i)) (sZ a j)
    rw [← h1] at this
    refine ⟨?_, this⟩
    by_cases e2 : b = 0
    · rw [h2 e2]; exact Nat.zero_le _
    · have := (h3 (by omega)).1
      omega
  · obtain ⟨h1, h2⟩ := h.2 e
    rw [h1, h2]
    exact ⟨Nat.zero_le _, Nat.le_refl _⟩
theorem c_first {a : aS} (ha : okA a) {σ : gS} {pg : List Nat} (hc : absC σ (aPg a pg)) {j f b : Nat} (hj : j < sN a) (h : fbOK a j f b) : f_W_firstWrittenSlot σ (nI j) = some (nI f, σ) := by
  obtain ⟨T, hT⟩ := gFx
  rw [fx_W_firstWrittenSlot hT]
  unfold B_W_firstWrittenSlot_0
  by_cases e : sK a j = 1
  · obtain ⟨h1, h2, h3, h4⟩ := h.1 e
    have hb := (fb_le h).2
    have w := c_fst ha hc hj e (f := f) h4 (by
      by_cases e2 : b = 0
      · refine Or.inr ⟨h2 e2, ?_⟩
        exact bh_0 (fun i => sC a (4 * j + i)) (sZ a j) (by rw [← h1]; exact e2)
      · have := h3 (by omega)
        exact Or.inl ⟨by omega, this.2⟩) 5 0 (T + 49999) (by omega) (by omega) (fun _ => Nat.zero_le _)
    rw [nI_0] at w
    exact w
  · rw [(h.2 e).1]
    exact c_fst0 ha hc hj e (T + 49998) 0
theorem c_behind {a : aS} (ha : okA a) {σ : gS} {pg : List Nat} (hc : absC σ (aPg a pg)) {j f b : Nat} (hj : j < sN a) (h : fbOK a j f b) : f_W_behindLastWrittenSlot σ (nI j) = some (nI b, σ) := by
  have h16 := ha.1
  have kj := okA_K ha hj
  obtain ⟨T, hT⟩ := gFx
  rw [fx_W_behindLastWrittenSlot hT]
  unfold B_W_behindLastWrittenSlot_0
  rw [gLd_n (by omega) (by decide), (cP_k hc hj).2]
  by_cases e : sK a j = 1
  · rw [(h.1 e).1]
    exact c_bh ha hc hj e (sZ a j) (T + 49999) (Nat.le_refl _) (by omega)
  · rw [(h.2 e).2]
    exact c_bh0 ha hc hj e (T + 49998) _
/-- the reference's head of an element -/
theorem m_head {a : aS} (ha : okA a) {x : Nat} {O L : List Nat} {I : Nat → Nat} {pg : List Nat} {τ : gS} (h : mR a x O L I pg τ) {T : Nat} (hT : gFuel = T + 50000) {j f b : Nat} (hj : j < sN a) (hI : I j ≤ 16) (hfb : fbOK a j f b) (hl : pg.length + 22 ≤ 1600) : ∃ t' τ1, T + 49900 ≤ t' ∧ f_M_element τ (nI j) = R_M_element t' 6 [nI j, nI (ltr a j), nI f, nI b - 1] τ1 ∧ oM a τ pg (hdL a j (I j) f) τ1 := by
  have h16 := ha.1
  have kj := okA_K ha hj
  have hle := fb_le hfb
  have hf4 : f ≤ 4 := by
    by_cases e : sK a j = 1
    · have := kj.2.2 (by omega)
      omega
    · rw [(hfb.2 e).1]; exact Nat.zero_le _
  have il := idL_len hI
  have sl := szL_len ha hj
  have ol := ofL_len hf4
  have lp := ltr_p a j
  -- block 5
  have b5 : ∀ (τ2 : gS) (pg2 : List Nat) (t : Nat), absM τ2 (aPg a pg2) → pg2.length + 12 ≤ 1600 → sK a j = 1 → ∃ τ3, R_M_element (t + 1) 5 [nI j, nI (ltr a j), nI f, nI b - 1] τ2 = R_M_element t 6 [nI j, nI (ltr a j), nI f, nI b - 1] τ3 ∧ oM a τ2 pg2 (szL a j ++ ofL f) τ3 := by
    intro τ2 pg2 t h2 hl2 e
    have ei : szL a j = atL [110] (nu (nI (sZ a j))) := if_pos e
    rw [ei] at sl ⊢
    obtain ⟨r, τ3, w1, w2⟩ := mw_at ((nu_s (nI (sZ a j))).2.2.2.2 a).2 (x1 := 110) (x2 := 0) 110 0 rfl rfl rfl τ2 pg2 h2 (by
      show pg2.length + (atL [110] (nu (nI (sZ a j)))).length ≤ 1600
      omega)
    have w1 : f_M_attribute τ2 110 0 (nI (sZ a j)) = some (r, τ3) := w1
    have w2 : oM a τ2 pg2 (atL [110] (nu (nI (sZ a j)))) τ3 := w2
    rw [st_M_element_5]
    unfold B_M_element_5
    rw [gLd_n (by omega) (by decide), (mQ_k h2 hj).2, w1, gBd_s]
    by_cases e2 : f = 0
    · refine ⟨τ3, by rw [e2, if_pos (show nI 0 ≤ 0 by decide)], ?_⟩
      rw [show ofL f = [] from if_pos e2, List.append_nil]
      exact w2
    · have eo : ofL f = atL [111] (nu (nI f)) := if_neg e2
      rw [eo] at ol ⊢
      obtain ⟨r2, τ4, v1, v2⟩ := mw_at ((nu_s (nI f)).2.2.2.2 a).2 (x1 := 111) (x2 := 0) 111 0 rfl rfl rfl τ3 _ w2.1 (by
        show _ + (atL [111] (nu (nI f))).length ≤ 1600
        rw [List.length_append]
        omega)
      have v1 : f_M_attribute τ3 111 0 (nI f) = some (r2, τ4) := v1
      have v2 : oM a τ3 (pg2 ++ atL [110] (nu (nI (sZ a j)))) (atL [111] (nu (nI f))) τ4 := v2
      refine ⟨τ4, ?_, oM_t w2 v2⟩
      rw [if_neg (by rw [le_c0 (by omega)]; omega), v1, gBd_s]
  -- from block 2
  have b2 : ∀ (τ2 : gS) (pg2 : List Nat), absM τ2 (aPg a pg2) → pg2.length + 12 ≤ 1600 → ∃ t' τ3, T + 49900 ≤ t' ∧ R_M_element (T + 49998) 2 [nI j, nI (ltr a j)] τ2 = R_M_element t' 6 [nI j, nI (ltr a j), nI f, nI b - 1] τ3 ∧ oM a τ2 pg2 (szL a j ++ ofL f) τ3 := by
    intro τ2 pg2 h2 hl2
    rw [show T + 49998 = T + 49997 + 1 from rfl, st_M_element_2]
    unfold B_M_element_2
    rw [gLd_n (by omega) (by decide), gLd_n (by omega) (by decide), (mQ_k h2 hj).1, (mQ_k h2 hj).2]
    by_cases e : sK a j = 1
    · obtain ⟨h1, h3, h4, h5⟩ := hfb.1 e
      have z4 := kj.2.2 (by omega)
      obtain ⟨t1, u1, u2⟩ := m_bh ha h2 hj e (nI (ltr a j)) (sZ a j) (T + 49997) (Nat.le_refl _) (by omega)
      rw [← h1] at u2
      obtain ⟨t2, v1, v2⟩ := m_fst ha h2 hj e (nI (ltr a j)) hle.2 h3 h4 h5 f 0 t1 (by omega) (by omega)
      rw [nI_0] at v2
      obtain ⟨t3, rfl⟩ : ∃ t3, t2 = t3 + 1 := ⟨t2 - 1, by omega⟩
      obtain ⟨τ3, w1, w2⟩ := b5 τ2 pg2 t3 h2 hl2 e
      exact ⟨t3, τ3, by omega, by rw [if_pos (by rw [e]; rfl), u2, v2, w1], w2⟩
    · obtain ⟨h1, h3⟩ := hfb.2 e
      refine ⟨T + 49997, τ2, by omega, ?_, ?_⟩
      · rw [if_neg (by rw [eq_c1 (by omega)]; exact e), h1, h3, nI_0]
      · rw [show szL a j = [] from if_neg e, h1]
        exact oM_r h2
  -- from block 1
  have b1 : ∃ t' τ3, T + 49900 ≤ t' ∧ R_M_element (T + 49999) 1 [nI j, nI (ltr a j)] τ = R_M_element t' 6 [nI j, nI (ltr a j), nI f, nI b - 1] τ3 ∧ oM a τ pg (hdL a j (I j) f) τ3 := by
    have ole : outL 60 (ltr a j) 0 0 = [60, ltr a j] := by
      unfold outL
      rw [zL_n (c := ltr a j) (by omega)]
      rfl
    obtain ⟨r, τ1, w1, w2⟩ := wM_o a (x1 := 60) (x3 := 0) (x4 := 0) 60 (ltr a j) 0 0 ⟨rfl, rfl, rfl, rfl⟩ (by
      have : okB (ltr a j) = true := decide_eq_true (Or.inr (by omega))
      rw [this]
      rfl) τ pg h.1 (by rw [ole]; simp only [List.length_cons, List.length_nil]; omega)
    rw [ole] at w2
    have w1 : f_M_out τ 60 (nI (ltr a j)) 0 0 = some (r, τ1) := w1
    have h1 := mR_o h w2
    rw [show T + 49999 = T + 49998 + 1 from rfl, st_M_element_1]
    unfold B_M_element_1
    rw [w1, gBd_s, gLd_n (by omega) (by decide), h1.2.2.1 j (by omega)]
    by_cases e : I j = 0
    · obtain ⟨t', τ3, v1, v2, v3⟩ := b2 τ1 _ h1.1 (by rw [List.length_append]; simp only [List.length_cons, List.length_nil]; omega)
      refine ⟨t', τ3, v1, by rw [e, if_pos (show nI 0 ≤ 0 by decide), v2], ?_⟩
      unfold hdL
      rw [show idL (I j) = [] from if_pos e, List.append_nil]
      exact oM_t w2 v3
    · have ei : idL (I j) = atL [105, 100] (nu (nI (I j))) := if_neg e
      rw [ei] at il
      obtain ⟨r2, τ2, u1, u2⟩ := mw_at ((nu_s (nI (I j))).2.2.2.2 a).2 (x1 := 105) (x2 := 100) 105 100 rfl rfl rfl τ1 _ h1.1 (by
        show _ + (atL [105, 100] (nu (nI (I j)))).length ≤ 1600
        rw [List.length_append]
        simp only [List.length_cons, List.length_nil]
        omega)
      have u1 : f_M_attribute τ1 105 100 (nI (I j)) = some (r2, τ2) := u1
      have u2 : oM a τ1 (pg ++ [60, ltr a j]) (atL [105, 100] (nu (nI (I j)))) τ2 := u2
      obtain ⟨t', τ3, v1, v2, v3⟩ := b2 τ2 _ u2.1 (by rw [List.length_append, List.length_append]; simp only [List.length_cons, List.length_nil]; omega)
      refine ⟨t', τ3, v1, ?_, ?_⟩
      · rw [if_neg (by rw [le_c0 (by omega)]; omega), gLd_n (by omega) (by decide), h1.2.2.1 j (by omega), u1, gBd_s, v2]
      · unfold hdL
        rw [ei]
        exact oM_t (oM_t w2 u2) (by rw [← List.append_assoc]; exact v3)
  rw [fx_M_element hT]
  unfold B_M_element_0
  rw [gLd_n (by omega) (by decide), (mQ_k h.1 hj).1]
  have h3 : sK a j = 0 ∨ sK a j = 1 ∨ sK a j = 2 := by omega
  rcases h3 with e | e | e
  · have el : (112 : Int32) = nI (ltr a j) := by rw [show ltr a j = 112 from if_pos e]; rfl
    rw [if_pos (by rw [e]; rfl), el]
    exact b1
  · have el : (97 : Int32) = nI (ltr a j) := by rw [show ltr a j = 97 from (if_neg (by omega)).trans (if_pos e)]; rfl
    rw [if_neg (by rw [e]; decide), gLd_n (by omega) (by decide), (mQ_k h.1 hj).1, if_pos (by rw [e]; rfl), el]
    exact b1
  · have el : (116 : Int32) = nI (ltr a j) := by rw [show ltr a j = 116 from (if_neg (by omega)).trans (if_neg (by omega))]; rfl
    rw [if_neg (by rw [e]; decide), gLd_n (by omega) (by decide), (mQ_k h.1 hj).1, if_neg (by rw [e]; decide), el]
    exact b1
theorem slP_bot (j : Nat) : ∀ m i, slP j i (m + 1) = (100 + 4 * j + (i + m)) :: slP j i m := by
  intro m
  induction m with
  | zero => intro i; rfl
  | succ m ih =>
    intro i
    show slP j (i + 1) (m + 1) ++ [100 + 4 * j + i] = (100 + 4 * j + (i + (m + 1))) :: (slP j (i + 1) m ++ [100 + 4 * j + i])
    rw [ih (i + 1), show i + 1 + m = i + (m + 1) by omega]
    rfl
theorem m_push {a : aS} {x : Nat} {O L : List Nat} {I : Nat → Nat} {pg : List Nat} {j f : Nat} (hf : f < 100) : ∀ (m t : Nat) (τ : gS) (B : List Nat), B.length + m ≤ 96 → m ≤ 10 → m + 1 ≤ t → mR a x O L I pg τ → mPl B τ → ∃ τ', R_M_element t 8 [nI j, nI f, nI (f + m) - 1] τ = some (0, τ') ∧ mR a x O L I pg τ' ∧ mPl (B ++ slP j f m) τ' := by
  intro m
  induction m with
  | zero =>
    intro t τ B hB hm ht h hp
    obtain ⟨t, rfl⟩ : ∃ t', t = t' + 1 := ⟨t - 1, by omega⟩
    refine ⟨τ, ?_, h, by rw [show slP j f 0 = [] from rfl, List.append_nil]; exact hp⟩
    rw [st_M_element_8]
    unfold B_M_element_8
    rw [Nat.add_zero, if_pos (n_m1lt f (by omega))]
  | succ m ih =>
    intro t τ B hB hm ht h hp
    obtain ⟨t, rfl⟩ : ∃ t', t = t' + 1 := ⟨t - 1, by omega⟩
    have hv : (100 : Int32) + 4 * nI j + nI (f + m) = nI (100 + 4 * j + (f + m)) := by
      rw [n_4m, show (100 : Int32) = nI 100 from rfl, nI_add, nI_add]
    obtain ⟨τ', w1, w2, w3⟩ := ih t _ (B ++ [100 + 4 * j + (f + m)]) (by rw [List.length_append]; simp only [List.length_singleton]; omega) (by omega) (by omega) (show mR a x O L I pg (sI (sA τ 23 (upd (τ.2 23) B.length (nI (100 + 4 * j + (f + m))))) 9 (nI (B.length + 1))) from h) (mPl_push _ hp)
    refine ⟨τ', ?_, w2, ?_⟩
    · rw [st_M_element_8]
      unfold B_M_element_8
      rw [← Nat.add_assoc, nI_pred, if_neg (by rw [n_lt (by omega) (by omega)]; omega), hp.1, hv, gSt_n (by omega) (by decide), gPut_s, sA_1, hp.1, add_c1, n_sm]
      exact w1
    · rw [List.append_assoc] at w3
      rw [slP_bot]
      exact w3
theorem c_close {a : aS} (ha : okA a) {j : Nat} (hj : j < sN a) (F : gS → Int32 → Int32 → Int32 → Option (Int32 × gS)) (t : Nat) {σ : gS} {pg : List Nat} (hc : absC σ (aPg a pg)) (hl : pg.length + 4 ≤ 1600) : ∃ σ', R_W_writeElement F (t + 1) 4 [nI (sK a j)] σ = some (0, σ') ∧ oC a σ pg [60, 47, ltr a j, 62] σ' := by
  have kj := okA_K ha hj
  rw [st_We4]
  unfold B_W_writeElement_4
  have h3 : sK a j = 0 ∨ sK a j = 1 ∨ sK a j = 2 := by omega
  rcases h3 with e | e | e
  · obtain ⟨r, σ1, w1, w2⟩ := cw_row17 a σ pg hc hl
    have w1 : f_W_writeRow_S17 σ = some (r, σ1) := w1
    rw [if_pos (by rw [e]; rfl), w1, gBd_s, show ltr a j = 112 from if_pos e]
    exact ⟨σ1, rfl, w2⟩
  · obtain ⟨r, σ1, w1, w2⟩ := cw_row18 a σ pg hc hl
    have w1 : f_W_writeRow_S18 σ = some (r, σ1) := w1
    rw [if_neg (by rw [e]; decide), if_pos (by rw [e]; rfl), w1, gBd_s, show ltr a j = 97 from (if_neg (by omega)).trans (if_pos e)]
    exact ⟨σ1, rfl, w2⟩
  · obtain ⟨r, σ1, w1, w2⟩ := cw_row19 a σ pg hc hl
    have w1 : f_W_writeRow_S19 σ = some (r, σ1) := w1
    rw [if_neg (by rw [e]; decide), if_neg (by rw [e]; decide), w1, gBd_s, show ltr a j = 116 from (if_neg (by omega)).trans (if_neg (by omega))]
    exact ⟨σ1, rfl, w2⟩
theorem hdL_len {a : aS} (ha : okA a) {j id f b : Nat} (hj : j < sN a) (hI : id ≤ 16) (h : fbOK a j f b) : (hdL a j id f).length ≤ 22 ∧ (sK a j ≠ 2 → (hdL a j id f).length + 18 * (b - f) ≤ 88) ∧ (sK a j = 2 → (hdL a j id f).length ≤ 10) := by
  have kj := okA_K ha hj
  have hle := fb_le h
  have il := idL_len hI
  have sl := szL_len ha hj
  have e0 : (hdL a j id f).length = 2 + (idL id).length + ((szL a j).length + (ofL f).length) := by
    unfold hdL
    rw [List.length_append, List.length_append, List.length_append]
    rfl
  by_cases e : sK a j = 1
  · have z4 := kj.2.2 (by omega)
    have ol := ofL_len (f := f) (by omega)
    refine ⟨by omega, fun _ => ?_, fun q => by omega⟩
    by_cases e2 : f = 0
    · have : (ofL f).length = 0 := by rw [show ofL f = [] from if_pos e2]; rfl
      omega
    · omega
  · obtain ⟨h1, h2⟩ := h.2 e
    have e3 : (ofL f).length = 0 := by rw [show ofL f = [] from if_pos h1]; rfl
    have e4 : (szL a j).length = 0 := by rw [show szL a j = [] from if_neg e]; rfl
    refine ⟨by omega, fun q => ?_, fun q => by omega⟩
    have := kj.2.2 q
    omega
theorem e_el {a : aS} (ha : okA a) {x : Nat} {O : List Nat} (hO : rO a x O) {k d : Nat} (hP : eP a x O k) (hkd : k + d = 18) {j : Nat} (hj : j ∈ O) (r : Nat) {σ τ : gS} {L : List Nat} {I : Nat → Nat} {pg W D B : List Nat} (hd : d ≤ W.length + 1) (hjW : j ∉ W) (hjx : rx a x O j < 2 → j = x ∨ ∃ s ∈ D, tg a s = some j) (hc : cR a x O L I pg σ) (hm : mR a x O L I pg τ) (hp : mPl B τ) (hv : gV a x O L I pg W D) (hB : B.length ≤ 5 * W.length) (hl : pg.length + 1488 + r ≤ 1600 + 93 * W.length) : ∃ τ1, f_M_element τ (nI j) = some (0, τ1) ∧ eRes a x O r 0 B L W D (fun y => y = j) (fun _ => False) (F_W_writeElement (F_W_writeSlots (gW_ref k)) σ (nI j) (nI d)) τ1 := by
  have h16 := ha.1
  have hjn := hO.2.1 j hj
  have kj := okA_K ha hjn
  obtain ⟨T, hT⟩ := gFx
  have hv1 : gV a x O L I pg (W ++ [j]) D := by
    refine ⟨hv.1, hv.2.1, hv.2.2.1, hv.2.2.2.1, hv.2.2.2.2.1, List.nodup_append.mpr ⟨hv.2.2.2.2.2.1, by simp, fun p hp q hq => by simp at hq; subst hq; intro e; exact hjW (e ▸ hp)⟩, fun y hy => ?_, fun y hy hy2 => ?_, fun s hs => List.mem_append_left _ (hv.2.2.2.2.2.2.2.2 s hs)⟩
    · rcases List.mem_append.mp hy with hy | hy
      · exact hv.2.2.2.2.2.2.1 y hy
      · rw [List.mem_singleton.mp hy]; exact hj
    · rcases List.mem_append.mp hy with hy | hy
      · exact hv.2.2.2.2.2.2.2.1 y hy hy2
      · have e := List.mem_singleton.mp hy
        rw [e] at hy2 ⊢
        exact hjx hy2
  have hW1 := gV_W ha hO hv1
  rw [List.length_append] at hW1
  simp only [List.length_singleton] at hW1
  have hWl : (W ++ [j]).length = W.length + 1 := by rw [List.length_append]; rfl
  have hLl := gV_L ha hO hv
  have hI : I j ≤ 16 := by have := hv.2.2.2.1 j; omega
  obtain ⟨f, b, hfb⟩ := fb_all a j
  have hle := fb_le hfb
  obtain ⟨hh1, hh2, hh3⟩ := hdL_len ha hjn hI hfb
  have hf4 : f ≤ 4 := by
    by_cases e : sK a j = 1
    · have := kj.2.2 (by omega)
      omega
    · rw [(hfb.2 e).1]; exact Nat.zero_le _
  obtain ⟨σ1, c1, c2⟩ := c_head ha hc hT hjn hI hf4 (c_first ha hc.1 hjn hfb) (by omega) (F_W_writeSlots (gW_ref k)) (nI d)
  obtain ⟨t6, τ1, m0, m1, m2⟩ := m_head ha hm hT hjn hI hfb (by omega)
  obtain ⟨t6, rfl⟩ : ∃ t', t6 = t' + 1 := ⟨t6 - 1, by omega⟩
  have hpl1 : (pg ++ hdL a j (I j) f).length = pg.length + (hdL a j (I j) f).length := List.length_append
  obtain ⟨r2, σ2, c3, c4⟩ := wC_ch a (c := 62) (x := 62) (by unfold prtN; decide) rfl σ1 _ c2.1 (by simp only [List.length_singleton]; omega)
  have c3 : f_P_append σ1 62 = some (r2, σ2) := c3
  obtain ⟨r3, τ2, m3, m4⟩ := wM_o a (x1 := 62) (x2 := 0) (x3 := 0) (x4 := 0) 62 0 0 0 ⟨rfl, rfl, rfl, rfl⟩ rfl τ1 _ m2.1 (show _ + 1 ≤ 1600 by omega)
  have m3 : f_M_out τ1 62 0 0 0 = some (r3, τ2) := m3
  have m4 : oM a τ1 (pg ++ hdL a j (I j) f) [62] τ2 := m4
  have cc := oC_t c2 c4
  have mm := oM_t m2 m4
  have hpr : prL (hdL a j (I j) f ++ [62]) := prL_app (hdL_prt a j (I j) f) (prL_B rfl)
  have hpl2 : (pg ++ (hdL a j (I j) f ++ [62])).length = pg.length + (hdL a j (I j) f).length + 1 := by
    rw [List.length_append, List.length_append]
    simp only [List.length_singleton]
    omega
  have hc2 := cR_o hc cc
  have hm2 := mR_o hm mm
  have hp2 := mPl_o hp mm
  have hv2 := gV_o hv1 hpr
  rw [c1, show T + 49997 = T + 49996 + 1 from rfl, st_We3, m1, st_M_element_6]
  unfold B_W_writeElement_3 B_M_element_6
  rw [c3, gBd_s, m3, gBd_s, gLd_n (by omega) (by decide), (mQ_k hm2.1 hjn).1]
  by_cases e : sK a j = 2
  · have hh := hh3 e
    have tl := txL_len a j (sZ a j) 0
    obtain ⟨σ3, u1, u2⟩ := c_txt ha hjn e (sZ a j) 0 (T + 49999) σ2 _ (by omega) (by omega) hc2.1 (by omega)
    rw [nI_0] at u1
    obtain ⟨σ4, u3, u4⟩ := c_close ha hjn (F_W_writeSlots (gW_ref k)) (T + 49995) u2.1 (by rw [List.length_append]; omega)
    rw [show ltr a j = 116 from (if_neg (by omega)).trans (if_neg (by omega))] at u4
    obtain ⟨τ3, v1, v2⟩ := m_txt ha hjn e (sZ a j) 0 t6 τ2 _ (by omega) (by omega) hm2.1 (by omega)
    rw [nI_0] at v1
    have oc := oC_t u2 u4
    have hpr2 : prL (txL a j 0 (sZ a j) ++ [60, 47, 116, 62]) := prL_app (txL_prt ha hjn e _ 0 (by omega)) (prL_B rfl)
    refine ⟨τ3, ?_, σ4, τ3, [], I, _, W ++ [j], D, ?_, by rw [List.append_nil]; exact cR_o hc2 oc, by rw [List.append_nil]; exact mR_o hm2 v2, mPl_o hp2 v2, by rw [List.append_nil]; exact gV_o hv2 hpr2, by omega, fun y hy => List.mem_append_left _ hy, fun y hy _ => ?_, fun s hs => Or.inl hs, ?_, fun t ht => ⟨t, rfl, by omega⟩⟩
    · rw [if_pos (by rw [e]; rfl)]
      exact v1
    · rw [if_pos (by rw [e]; rfl), fx_W_writeCharacters hT]
      unfold B_W_writeCharacters_0
      rw [u1, gBd_s]
      exact u3
    · rcases List.mem_append.mp hy with hy | hy
      · exact Or.inl hy
      · exact Or.inr (List.mem_singleton.mp hy)
    · simp only [List.length_append, List.length_cons, List.length_nil]
      omega
  · have hh := hh2 e
    have z4 := kj.2.2 e
    have lp := ltr_p a j
    have hBl : (B ++ [200 + ltr a j]).length = B.length + 1 := by rw [List.length_append]; rfl
    have hp3 := mPl_push (200 + ltr a j) hp2
    have hm3 : mR a x O L I (pg ++ (hdL a j (I j) f ++ [62])) (sI (sA τ2 23 (upd (τ2.2 23) B.length (nI (200 + ltr a j)))) 9 (nI (B.length + 1))) := hm2
    obtain ⟨τ4, v1, v2, v3⟩ := m_push (j := j) (f := f) (by omega) (b - f) t6 _ (B ++ [200 + ltr a j]) (by omega) (by omega) (by omega) hm3 hp3
    rw [show f + (b - f) = b by omega] at v1
    obtain ⟨σ', τ', L2, I', pg', W', D', q1, q2, q2m, q2p, q3, q4, q5, q6, q7, q8, q9⟩ := e_slots ha hO hP hkd hj e hle.2 (B ++ [200 + ltr a j]) (r + 4) (b - f) f σ2 τ4 L I _ (W ++ [j]) D (T + 49999) (by omega) (by omega) (List.mem_append_right _ (List.mem_singleton.mpr rfl)) (fun s hs he => absurd (hv.2.2.2.2.2.2.2.2 s hs) (by rw [he]; exact hjW)) hc2 v2 v3 hv2 (by omega) (by omega) (by omega)
    have hW' := gV_W ha hO q3
    obtain ⟨σ5, y1, y2⟩ := c_close ha hjn (F_W_writeSlots (gW_ref k)) (T + 49995) q2.1 (by omega)
    obtain ⟨τ5, x1, x2, x3⟩ := m_popc q2m q2p (c := ltr a j) (by omega) (by omega) (by omega)
    refine ⟨τ4, ?_, σ5, τ5, L2, I', pg' ++ [60, 47, ltr a j, 62], W', D', ?_, cR_o q2 y2, x2, x3, gV_o q3 (fun c hc => ?_), by omega, fun y hy => q5 y (List.mem_append_left _ hy), fun y hy hy2 => ?_, fun s hs => ?_, ?_, fun t ht => ?_⟩
    · rw [if_neg (n2 kj.1 e), hp2.1, show (200 : Int32) + nI (ltr a j) = nI (200 + ltr a j) from nI_add 200 _, gSt_n (by omega) (by decide), gPut_s, sA_1, hp2.1, add_c1]
      exact v1
    · rw [if_neg (n2 kj.1 e), fx_Ws hT]
      unfold B_W_writeSlots_0
      rw [c_behind ha hc2.1 hjn hfb, gBd_s, q1, gBd_s]
      exact y1
    · simp only [List.mem_cons, List.not_mem_nil, or_false] at hc
      unfold prtN
      omega
    · rcases q6 y hy hy2 with q | q
      · rcases List.mem_append.mp q with q | q
        · exact Or.inl q
        · exact Or.inr (List.mem_singleton.mp q)
      · exact absurd q id
    · rcases q7 s hs with q | q | q
      · exact Or.inl q
      · exact Or.inr (Or.inl (fun q2 => q (List.mem_append_left _ q2)))
      · exact Or.inr (Or.inl (by rw [q]; exact hjW))
    · rw [List.length_append]
      simp only [List.length_cons, List.length_nil]
      omega
    · obtain ⟨t1, z1, z2⟩ := q9 t (by omega)
      obtain ⟨t2, rfl⟩ : ∃ t', t1 = t' + 2 := ⟨t1 - 2, by omega⟩
      exact ⟨t2, by rw [z1, x1], by omega⟩
theorem gV_W1 {a : aS} {x : Nat} {O L : List Nat} {I : Nat → Nat} {pg W D : List Nat} (ha : okA a) (hO : rO a x O) (h : gV a x O L I pg W D) {y : Nat} (hy : y ∈ O) (hyW : y ∉ W) : W.length + 1 ≤ 16 := by
  have := nd_len (sN a) (W ++ [y]) (List.nodup_append.mpr ⟨h.2.2.2.2.2.1, by simp, fun p hp q hq => by simp at hq; subst hq; intro e; exact hyW (e ▸ hp)⟩) (fun j hj => by
    rcases List.mem_append.mp hj with hj | hj
    · exact hO.2.1 j (h.2.2.2.2.2.2.1 j hj)
    · rw [List.mem_singleton.mp hj]; exact hO.2.1 y hy)
  have := ha.1
  rw [List.length_append] at *
  simp only [List.length_singleton] at *
  omega
theorem eP_0 {a : aS} (ha : okA a) {x : Nat} {O : List Nat} (hO : rO a x O) : eP a x O 0 := by
  intro d y r σ τ L I pg W D B hkd hd hy hfr hc hm hp hv hB hl
  have := gV_W ha hO hv
  omega
theorem eP_s {a : aS} (ha : okA a) {x : Nat} {O : List Nat} (hO : rO a x O) {k : Nat} (hP : eP a x O k) : eP a x O (k + 1) := by
  intro d y r σ τ L I pg W D B hkd hd hy hfr hc hm hp hv hB hl
  have h16 := ha.1
  have hyn := hO.2.1 y hy
  have hW := gV_W ha hO hv
  have hLl := gV_L ha hO hv
  have hr := rx_le ha hO
  have hry := hr y
  obtain ⟨T, hT⟩ := gFx
  rw [show gW_ref (k + 1) σ (nI y) (nI d) = F_W_writeReference (F_W_writeElement (F_W_writeSlots (gW_ref k))) σ (nI y) (nI d) from rfl, fx_M_reference hT]
  unfold F_W_writeReference B_M_reference_0
  rw [c_shd hc.2.1 hr (by omega), gBd_s, gLd_n (by omega) (by decide), hm.2.1 y (by omega)]
  by_cases e : rx a x O y < 2
  · obtain ⟨hyW, hyx⟩ := hfr e
    have hW1 := gV_W1 ha hO hv hy hyW
    obtain ⟨τ1, w1, σ', τ', L2, I', pg', W', D', q1, q2, q2m, q2p, q3, q4, q5, q6, q7, q8, q9⟩ := e_el ha hO hP (d := d + 1) (by omega) hy r (by omega) hyW (fun _ => hyx) hc hm hp hv hB (by omega)
    rw [decide_eq_false (by omega), bI_f, if_pos rfl, if_neg (show ¬ (16 : Int32) ≤ nI d by rw [c16_le (by omega)]; omega), add_c1, if_neg (show ¬ (2 : Int32) ≤ nI (rx a x O y) by rw [c2_le (by omega)]; omega)]
    refine ⟨τ1, by rw [w1, gBd_s], σ', τ', L2, I', pg', W', D', by rw [q1, gBd_s], q2, q2m, q2p, q3, q4, q5, fun z hz hz2 => ?_, q7, q8, q9⟩
    rcases q6 z hz hz2 with q | q
    · exact Or.inl q
    · rw [q] at hz2
      omega
  · rw [decide_eq_true (by omega), bI_t, if_neg i10, if_pos (by rw [c2_le (by omega)]; omega), gLd_n (by omega) (by decide), hm.2.2.1 y (by omega)]
    have tail : ∀ (σ1 τ1 : gS) (L2 : List Nat) (I1 : Nat → Nat) (t : Nat), cR a x O (L ++ L2) I1 pg σ1 → mR a x O (L ++ L2) I1 pg τ1 → mPl B τ1 → gV a x O (L ++ L2) I1 pg W D → ∃ τ2, R_M_reference (t + 1) 1 [nI y] τ1 = some (0, τ2) ∧ eRes a x O r 0 B L W D (fun _ => False) (fun _ => False) (gBd (f_W_writeRow_S1 σ1) (fun _ σ13 => gLd σ13 18 16 (nI y) (fun y15 => gBd (f_W_writeAttribute_S2 σ13 y15) (fun _ σ19 => gBd (f_W_writeRow_S4 σ19) (fun _ σ22 => some (0, σ22)))))) τ2 := by
      intro σ1 τ1 L2 I1 t h1 h2 h3 h4
      have hL2 := gV_L ha hO h4
      have hI1 := h4.2.2.2.1 y
      have nl := (nu_s (nI (I1 y))).2.2.1 (I1 y) rfl (by omega)
      have al : (atL [104] (nu (nI (I1 y)))).length ≤ 7 := by
        rw [atL_len]
        simp only [List.length_cons, List.length_nil]
        omega
      obtain ⟨r1, σ2, c1, c2⟩ := cw_row1 a σ1 pg h1.1 (by simp only [List.length_cons, List.length_nil]; omega)
      have c1 : f_W_writeRow_S1 σ1 = some (r1, σ2) := c1
      have hc2 := cR_o h1 c2
      obtain ⟨r2, σ3, c3, c4⟩ := cw_at2 ((nu_s (nI (I1 y))).2.2.2.2 a).1 σ2 _ hc2.1 (by rw [List.length_append]; simp only [List.length_cons, List.length_nil]; omega)
      have c3 : f_W_writeAttribute_S2 σ2 (nI (I1 y)) = some (r2, σ3) := c3
      obtain ⟨r3, σ4, c5, c6⟩ := cw_row4 a σ3 _ c4.1 (by rw [List.length_append, List.length_append]; simp only [List.length_cons, List.length_nil]; omega)
      have c5 : f_W_writeRow_S4 σ3 = some (r3, σ4) := c5
      obtain ⟨r4, τ2, m1, m2⟩ := wM_o a (x1 := 60) (x2 := 114) (x3 := 0) (x4 := 0) 60 114 0 0 ⟨rfl, rfl, rfl, rfl⟩ rfl τ1 pg h2.1 (show pg.length + 2 ≤ 1600 by omega)
      have m1 : f_M_out τ1 60 114 0 0 = some (r4, τ2) := m1
      have m2 : oM a τ1 pg [60, 114] τ2 := m2
      have hm2 := mR_o h2 m2
      obtain ⟨r5, τ3, m3, m4⟩ := mw_at ((nu_s (nI (I1 y))).2.2.2.2 a).2 (x1 := 104) (x2 := 0) 104 0 rfl rfl rfl τ2 _ hm2.1 (by
        show _ + (atL [104] (nu (nI (I1 y)))).length ≤ 1600
        rw [List.length_append]
        simp only [List.length_cons, List.length_nil]
        omega)
      have m3 : f_M_attribute τ2 104 0 (nI (I1 y)) = some (r5, τ3) := m3
      have m4 : oM a τ2 (pg ++ [60, 114]) (atL [104] (nu (nI (I1 y)))) τ3 := m4
      obtain ⟨r6, τ4, m5, m6⟩ := wM_o a (x1 := 47) (x2 := 62) (x3 := 0) (x4 := 0) 47 62 0 0 ⟨rfl, rfl, rfl, rfl⟩ rfl τ3 _ m4.1 (by
        show _ + 2 ≤ 1600
        rw [List.length_append, List.length_append]
        simp only [List.length_cons, List.length_nil]
        omega)
      have m5 : f_M_out τ3 47 62 0 0 = some (r6, τ4) := m5
      have m6 : oM a τ3 (pg ++ [60, 114] ++ atL [104] (nu (nI (I1 y)))) [47, 62] τ4 := m6
      have oc := oC_t c2 (oC_t c4 c6)
      have om := oM_t m2 (oM_t m4 m6)
      refine ⟨τ4, ?_, σ4, τ4, L2, I1, _, W, D, ?_, cR_o h1 oc, mR_o h2 om, mPl_o h3 om, gV_o h4 (prL_app (prL_B rfl) (prL_app (prL_at (prL_B rfl) (nu_s _).1) (prL_B rfl))), Nat.le_refl _, fun _ h => h, fun _ h _ => Or.inl h, fun _ h => Or.inl h, ?_, fun t _ => ⟨t, rfl, by omega⟩⟩
      · rw [st_M_reference_1]
        unfold B_M_reference_1
        rw [m1, gBd_s, gLd_n (by omega) (by decide), hm2.2.2.1 y (by omega), m3, gBd_s, m5, gBd_s]
      · rw [c1, gBd_s, gLd_n (by omega) (by decide), hc2.2.2.1 y (by omega), c3, gBd_s, c5, gBd_s]
      · rw [List.length_append, List.length_append, List.length_append]
        simp only [List.length_cons, List.length_nil]
        omega
    by_cases e0 : I y = 0
    · have hyL : y ∉ L := fun q => (hv.2.2.1 y).mpr q e0
      have hnd : (L ++ [y]).Nodup := List.nodup_append.mpr ⟨hv.1, by simp, fun p hp q hq => by simp at hq; subst hq; intro e; exact hyL (e ▸ hp)⟩
      have hLl2 : (L ++ [y]).length = L.length + 1 := by rw [List.length_append]; rfl
      have hv1 : gV a x O (L ++ [y]) (upN I y (L.length + 1)) pg W D := by
        refine ⟨hnd, fun j hj => ?_, fun j => ?_, fun j => ?_, hv.2.2.2.2⟩
        · rcases List.mem_append.mp hj with hj | hj
          · exact hv.2.1 j hj
          · rw [List.mem_singleton.mp hj]
            exact ⟨hy, by omega⟩
        · by_cases e1 : j = y
          · rw [e1, upN_e]
            simp
          · rw [upN_n e1, hv.2.2.1 j, List.mem_append]
            simp [e1]
        · by_cases e1 : j = y
          · rw [e1, upN_e]; omega
          · rw [upN_n e1]
            have := hv.2.2.2.1 j
            omega
      have hLl3 := gV_L ha hO hv1
      have g1 : f_W_giveId σ (nI y) = some (0, sA (sI (sA σ 19 (upd (σ.2 19) L.length (nI y))) 4 (nI (L.length + 1))) 18 (upd ((sI (sA σ 19 (upd (σ.2 19) L.length (nI y))) 4 (nI (L.length + 1))).2 18) y (nI (L.length + 1)))) := by
        unfold f_W_giveId
        rw [gLd_n (by omega) (by decide), hc.2.2.1 y (by omega), e0, if_pos (show nI 0 = 0 from rfl), hc.2.2.2.1, gSt_n (by omega) (by decide), gPut_s, sA_1, hc.2.2.2.1, add_c1, sI_eq, gSt_n (by omega) (by decide)]
      rw [g1, gBd_s, e0, if_pos (show nI 0 = 0 from rfl), gPut_s, hm.2.2.2.1, add_c1, sI_eq, gSt_n (by omega) (by decide), sA_1, sI_eq, gSt_n (by omega) (by decide)]
      refine tail _ _ [y] (upN I y (L.length + 1)) (T + 49998) ⟨absC_of hc.1 rfl rfl (fun k hk => ?_), fun j hj => ?_, fun j hj => ?_, ?_, fun i hi => ?_⟩ ⟨absM_of hm.1 rfl rfl (fun k hk => ?_), fun j hj => ?_, fun j hj => ?_, ?_, fun i hi => ?_⟩ hp hv1
      · rw [sA_ne (by omega), sI_2, sA_ne (by omega)]
      · rw [sA_ne (by decide), sI_2, sA_ne (by decide)]; exact hc.2.1 j hj
      · rw [sA_eq, sI_2, sA_ne (by decide)]
        by_cases e1 : j = y
        · rw [e1, up_eq, upN_e]
        · rw [up_ne e1, upN_n e1]; exact hc.2.2.1 j hj
      · rw [sA_1, sI_eq, hLl2]
      · rw [sA_ne (by decide), sI_2, sA_eq, app_getD]
        by_cases e1 : i = L.length
        · rw [e1, up_eq, if_pos rfl]
        · rw [up_ne e1, if_neg e1]; exact hc.2.2.2.2 i (by omega)
      · rw [sA_ne (by omega), sA_ne (by omega), sI_2]
      · rw [sA_ne (by decide), sA_ne (by decide), sI_2]; exact hm.2.1 j hj
      · rw [sA_ne (by decide), sA_eq, sI_2]
        by_cases e1 : j = y
        · rw [e1, up_eq, upN_e]
        · rw [up_ne e1, upN_n e1]; exact hm.2.2.1 j hj
      · rw [sA_1, sA_1, sI_eq, hLl2]
      · rw [sA_eq, sA_ne (by decide), sI_2, app_getD]
        by_cases e1 : i = L.length
        · rw [e1, up_eq, if_pos rfl]
        · rw [up_ne (by omega), if_neg e1]; exact hm.2.2.2.2 i (by omega)
    · have hI := hv.2.2.2.1 y
      have g1 : f_W_giveId σ (nI y) = some (0, σ) := by
        unfold f_W_giveId
        rw [gLd_n (by omega) (by decide), hc.2.2.1 y (by omega), if_neg (nI_ne0 (by omega) (by omega))]
      rw [g1, gBd_s, if_neg (nI_ne0 (by omega) (by omega))]
      exact tail σ τ [] I (T + 49998) (by rw [List.append_nil]; exact hc) (by rw [List.append_nil]; exact hm) hp (by rw [List.append_nil]; exact hv)
theorem eP_all {a : aS} (ha : okA a) {x : Nat} {O : List Nat} (hO : rO a x O) : ∀ k, eP a x O k := by
  intro k
  induction k with
  | zero => exact eP_0 ha hO
  | succ k ih => exact eP_s ha hO ih
