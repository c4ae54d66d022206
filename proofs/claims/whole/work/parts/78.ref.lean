/-! encode: references, slots, elements -/
def upN (I : Nat → Nat) (y v : Nat) : Nat → Nat := fun j => if j = y then v else I j
theorem upN_e (I : Nat → Nat) (y v : Nat) : upN I y v y = v := if_pos rfl
theorem upN_n {I : Nat → Nat} {y v j : Nat} (h : j ≠ y) : upN I y v j = I j := if_neg h
/-- what a step of both leaves: q tasks of the pile are done by it -/
def eRes (a : aS) (x : Nat) (O : List Nat) (r q : Nat) (B L W D : List Nat) (nw own : Nat → Prop) (F : Option (Int32 × gS)) (τ1 : gS) : Prop := ∃ (σ' τ' : gS) (L2 : List Nat) (I' : Nat → Nat) (pg' W' D' : List Nat), F = some (0, σ') ∧ cR a x O (L ++ L2) I' pg' σ' ∧ mR a x O (L ++ L2) I' pg' τ' ∧ mPl B τ' ∧ gV a x O (L ++ L2) I' pg' W' D' ∧ W.length ≤ W'.length ∧ (∀ y ∈ W, y ∈ W') ∧ (∀ y ∈ W', 2 ≤ rx a x O y → y ∈ W ∨ nw y) ∧ (∀ s ∈ D', s ∈ D ∨ s / 4 ∉ W ∨ own (s / 4)) ∧ pg'.length + 1488 + r ≤ 1600 + 93 * W'.length ∧ ∀ t, 160 + 2 * q ≤ t + 10 * W.length → ∃ t', R_M_work t 0 [] τ1 = R_M_work t' 0 [] τ' ∧ t + 10 * W.length ≤ t' + 10 * W'.length + 2 * q
def eP (a : aS) (x : Nat) (O : List Nat) (k : Nat) : Prop := ∀ (d y r : Nat) (σ τ : gS) (L : List Nat) (I : Nat → Nat) (pg W D B : List Nat), k + d = 18 → d ≤ W.length → y ∈ O → (rx a x O y < 2 → y ∉ W ∧ (y = x ∨ ∃ s ∈ D, tg a s = some y)) → cR a x O L I pg σ → mR a x O L I pg τ → mPl B τ → gV a x O L I pg W D → B.length ≤ 5 * W.length → pg.length + 1506 + r ≤ 1600 + 93 * W.length → ∃ τ1, f_M_reference τ (nI y) = some (0, τ1) ∧ eRes a x O r 0 B L W D (fun _ => False) (fun _ => False) (gW_ref k σ (nI y) (nI d)) τ1
/-- the slots of j that wait on the pile: i on top -/
def slP (j : Nat) : Nat → Nat → List Nat
  | _, 0 => []
  | i, m + 1 => slP j (i + 1) m ++ [100 + 4 * j + i]
theorem slP_len (j : Nat) : ∀ m i, (slP j i m).length = m := by
  intro m
  induction m with
  | zero => intro i; rfl
  | succ m ih =>
    intro i
    show (slP j (i + 1) m ++ [100 + 4 * j + i]).length = _
    rw [List.length_append, ih]
    rfl
theorem e_slots {a : aS} (ha : okA a) {x : Nat} {O : List Nat} (hO : rO a x O) {k d : Nat} (hP : eP a x O k) (hkd : k + d = 18) {j b : Nat} (hj : j ∈ O) (hk : sK a j ≠ 2) (hb : b ≤ sZ a j) (B0 : List Nat) (r : Nat) : ∀ (m i : Nat) (σ τ : gS) (L : List Nat) (I : Nat → Nat) (pg W D : List Nat) (t0 : Nat), i + m = b → d ≤ W.length → j ∈ W → (∀ s ∈ D, s / 4 = j → s % 4 < i) → cR a x O L I pg σ → mR a x O L I pg τ → mPl (B0 ++ slP j i m) τ → gV a x O L I pg W D → B0.length + m ≤ 5 * W.length → pg.length + 1488 + 18 * m + r ≤ 1600 + 93 * W.length → 2 * m + 1 ≤ t0 → eRes a x O r m B0 L W D (fun _ => False) (fun o => o = j) (R_W_writeSlots (gW_ref k) t0 1 [nI j, nI d, nI b, nI i] σ) τ := by
  have h16 := ha.1
  have hjn := hO.2.1 j hj
  have z4 := (okA_K ha hjn).2.2 hk
  intro m
  induction m with
  | zero =>
    intro i σ τ L I pg W D t0 hi hd hjW hD hc hm hp hv hB hl ht
    obtain ⟨t0, rfl⟩ : ∃ t', t0 = t' + 1 := ⟨t0 - 1, by omega⟩
    have hp : mPl (B0 ++ []) τ := hp
    rw [List.append_nil] at hp
    refine ⟨σ, τ, [], I, pg, W, D, ?_, by rw [List.append_nil]; exact hc, by rw [List.append_nil]; exact hm, hp, by rw [List.append_nil]; exact hv, Nat.le_refl _, fun _ h => h, fun y h _ => Or.inl h, fun s h => Or.inl h, by omega, fun t ht => ⟨t, rfl, by omega⟩⟩
    rw [st_Ws1]
    unfold B_W_writeSlots_1
    rw [if_pos (by rw [n_le (by omega) (by omega)]; omega)]
  | succ m ih =>
    intro i σ τ L I pg W D t0 hi hd hjW hD hc hm hp hv hB hl ht
    obtain ⟨t0, rfl⟩ : ∃ t', t0 = t' + 1 + 1 := ⟨t0 - 2, by omega⟩
    have hW := gV_W ha hO hv
    have hi4 : i < sZ a j := by omega
    have es := cP_s hc.1 hjn hk hi4
    have oc := ha.2.2.2.1 j i hjn hk hi4
    have hp : mPl (B0 ++ (slP j (i + 1) m ++ [100 + 4 * j + i])) τ := hp
    rw [← List.append_assoc] at hp
    have hBl : (B0 ++ slP j (i + 1) m).length = B0.length + m := by rw [List.length_append, slP_len]
    have e2 : ∀ σ', R_W_writeSlots (gW_ref k) (t0 + 1) 2 [nI j, nI d, nI b, nI i] σ' = R_W_writeSlots (gW_ref k) t0 1 [nI j, nI d, nI b, nI (i + 1)] σ' := fun σ' => by
      rw [st_Ws2]
      unfold B_W_writeSlots_2
      rw [add_c1]
    have plain : ∀ (l : List Nat) (σ1 : gS), prL l → l.length ≤ 18 → oC a σ pg l σ1 → (∃ τ1, (∀ t : Nat, R_M_work (t + 2) 0 [] τ = R_M_work t 0 [] τ1) ∧ mR a x O L I (pg ++ l) τ1 ∧ mPl (B0 ++ slP j (i + 1) m) τ1) → eRes a x O r (m + 1) B0 L W D (fun _ => False) (fun o => o = j) (R_W_writeSlots (gW_ref k) (t0 + 1) 2 [nI j, nI d, nI b, nI i] σ1) τ := by
      intro l σ1 hpr hll o1 hM
      obtain ⟨τ1, v1, v2, v3⟩ := hM
      have hll2 : (pg ++ l).length = pg.length + l.length := List.length_append
      rw [e2]
      obtain ⟨σ', τ', L2, I', pg', W', D', q1, q2, q2m, q2p, q3, q4, q5, q6, q7, q8, q9⟩ := ih (i + 1) σ1 τ1 L I (pg ++ l) W D t0 (by omega) hd hjW (fun s hs he => by have := hD s hs he; omega) (cR_o hc o1) v2 v3 (gV_o hv hpr) (by omega) (by omega) (by omega)
      refine ⟨σ', τ', L2, I', pg', W', D', q1, q2, q2m, q2p, q3, q4, q5, q6, q7, q8, fun t ht => ?_⟩
      obtain ⟨t, rfl⟩ : ∃ t', t = t' + 2 := ⟨t - 2, by omega⟩
      obtain ⟨t', u1, u2⟩ := q9 t (by omega)
      exact ⟨t', by rw [v1, u1], by omega⟩
    rw [st_Ws1]
    unfold B_W_writeSlots_1
    rw [if_neg (by rw [n_le (by omega) (by omega)]; omega), r_content (by omega) (by omega), gBd_s, es.1]
    have h3 : sC a (4 * j + i) = 0 ∨ sC a (4 * j + i) = 1 ∨ sC a (4 * j + i) = 2 := by have := oc.1; omega
    rcases h3 with e0 | e0 | e0
    · obtain ⟨rr, σ1, w1, w2⟩ := cw_row14 a σ pg hc.1 (by simp only [List.length_cons, List.length_nil]; omega)
      have w1 : f_W_writeRow_S14 σ = some (rr, σ1) := w1
      rw [e0, if_pos (show nI 0 = 0 from rfl), w1, gBd_s]
      exact plain _ σ1 (prL_B rfl) (by decide) w2 (m_pop0 ha hm hp hjn hk hi4 e0 (by omega) (by omega))
    · have nl := (nu_s (sV a (4 * j + i))).2.1
      obtain ⟨r1, σ1, w1, w2⟩ := cw_row15 a σ pg hc.1 (by simp only [List.length_cons, List.length_nil]; omega)
      have w1 : f_W_writeRow_S15 σ = some (r1, σ1) := w1
      obtain ⟨r2, σ2, v1, v2⟩ := ((nu_s (sV a (4 * j + i))).2.2.2.2 a).1 σ1 _ w2.1 (by rw [List.length_append]; simp only [List.length_cons, List.length_nil]; omega)
      have v1 : f_W_writeNumber σ1 (sV a (4 * j + i)) = some (r2, σ2) := v1
      obtain ⟨r3, σ3, u1, u2⟩ := cw_row16 a σ2 _ v2.1 (by rw [List.length_append, List.length_append]; simp only [List.length_cons, List.length_nil]; omega)
      have u1 : f_W_writeRow_S16 σ2 = some (r3, σ3) := u1
      have ev : σ1.2 5 (4 * j + i) = sV a (4 * j + i) := by rw [w2.2.2 5 (by decide)]; exact es.2
      rw [e0, if_neg (show ¬ nI 1 = 0 by decide), r_content (by omega) (by omega), gBd_s, es.1, e0, if_pos (show nI 1 = 1 from rfl), w1, gBd_s, r_value (by omega) (by omega), gBd_s, ev, v1, gBd_s, u1, gBd_s]
      exact plain _ σ3 (prL_app (prL_B rfl) (prL_app (nu_s _).1 (prL_B rfl))) (by simp only [List.length_append, List.length_cons, List.length_nil]; omega) (oC_t w2 (oC_t v2 u2)) (m_pop1 ha hm hp hjn hk hi4 e0 (by omega) (by omega))
    · obtain ⟨y, t1, t2, t3⟩ := tg_two ha hjn (by omega) hk hi4 e0
      obtain ⟨τ0, u1, u2, u3⟩ := m_pop2 ha hm hp hjn hk hi4 e0 t3 (by omega)
      have hs4 : (4 * j + i) / 4 = j := by omega
      have hyO : y ∈ O := rO_cl hO (s := 4 * j + i) (by rw [hs4]; exact hj) t1
      have hv1 : gV a x O L I pg W ((4 * j + i) :: D) := by
        refine ⟨hv.1, hv.2.1, hv.2.2.1, hv.2.2.2.1, hv.2.2.2.2.1, hv.2.2.2.2.2.1, hv.2.2.2.2.2.2.1, fun z hz hz2 => ?_, fun s hs => ?_⟩
        · rcases hv.2.2.2.2.2.2.2.1 z hz hz2 with q | ⟨s, q1, q2⟩
          · exact Or.inl q
          · exact Or.inr ⟨s, List.mem_cons_of_mem _ q1, q2⟩
        · rcases List.mem_cons.mp hs with e | hs
          · rw [e, hs4]; exact hjW
          · exact hv.2.2.2.2.2.2.2.2 s hs
      have hfr : rx a x O y < 2 → y ∉ W ∧ (y = x ∨ ∃ s ∈ (4 * j + i) :: D, tg a s = some y) := by
        intro hy2
        refine ⟨fun hyW => ?_, Or.inr ⟨4 * j + i, List.mem_cons_self .., t1⟩⟩
        rcases hv.2.2.2.2.2.2.2.1 y hyW hy2 with q | ⟨s, q1, q2⟩
        · rw [q] at t1 hy2
          exact tg_nx hy2 (by rw [hs4]; exact hj) t1
        · have e := tg_uni hy2 (hv.2.2.2.2.2.2.1 _ (hv.2.2.2.2.2.2.2.2 s q1)) (by rw [hs4]; exact hj) q2 t1
          have := hD s q1 (by rw [e, hs4])
          rw [e] at this
          omega
      obtain ⟨τ1, w1, σ', τ', L2, I', pg', W', D', q1, q2, q2m, q2p, q3, q4, q5, q6, q7, q8, q9⟩ := hP d y (18 * m + r) σ τ0 L I pg W ((4 * j + i) :: D) (B0 ++ slP j (i + 1) m) hkd hd hyO hfr hc u1 u2 hv1 (by omega) (by omega)
      rw [e0, if_neg (show ¬ nI 2 = 0 by decide), r_content (by omega) (by omega), gBd_s, es.1, e0, if_neg (show ¬ nI 2 = 1 by decide), r_value (by omega) (by omega), gBd_s, es.2, t3, q1, gBd_s, e2]
      have hD' : ∀ s ∈ D', s / 4 = j → s % 4 < i + 1 := fun s hs he => by
        rcases q7 s hs with q | q | q
        · rcases List.mem_cons.mp q with e | q
          · omega
          · have := hD s q he
            omega
        · rw [he] at q
          exact absurd hjW q
        · exact absurd q id
      obtain ⟨σ'', τ'', L3, I'', pg'', W'', D'', z1, z2, z2m, z2p, z3, z4', z5, z6, z7, z8, z9⟩ := ih (i + 1) σ' τ' (L ++ L2) I' pg' W' D' t0 (by omega) (by omega) (q5 j hjW) hD' q2 q2m q2p q3 (by omega) (by omega) (by omega)
      refine ⟨σ'', τ'', L2 ++ L3, I'', pg'', W'', D'', z1, by rw [← List.append_assoc]; exact z2, by rw [← List.append_assoc]; exact z2m, z2p, by rw [← List.append_assoc]; exact z3, by omega, fun y hy => z5 y (q5 y hy), fun y hy hy2 => ?_, fun s hs => ?_, z8, fun t ht => ?_⟩
      · rcases z6 y hy hy2 with q | q
        · exact q6 y q hy2
        · exact absurd q id
      · rcases z7 s hs with q | q | q
        · rcases q7 s q with q | q | q
          · rcases List.mem_cons.mp q with e | q
            · exact Or.inr (Or.inr (by rw [e, hs4]))
            · exact Or.inl q
          · exact Or.inr (Or.inl q)
          · exact absurd q id
        · exact Or.inr (Or.inl (fun q2 => q (q5 _ q2)))
        · exact Or.inr (Or.inr q)
      · obtain ⟨t, rfl⟩ : ∃ t', t = t' + 2 := ⟨t - 2, by omega⟩
        obtain ⟨t', v1, v2⟩ := q9 t (by omega)
        obtain ⟨t'', v3, v4⟩ := z9 t' (by omega)
        exact ⟨t'', by rw [u3 t 0 τ1 w1, v1, v3], by omega⟩
/-! an element -/
def ltr (a : aS) (j : Nat) : Nat := if sK a j = 0 then 112 else if sK a j = 1 then 97 else 116
noncomputable def idL (id : Nat) : List Nat := if id = 0 then [] else atL [105, 100] (nu (nI id))
noncomputable def szL (a : aS) (j : Nat) : List Nat := if sK a j = 1 then atL [110] (nu (nI (sZ a j))) else []
noncomputable def ofL (f : Nat) : List Nat := if f = 0 then [] else atL [111] (nu (nI f))
noncomputable def hdL (a : aS) (j id f : Nat) : List Nat := ([60, ltr a j] ++ idL id) ++ (szL a j ++ ofL f)
theorem ltr_p (a : aS) (j : Nat) : 97 ≤ ltr a j ∧ ltr a j ≤ 116 := by
  unfold ltr
  split
  · omega
  · split <;> omega
theorem idL_len {id : Nat} (h : id ≤ 16) : (idL id).length ≤ 8 := by
  unfold idL
  split
  · exact Nat.zero_le _
  · have := (nu_s (nI id)).2.2.1 id rfl (by omega)
    rw [atL_len]
    simp only [List.length_cons, List.length_nil]
    omega
theorem szL_len {a : aS} (ha : okA a) {j : Nat} (hj : j < sN a) : (szL a j).length ≤ 6 := by
  have := (okA_K ha hj).2.1
  unfold szL
  split
  · have := (nu_s (nI (sZ a j))).2.2.2.1 (sZ a j) rfl (by omega)
    rw [atL_len]
    simp only [List.length_cons, List.length_nil]
    omega
  · exact Nat.zero_le _
theorem ofL_len {f : Nat} (h : f ≤ 4) : (ofL f).length ≤ 6 := by
  unfold ofL
  split
  · exact Nat.zero_le _
  · have := (nu_s (nI f)).2.2.2.1 f rfl (by omega)
    rw [atL_len]
    simp only [List.length_cons, List.length_nil]
    omega
theorem idL_prt (id : Nat) : prL (idL id) := by
  unfold idL
  split
  · exact prL_nil
  · exact prL_at (prL_B rfl) (nu_s _).1
theorem szL_prt (a : aS) (j : Nat) : prL (szL a j) := by
  unfold szL
  split
  · exact prL_at (prL_B rfl) (nu_s _).1
  · exact prL_nil
theorem ofL_prt (f : Nat) : prL (ofL f) := by
  unfold ofL
  split
  · exact prL_nil
  · exact prL_at (prL_B rfl) (nu_s _).1
theorem hdL_prt (a : aS) (j id f : Nat) : prL (hdL a j id f) := by
  have h := ltr_p a j
  refine prL_app (prL_app (fun c hc => ?_) (idL_prt id)) (prL_app (szL_prt a j) (ofL_prt f))
  rcases List.mem_cons.mp hc with hc | hc
  · unfold prtN; omega
  · have hc := List.mem_singleton.mp hc
    unfold prtN; omega
/-- the class's head of an element -/
theorem c_head {a : aS} (ha : okA a) {x : Nat} {O L : List Nat} {I : Nat → Nat} {pg : List Nat} {σ : gS} (h : cR a x O L I pg σ) {T : Nat} (hT : gFuel = T + 50000) {j f : Nat} (hj : j < sN a) (hI : I j ≤ 16) (hf : f ≤ 4) (hfs : f_W_firstWrittenSlot σ (nI j) = some (nI f, σ)) (hl : pg.length + 22 ≤ 1600) (F : gS → Int32 → Int32 → Int32 → Option (Int32 × gS)) (d : Int32) : ∃ σ1, F_W_writeElement F σ (nI j) d = R_W_writeElement F (T + 49997) 3 [nI j, d, nI (sK a j), nI f] σ1 ∧ oC a σ pg (hdL a j (I j) f) σ1 := by
  have h16 := ha.1
  have kj := okA_K ha hj
  have il := idL_len hI
  have sl := szL_len ha hj
  have ol := ofL_len hf
  have idp : ∀ (σ1 : gS) (pg1 : List Nat) (t : Nat), cR a x O L I pg1 σ1 → pg1.length + 8 ≤ 1600 → ∃ σ2, gLd σ1 18 16 (nI j) (fun y38 => if y38 = 0 then R_W_writeElement F t 1 [nI j, d, nI (sK a j), nI f] σ1 else gLd σ1 18 16 (nI j) (fun y42 => gBd (f_W_writeAttribute_S8 σ1 y42) (fun _ σ46 => R_W_writeElement F t 1 [nI j, d, nI (sK a j), nI f] σ46))) = R_W_writeElement F t 1 [nI j, d, nI (sK a j), nI f] σ2 ∧ oC a σ1 pg1 (idL (I j)) σ2 := by
    intro σ1 pg1 t h1 hl1
    rw [gLd_n (by omega) (by decide), h1.2.2.1 j (by omega)]
    by_cases e : I j = 0
    · refine ⟨σ1, by rw [e, if_pos (show nI 0 = 0 from rfl)], ?_⟩
      rw [show idL (I j) = [] from if_pos e]
      exact oC_r h1.1
    · have ei : idL (I j) = atL [105, 100] (nu (nI (I j))) := if_neg e
      rw [ei] at il ⊢
      obtain ⟨r, σ2, w1, w2⟩ := cw_at8 ((nu_s (nI (I j))).2.2.2.2 a).1 σ1 pg1 h1.1 (by omega)
      have w1 : f_W_writeAttribute_S8 σ1 (nI (I j)) = some (r, σ2) := w1
      refine ⟨σ2, ?_, w2⟩
      rw [if_neg (nI_ne0 (by omega) (by omega)), gLd_n (by omega) (by decide), h1.2.2.1 j (by omega), w1, gBd_s]
  -- blocks 1 and 2
  have rest : ∀ (σ1 : gS) (pg1 : List Nat) (t : Nat), absC σ1 (aPg a pg1) → pg1.length + 12 ≤ 1600 → ∃ σ2, R_W_writeElement F (t + 1 + 1) 1 [nI j, d, nI (sK a j), nI f] σ1 = R_W_writeElement F t 3 [nI j, d, nI (sK a j), nI f] σ2 ∧ oC a σ1 pg1 (szL a j ++ ofL f) σ2 := by
    intro σ1 pg1 t h1 hl1
    have b2 : ∀ (σ2 : gS) (pg2 : List Nat), absC σ2 (aPg a pg2) → pg2.length + 6 ≤ 1600 → ∃ σ3, R_W_writeElement F (t + 1) 2 [nI j, d, nI (sK a j), nI f] σ2 = R_W_writeElement F t 3 [nI j, d, nI (sK a j), nI f] σ3 ∧ oC a σ2 pg2 (ofL f) σ3 := by
      intro σ2 pg2 h2 hl2
      rw [st_We2]
      unfold B_W_writeElement_2
      by_cases e : f = 0
      · refine ⟨σ2, by rw [e, if_pos (show nI 0 ≤ 0 by decide)], ?_⟩
        rw [show ofL f = [] from if_pos e]
        exact oC_r h2
      · have ei : ofL f = atL [111] (nu (nI f)) := if_neg e
        rw [ei] at ol ⊢
        obtain ⟨r, σ3, w1, w2⟩ := cw_at10 ((nu_s (nI f)).2.2.2.2 a).1 σ2 pg2 h2 (by omega)
        have w1 : f_W_writeAttribute_S10 σ2 (nI f) = some (r, σ3) := w1
        refine ⟨σ3, ?_, w2⟩
        rw [if_neg (by rw [le_c0 (by omega)]; omega), w1, gBd_s]
    rw [st_We1]
    unfold B_W_writeElement_1
    by_cases e : sK a j = 1
    · have ei : szL a j = atL [110] (nu (nI (sZ a j))) := if_pos e
      rw [ei] at sl ⊢
      obtain ⟨r, σ2, w1, w2⟩ := cw_at9 ((nu_s (nI (sZ a j))).2.2.2.2 a).1 σ1 pg1 h1 (by omega)
      have w1 : f_W_writeAttribute_S9 σ1 (nI (sZ a j)) = some (r, σ2) := w1
      obtain ⟨σ3, v1, v2⟩ := b2 σ2 _ w2.1 (by rw [List.length_append]; omega)
      refine ⟨σ3, ?_, oC_t w2 v2⟩
      rw [if_pos (by rw [e]; rfl), gLd_n (by omega) (by decide), (cP_k h1 hj).2, w1, gBd_s, v1]
    · have ei : szL a j = [] := if_neg e
      rw [ei]
      obtain ⟨σ3, v1, v2⟩ := b2 σ1 pg1 h1 (by omega)
      refine ⟨σ3, ?_, v2⟩
      rw [if_neg (by rw [eq_c1 (by omega)]; exact e), v1]
  have fin : ∀ (σ1 : gS), oC a σ pg [60, ltr a j] σ1 → ∃ σ3, gLd σ1 18 16 (nI j) (fun y38 => if y38 = 0 then R_W_writeElement F (T + 49999) 1 [nI j, d, nI (sK a j), nI f] σ1 else gLd σ1 18 16 (nI j) (fun y42 => gBd (f_W_writeAttribute_S8 σ1 y42) (fun _ σ46 => R_W_writeElement F (T + 49999) 1 [nI j, d, nI (sK a j), nI f] σ46))) = R_W_writeElement F (T + 49997) 3 [nI j, d, nI (sK a j), nI f] σ3 ∧ oC a σ pg (hdL a j (I j) f) σ3 := by
    intro σ1 o1
    obtain ⟨σ2, w1, w2⟩ := idp σ1 _ (T + 49999) (cR_o h o1) (by rw [List.length_append]; simp only [List.length_cons, List.length_nil]; omega)
    obtain ⟨σ3, v1, v2⟩ := rest σ2 _ (T + 49997) w2.1 (by rw [List.length_append, List.length_append]; simp only [List.length_cons, List.length_nil]; omega)
    refine ⟨σ3, ?_, oC_t (oC_t o1 w2) (by rw [← List.append_assoc]; exact v2)⟩
    rw [w1, show T + 49999 = T + 49997 + 1 + 1 from rfl, v1]
  rw [fx_We hT]
  unfold B_W_writeElement_0
  rw [gLd_n (by omega) (by decide), (cP_k h.1 hj).1, hfs, gBd_s]
  have h3 : sK a j = 0 ∨ sK a j = 1 ∨ sK a j = 2 := by omega
  rcases h3 with e | e | e
  · have el : ltr a j = 112 := if_pos e
    obtain ⟨r, σ1, w1, w2⟩ := cw_row5 a σ pg h.1 (by simp only [List.length_cons, List.length_nil]; omega)
    have w1 : f_W_writeRow_S5 σ = some (r, σ1) := w1
    rw [if_pos (by rw [e]; rfl), w1, gBd_s]
    exact fin σ1 (by rw [el]; exact w2)
  · have el : ltr a j = 97 := (if_neg (by omega)).trans (if_pos e)
    obtain ⟨r, σ1, w1, w2⟩ := cw_row6 a σ pg h.1 (by simp only [List.length_cons, List.length_nil]; omega)
    have w1 : f_W_writeRow_S6 σ = some (r, σ1) := w1
    rw [if_neg (by rw [e]; decide), if_pos (by rw [e]; rfl), w1, gBd_s]
    exact fin σ1 (by rw [el]; exact w2)
  · have el : ltr a j = 116 := (if_neg (by omega)).trans (if_neg (by omega))
    obtain ⟨r, σ1, w1, w2⟩ := cw_row7 a σ pg h.1 (by simp only [List.length_cons, List.length_nil]; omega)
    have w1 : f_W_writeRow_S7 σ = some (r, σ1) := w1
    rw [if_neg (by rw [e]; decide), if_neg (by rw [e]; decide), w1, gBd_s]
    exact fin σ1 (by rw [el]; exact w2)
