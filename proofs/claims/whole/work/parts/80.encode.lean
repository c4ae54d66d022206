/-! encode -/
theorem c_fill18 : ∀ (d i : Nat) (σ : gS) (t : Nat) (v : Int32), i + d = 16 → d + 1 ≤ t → ∃ σ', R_J_fill_WI t 1 [v, nI i, 16] σ = some (0, σ') ∧ σ'.1 = σ.1 ∧ (∀ k, k ≠ 18 → σ'.2 k = σ.2 k) ∧ (∀ j, i ≤ j → j < 16 → σ'.2 18 j = v) ∧ ∀ j, j < i → σ'.2 18 j = σ.2 18 j := by
  intro d
  induction d with
  | zero =>
    intro i σ t v hi ht
    obtain rfl : i = 16 := by omega
    obtain ⟨t, rfl⟩ : ∃ t', t = t' + 1 := ⟨t - 1, by omega⟩
    refine ⟨σ, ?_, rfl, fun _ _ => rfl, fun j h1 h2 => by omega, fun _ _ => rfl⟩
    rw [st_J_fill_WI_1]
    unfold B_J_fill_WI_1
    rw [if_pos (by decide)]
  | succ d ih =>
    intro i σ t v hi ht
    obtain ⟨t, rfl⟩ : ∃ t', t = t' + 1 := ⟨t - 1, by omega⟩
    rw [st_J_fill_WI_1]
    unfold B_J_fill_WI_1
    rw [if_neg (show ¬ 16 ≤ nI i from by rw [c16_le (by omega)]; omega), gSt_n (by omega) (by decide), add_c1]
    obtain ⟨σ', q1, q2, q3, q4, q5⟩ := ih (i + 1) (sA σ 18 (upd (σ.2 18) i v)) t v (by omega) (by omega)
    refine ⟨σ', q1, q2, fun k hk => (q3 k hk).trans (sA_ne hk), fun j h1 h2 => ?_, fun j h1 => ?_⟩
    · by_cases e : j = i
      · rw [e, q5 i (by omega), sA_eq, up_eq]
      · exact q4 j (by omega) h2
    · rw [q5 j (by omega), sA_eq, up_ne (by omega)]
theorem nd_inj : ∀ (L : List Nat), L.Nodup → ∀ i m, i < L.length → m < L.length → L.getD i 0 = L.getD m 0 → i = m := by
  intro L
  induction L with
  | nil => intro _ i m hi; exact absurd hi (Nat.not_lt_zero i)
  | cons y l ih =>
    intro hn i m hi hm he
    obtain ⟨h1, h2⟩ := List.nodup_cons.mp hn
    simp only [List.length_cons] at hi hm
    cases i with
    | zero =>
      cases m with
      | zero => rfl
      | succ m =>
        have he : y = l.getD m 0 := he
        exact absurd (he ▸ gD_mem (O := l) (i := m) (by omega)) h1
    | succ i =>
      cases m with
      | zero =>
        have he : l.getD i 0 = y := he
        exact absurd (he ▸ gD_mem (O := l) (i := i) (by omega)) h1
      | succ m =>
        have he : l.getD i 0 = l.getD m 0 := he
        rw [ih h2 i m (by omega) (by omega) he]
theorem absC_0 {σ σ' : gS} {a : aS} (h : absC σ a) (h0 : σ'.1 0 = σ.1 0) (h1 : σ'.1 1 = 0) (hk : ∀ k, k < 10 → σ'.2 k = σ.2 k) : absC σ' (aPg a []) := by
  obtain ⟨q0, q1, q2, q3, q4, q5, q6⟩ := h
  refine ⟨h0.trans q0, h1, ?_, ?_, ?_, fun p hp => absurd hp (Nat.not_lt_zero p), ?_⟩
  · rw [hk 2 (by decide), hk 3 (by decide)]; exact q2
  · rw [hk 4 (by decide), hk 5 (by decide)]; exact q3
  · rw [hk 6 (by decide)]; exact q4
  · rw [hk 9 (by decide)]; exact q6
theorem absM_0 {σ σ' : gS} {a : aS} (h : absM σ a) (h0 : σ'.1 0 = σ.1 0) (h1 : σ'.1 1 = 0) (hk : ∀ k, k < 8 → σ'.2 k = σ.2 k) : absM σ' (aPg a []) := by
  obtain ⟨q0, q1, q2, q3, q4, q5, q6⟩ := h
  refine ⟨h0.trans q0, h1, ?_, ?_, ?_, fun p hp => absurd hp (Nat.not_lt_zero p), ?_⟩
  · rw [hk 1 (by decide), hk 2 (by decide)]; exact q2
  · rw [hk 3 (by decide), hk 4 (by decide)]; exact q3
  · rw [hk 5 (by decide)]; exact q4
  · rw [hk 6 (by decide)]; exact q6
theorem m_work {τ1 τ' : gS} {u u' : Nat} (h : ∀ t, 160 + 2 * 0 ≤ t + 10 * u → ∃ t', R_M_work t 0 [] τ1 = R_M_work t' 0 [] τ' ∧ t + 10 * u ≤ t' + 10 * u' + 2 * 0) (hu : u' ≤ 16) (hp : mPl [] τ') : f_M_work τ1 = some (0, τ') := by
  obtain ⟨T, hT⟩ := gFx
  obtain ⟨t', h1, h2⟩ := h (T + 50000) (by omega)
  obtain ⟨t', rfl⟩ : ∃ t'', t' = t'' + 1 := ⟨t' - 1, by omega⟩
  rw [fx_M_work hT, ← st_M_work_0, show T + 49999 + 1 = T + 50000 from rfl, h1, st_M_work_0]
  unfold B_M_work_0
  rw [hp.1, if_pos (by decide)]
theorem e_fin {a : aS} (ha : okA a) {x : Nat} {O : List Nat} (hO : rO a x O) {σ τ : gS} {L : List Nat} {I : Nat → Nat} {pg W D : List Nat} (hc : cR a x O L I pg σ) (hm : mR a x O L I pg τ) (hv : gV a x O L I pg W D) (hl : pg.length + 1488 + 82 ≤ 1600 + 93 * W.length) {i : Nat} (hi : L.length ≤ i) (hi2 : i ≤ 16) (t tr : Nat) : ∃ σ' τ' pgf, R_W_writeFrom (t + 1 + 1) 1 [nI i] σ = some (0, σ') ∧ R_M_encode (tr + 1) 1 [nI (i + 1)] τ = some (nI pgf.length, τ') ∧ absC σ' (aPg a pgf) ∧ absM τ' (aPg a pgf) ∧ pgf.length ≤ 1600 ∧ prL pgf := by
  have hW := gV_W ha hO hv
  obtain ⟨r1, σ1, c1, c2⟩ := cw_row20 a σ pg hc.1 (by simp only [List.length_cons, List.length_nil]; omega)
  have c1 : f_W_writeRow_S20 σ = some (r1, σ1) := c1
  obtain ⟨r2, τ1, m1, m2⟩ := wM_o a (x1 := 60) (x2 := 47) (x3 := 98) (x4 := 62) 60 47 98 62 ⟨rfl, rfl, rfl, rfl⟩ rfl τ pg hm.1 (show pg.length + 4 ≤ 1600 by omega)
  have m1 : f_M_out τ 60 47 98 62 = some (r2, τ1) := m1
  have m2 : oM a τ pg [60, 47, 98, 62] τ1 := m2
  obtain ⟨r3, τ2, m3, m4⟩ := wM_o a (x1 := 60) (x2 := 47) (x3 := 101) (x4 := 62) 60 47 101 62 ⟨rfl, rfl, rfl, rfl⟩ rfl τ1 _ m2.1 (by
    show _ + 4 ≤ 1600
    rw [List.length_append]
    simp only [List.length_cons, List.length_nil]
    omega)
  have m3 : f_M_out τ1 60 47 101 62 = some (r3, τ2) := m3
  have m4 : oM a τ1 (pg ++ [60, 47, 98, 62]) [60, 47, 101, 62] τ2 := m4
  have om : oM a τ pg [60, 47, 98, 62, 60, 47, 101, 62] τ2 := oM_t m2 m4
  refine ⟨σ1, τ2, _, ?_, ?_, c2.1, om.1, ?_, prL_app hv.2.2.2.2.1 (prL_B rfl)⟩
  · rw [st_W_writeFrom_1]
    unfold B_W_writeFrom_1
    have e2 : R_W_writeFrom (t + 1) 2 [] σ = some (0, σ1) := by
      rw [st_W_writeFrom_2]
      unfold B_W_writeFrom_2
      rw [c1, gBd_s]
    rw [hc.2.2.2.1, e2]
    by_cases e : (16 : Int32) ≤ nI i
    · rw [if_pos e]
    · rw [if_neg e, if_pos (by rw [n_le (by omega) (by omega)]; exact hi)]
  · rw [st_M_encode_1]
    unfold B_M_encode_1
    rw [hm.2.2.2.1, if_pos (by rw [n_lt (by omega) (by omega)]; omega), m1, gBd_s, m3, gBd_s]
    have := om.1.2.1
    rw [this]
    rfl
  · rw [List.length_append]
    simp only [List.length_cons, List.length_nil]
    omega
theorem e_loop {a : aS} (ha : okA a) {x : Nat} {O : List Nat} (hO : rO a x O) : ∀ (m i : Nat) (σ τ : gS) (L : List Nat) (I : Nat → Nat) (pg W D : List Nat) (t tr : Nat), i + m = 16 → i ≤ L.length → cR a x O L I pg σ → mR a x O L I pg τ → mPl [] τ → gV a x O L I pg W D → (∀ y ∈ W, 2 ≤ rx a x O y → ∃ q, q < i ∧ L.getD q 0 = y) → pg.length + 1488 + 82 ≤ 1600 + 93 * W.length → ∃ σ' τ' pgf, R_W_writeFrom (t + m + 1 + 1) 1 [nI i] σ = some (0, σ') ∧ R_M_encode (tr + m + 1) 1 [nI (i + 1)] τ = some (nI pgf.length, τ') ∧ absC σ' (aPg a pgf) ∧ absM τ' (aPg a pgf) ∧ pgf.length ≤ 1600 ∧ prL pgf := by
  have h16 := ha.1
  intro m
  induction m with
  | zero =>
    intro i σ τ L I pg W D t tr hi hiL hc hm hp hv hw hl
    have := gV_L ha hO hv
    exact e_fin ha hO hc hm hv hl (by omega) (by omega) t tr
  | succ m ih =>
    intro i σ τ L I pg W D t tr hi hiL hc hm hp hv hw hl
    have hLl := gV_L ha hO hv
    by_cases e : L.length ≤ i
    · exact e_fin ha hO hc hm hv hl e (by omega) (t + (m + 1)) (tr + (m + 1))
    · have hmem := gD_mem (O := L) (i := i) (by omega)
      obtain ⟨hjO, hj2⟩ := hv.2.1 _ hmem
      have hjn := hO.2.1 _ hjO
      have hjW : L.getD i 0 ∉ W := fun q => by
        obtain ⟨p, p1, p2⟩ := hw _ q hj2
        have := nd_inj L hv.1 p i (by omega) (by omega) p2
        omega
      obtain ⟨τ1, w1, σ', τ', L2, I', pg', W', D', q1, q2, q2m, q2p, q3, q4, q5, q6, q7, q8, q9⟩ := e_el ha hO (eP_all ha hO 18) (d := 0) (by omega) hjO 82 (by omega) hjW (fun q => by omega) hc hm hp hv (Nat.zero_le _) hl
      have hW' := gV_W ha hO q3
      have wk := m_work q9 hW' q2p
      have gl : ∀ q, q < L.length → (L ++ L2).getD q 0 = L.getD q 0 := fun q hq => by rw [List.getD_eq_getElem?_getD, List.getD_eq_getElem?_getD, List.getElem?_append_left hq]
      obtain ⟨σ'', τ'', pgf, z1, z2, z3⟩ := ih (i + 1) σ' τ' (L ++ L2) I' pg' W' D' t tr (by omega) (by rw [List.length_append]; omega) q2 q2m q2p q3 (fun y hy hy2 => by
        rcases q6 y hy hy2 with q | q
        · obtain ⟨p, p1, p2⟩ := hw y q hy2
          exact ⟨p, by omega, by rw [gl p (by omega)]; exact p2⟩
        · exact ⟨i, by omega, by rw [gl i (by omega), q]⟩) q8
      refine ⟨σ'', τ'', pgf, ?_, ?_, z3⟩
      · rw [show t + (m + 1) + 1 + 1 = t + m + 1 + 1 + 1 by omega, st_W_writeFrom_1]
        unfold B_W_writeFrom_1
        rw [if_neg (by rw [c16_le (by omega)]; omega), hc.2.2.2.1, if_neg (by rw [n_le (by omega) (by omega)]; exact e), gLd_n (by omega) (by decide), hc.2.2.2.2 i (by omega)]
        unfold f_W_writeElement
        rw [nI_0] at q1
        rw [q1, gBd_s, add_c1, z1]
      · rw [show tr + (m + 1) + 1 = tr + m + 1 + 1 by omega, st_M_encode_1]
        unfold B_M_encode_1
        rw [hm.2.2.2.1, if_neg (by rw [n_lt (by omega) (by omega)]; omega), gLd_n (by omega) (by decide), hm.2.2.2.2 i (by omega), w1, gBd_s, wk, gBd_s, add_c1, z2]
theorem u_encode {σ τ : gS} {a : aS} (ha : okA a) (hc : absC σ a) (hm : absM τ a) (xx : Int32) : ∃ a', okA a' ∧ sameR a' (f_O_encode σ xx) (f_M_encode τ xx) := by
  have h16 := ha.1
  obtain ⟨T, hT⟩ := gFx
  rw [fx_M_encode hT]
  unfold f_O_encode B_M_encode_0
  rcases isJ_or (sN a) (by omega) xx with ⟨x, hx, rfl⟩ | h
  · rw [r_has hc.1 h16 hx, gBd_s, if_neg i10, r_obj hm.1 h16 hx, gBd_s, if_neg i10]
    obtain ⟨σ1, O, w1, w2⟩ := c_reach ha hc hx
    have hO := rI_O w2
    obtain ⟨τ1, v1, v2, v3, v4, v5⟩ := m_mark ha hm hx hO
    obtain ⟨σ2, a1, a2, a3, a4, a5⟩ := c_fill18 16 0 σ1 (T + 49999) 0 (by omega) (by omega)
    rw [nI_0] at a1
    have hc0 : cR a x O [] (fun _ => 0) [] (sI (sI σ2 4 0) 1 0) := by
      refine ⟨absC_0 w2.1 ?_ ?_ (fun k hk => ?_), fun j hj => ?_, fun j hj => ?_, ?_, fun i hi => absurd hi (Nat.not_lt_zero i)⟩
      · rw [sI_ne (by decide), sI_ne (by decide), a2]
      · rw [sI_eq]
      · rw [sI_2, sI_2, a3 k (by omega)]
      · rw [sI_2, sI_2, a3 11 (by decide)]; exact w2.2.1 j hj
      · rw [sI_2, sI_2]; exact a4 j (by omega) hj
      · rw [sI_ne (by decide), sI_eq]; rfl
    have hm0 : mR a x O [] (fun _ => 0) [] (sI (sI (sI τ1 8 0) 9 0) 1 0) := by
      refine ⟨absM_0 v2 ?_ ?_ (fun k hk => rfl), fun j hj => (v5 j hj).2.1, fun j hj => (v5 j hj).2.2, ?_, fun i hi => absurd hi (Nat.not_lt_zero i)⟩
      · rw [sI_ne (by decide), sI_ne (by decide), sI_ne (by decide)]
      · rw [sI_eq]
      · rw [sI_ne (by decide), sI_ne (by decide), sI_eq]; rfl
    have hp0 : mPl [] (sI (sI (sI τ1 8 0) 9 0) 1 0) := ⟨by rw [sI_ne (by decide), sI_eq]; rfl, fun i hi => absurd hi (Nat.not_lt_zero i)⟩
    obtain ⟨r1, σ3, c1, c2⟩ := cw_row0 a _ [] hc0.1 (by decide)
    have c1 : f_W_writeRow_S0 (sI (sI σ2 4 0) 1 0) = some (r1, σ3) := c1
    obtain ⟨r2, τ2, m1, m2⟩ := wM_o a (x1 := 60) (x2 := 101) (x3 := 32) (x4 := 118) 60 101 32 118 ⟨rfl, rfl, rfl, rfl⟩ rfl _ [] hm0.1 (by decide)
    have m1 : f_M_out (sI (sI (sI τ1 8 0) 9 0) 1 0) 60 101 32 118 = some (r2, τ2) := m1
    have m2 : oM a (sI (sI (sI τ1 8 0) 9 0) 1 0) [] [60, 101, 32, 118] τ2 := m2
    obtain ⟨r3, τ3, m3, m4⟩ := wM_o a (x1 := 61) (x2 := 34) (x3 := 49) (x4 := 34) 61 34 49 34 ⟨rfl, rfl, rfl, rfl⟩ rfl _ _ m2.1 (by decide)
    have m3 : f_M_out τ2 61 34 49 34 = some (r3, τ3) := m3
    have m4 : oM a τ2 ([] ++ [60, 101, 32, 118]) [61, 34, 49, 34] τ3 := m4
    obtain ⟨r4, τ4, m5, m6⟩ := wM_o a (x1 := 62) (x2 := 60) (x3 := 98) (x4 := 62) 62 60 98 62 ⟨rfl, rfl, rfl, rfl⟩ rfl _ _ m4.1 (by decide)
    have m5 : f_M_out τ3 62 60 98 62 = some (r4, τ4) := m5
    have m6 : oM a τ3 ([] ++ [60, 101, 32, 118] ++ [61, 34, 49, 34]) [62, 60, 98, 62] τ4 := m6
    have om : oM a (sI (sI (sI τ1 8 0) 9 0) 1 0) [] [60, 101, 32, 118, 61, 34, 49, 34, 62, 60, 98, 62] τ4 := oM_t m2 (oM_t m4 m6)
    have hv0 : gV a x O [] (fun _ => 0) ([] ++ [60, 101, 32, 118, 61, 34, 49, 34, 62, 60, 98, 62]) [] [] := by
      refine ⟨List.nodup_nil, fun j hj => (by cases hj), fun j => ⟨fun q => absurd rfl q, fun q => (by cases q)⟩, fun j => Nat.zero_le _, prL_B rfl, List.nodup_nil, fun j hj => (by cases hj), fun j hj => (by cases hj), fun j hj => (by cases hj)⟩
    have hxO : x ∈ O := by
      have := gD_mem (O := O) (i := 0) hO.2.2.2.2.1
      rw [hO.2.2.2.1] at this
      exact this
    obtain ⟨τ5, u1, σ', τ', L2, I', pg', W', D', q1, q2, q2m, q2p, q3, q4, q5, q6, q7, q8, q9⟩ := eP_all ha hO 18 0 x 82 σ3 τ4 [] (fun _ => 0) _ [] [] [] rfl (Nat.zero_le _) hxO (fun _ => ⟨fun q => (by cases q), Or.inl rfl⟩) (cR_o hc0 c2) (mR_o hm0 om) (mPl_o hp0 om) hv0 (Nat.zero_le _) (by decide)
    have hW' := gV_W ha hO q3
    have wk := m_work q9 hW' q2p
    obtain ⟨σ'', τ'', pgf, z1, z2, z3, z4, z5, z6⟩ := e_loop ha hO 16 0 σ' τ' ([] ++ L2) I' pg' W' D' (T + 49981) (T + 49982) (by omega) (Nat.zero_le _) q2 q2m q2p q3 (fun y hy hy2 => by
      rcases q6 y hy hy2 with q | q
      · cases q
      · exact absurd q id) q8
    rw [nI_0] at z1 q1
    refine ⟨aPg a pgf, ok_pg ha z5 z6, nI pgf.length, σ'', τ'', ?_, ?_, z3, z4⟩
    · rw [fx_W_writeFrom hT]
      unfold B_W_writeFrom_0
      rw [w1, gBd_s, fx_J_fill_WI hT]
      unfold B_J_fill_WI_0 f_W_writeReference
      rw [a1, gBd_s, gPut_s, gPut_s, c1, gBd_s, q1, gBd_s, show T + 49999 = T + 49981 + 16 + 1 + 1 from rfl, z1, gBd_s]
      have := z3.2.1
      rw [this]
      rfl
    · rw [v1, gBd_s, gPut_s, gPut_s, gPut_s, m1, gBd_s, m3, gBd_s, m5, gBd_s, u1, gBd_s, wk, gBd_s, show T + 49999 = T + 49982 + 16 + 1 from rfl]
      exact z2
  · exact ⟨a, ha, -1, σ, τ, by rw [r_hasN hc.1 h, gBd_s, if_pos rfl], by rw [r_objN hm.1 h, gBd_s, if_pos rfl], hc, hm⟩
