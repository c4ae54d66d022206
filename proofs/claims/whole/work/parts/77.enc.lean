/-! encode: class and reference side by side -/
theorem st_Ws0 (F : gS → Int32 → Int32 → Option (Int32 × gS)) (t : Nat) (x1 x2 x3 : Int32) (σ : gS) : R_W_writeSlots F (t + 1) 0 [x1, x2, x3] σ = B_W_writeSlots_0 F (R_W_writeSlots F t) x1 x2 x3 σ := rfl
theorem st_Ws1 (F : gS → Int32 → Int32 → Option (Int32 × gS)) (t : Nat) (x1 x3 x4 x5 : Int32) (σ : gS) : R_W_writeSlots F (t + 1) 1 [x1, x3, x4, x5] σ = B_W_writeSlots_1 F (R_W_writeSlots F t) x1 x3 x4 x5 σ := rfl
theorem st_Ws2 (F : gS → Int32 → Int32 → Option (Int32 × gS)) (t : Nat) (x1 x3 x4 x5 : Int32) (σ : gS) : R_W_writeSlots F (t + 1) 2 [x1, x3, x4, x5] σ = B_W_writeSlots_2 F (R_W_writeSlots F t) x1 x3 x4 x5 σ := rfl
theorem st_We1 (F : gS → Int32 → Int32 → Int32 → Option (Int32 × gS)) (t : Nat) (x1 x2 x3 x4 : Int32) (σ : gS) : R_W_writeElement F (t + 1) 1 [x1, x2, x3, x4] σ = B_W_writeElement_1 F (R_W_writeElement F t) x1 x2 x3 x4 σ := rfl
theorem st_We2 (F : gS → Int32 → Int32 → Int32 → Option (Int32 × gS)) (t : Nat) (x1 x2 x3 x4 : Int32) (σ : gS) : R_W_writeElement F (t + 1) 2 [x1, x2, x3, x4] σ = B_W_writeElement_2 F (R_W_writeElement F t) x1 x2 x3 x4 σ := rfl
theorem st_We3 (F : gS → Int32 → Int32 → Int32 → Option (Int32 × gS)) (t : Nat) (x1 x2 x3 x4 : Int32) (σ : gS) : R_W_writeElement F (t + 1) 3 [x1, x2, x3, x4] σ = B_W_writeElement_3 F (R_W_writeElement F t) x1 x2 x3 x4 σ := rfl
theorem st_We4 (F : gS → Int32 → Int32 → Int32 → Option (Int32 × gS)) (t : Nat) (x3 : Int32) (σ : gS) : R_W_writeElement F (t + 1) 4 [x3] σ = B_W_writeElement_4 F (R_W_writeElement F t) x3 σ := rfl
theorem fx_Ws {T : Nat} (hT : gFuel = T + 50000) (F : gS → Int32 → Int32 → Option (Int32 × gS)) (σ : gS) (x1 x2 x3 : Int32) : F_W_writeSlots F σ x1 x2 x3 = B_W_writeSlots_0 F (R_W_writeSlots F (T + 49999)) x1 x2 x3 σ := by unfold F_W_writeSlots; rw [hT]; rfl
theorem fx_We {T : Nat} (hT : gFuel = T + 50000) (F : gS → Int32 → Int32 → Int32 → Option (Int32 × gS)) (σ : gS) (x1 x2 : Int32) : F_W_writeElement F σ x1 x2 = B_W_writeElement_0 F (R_W_writeElement F (T + 49999)) x1 x2 σ := by unfold F_W_writeElement; rw [hT]; rfl
/-! who refers to whom -/
theorem ck_hit {a : aS} {j y k1 : Nat} (h : tg a (4 * j + k1) = some y) : ∀ k, k1 < k → 1 ≤ ck a j k y := by
  intro k
  induction k with
  | zero => intro q; omega
  | succ k ih =>
    intro q
    show 1 ≤ ck a j k y + if tg a (4 * j + k) = some y then 1 else 0
    by_cases q2 : k = k1
    · rw [q2, if_pos h]; omega
    · have := ih (by omega); omega
theorem ck_two {a : aS} {j y k1 k2 : Nat} (h1 : tg a (4 * j + k1) = some y) (h2 : tg a (4 * j + k2) = some y) (h : k1 < k2) : ∀ k, k2 < k → 2 ≤ ck a j k y := by
  intro k
  induction k with
  | zero => intro q; omega
  | succ k ih =>
    intro q
    show 2 ≤ ck a j k y + if tg a (4 * j + k) = some y then 1 else 0
    by_cases q2 : k = k2
    · have := ck_hit h1 k (by omega)
      rw [q2, if_pos h2]
      rw [q2] at this
      omega
    · have := ih (by omega); omega
theorem cs_mem2 (a : aS) (y : Nat) {i j : Nat} (hij : i ≠ j) : ∀ l : List Nat, i ∈ l → j ∈ l → ck a i 4 y + ck a j 4 y ≤ cs a l y := by
  intro l
  induction l with
  | nil => intro h; cases h
  | cons z l ih =>
    intro h1 h2
    show _ ≤ ck a z 4 y + cs a l y
    rcases List.mem_cons.mp h1 with e1 | h1
    · rcases List.mem_cons.mp h2 with e2 | h2
      · exact absurd (e1.trans e2.symm) hij
      · have := cs_mem a y l h2
        rw [e1]
        omega
    · rcases List.mem_cons.mp h2 with e2 | h2
      · have := cs_mem a y l h1
        rw [e2]
        omega
      · have := ih h1 h2
        omega
theorem tg_uni {a : aS} {x : Nat} {O : List Nat} {y s s' : Nat} (h : rx a x O y < 2) (hs : s / 4 ∈ O) (hs' : s' / 4 ∈ O) (t1 : tg a s = some y) (t2 : tg a s' = some y) : s = s' := by
  have h2 : cs a O y < 2 := by unfold rx at h; omega
  by_cases e : s / 4 = s' / 4
  · by_cases e2 : s % 4 = s' % 4
    · omega
    · exfalso
      have m := cs_mem a y O hs
      rcases Nat.lt_or_gt_of_ne e2 with e3 | e3
      · have := ck_two (a := a) (j := s / 4) (y := y) (k1 := s % 4) (k2 := s' % 4) (by rw [show 4 * (s / 4) + s % 4 = s by omega]; exact t1) (by rw [e, show 4 * (s' / 4) + s' % 4 = s' by omega]; exact t2) e3 4 (by omega)
        omega
      · have := ck_two (a := a) (j := s / 4) (y := y) (k1 := s' % 4) (k2 := s % 4) (by rw [e, show 4 * (s' / 4) + s' % 4 = s' by omega]; exact t2) (by rw [show 4 * (s / 4) + s % 4 = s by omega]; exact t1) e3 4 (by omega)
        omega
  · exfalso
    have m := cs_mem2 a y e O hs hs'
    have := ck_pos t1
    have := ck_pos t2
    omega
theorem tg_nx {a : aS} {x : Nat} {O : List Nat} {s : Nat} (h : rx a x O x < 2) (hs : s / 4 ∈ O) (t1 : tg a s = some x) : False := by
  have m := cs_mem a x O hs
  have := ck_pos t1
  unfold rx at h
  rw [if_pos rfl] at h
  omega
/-! the states -/
def cR (a : aS) (x : Nat) (O L : List Nat) (I : Nat → Nat) (pg : List Nat) (σ : gS) : Prop := absC σ (aPg a pg) ∧ (∀ j, j < 16 → σ.2 11 j = nI (rx a x O j)) ∧ (∀ j, j < 16 → σ.2 18 j = nI (I j)) ∧ σ.1 4 = nI L.length ∧ ∀ i, i < L.length → σ.2 19 i = nI (L.getD i 0)
def mR (a : aS) (x : Nat) (O L : List Nat) (I : Nat → Nat) (pg : List Nat) (τ : gS) : Prop := absM τ (aPg a pg) ∧ (∀ j, j < 16 → τ.2 20 j = nI (rx a x O j)) ∧ (∀ j, j < 16 → τ.2 21 j = nI (I j)) ∧ τ.1 8 = nI L.length ∧ ∀ i, i < L.length → τ.2 22 (i + 1) = nI (L.getD i 0)
def mPl (B : List Nat) (τ : gS) : Prop := τ.1 9 = nI B.length ∧ ∀ i, i < B.length → τ.2 23 i = nI (B.getD i 0)
def gV (a : aS) (x : Nat) (O L : List Nat) (I : Nat → Nat) (pg W D : List Nat) : Prop := L.Nodup ∧ (∀ j ∈ L, j ∈ O ∧ 2 ≤ rx a x O j) ∧ (∀ j, I j ≠ 0 ↔ j ∈ L) ∧ (∀ j, I j ≤ L.length) ∧ prL pg ∧ W.Nodup ∧ (∀ y ∈ W, y ∈ O) ∧ (∀ y ∈ W, rx a x O y < 2 → y = x ∨ ∃ s ∈ D, tg a s = some y) ∧ ∀ s ∈ D, s / 4 ∈ W
theorem cR_o {a : aS} {x : Nat} {O L : List Nat} {I : Nat → Nat} {pg l : List Nat} {σ σ' : gS} (h : cR a x O L I pg σ) (o : oC a σ pg l σ') : cR a x O L I (pg ++ l) σ' := by
  obtain ⟨h0, h1, h2, h3, h4⟩ := h
  refine ⟨o.1, ?_, ?_, ?_, ?_⟩
  · rw [o.2.2 11 (by decide)]; exact h1
  · rw [o.2.2 18 (by decide)]; exact h2
  · rw [o.2.1 4 (by decide)]; exact h3
  · rw [o.2.2 19 (by decide)]; exact h4
theorem mR_o {a : aS} {x : Nat} {O L : List Nat} {I : Nat → Nat} {pg l : List Nat} {τ τ' : gS} (h : mR a x O L I pg τ) (o : oM a τ pg l τ') : mR a x O L I (pg ++ l) τ' := by
  obtain ⟨h0, h1, h2, h3, h4⟩ := h
  refine ⟨o.1, ?_, ?_, ?_, ?_⟩
  · rw [o.2.2 20 (by decide)]; exact h1
  · rw [o.2.2 21 (by decide)]; exact h2
  · rw [o.2.1 8 (by decide)]; exact h3
  · rw [o.2.2 22 (by decide)]; exact h4
theorem mPl_o {a : aS} {B pg l : List Nat} {τ τ' : gS} (h : mPl B τ) (o : oM a τ pg l τ') : mPl B τ' := by
  refine ⟨?_, ?_⟩
  · rw [o.2.1 9 (by decide)]; exact h.1
  · rw [o.2.2 23 (by decide)]; exact h.2
theorem gV_o {a : aS} {x : Nat} {O L : List Nat} {I : Nat → Nat} {pg l W D : List Nat} (h : gV a x O L I pg W D) (hl : prL l) : gV a x O L I (pg ++ l) W D := ⟨h.1, h.2.1, h.2.2.1, h.2.2.2.1, prL_app h.2.2.2.2.1 hl, h.2.2.2.2.2⟩
theorem gV_W {a : aS} {x : Nat} {O L : List Nat} {I : Nat → Nat} {pg W D : List Nat} (ha : okA a) (hO : rO a x O) (h : gV a x O L I pg W D) : W.length ≤ 16 := by
  have := nd_len (sN a) W h.2.2.2.2.2.1 (fun j hj => hO.2.1 j (h.2.2.2.2.2.2.1 j hj))
  have := ha.1
  omega
theorem gV_L {a : aS} {x : Nat} {O L : List Nat} {I : Nat → Nat} {pg W D : List Nat} (ha : okA a) (hO : rO a x O) (h : gV a x O L I pg W D) : L.length ≤ 16 := by
  have := nd_len (sN a) L h.1 (fun j hj => hO.2.1 j (h.2.1 j hj).1)
  have := ha.1
  omega
theorem mR_9 {a : aS} {x : Nat} {O L : List Nat} {I : Nat → Nat} {pg : List Nat} {τ : gS} (v : Int32) (h : mR a x O L I pg τ) : mR a x O L I pg (sI τ 9 v) := h
theorem mPl_push {B : List Nat} {τ : gS} (v : Nat) (h : mPl B τ) : mPl (B ++ [v]) (sI (sA τ 23 (upd (τ.2 23) B.length (nI v))) 9 (nI (B.length + 1))) := by
  refine ⟨?_, fun i hi => ?_⟩
  · rw [sI_eq, List.length_append]; rfl
  · rw [List.length_append] at hi
    simp only [List.length_singleton] at hi
    rw [sI_2, sA_eq, app_getD]
    by_cases e : i = B.length
    · rw [e, up_eq, if_pos rfl]
    · rw [up_ne e, if_neg e]; exact h.2 i (by omega)
theorem mPl_pop {B : List Nat} {v : Nat} {τ : gS} (h : mPl (B ++ [v]) τ) : τ.1 9 = nI (B.length + 1) ∧ τ.2 23 B.length = nI v ∧ mPl B (sI τ 9 (nI B.length)) := by
  obtain ⟨h1, h2⟩ := h
  rw [List.length_append] at h1 h2
  simp only [List.length_singleton] at h1 h2
  refine ⟨h1, ?_, ?_, fun i hi => ?_⟩
  · rw [h2 B.length (by omega), app_getD, if_pos rfl]
  · rw [sI_eq]
  · rw [sI_2, h2 i (by omega), app_getD, if_neg (by omega)]
theorem m_pop0 {a : aS} (ha : okA a) {x : Nat} {O L : List Nat} {I : Nat → Nat} {pg B : List Nat} {τ : gS} (h : mR a x O L I pg τ) {j i : Nat} (hp : mPl (B ++ [100 + 4 * j + i]) τ) (hj : j < sN a) (hk : sK a j ≠ 2) (hi : i < sZ a j) (hc : sC a (4 * j + i) = 0) (hB : B.length < 96) (hl : pg.length + 4 ≤ 1600) : ∃ τ', (∀ t : Nat, R_M_work (t + 2) 0 [] τ = R_M_work t 0 [] τ') ∧ mR a x O L I (pg ++ [60, 110, 47, 62]) τ' ∧ mPl B τ' := by
  have h16 := ha.1
  have z4 := (okA_K ha hj).2.2 hk
  obtain ⟨p1, p2, p3⟩ := mPl_pop hp
  have h' := mR_9 (nI B.length) h
  obtain ⟨r, τ1, w1, w2⟩ := wM_o a (x1 := 60) (x2 := 110) (x3 := 47) (x4 := 62) 60 110 47 62 ⟨rfl, rfl, rfl, rfl⟩ rfl _ pg h'.1 hl
  have w1 : f_M_out (sI τ 9 (nI B.length)) 60 110 47 62 = some (r, τ1) := w1
  have es := mQ_s h'.1 hj hk hi
  refine ⟨τ1, ?_, mR_o h' w2, mPl_o p3 w2⟩
  intro t
  rw [show t + 2 = t + 1 + 1 from rfl, st_M_work_0]
  unfold B_M_work_0
  rw [p1, if_neg (by rw [le_c0 (by omega)]; omega), nI_pred, gPut_s, sI_eq, gLd_n hB (by decide), sI_2, p2, if_pos (show nI (100 + 4 * j + i) < 200 from nI_lt (b := 200) (by omega) (by decide)), show nI (100 + 4 * j + i) - 100 = nI (4 * j + i) by rw [show (100 : Int32) = nI 100 from rfl, pk_sub (by omega)]; congr 1; omega, gLd_n (by omega) (by decide), es.1, hc, if_pos (show nI 0 = 0 from rfl), w1, gBd_s, st_M_work_2]
  rfl
theorem m_pop1 {a : aS} (ha : okA a) {x : Nat} {O L : List Nat} {I : Nat → Nat} {pg B : List Nat} {τ : gS} (h : mR a x O L I pg τ) {j i : Nat} (hp : mPl (B ++ [100 + 4 * j + i]) τ) (hj : j < sN a) (hk : sK a j ≠ 2) (hi : i < sZ a j) (hc : sC a (4 * j + i) = 1) (hB : B.length < 96) (hl : pg.length + ((nu (sV a (4 * j + i))).length + 7) ≤ 1600) : ∃ τ', (∀ t : Nat, R_M_work (t + 2) 0 [] τ = R_M_work t 0 [] τ') ∧ mR a x O L I (pg ++ ([60, 105, 62] ++ (nu (sV a (4 * j + i)) ++ [60, 47, 105, 62]))) τ' ∧ mPl B τ' := by
  have h16 := ha.1
  have z4 := (okA_K ha hj).2.2 hk
  obtain ⟨p1, p2, p3⟩ := mPl_pop hp
  have h' := mR_9 (nI B.length) h
  have es := mQ_s h'.1 hj hk hi
  obtain ⟨r, τ1, w1, w2⟩ := wM_o a (x1 := 60) (x2 := 105) (x3 := 62) (x4 := 0) 60 105 62 0 ⟨rfl, rfl, rfl, rfl⟩ rfl _ pg h'.1 (show pg.length + 3 ≤ 1600 by omega)
  have w1 : f_M_out (sI τ 9 (nI B.length)) 60 105 62 0 = some (r, τ1) := w1
  have w2 : oM a (sI τ 9 (nI B.length)) pg [60, 105, 62] τ1 := w2
  obtain ⟨r2, τ2, v1, v2⟩ := ((nu_s (sV a (4 * j + i))).2.2.2.2 a).2 τ1 _ w2.1 (by rw [List.length_append]; simp only [List.length_cons, List.length_nil]; omega)
  have v1 : f_M_number τ1 (sV a (4 * j + i)).toInt64 = some (r2, τ2) := v1
  obtain ⟨r3, τ3, u1, u2⟩ := wM_o a (x1 := 60) (x2 := 47) (x3 := 105) (x4 := 62) 60 47 105 62 ⟨rfl, rfl, rfl, rfl⟩ rfl _ _ v2.1 (by rw [List.length_append, List.length_append]; simp only [List.length_cons, List.length_nil]; show _ + 4 ≤ _; omega)
  have u1 : f_M_out τ2 60 47 105 62 = some (r3, τ3) := u1
  have u2 : oM a τ2 (pg ++ [60, 105, 62] ++ nu (sV a (4 * j + i))) [60, 47, 105, 62] τ3 := u2
  have o := oM_t w2 (oM_t v2 u2)
  have ev : τ1.2 4 (4 * j + i) = sV a (4 * j + i) := by rw [w2.2.2 4 (by decide)]; exact es.2 (by omega)
  refine ⟨τ3, ?_, mR_o h' o, mPl_o p3 o⟩
  intro t
  rw [show t + 2 = t + 1 + 1 from rfl, st_M_work_0]
  unfold B_M_work_0
  rw [p1, if_neg (by rw [le_c0 (by omega)]; omega), nI_pred, gPut_s, sI_eq, gLd_n hB (by decide), sI_2, p2, if_pos (show nI (100 + 4 * j + i) < 200 from nI_lt (b := 200) (by omega) (by decide)), show nI (100 + 4 * j + i) - 100 = nI (4 * j + i) by rw [show (100 : Int32) = nI 100 from rfl, pk_sub (by omega)]; congr 1; omega, gLd_n (by omega) (by decide), es.1, hc, if_neg (show ¬ nI 1 = 0 by decide), gLd_n (by omega) (by decide), es.1, hc, if_pos (show nI 1 = 1 from rfl), w1, gBd_s, gLd_n (by omega) (by decide), ev, v1, gBd_s, u1, gBd_s, st_M_work_2]
  rfl
theorem m_pop2 {a : aS} (ha : okA a) {x : Nat} {O L : List Nat} {I : Nat → Nat} {pg B : List Nat} {τ : gS} (h : mR a x O L I pg τ) {j i y : Nat} (hp : mPl (B ++ [100 + 4 * j + i]) τ) (hj : j < sN a) (hk : sK a j ≠ 2) (hi : i < sZ a j) (hc : sC a (4 * j + i) = 2) (hv : sV a (4 * j + i) = nI y) (hB : B.length < 96) : ∃ τ0, mR a x O L I pg τ0 ∧ mPl B τ0 ∧ ∀ (t : Nat) (r : Int32) (τ1 : gS), f_M_reference τ0 (nI y) = some (r, τ1) → R_M_work (t + 2) 0 [] τ = R_M_work t 0 [] τ1 := by
  have h16 := ha.1
  have z4 := (okA_K ha hj).2.2 hk
  obtain ⟨p1, p2, p3⟩ := mPl_pop hp
  have h' := mR_9 (nI B.length) h
  have es := mQ_s h'.1 hj hk hi
  refine ⟨_, h', p3, fun t r τ1 w1 => ?_⟩
  have ev : (sI τ 9 (nI B.length)).2 4 (4 * j + i) = nI y := by rw [es.2 (by omega), hv]
  rw [show t + 2 = t + 1 + 1 from rfl, st_M_work_0]
  unfold B_M_work_0
  rw [p1, if_neg (by rw [le_c0 (by omega)]; omega), nI_pred, gPut_s, sI_eq, gLd_n hB (by decide), sI_2, p2, if_pos (show nI (100 + 4 * j + i) < 200 from nI_lt (b := 200) (by omega) (by decide)), show nI (100 + 4 * j + i) - 100 = nI (4 * j + i) by rw [show (100 : Int32) = nI 100 from rfl, pk_sub (by omega)]; congr 1; omega, gLd_n (by omega) (by decide), es.1, hc, if_neg (show ¬ nI 2 = 0 by decide), gLd_n (by omega) (by decide), es.1, hc, if_neg (show ¬ nI 2 = 1 by decide), gLd_n (by omega) (by decide), ev, w1, gBd_s, st_M_work_2]
  rfl
theorem m_popc {a : aS} {x : Nat} {O L : List Nat} {I : Nat → Nat} {pg B : List Nat} {τ : gS} (h : mR a x O L I pg τ) {c : Nat} (hp : mPl (B ++ [200 + c]) τ) (hc : 32 ≤ c ∧ c ≤ 126) (hB : B.length < 96) (hl : pg.length + 4 ≤ 1600) : ∃ τ', (∀ t : Nat, R_M_work (t + 2) 0 [] τ = R_M_work t 0 [] τ') ∧ mR a x O L I (pg ++ [60, 47, c, 62]) τ' ∧ mPl B τ' := by
  obtain ⟨p1, p2, p3⟩ := mPl_pop hp
  have h' := mR_9 (nI B.length) h
  have ol : outL 60 47 c 62 = [60, 47, c, 62] := by
    unfold outL
    rw [zL_n (c := c) (by omega)]
    rfl
  obtain ⟨r, τ1, w1, w2⟩ := wM_o a (x1 := 60) (x2 := 47) (x4 := 62) 60 47 c 62 ⟨rfl, rfl, rfl, rfl⟩ (by
      have : okB c = true := decide_eq_true (Or.inr hc)
      rw [this]
      rfl) _ pg h'.1 (by rw [ol]; exact hl)
  rw [ol] at w2
  have w1 : f_M_out (sI τ 9 (nI B.length)) 60 47 (nI c) 62 = some (r, τ1) := w1
  refine ⟨τ1, ?_, mR_o h' w2, mPl_o p3 w2⟩
  intro t
  rw [show t + 2 = t + 1 + 1 from rfl, st_M_work_0]
  unfold B_M_work_0
  rw [p1, if_neg (by rw [le_c0 (by omega)]; omega), nI_pred, gPut_s, sI_eq, gLd_n hB (by decide), sI_2, p2, if_neg (show ¬ nI (200 + c) < 200 from nI_nlt (b := 200) (by omega) (by omega)), show nI (200 + c) - 200 = nI c by rw [show (200 : Int32) = nI 200 from rfl, pk_sub (by omega), Nat.add_sub_cancel_left], w1, gBd_s, st_M_work_2]
  rfl
