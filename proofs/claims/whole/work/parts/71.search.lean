theorem r_hs {σ : gS} {a : aS} (ha : okA a) (hc : absC σ a) {j k : Nat} (hj : j < sN a) (hk : k < 2147483648) : f_G_hasSlot σ (nI j) (nI k) = some (bI (decide (sK a j ≠ 2 ∧ k < sZ a j)), σ) := by
  by_cases h : sK a j ≠ 2 ∧ k < sZ a j
  · rw [r_slot ha hc hj h.1 h.2, decide_eq_true h, bI_t]
  · rw [r_slotN ha hc (Or.inr ⟨j, hj, rfl, by
      by_cases h2 : sK a j = 2
      · exact Or.inl h2
      · have z := (okA_K ha hj).2.1
        exact Or.inr (Or.inr (nI_le (by
          by_cases h3 : k < sZ a j
          · exact absurd ⟨h2, h3⟩ h
          · omega) hk))⟩), decide_eq_false h, bI_f]
theorem c_follow {a : aS} (ha : okA a) {x j : Nat} (hj : j < sN a) {r0 : Nat → Nat} (hr0 : ∀ y, r0 y < 900) : ∀ (d k : Nat) (σ : gS) (O : List Nat) (t : Nat), k + d = 4 → 2 * d + 1 ≤ t → (∃ p, p < O.length ∧ O.getD p 0 = j) → rI a x σ (fun y => r0 y + ck a j k y) O → ∃ σ' O', R_R_followSlots t 1 [nI j, nI k] σ = some (0, σ') ∧ rI a x σ' (fun y => r0 y + ck a j 4 y) (O ++ O') := by
  have h16 := ha.1
  intro d
  induction d with
  | zero =>
    intro k σ O t hk ht hp h
    obtain rfl : k = 4 := by omega
    obtain ⟨t, rfl⟩ : ∃ t', t = t' + 1 := ⟨t - 1, by omega⟩
    refine ⟨σ, [], ?_, ?_⟩
    · rw [show R_R_followSlots (t + 1) 1 [nI j, nI 4] σ = B_R_followSlots_1 (R_R_followSlots t) (nI j) (nI 4) σ from rfl]
      unfold B_R_followSlots_1
      rw [if_pos (by decide)]
    · rw [List.append_nil]; exact h
  | succ d ih =>
    intro k σ O t hk ht hp h
    obtain ⟨t, rfl⟩ : ∃ t', t = t' + 2 := ⟨t - 2, by omega⟩
    have e2 : ∀ σ', R_R_followSlots (t + 1) 2 [nI j, nI k] σ' = R_R_followSlots t 1 [nI j, nI (k + 1)] σ' := fun σ' => by
      show R_R_followSlots t 1 [nI j, nI k + 1] σ' = _
      rw [add_c1]
    have go : ∀ (σ' : gS) (O' : List Nat), rI a x σ' (fun y => r0 y + ck a j (k + 1) y) (O ++ O') → ∃ σ'' O'', R_R_followSlots (t + 1) 2 [nI j, nI k] σ' = some (0, σ'') ∧ rI a x σ'' (fun y => r0 y + ck a j 4 y) (O ++ O'') := by
      intro σ' O' h'
      obtain ⟨p, hp1, hp2⟩ := hp
      obtain ⟨σ'', O'', q1, q2⟩ := ih (k + 1) σ' (O ++ O') t (by omega) (by omega) ⟨p, by rw [List.length_append]; omega, by rw [List.getD_eq_getElem?_getD, List.getElem?_append_left hp1, ← List.getD_eq_getElem?_getD]; exact hp2⟩ h'
      exact ⟨σ'', O' ++ O'', by rw [e2]; exact q1, by rw [← List.append_assoc]; exact q2⟩
    rw [show R_R_followSlots (t + 2) 1 [nI j, nI k] σ = B_R_followSlots_1 (R_R_followSlots (t + 1)) (nI j) (nI k) σ from rfl]
    unfold B_R_followSlots_1
    rw [if_neg (show ¬ 4 ≤ nI k from by rw [c4_le (by omega)]; omega), r_hs ha h.1 hj (by omega), gBd_s]
    cases htg : tg a (4 * j + k) with
    | none =>
      have hn : rI a x σ (fun y => r0 y + ck a j (k + 1) y) (O ++ []) := by
        rw [List.append_nil]
        refine rI_r h (fun y => ?_)
        show r0 y + (ck a j k y + if tg a (4 * j + k) = some y then 1 else 0) = _
        rw [htg, if_neg (by simp)]
        rfl
      by_cases hs : sK a j ≠ 2 ∧ k < sZ a j
      · have h4 := tg_none (by omega) htg hj hs.1 hs.2
        have h5 := (ha.2.2.2.1 j k hj hs.1 hs.2).1
        rw [decide_eq_true hs, bI_t, if_neg i10, r_content (by omega) (by omega), gBd_s, (h.1.2.2.2.1 j k hj hs.1 hs.2).1, if_neg (n2 h5 h4)]
        exact go σ [] hn
      · rw [decide_eq_false hs, bI_f, if_pos rfl]
        exact go σ [] hn
    | some y =>
      obtain ⟨q1, q2, q3, q4, q5, q6, q7⟩ := tg_some ha htg
      rw [show (4 * j + k) / 4 = j by omega] at q1 q2 q3
      rw [show (4 * j + k) % 4 = k by omega] at q3
      have e5 := h.1.2.2.2.1 j k hj q2 q3
      rw [decide_eq_true ⟨q2, q3⟩, bI_t, if_neg i10, r_content (by omega) (by omega), gBd_s, e5.1, q5, if_pos (by decide), r_value (by omega) (by omega), gBd_s, e5.2, q6]
      obtain ⟨p, hp1, hp2⟩ := hp
      obtain ⟨σ', O', w1, w2⟩ := c_refer ha h q7 (by have := ck_le a j y k; have := hr0 y; show r0 y + ck a j k y < 1000; omega) ⟨p, 4 * j + k, hp1, by rw [hp2]; omega, htg⟩
      rw [w1, gBd_s]
      refine go σ' O' (rI_r w2 (fun z => ?_))
      show r0 z + (ck a j k z + if tg a (4 * j + k) = some z then 1 else 0) = r0 z + ck a j k z + if z = y then 1 else 0
      rw [htg]
      by_cases e : z = y
      · subst e; simp; omega
      · rw [if_neg e, if_neg (fun q => e (Option.some.inj q).symm)]; rfl
def rx (a : aS) (x : Nat) (l : List Nat) (y : Nat) : Nat := (if y = x then 1 else 0) + cs a l y
theorem c_start {a : aS} (ha : okA a) {x : Nat} : ∀ (d i : Nat) (σ : gS) (O : List Nat) (t : Nat), i + d = 16 → d + 1 ≤ t → i ≤ O.length → rI a x σ (rx a x (O.take i)) O → ∃ σ' O', R_R_startFrom t 1 [nI i] σ = some (0, σ') ∧ rI a x σ' (rx a x O') O' := by
  obtain ⟨T, hT⟩ := gFx
  have h16 := ha.1
  intro d
  induction d with
  | zero =>
    intro i σ O t hi ht hl h
    obtain rfl : i = 16 := by omega
    obtain ⟨t, rfl⟩ : ∃ t', t = t' + 1 := ⟨t - 1, by omega⟩
    have hlen := nd_len _ _ h.2.2.2.2.1 h.2.2.2.2.2.1
    refine ⟨σ, O, ?_, ?_⟩
    · rw [show R_R_startFrom (t + 1) 1 [nI 16] σ = B_R_startFrom_1 (R_R_startFrom t) (nI 16) σ from rfl]
      unfold B_R_startFrom_1
      rw [if_pos (by decide)]
    · rw [List.take_of_length_le (by omega)] at h; exact h
  | succ d ih =>
    intro i σ O t hi ht hl h
    obtain ⟨t, rfl⟩ : ∃ t', t = t' + 1 := ⟨t - 1, by omega⟩
    have hlen := nd_len _ _ h.2.2.2.2.1 h.2.2.2.2.2.1
    rw [show R_R_startFrom (t + 1) 1 [nI i] σ = B_R_startFrom_1 (R_R_startFrom t) (nI i) σ from rfl]
    unfold B_R_startFrom_1
    rw [if_neg (show ¬ 16 ≤ nI i from by rw [c16_le (by omega)]; omega), h.2.2.1]
    by_cases hd : i < O.length
    · have hj : O.getD i 0 < sN a := h.2.2.2.2.2.1 _ (by rw [List.getD_eq_getElem?_getD, List.getElem?_eq_getElem hd]; exact List.getElem_mem hd)
      rw [if_neg (show ¬ nI O.length ≤ nI i from by rw [n_le (by omega) (by omega)]; omega), gLd_n (by omega) (by decide), h.2.2.2.1 i hd]
      obtain ⟨σ', O', w1, w2⟩ := c_follow ha (x := x) hj (r0 := rx a x (O.take i)) (fun y => by have := cs_le a y (O.take i); rw [List.length_take] at this; unfold rx; split <;> omega) 4 0 σ O (T + 49999) (by omega) (by omega) ⟨i, hd, rfl⟩ (rI_r h (fun y => rfl))
      rw [show f_R_followSlots σ (nI (O.getD i 0)) = R_R_followSlots (T + 49999) 1 [nI (O.getD i 0), nI 0] σ from fx_R_followSlots hT σ _, w1, gBd_s, add_c1]
      refine ih (i + 1) σ' (O ++ O') t (by omega) (by omega) (by rw [List.length_append]; omega) (rI_r w2 (fun y => ?_))
      rw [List.take_append_of_le_length (by omega), List.take_add_one, List.getElem?_eq_getElem hd, Option.toList_some]
      unfold rx
      rw [cs_app, List.getD_eq_getElem?_getD, List.getElem?_eq_getElem hd]
      simp only [cs, Option.getD_some]
      omega
    · rw [if_pos (show nI O.length ≤ nI i from by rw [n_le (by omega) (by omega)]; omega)]
      rw [List.take_of_length_le (by omega)] at h
      exact ⟨σ, O, rfl, h⟩
theorem c_fill11 : ∀ (d i : Nat) (σ : gS) (t : Nat) (v : Int32), i + d = 16 → d + 1 ≤ t → ∃ σ', R_J_fill_RR t 1 [v, nI i, 16] σ = some (0, σ') ∧ σ'.1 = σ.1 ∧ (∀ k, k ≠ 11 → σ'.2 k = σ.2 k) ∧ (∀ j, i ≤ j → j < 16 → σ'.2 11 j = v) ∧ ∀ j, j < i → σ'.2 11 j = σ.2 11 j := by
  intro d
  induction d with
  | zero =>
    intro i σ t v hi ht
    obtain rfl : i = 16 := by omega
    obtain ⟨t, rfl⟩ : ∃ t', t = t' + 1 := ⟨t - 1, by omega⟩
    refine ⟨σ, ?_, rfl, fun _ _ => rfl, fun j h1 h2 => by omega, fun _ _ => rfl⟩
    rw [show R_J_fill_RR (t + 1) 1 [v, nI 16, 16] σ = B_J_fill_RR_1 (R_J_fill_RR t) v (nI 16) 16 σ from rfl]
    unfold B_J_fill_RR_1
    rw [if_pos (by decide)]
  | succ d ih =>
    intro i σ t v hi ht
    obtain ⟨t, rfl⟩ : ∃ t', t = t' + 1 := ⟨t - 1, by omega⟩
    rw [show R_J_fill_RR (t + 1) 1 [v, nI i, 16] σ = B_J_fill_RR_1 (R_J_fill_RR t) v (nI i) 16 σ from rfl]
    unfold B_J_fill_RR_1
    rw [if_neg (show ¬ 16 ≤ nI i from by rw [c16_le (by omega)]; omega), gSt_n (by omega) (by decide), add_c1]
    obtain ⟨σ', q1, q2, q3, q4, q5⟩ := ih (i + 1) (sA σ 11 (upd (σ.2 11) i v)) t v (by omega) (by omega)
    refine ⟨σ', q1, q2, fun k hk => (q3 k hk).trans (sA_ne hk), fun j h1 h2 => ?_, fun j h1 => ?_⟩
    · by_cases e : j = i
      · rw [e, q5 i (by omega), sA_eq, up_eq]
      · exact q4 j (by omega) h2
    · rw [q5 j (by omega), sA_eq, up_ne (by omega)]
theorem absC_of {σ σ' : gS} {a : aS} (h : absC σ a) (h0 : σ'.1 0 = σ.1 0) (h1 : σ'.1 1 = σ.1 1) (hk : ∀ k, k < 10 → σ'.2 k = σ.2 k) : absC σ' a := by
  obtain ⟨q0, q1, q2, q3, q4, q5, q6⟩ := h
  refine ⟨h0.trans q0, h1.trans q1, ?_, ?_, ?_, ?_, ?_⟩
  · rw [hk 2 (by decide), hk 3 (by decide)]; exact q2
  · rw [hk 4 (by decide), hk 5 (by decide)]; exact q3
  · rw [hk 6 (by decide)]; exact q4
  · rw [hk 8 (by decide)]; exact q5
  · rw [hk 9 (by decide)]; exact q6
theorem absM_of {σ σ' : gS} {a : aS} (h : absM σ a) (h0 : σ'.1 0 = σ.1 0) (h1 : σ'.1 1 = σ.1 1) (hk : ∀ k, k < 8 → σ'.2 k = σ.2 k) : absM σ' a := by
  obtain ⟨q0, q1, q2, q3, q4, q5, q6⟩ := h
  refine ⟨h0.trans q0, h1.trans q1, ?_, ?_, ?_, ?_, ?_⟩
  · rw [hk 1 (by decide), hk 2 (by decide)]; exact q2
  · rw [hk 3 (by decide), hk 4 (by decide)]; exact q3
  · rw [hk 5 (by decide)]; exact q4
  · rw [hk 7 (by decide)]; exact q5
  · rw [hk 6 (by decide)]; exact q6
theorem c_reach {a : aS} (ha : okA a) {σ : gS} (hc : absC σ a) {x : Nat} (hx : x < sN a) : ∃ σ' O, f_R_startFrom σ (nI x) = some (0, σ') ∧ rI a x σ' (rx a x O) O := by
  have h16 := ha.1
  obtain ⟨T, hT⟩ := gFx
  obtain ⟨σ1, q1, q2, q3, q4, q5⟩ := c_fill11 16 0 σ (T + 49999) 0 (by omega) (by omega)
  rw [show f_R_startFrom σ (nI x) = B_R_startFrom_0 (R_R_startFrom (T + 49999)) (nI x) σ from fx_R_startFrom hT σ _]
  unfold B_R_startFrom_0
  rw [show f_J_fill_RR σ 0 = R_J_fill_RR (T + 49999) 1 [0, nI 0, 16] σ from fx_J_fill_RR hT σ 0, q1, gBd_s, gPut_s]
  have e1 : σ1.2 11 x = 0 := q4 x (by omega) (by omega)
  unfold f_R_refer
  simp (disch := omega) only [gLd_n, gSt_n, e1, sI_2, sA_eq, up_eq, gPut_s, sA_1, sA_ne, sI_eq, gSt_0]
  rw [if_pos (by decide), gBd_s]
  refine c_start ha 16 0 _ [x] (T + 49999) (by omega) (by omega) (by omega) ⟨absC_of hc ?_ ?_ ?_, ?_, rfl, ?_, by simp, ?_, ?_, rfl, Nat.zero_lt_one, ?_⟩
  · rw [sI_ne (by decide), sA_1, sA_1, sI_ne (by decide), q2]
  · rw [sI_ne (by decide), sA_1, sA_1, sI_ne (by decide), q2]
  · intro k hk
    rw [sI_2, sA_ne (by omega), sA_ne (by omega)]
    exact q3 k (by omega)
  · intro j hj
    rw [sI_2, sA_ne (by decide), sA_eq]
    show _ = nI ((if j = x then 1 else 0) + cs a (List.take 0 [x]) j)
    by_cases e : j = x
    · rw [e, up_eq, if_pos rfl]; rfl
    · rw [up_ne e, if_neg e]; exact q4 j (by omega) hj
  · intro p hp
    obtain rfl : p = 0 := by simp at hp; omega
    rw [sI_2, sA_eq, up_eq]; rfl
  · intro j hj
    simp at hj; omega
  · intro j
    show _ ↔ (if j = x then 1 else 0) + cs a (List.take 0 [x]) j ≠ 0
    by_cases e : j = x
    · simp [e]
    · simp [e, cs]
  · intro i h1 h2
    simp at h2; omega
