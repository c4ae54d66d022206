def aPg (a : aS) (pg : List Nat) : aS := (sN a, sK a, sZ a, sC a, sV a, sT a, pg, sU a)
theorem ok_pg {a : aS} (ha : okA a) {pg : List Nat} (h1 : pg.length ≤ 1600) (h2 : ∀ c ∈ pg, prtN c) : okA (aPg a pg) := ⟨ha.1, h1, ha.2.2.1, ha.2.2.2.1, ha.2.2.2.2.1, h2⟩
theorem n_le_of {m : Nat} {x : Int32} (hm : m + 1 < 2 ^ 31) (h : nI (m + 1) ≤ x) : ¬ x ≤ nI m := by
  intro q
  rw [Int32.le_iff_toInt_le] at h q
  rw [nI_toInt hm] at h
  rw [nI_toInt (by omega)] at q
  omega
theorem d_prt (ch : Int32) : (∃ c : Nat, prtN c ∧ ch = nI c) ∨ (ch < 32 ∨ (¬ ch < 32 ∧ 126 < ch)) := by
  by_cases h1 : ch < 32
  · exact Or.inr (Or.inl h1)
  · by_cases h2 : 126 < ch
    · exact Or.inr (Or.inr ⟨h1, h2⟩)
    · have h0 : ¬ ch < 0 := fun q => h1 (by
        rw [Int32.lt_iff_toInt_lt] at q ⊢
        exact Int.lt_trans q (by decide))
      obtain ⟨c, hc, rfl⟩ := nI_of2 (M := 126) (n := 126) (by decide) h0 (Int32.not_lt.mp h2)
      exact Or.inl ⟨c, ⟨Nat.not_lt.mp (fun q => h1 (nI_lt (a := c) (b := 32) q (by decide))), hc⟩, rfl⟩
theorem nar_c {c : Nat} (h : c < 65536) : vp_nar .char (nI c) = nI c := by
  unfold vp_nar
  rw [(pk_charN h).1]
theorem r_prt {c : Nat} (h : prtN c) : ¬ nI c < 32 ∧ ¬ 126 < nI c := ⟨nI_nlt (a := c) (b := 32) h.1 (by have := h.2; omega), nI_nlt (a := 126) (b := c) h.2 (by decide)⟩
theorem r_prtY (σ : gS) {c : Nat} (h : prtN c) : f_O_isPrintable σ (nI c) = some (1, σ) := by
  unfold f_O_isPrintable
  rw [if_neg (r_prt h).1, if_neg (r_prt h).2]
theorem r_prtN (σ : gS) {ch : Int32} (h : ch < 32 ∨ (¬ ch < 32 ∧ 126 < ch)) : f_O_isPrintable σ ch = some (0, σ) := by
  unfold f_O_isPrintable
  rcases h with h | ⟨h1, h2⟩
  · rw [if_pos h]
  · rw [if_neg h1, if_pos h2]
theorem take_getD (l : List Nat) (m p : Nat) (h : p < m) : (l.take m).getD p 0 = l.getD p 0 := by
  rw [List.getD_eq_getElem?_getD, List.getD_eq_getElem?_getD, List.getElem?_take_of_lt h]
theorem u_cut {σ τ : gS} {a : aS} (ha : okA a) (hc : absC σ a) (hm : absM τ a) (x : Int32) : ∃ a', okA a' ∧ sameR a' (f_O_cut σ x) (f_M_cut τ x) := by
  have h16 := ha.2.1
  unfold f_O_cut f_M_cut
  rcases isJ_or ((sP a).length + 1) (by omega) x with ⟨m, hm', rfl⟩ | h
  · have e1 : ¬ nI m < 0 := nI_pos (by omega)
    have e2 : nI m ≤ nI (sP a).length := nI_le (by omega) (by omega)
    have hl : ((sP a).take m).length = m := by rw [List.length_take]; omega
    refine ⟨aPg a ((sP a).take m), ok_pg ha (by omega) (fun c h => ha.2.2.2.2.2 c (List.mem_of_mem_take h)), 1, sI σ 1 (nI m), sI τ 1 (nI m), by rw [if_neg e1, hc.2.1, if_pos e2, gPut_s], by rw [if_neg e1, hm.2.1, if_pos e2, gPut_s], ⟨hc.1, congrArg nI hl.symm, hc.2.2.1, hc.2.2.2.1, hc.2.2.2.2.1, fun p hp => ?_, hc.2.2.2.2.2.2⟩, ⟨hm.1, congrArg nI hl.symm, hm.2.2.1, hm.2.2.2.1, hm.2.2.2.2.1, fun p hp => ?_, hm.2.2.2.2.2.2⟩⟩
    · have hp : p < ((sP a).take m).length := hp
      show σ.2 8 p = nI (((sP a).take m).getD p 0)
      rw [take_getD _ _ _ (by omega)]
      exact hc.2.2.2.2.2.1 p (by omega)
    · have hp : p < ((sP a).take m).length := hp
      show τ.2 7 p = nI (((sP a).take m).getD p 0)
      rw [take_getD _ _ _ (by omega)]
      exact hm.2.2.2.2.2.1 p (by omega)
  · by_cases h1 : x < 0
    · exact ⟨a, ha, 0, σ, τ, by rw [if_pos h1], by rw [if_pos h1], hc, hm⟩
    · have e2 := n_le_of (by omega) (h.resolve_left h1)
      exact ⟨a, ha, 0, σ, τ, by rw [if_neg h1, hc.2.1, if_neg e2], by rw [if_neg h1, hm.2.1, if_neg e2], hc, hm⟩
theorem app_getD (l : List Nat) (c p : Nat) : (l ++ [c]).getD p 0 = if p = l.length then c else l.getD p 0 := by
  rw [List.getD_eq_getElem?_getD, List.getD_eq_getElem?_getD]
  by_cases h : p < l.length
  · rw [List.getElem?_append_left h, if_neg (by omega)]
  · rw [List.getElem?_append_right (by omega)]
    by_cases h2 : p = l.length
    · rw [if_pos h2, h2, Nat.sub_self]; rfl
    · rw [if_neg h2, List.getElem?_eq_none (by simp; omega), List.getElem?_eq_none (by omega)]
theorem u_feed {σ τ : gS} {a : aS} (ha : okA a) (hc : absC σ a) (hm : absM τ a) (ch : Int32) : ∃ a', okA a' ∧ sameR a' (f_O_feed σ ch) (f_M_feed τ ch) := by
  have h16 := ha.2.1
  unfold f_O_feed f_M_feed
  rcases d_prt ch with ⟨c, hp, rfl⟩ | h
  · rw [r_prtY σ hp, gBd_s, if_neg (by decide), if_neg (r_prt hp).1, if_neg (r_prt hp).2]
    unfold f_P_append
    rw [hc.2.1, hm.2.1]
    by_cases hl : (sP a).length = 1600
    · exact ⟨a, ha, 0, σ, τ, by rw [hl, if_neg (by decide), gBd_s, if_pos rfl], by rw [hl, if_pos (by decide)], hc, hm⟩
    · have e1 : nI (sP a).length < 1600 := nI_lt (b := 1600) (by omega) (by decide)
      have e2 : ¬ nI (sP a).length = 1600 := fun q => hl ((nI_eq (b := 1600) (by omega) (by decide)).mp q)
      have hc5 : c < 65536 := by have := hp.2; omega
      have hl2 : (sP a ++ [c]).length = (sP a).length + 1 := by simp
      refine ⟨aPg a (sP a ++ [c]), ok_pg ha (by omega) (fun d h => ?_), 1, sI (sA σ 8 (upd (σ.2 8) (sP a).length (nI c))) 1 (nI ((sP a).length + 1)), sI (sA τ 7 (upd (τ.2 7) (sP a).length (nI c))) 1 (nI ((sP a).length + 1)), ?_, ?_, ?_, ?_⟩
      · rcases List.mem_append.mp h with h | h
        · exact ha.2.2.2.2.2 d h
        · rw [List.mem_singleton.mp h]; exact hp
      · rw [if_pos e1, gSt_ok (sP a).length rfl (by omega) (by decide), gPut_s, gBd_s, if_neg (by decide), nar_c hc5]
        show some ((1 : Int32), sI _ 1 (σ.1 1 + 1)) = _
        rw [hc.2.1, nI_1]
      · rw [if_neg e2, gSt_ok (sP a).length rfl (by omega) (by decide), gPut_s, nar_c hc5]
        show some ((1 : Int32), sI _ 1 (τ.1 1 + 1)) = _
        rw [hm.2.1, nI_1]
      · refine ⟨hc.1, congrArg nI hl2.symm, hc.2.2.1, hc.2.2.2.1, hc.2.2.2.2.1, fun p hq => ?_, hc.2.2.2.2.2.2⟩
        have hq : p < (sP a ++ [c]).length := hq
        show upd (σ.2 8) (sP a).length (nI c) p = nI ((sP a ++ [c]).getD p 0)
        rw [app_getD]
        unfold upd
        by_cases h2 : p = (sP a).length
        · rw [if_pos h2, if_pos h2]
        · rw [if_neg h2, if_neg h2]
          exact hc.2.2.2.2.2.1 p (by omega)
      · refine ⟨hm.1, congrArg nI hl2.symm, hm.2.2.1, hm.2.2.2.1, hm.2.2.2.2.1, fun p hq => ?_, hm.2.2.2.2.2.2⟩
        have hq : p < (sP a ++ [c]).length := hq
        show upd (τ.2 7) (sP a).length (nI c) p = nI ((sP a ++ [c]).getD p 0)
        rw [app_getD]
        unfold upd
        by_cases h2 : p = (sP a).length
        · rw [if_pos h2, if_pos h2]
        · rw [if_neg h2, if_neg h2]
          exact hm.2.2.2.2.2.1 p (by omega)
  · refine ⟨a, ha, 0, σ, τ, by rw [r_prtN σ h, gBd_s, if_pos rfl], ?_, hc, hm⟩
    rcases h with h | ⟨h1, h2⟩
    · rw [if_pos h]
    · rw [if_neg h1, if_pos h2]
theorem gset_getD (l : List Nat) (j c p : Nat) (hj : j < l.length) : (l.set j c).getD p 0 = if p = j then c else l.getD p 0 := by
  rw [List.getD_eq_getElem?_getD, List.getD_eq_getElem?_getD, List.getElem?_set]
  by_cases h : p = j
  · rw [if_pos h.symm, if_pos h, if_pos hj]; rfl
  · rw [if_neg (fun q => h q.symm), if_neg h]
theorem u_alter {σ τ : gS} {a : aS} (ha : okA a) (hc : absC σ a) (hm : absM τ a) (x ch : Int32) : ∃ a', okA a' ∧ sameR a' (f_O_alter σ x ch) (f_M_alter τ x ch) := by
  have h16 := ha.2.1
  unfold f_O_alter f_M_alter
  rcases isJ_or (sP a).length (by omega) x with ⟨j, hj, rfl⟩ | h
  · have e1 : ¬ nI j < 0 := nI_pos (by omega)
    have e2 : ¬ nI (sP a).length ≤ nI j := nI_ge hj (by omega)
    rw [if_neg e1, if_neg e1, hc.2.1, hm.2.1, if_neg e2, if_neg e2]
    rcases d_prt ch with ⟨c, hp, rfl⟩ | h
    · have hc5 : c < 65536 := by have := hp.2; omega
      have e3 : nI c ≤ 126 := Int32.not_lt.mp (r_prt hp).2
      refine ⟨aPg a ((sP a).set j c), ok_pg ha (by simp; omega) (fun d h => ?_), 1, sA σ 8 (upd (σ.2 8) j (nI c)), sA τ 7 (upd (τ.2 7) j (nI c)), ?_, ?_, ?_, ?_⟩
      · rcases List.mem_or_eq_of_mem_set h with h | h
        · exact ha.2.2.2.2.2 d h
        · rw [h]; exact hp
      · rw [r_prtY σ hp, gBd_s, if_neg (by decide), gSt_ok j rfl (by omega) (by decide), nar_c hc5]
      · rw [if_neg (r_prt hp).1, if_pos e3, gSt_ok j rfl (by omega) (by decide), nar_c hc5]
      · refine ⟨hc.1, by show σ.1 1 = nI ((sP a).set j c).length; rw [List.length_set]; exact hc.2.1, hc.2.2.1, hc.2.2.2.1, hc.2.2.2.2.1, fun p hq => ?_, hc.2.2.2.2.2.2⟩
        have hq : p < ((sP a).set j c).length := hq
        rw [List.length_set] at hq
        show upd (σ.2 8) j (nI c) p = nI (((sP a).set j c).getD p 0)
        rw [gset_getD _ _ _ _ hj]
        unfold upd
        by_cases h2 : p = j
        · rw [if_pos h2, if_pos h2]
        · rw [if_neg h2, if_neg h2]
          exact hc.2.2.2.2.2.1 p hq
      · refine ⟨hm.1, by show τ.1 1 = nI ((sP a).set j c).length; rw [List.length_set]; exact hm.2.1, hm.2.2.1, hm.2.2.2.1, hm.2.2.2.2.1, fun p hq => ?_, hm.2.2.2.2.2.2⟩
        have hq : p < ((sP a).set j c).length := hq
        rw [List.length_set] at hq
        show upd (τ.2 7) j (nI c) p = nI (((sP a).set j c).getD p 0)
        rw [gset_getD _ _ _ _ hj]
        unfold upd
        by_cases h2 : p = j
        · rw [if_pos h2, if_pos h2]
        · rw [if_neg h2, if_neg h2]
          exact hm.2.2.2.2.2.1 p hq
    · refine ⟨a, ha, 0, σ, τ, by rw [r_prtN σ h, gBd_s, if_pos rfl], ?_, hc, hm⟩
      rcases h with h | ⟨h1, h2⟩
      · rw [if_pos h]
      · rw [if_neg h1, if_neg (fun q => Int32.not_le.mpr h2 q)]
  · by_cases h1 : x < 0
    · exact ⟨a, ha, 0, σ, τ, by rw [if_pos h1], by rw [if_pos h1], hc, hm⟩
    · have e2 := h.resolve_left h1
      exact ⟨a, ha, 0, σ, τ, by rw [if_neg h1, hc.2.1, if_pos e2], by rw [if_neg h1, hm.2.1, if_pos e2], hc, hm⟩
def aUn (a : aS) (k : Nat) (b : Bool) : aS := (sN a, sK a, sZ a, sC a, sV a, sT a, sP a, fun j => if j = k then b else sU a j)
theorem nar_b (b : Bool) : vp_nar .boolean (bI b) = bI b := by cases b <;> rfl
theorem u_understand {σ τ : gS} {a : aS} (ha : okA a) (hc : absC σ a) (hm : absM τ a) (k : Int32) (b : Bool) : ∃ a', okA a' ∧ sameR a' (f_O_understand σ k (bI b)) (f_M_understand τ k (bI b)) := by
  unfold f_O_understand f_M_understand
  rcases isJ_or 32 (by decide) k with ⟨j, hj, rfl⟩ | h
  · have e1 : ¬ nI j < 0 := nI_pos (by omega)
    have e2 : ¬ (32 : Int32) ≤ nI j := nI_ge hj (by decide)
    rw [if_neg e1, if_neg e1, if_neg e2, if_neg (p31d e2), gLd_ok j rfl hj (by decide), gLd_ok j rfl hj (by decide), hc.2.2.2.2.2.2 j hj, hm.2.2.2.2.2.2 j hj]
    by_cases hb : bI (sU a j) = bI b
    · exact ⟨a, ha, 0, σ, τ, by rw [if_pos hb], by rw [if_pos hb], hc, hm⟩
    · refine ⟨aUn a j b, ⟨ha.1, ha.2.1, ha.2.2.1, ha.2.2.2.1, ha.2.2.2.2.1, ha.2.2.2.2.2⟩, 1, sA σ 9 (upd (σ.2 9) j (bI b)), sA τ 6 (upd (τ.2 6) j (bI b)), by rw [if_neg hb, gSt_ok j rfl hj (by decide), nar_b], by rw [if_neg hb, gSt_ok j rfl hj (by decide), nar_b], ⟨hc.1, hc.2.1, hc.2.2.1, hc.2.2.2.1, hc.2.2.2.2.1, hc.2.2.2.2.2.1, fun i hi => ?_⟩, ⟨hm.1, hm.2.1, hm.2.2.1, hm.2.2.2.1, hm.2.2.2.2.1, hm.2.2.2.2.2.1, fun i hi => ?_⟩⟩
      · show upd (σ.2 9) j (bI b) i = bI (if i = j then b else sU a i)
        unfold upd
        by_cases h2 : i = j
        · rw [if_pos h2, if_pos h2]
        · rw [if_neg h2, if_neg h2]
          exact hc.2.2.2.2.2.2 i hi
      · show upd (τ.2 6) j (bI b) i = bI (if i = j then b else sU a i)
        unfold upd
        by_cases h2 : i = j
        · rw [if_pos h2, if_pos h2]
        · rw [if_neg h2, if_neg h2]
          exact hm.2.2.2.2.2.2 i hi
  · by_cases h1 : k < 0
    · exact ⟨a, ha, 0, σ, τ, by rw [if_pos h1], by rw [if_pos h1], hc, hm⟩
    · have e2 : (32 : Int32) ≤ k := h.resolve_left h1
      exact ⟨a, ha, 0, σ, τ, by rw [if_neg h1, if_pos e2], by rw [if_neg h1, if_pos (p31c e2)], hc, hm⟩
