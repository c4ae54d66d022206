def aTy (a : aS) (j c : Nat) : aS := (sN a, sK a, fun p => if p = j then sZ a j + 1 else sZ a p, sC a, sV a, fun p => if p = 6 * j + sZ a j then c else sT a p, sP a, sU a)
theorem ty_Z {a : aS} {j c p : Nat} : sZ (aTy a j c) p = if p = j then sZ a j + 1 else sZ a p := rfl
theorem ty_T {a : aS} {j c p : Nat} : sT (aTy a j c) p = if p = 6 * j + sZ a j then c else sT a p := rfl
theorem ok_ty {a : aS} (ha : okA a) {j c : Nat} (hj : j < sN a) (hk : sK a j = 2) (hz : sZ a j < 6) (hc : prtN c) : okA (aTy a j c) := by
  refine ⟨ha.1, ha.2.1, fun p hp => ?_, fun p i hp hkp hi => ?_, fun p i hp hkp hi => ?_, ha.2.2.2.2.2⟩
  · rw [ty_Z]
    by_cases he : p = j
    · subst he
      rw [if_pos rfl]
      exact Or.inr (Or.inr ⟨hk, by omega⟩)
    · rw [if_neg he]
      exact ha.2.2.1 p hp
  · rw [ty_Z] at hi
    have he : p ≠ j := fun q => hkp (by rw [q]; exact hk)
    rw [if_neg he] at hi
    exact ha.2.2.2.1 p i hp hkp hi
  · rw [ty_T]
    rw [ty_Z] at hi
    by_cases h1 : 6 * p + i = 6 * j + sZ a j
    · rw [if_pos h1]; exact hc
    · rw [if_neg h1]
      by_cases he : p = j
      · subst he
        rw [if_pos rfl] at hi
        exact ha.2.2.2.2.1 p i hp hkp (by omega)
      · rw [if_neg he] at hi
        exact ha.2.2.2.2.1 p i hp hkp hi
theorem c_ty {σ : gS} {a : aS} (ha : okA a) (hc : absC σ a) {j c : Nat} (hk : sK a j = 2) (hj : j < sN a) : absC (sA (sA σ 6 (upd (σ.2 6) (6 * j + sZ a j) (nI c))) 3 (upd (σ.2 3) j (nI (sZ a j + 1)))) (aTy a j c) := by
  refine ⟨hc.1, hc.2.1, fun p hp => ⟨(hc.2.2.1 p hp).1, ?_⟩, fun p i hp hkp hi => ?_, fun p i hp hkp hi => ?_, hc.2.2.2.2.2.1, hc.2.2.2.2.2.2⟩
  · show upd (σ.2 3) j (nI (sZ a j + 1)) p = nI (sZ (aTy a j c) p)
    rw [ty_Z]
    unfold upd
    by_cases he : p = j
    · rw [if_pos he, if_pos he]
    · rw [if_neg he, if_neg he]; exact (hc.2.2.1 p hp).2
  · rw [ty_Z] at hi
    have he : p ≠ j := fun q => hkp (by rw [q]; exact hk)
    rw [if_neg he] at hi
    exact hc.2.2.2.1 p i hp hkp hi
  · show upd (σ.2 6) (6 * j + sZ a j) (nI c) (6 * p + i) = nI (sT (aTy a j c) (6 * p + i))
    rw [ty_T]
    rw [ty_Z] at hi
    unfold upd
    by_cases h1 : 6 * p + i = 6 * j + sZ a j
    · rw [if_pos h1, if_pos h1]
    · rw [if_neg h1, if_neg h1]
      by_cases he : p = j
      · subst he
        rw [if_pos rfl] at hi
        exact hc.2.2.2.2.1 p i hp hkp (by omega)
      · rw [if_neg he] at hi
        exact hc.2.2.2.2.1 p i hp hkp hi
theorem m_ty {τ : gS} {a : aS} (ha : okA a) (hm : absM τ a) {j c : Nat} (hk : sK a j = 2) (hj : j < sN a) : absM (sA (sA τ 5 (upd (τ.2 5) (6 * j + sZ a j) (nI c))) 2 (upd (τ.2 2) j (nI (sZ a j + 1)))) (aTy a j c) := by
  refine ⟨hm.1, hm.2.1, fun p hp => ⟨(hm.2.2.1 p hp).1, ?_⟩, fun p i hp hkp hi => ?_, fun p i hp hkp hi => ?_, hm.2.2.2.2.2.1, hm.2.2.2.2.2.2⟩
  · show upd (τ.2 2) j (nI (sZ a j + 1)) p = nI (sZ (aTy a j c) p)
    rw [ty_Z]
    unfold upd
    by_cases he : p = j
    · rw [if_pos he, if_pos he]
    · rw [if_neg he, if_neg he]; exact (hm.2.2.1 p hp).2
  · rw [ty_Z] at hi
    have he : p ≠ j := fun q => hkp (by rw [q]; exact hk)
    rw [if_neg he] at hi
    exact hm.2.2.2.1 p i hp hkp hi
  · show upd (τ.2 5) (6 * j + sZ a j) (nI c) (6 * p + i) = nI (sT (aTy a j c) (6 * p + i))
    rw [ty_T]
    rw [ty_Z] at hi
    unfold upd
    by_cases h1 : 6 * p + i = 6 * j + sZ a j
    · rw [if_pos h1, if_pos h1]
    · rw [if_neg h1, if_neg h1]
      by_cases he : p = j
      · subst he
        rw [if_pos rfl] at hi
        exact hm.2.2.2.2.1 p i hp hkp (by omega)
      · rw [if_neg he] at hi
        exact hm.2.2.2.2.1 p i hp hkp hi
theorem u_type {σ τ : gS} {a : aS} (ha : okA a) (hc : absC σ a) (hm : absM τ a) (x ch : Int32) : ∃ a', okA a' ∧ sameR a' (f_O_type σ x ch) (f_M_type τ x ch) := by
  have h16 := ha.1
  unfold f_O_type f_M_type
  rcases isJ_or (sN a) (by omega) x with ⟨j, hj, rfl⟩ | hx
  · obtain ⟨z1, z2, z3⟩ := okA_K ha hj
    rw [r_text ha hc hj, gBd_s, r_obj hm.1 h16 hj, gBd_s, if_neg (show ¬ (1 : Int32) = 0 by decide), gLd_ok (σ := τ) (k := 1) j rfl (by omega) (by decide), (hm.2.2.1 j hj).1]
    by_cases hk : sK a j = 2
    · rw [if_neg (by simp [hk, bI]), hk, if_pos (show nI 2 = 2 by decide)]
      rcases d_prt ch with ⟨c, hp, rfl⟩ | h
      · have hc5 : c < 65536 := by have := hp.2; omega
        rw [r_prtY σ hp, gBd_s, if_neg (show ¬ (1 : Int32) = 0 by decide), if_neg (r_prt hp).1, if_neg (r_prt hp).2, gLd_ok (σ := τ) (k := 2) j rfl (by omega) (by decide), (hm.2.2.1 j hj).2]
        unfold f_G_addCharacter
        rw [gLd_ok (σ := σ) (k := 3) j rfl (by omega) (by decide), (hc.2.2.1 j hj).2]
        by_cases hz : sZ a j = 6
        · exact ⟨a, ha, 0, σ, τ, by rw [hz, if_neg (by decide), gBd_s, if_pos rfl], by rw [hz, if_pos (by decide)], hc, hm⟩
        · have e1 : nI (sZ a j) < 6 := nI_lt (b := 6) (by omega) (by decide)
          have e2 : ¬ nI (sZ a j) = 6 := fun q => hz ((nI_eq (b := 6) (by omega) (by decide)).mp q)
          refine ⟨aTy a j c, ok_ty ha hj hk (by omega) hp, 1, _, _, ?_, ?_, c_ty ha hc hk hj, m_ty ha hm hk hj⟩
          · rw [if_pos e1, gLd_ok (σ := σ) (k := 3) j rfl (by omega) (by decide), (hc.2.2.1 j hj).2, gSt_ok (6 * j + sZ a j) (g_x6 j (sZ a j)) (by omega) (by decide), nar_c hc5, gLd_ok j rfl (by omega) (by decide), gSt_ok j rfl (by omega) (by decide), gBd_s, if_neg (show ¬ (1 : Int32) = 0 by decide)]
            show some ((1 : Int32), sA _ 3 (upd (σ.2 3) j (σ.2 3 j + 1))) = _
            rw [(hc.2.2.1 j hj).2, nI_1]
          · rw [if_neg e2, gLd_ok (σ := τ) (k := 2) j rfl (by omega) (by decide), (hm.2.2.1 j hj).2, gSt_ok (6 * j + sZ a j) (g_6x j (sZ a j)) (by omega) (by decide), gLd_ok j rfl (by omega) (by decide), gSt_ok j rfl (by omega) (by decide)]
            show some ((1 : Int32), sA _ 2 (upd (τ.2 2) j (τ.2 2 j + 1))) = _
            rw [(hm.2.2.1 j hj).2, nI_1]
      · refine ⟨a, ha, 0, σ, τ, by rw [r_prtN σ h, gBd_s, if_pos rfl], ?_, hc, hm⟩
        rcases h with h | ⟨h1, h2⟩
        · rw [if_pos h]
        · rw [if_neg h1, if_pos h2]
    · exact ⟨a, ha, 0, σ, τ, by rw [if_pos (by simp [hk, bI])], by rw [if_neg (n2 z1 hk)], hc, hm⟩
  · exact ⟨a, ha, 0, σ, τ, by rw [r_textN hc hx, gBd_s, if_pos rfl], by rw [r_objN hm.1 hx, gBd_s, if_pos rfl], hc, hm⟩
