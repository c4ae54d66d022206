theorem r_text {σ : gS} {a : aS} (ha : okA a) (hc : absC σ a) {j : Nat} (hj : j < sN a) : f_G_isText σ (nI j) = some (bI (decide (sK a j = 2)), σ) := by
  have h16 := ha.1
  obtain ⟨z1, z2, z3⟩ := okA_K ha hj
  unfold f_G_isText
  rw [r_has hc.1 h16 hj, gBd_s, if_neg (by decide), gLd_ok j rfl (by omega) (by decide), (hc.2.2.1 j hj).1]
  by_cases hk : sK a j = 2
  · rw [hk, if_pos (by decide)]; rfl
  · rw [if_neg (n2 z1 hk)]; simp [hk, bI]
theorem r_textN {σ : gS} {a : aS} (hc : absC σ a) {x : Int32} (h : x < 0 ∨ nI (sN a) ≤ x) : f_G_isText σ x = some (0, σ) := by
  unfold f_G_isText
  rw [r_hasN hc.1 h, gBd_s, if_pos rfl]
theorem u_link {σ τ : gS} {a : aS} (ha : okA a) (hc : absC σ a) (hm : absM τ a) (x k y : Int32) : ∃ a', okA a' ∧ sameR a' (f_O_link σ x k y) (f_M_link τ x k y) := by
  have h16 := ha.1
  unfold f_O_link f_M_link
  rw [gF]
  rw [show R_M_link (99980 + 20) 0 [x, k, y] τ = B_M_link_0 (R_M_link (99980 + 19)) x k y τ from rfl]
  unfold B_M_link_0
  rcases d_slot ha x k with ⟨j, i, hj, hk, hi, rfl, rfl⟩ | h
  · have z3 := (okA_K ha hj).2.2 hk
    rw [r_slot ha hc hj hk hi, r_mslot ha hm hj hk hi, gBd_s, gBd_s, if_neg (show ¬ (1 : Int32) = 0 by decide), if_neg (show ¬ (1 : Int32) = 0 by decide)]
    have hb : ∀ (w : Int32) (c : Nat), (y = -1 → c = 0) → (y ≠ -1 → c = 2) → R_M_link (99980 + 19) 1 [nI j, nI i, y] τ = some (1, sA (sA τ 3 (upd (τ.2 3) (4 * j + i) (nI c))) 4 (upd (τ.2 4) (4 * j + i) y)) := by
      intro w c h1 h2
      rw [show R_M_link (99980 + 19) 1 [nI j, nI i, y] τ = B_M_link_1 (R_M_link (99980 + 18)) (nI j) (nI i) y τ from rfl]
      unfold B_M_link_1
      by_cases hy : y = -1
      · rw [if_pos hy, h1 hy]
        rw [show R_M_link (99980 + 18) 2 [nI j, nI i, y, 4 * nI j + nI i, 0] τ = B_M_link_2 (R_M_link (99980 + 17)) (nI j) (nI i) y (4 * nI j + nI i) 0 τ from rfl]
        unfold B_M_link_2
        rw [gSt_ok (4 * j + i) (g_4x j i) (by omega) (by decide), gSt_ok (4 * j + i) (g_4x j i) (by omega) (by decide)]
        rfl
      · rw [if_neg hy, h2 hy]
        rw [show R_M_link (99980 + 18) 2 [nI j, nI i, y, 4 * nI j + nI i, 2] τ = B_M_link_2 (R_M_link (99980 + 17)) (nI j) (nI i) y (4 * nI j + nI i) 2 τ from rfl]
        unfold B_M_link_2
        rw [gSt_ok (4 * j + i) (g_4x j i) (by omega) (by decide), gSt_ok (4 * j + i) (g_4x j i) (by omega) (by decide)]
        rfl
    by_cases hy : y = -1
    · refine ⟨aSet a (4 * j + i) 0 0, ok_set ha ⟨by decide, fun _ => rfl, fun h => absurd h (by decide)⟩, 1, _, _, ?_, ?_, c_set hc, m_set (w := y) hm (fun h => absurd rfl h)⟩
      · rw [if_pos hy, p_setSlot σ (i := i) (by omega) (by omega) rfl, gBd_s]
        rfl
      · rw [if_pos hy]
        exact hb 0 0 (fun _ => rfl) (fun h => absurd hy h)
    · rw [if_neg hy, if_neg hy]
      rcases isJ_or (sN a) (by omega) y with ⟨q, hq, hyq⟩ | h
      · refine ⟨aSet a (4 * j + i) 2 y, ok_set ha ⟨by decide, fun h => absurd h (by decide), fun _ => ⟨q, hq, hyq⟩⟩, 1, _, _, ?_, ?_, c_set hc, m_set hm (fun _ => rfl)⟩
        · rw [hyq, r_has hc.1 h16 hq, gBd_s, if_neg (by decide), p_setSlot σ (i := i) (by omega) (by omega) rfl, gBd_s]
          rfl
        · have hb2 := hb 0 2 (fun h => absurd h hy) (fun _ => rfl)
          rw [hyq] at hb2 ⊢
          rw [r_obj hm.1 h16 hq, gBd_s, if_neg (by decide)]
          exact hb2
      · exact ⟨a, ha, 0, σ, τ, by rw [r_hasN hc.1 h, gBd_s, if_pos rfl], by rw [r_objN hm.1 h, gBd_s, if_pos rfl], hc, hm⟩
  · exact ⟨a, ha, 0, σ, τ, by rw [r_slotN ha hc h, gBd_s, if_pos rfl], by rw [r_mslotN ha hm h, gBd_s, if_pos rfl], hc, hm⟩
theorem chr_nar {c : Nat} (h : prtN c) : narrow .char (.int (nI c)) = .int (nI c) := (pk_charN (by have := h.2; omega)).1
theorem r_chr {σ : gS} {a : aS} (ha : okA a) (hc : absC σ a) {j i : Nat} (hj : j < sN a) (hk : sK a j = 2) (hi : i < sZ a j) : f_G_characterOf σ (nI j) (nI i) = some (nI (sT a (6 * j + i)), σ) := by
  have h16 := ha.1
  obtain ⟨z1, z2, z3⟩ := okA_K ha hj
  unfold f_G_characterOf
  rw [gLd_ok (6 * j + i) (g_x6 j i) (by omega) (by decide), hc.2.2.2.2.1 j i hj hk hi]
  unfold gNr
  rw [if_pos (chr_nar (ha.2.2.2.2.1 j i hj hk hi))]
theorem mv1 {τ : gS} {a : aS} (ha : okA a) (hm : absM τ a) {x k : Int32} (h : noS a x k) (t : Nat) : R_M_value (t + 1) 1 [x, k] τ = some (0, τ) := by
  show B_M_value_1 (R_M_value t) x k τ = _
  unfold B_M_value_1
  rw [r_mslotN ha hm h, gBd_s, if_pos rfl]
theorem u_value {σ τ : gS} {a : aS} (ha : okA a) (hc : absC σ a) (hm : absM τ a) (x k : Int32) : sameR a (f_O_value σ x k) (f_M_value τ x k) := by
  have h16 := ha.1
  unfold f_O_value f_M_value
  rw [gF]
  rw [show R_M_value (99980 + 20) 0 [x, k] τ = B_M_value_0 (R_M_value (99980 + 19)) x k τ from rfl]
  unfold B_M_value_0
  rcases d_slot ha x k with ⟨j, i, hj, hk, hi, rfl, rfl⟩ | h
  · obtain ⟨z1, z2, z3⟩ := okA_K ha hj
    have z3 := z3 hk
    have h0 := ha.2.2.2.1 j i hj hk hi
    refine ⟨sV a (4 * j + i), σ, τ, ?_, ?_, hc, hm⟩
    · rw [r_slot ha hc hj hk hi, gBd_s, if_neg (by decide), r_value (by omega) (by omega), gBd_s, (hc.2.2.2.1 j i hj hk hi).2]
    · rw [r_obj hm.1 h16 hj, gBd_s, if_neg (by decide), gLd_ok j rfl (by omega) (by decide), (hm.2.2.1 j hj).1, if_neg (n2 z1 hk)]
      show B_M_value_1 (R_M_value (99980 + 18)) (nI j) (nI i) τ = _
      unfold B_M_value_1
      rw [r_mslot ha hm hj hk hi, gBd_s, if_neg (by decide), gLd_ok (4 * j + i) (g_4x j i) (by omega) (by decide), (hm.2.2.2.1 j i hj hk hi).1]
      by_cases hz : sC a (4 * j + i) = 0
      · rw [hz, if_pos (by decide), h0.2.1 hz]
      · rw [if_neg (show ¬ nI (sC a (4 * j + i)) = 0 from fun q => hz ((nI_eq (b := 0) (by have := h0.1; omega) (by decide)).mp q)), gLd_ok (4 * j + i) (g_4x j i) (by omega) (by decide), (hm.2.2.2.1 j i hj hk hi).2 hz]
  · rw [r_slotN ha hc h, gBd_s, if_pos rfl]
    rcases isJ_or (sN a) (by omega) x with ⟨j, hj, rfl⟩ | hx
    · obtain ⟨z1, z2, z3⟩ := okA_K ha hj
      rw [r_text ha hc hj, gBd_s, r_obj hm.1 h16 hj, gBd_s, if_neg (show ¬ (1 : Int32) = 0 by decide), gLd_ok (σ := τ) (k := 1) j rfl (by omega) (by decide), (hm.2.2.1 j hj).1]
      by_cases hk : sK a j = 2
      · rw [if_neg (by simp [hk, bI]), hk, if_pos (show nI 2 = 2 by decide)]
        rcases isJ_or (sZ a j) (by omega) k with ⟨i, hi, rfl⟩ | h2
        · have e1 : ¬ nI i < 0 := nI_pos (by omega)
          have e2 : ¬ nI (sZ a j) ≤ nI i := nI_ge hi (by omega)
          exact ⟨nI (sT a (6 * j + i)), σ, τ, by rw [if_neg e1, gLd_ok j rfl (by omega) (by decide), (hc.2.2.1 j hj).2, if_neg e2, r_chr ha hc hj hk hi, gBd_s], by rw [if_neg e1, gLd_ok j rfl (by omega) (by decide), (hm.2.2.1 j hj).2, if_neg e2, gLd_ok (6 * j + i) (g_6x j i) (by omega) (by decide), hm.2.2.2.2.1 j i hj hk hi], hc, hm⟩
        · by_cases h0 : k < 0
          · exact ⟨0, σ, τ, by rw [if_pos h0], by rw [if_pos h0], hc, hm⟩
          · have e2 := h2.resolve_left h0
            exact ⟨0, σ, τ, by rw [if_neg h0, gLd_ok j rfl (by omega) (by decide), (hc.2.2.1 j hj).2, if_pos e2], by rw [if_neg h0, gLd_ok j rfl (by omega) (by decide), (hm.2.2.1 j hj).2, if_pos e2], hc, hm⟩
      · exact ⟨0, σ, τ, by rw [if_pos (by simp [hk, bI])], by rw [if_neg (n2 z1 hk)]; exact mv1 ha hm h _, hc, hm⟩
    · exact ⟨0, σ, τ, by rw [r_textN hc hx, gBd_s, if_pos rfl], by rw [r_objN hm.1 hx, gBd_s, if_pos rfl]; exact mv1 ha hm h _, hc, hm⟩
