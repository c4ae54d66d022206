def isS (a : aS) (x k : Int32) : Prop := ∃ j i : Nat, j < sN a ∧ sK a j ≠ 2 ∧ i < sZ a j ∧ x = nI j ∧ k = nI i
def noS (a : aS) (x k : Int32) : Prop := (x < 0 ∨ nI (sN a) ≤ x) ∨ ∃ j : Nat, j < sN a ∧ x = nI j ∧ (sK a j = 2 ∨ (k < 0 ∨ nI (sZ a j) ≤ k))
theorem okA_K {a : aS} (ha : okA a) {j : Nat} (hj : j < sN a) : sK a j ≤ 2 ∧ sZ a j ≤ 6 ∧ (sK a j ≠ 2 → sZ a j ≤ 4) := by
  rcases ha.2.2.1 j hj with ⟨h1, h2⟩ | ⟨h1, h2⟩ | ⟨h1, h2⟩
  · omega
  · omega
  · exact ⟨by omega, h2, fun h => absurd h1 h⟩
theorem d_slot {a : aS} (ha : okA a) (x k : Int32) : isS a x k ∨ noS a x k := by
  have h16 := ha.1
  rcases isJ_or (sN a) (by omega) x with ⟨j, hj, rfl⟩ | h
  · by_cases hk : sK a j = 2
    · exact Or.inr (Or.inr ⟨j, hj, rfl, Or.inl hk⟩)
    · have hz := okA_K ha hj
      rcases isJ_or (sZ a j) (by omega) k with ⟨i, hi, rfl⟩ | h
      · exact Or.inl ⟨j, i, hj, hk, hi, rfl, rfl⟩
      · exact Or.inr (Or.inr ⟨j, hj, rfl, Or.inr h⟩)
  · exact Or.inr (Or.inl h)
theorem n2 {k : Nat} (h : k ≤ 2) (hk : k ≠ 2) : ¬ nI k = 2 := fun q => hk ((nI_eq (a := k) (b := 2) (by omega) (by decide)).mp q)
theorem r_slot {σ : gS} {a : aS} (ha : okA a) (hc : absC σ a) {j i : Nat} (hj : j < sN a) (hk : sK a j ≠ 2) (hi : i < sZ a j) : f_G_hasSlot σ (nI j) (nI i) = some (1, σ) := by
  have h16 := ha.1
  obtain ⟨z1, z2, z3⟩ := okA_K ha hj
  unfold f_G_hasSlot
  rw [r_has hc.1 h16 hj, gBd_s, if_neg (by decide), gLd_ok j rfl (by omega) (by decide), (hc.2.2.1 j hj).1, if_neg (n2 z1 hk), if_neg (nI_pos (by omega)), gLd_ok j rfl (by omega) (by decide), (hc.2.2.1 j hj).2, if_neg (nI_ge hi (by omega))]
theorem r_slotN {σ : gS} {a : aS} (ha : okA a) (hc : absC σ a) {x k : Int32} (h : noS a x k) : f_G_hasSlot σ x k = some (0, σ) := by
  have h16 := ha.1
  unfold f_G_hasSlot
  rcases h with h | ⟨j, hj, rfl, h⟩
  · rw [r_hasN hc.1 h, gBd_s, if_pos rfl]
  · obtain ⟨z1, z2, z3⟩ := okA_K ha hj
    rw [r_has hc.1 h16 hj, gBd_s, if_neg (by decide), gLd_ok j rfl (by omega) (by decide), (hc.2.2.1 j hj).1]
    by_cases hk : sK a j = 2
    · rw [hk, if_pos (by decide)]
    · rw [if_neg (n2 z1 hk)]
      have h := h.resolve_left hk
      by_cases h0 : k < 0
      · rw [if_pos h0]
      · rw [if_neg h0, gLd_ok j rfl (by omega) (by decide), (hc.2.2.1 j hj).2, if_pos (h.resolve_left h0)]
theorem r_mslot {σ : gS} {a : aS} (ha : okA a) (hc : absM σ a) {j i : Nat} (hj : j < sN a) (hk : sK a j ≠ 2) (hi : i < sZ a j) : f_M_slotThere σ (nI j) (nI i) = some (1, σ) := by
  have h16 := ha.1
  obtain ⟨z1, z2, z3⟩ := okA_K ha hj
  unfold f_M_slotThere
  rw [r_obj hc.1 h16 hj, gBd_s, if_neg (by decide), gLd_ok j rfl (by omega) (by decide), (hc.2.2.1 j hj).1, if_neg (n2 z1 hk), if_neg (nI_pos (by omega)), gLd_ok j rfl (by omega) (by decide), (hc.2.2.1 j hj).2, if_neg (nI_ge hi (by omega))]
theorem r_mslotN {σ : gS} {a : aS} (ha : okA a) (hc : absM σ a) {x k : Int32} (h : noS a x k) : f_M_slotThere σ x k = some (0, σ) := by
  have h16 := ha.1
  unfold f_M_slotThere
  rcases h with h | ⟨j, hj, rfl, h⟩
  · rw [r_objN hc.1 h, gBd_s, if_pos rfl]
  · obtain ⟨z1, z2, z3⟩ := okA_K ha hj
    rw [r_obj hc.1 h16 hj, gBd_s, if_neg (by decide), gLd_ok j rfl (by omega) (by decide), (hc.2.2.1 j hj).1]
    by_cases hk : sK a j = 2
    · rw [hk, if_pos (by decide)]
    · rw [if_neg (n2 z1 hk)]
      have h := h.resolve_left hk
      by_cases h0 : k < 0
      · rw [if_pos h0]
      · rw [if_neg h0, gLd_ok j rfl (by omega) (by decide), (hc.2.2.1 j hj).2, if_pos (h.resolve_left h0)]
theorem r_content {σ : gS} {j i : Nat} (hj : j < 16) (hi : i < 4) : f_G_contentOf σ (nI j) (nI i) = some (σ.2 4 (4 * j + i), σ) := by
  unfold f_G_contentOf
  rw [gLd_ok (4 * j + i) (g_x4 j i) (by omega) (by decide)]
theorem r_value {σ : gS} {j i : Nat} (hj : j < 16) (hi : i < 4) : f_G_valueOf σ (nI j) (nI i) = some (σ.2 5 (4 * j + i), σ) := by
  unfold f_G_valueOf
  rw [gLd_ok (4 * j + i) (g_x4 j i) (by omega) (by decide)]
theorem u_holds {σ τ : gS} {a : aS} (ha : okA a) (hc : absC σ a) (hm : absM τ a) (x k : Int32) : sameR a (f_O_holds σ x k) (f_M_holds τ x k) := by
  have h16 := ha.1
  unfold f_O_holds f_M_holds
  rcases d_slot ha x k with ⟨j, i, hj, hk, hi, rfl, rfl⟩ | h
  · have z3 := (okA_K ha hj).2.2 hk
    exact ⟨nI (sC a (4 * j + i)), σ, τ, by rw [r_slot ha hc hj hk hi, gBd_s, if_neg (by decide), r_content (by omega) (by omega), gBd_s, (hc.2.2.2.1 j i hj hk hi).1], by rw [r_mslot ha hm hj hk hi, gBd_s, if_neg (by decide), gLd_ok (4 * j + i) (g_4x j i) (by omega) (by decide), (hm.2.2.2.1 j i hj hk hi).1], hc, hm⟩
  · exact ⟨-1, σ, τ, by rw [r_slotN ha hc h, gBd_s, if_pos rfl], by rw [r_mslotN ha hm h, gBd_s, if_pos rfl], hc, hm⟩
/-- clear -/
def aClear (a : aS) : aS := (0, sK a, sZ a, sC a, sV a, sT a, sP a, sU a)
theorem ok_clear {a : aS} (ha : okA a) : okA (aClear a) := ⟨Nat.zero_le _, ha.2.1, fun j hj => absurd hj (Nat.not_lt_zero j), fun j i hj => absurd hj (Nat.not_lt_zero j), fun j i hj => absurd hj (Nat.not_lt_zero j), ha.2.2.2.2.2⟩
theorem u_clear {σ τ : gS} {a : aS} (hc : absC σ a) (hm : absM τ a) : sameR (aClear a) (f_O_clear σ) (f_M_clear τ) := by
  refine ⟨0, sI σ 0 0, sI τ 0 0, rfl, rfl, ⟨rfl, hc.2.1, fun j hj => absurd hj (Nat.not_lt_zero j), fun j i hj => absurd hj (Nat.not_lt_zero j), fun j i hj => absurd hj (Nat.not_lt_zero j), hc.2.2.2.2.2.1, hc.2.2.2.2.2.2⟩, ⟨rfl, hm.2.1, fun j hj => absurd hj (Nat.not_lt_zero j), fun j i hj => absurd hj (Nat.not_lt_zero j), fun j i hj => absurd hj (Nat.not_lt_zero j), hm.2.2.2.2.2.1, hm.2.2.2.2.2.2⟩⟩
