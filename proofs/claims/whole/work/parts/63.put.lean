/-- a slot set: its content and its value -/
def aSet (a : aS) (k c : Nat) (v : Int32) : aS := (sN a, sK a, sZ a, fun p => if p = k then c else sC a p, fun p => if p = k then v else sV a p, sT a, sP a, sU a)
theorem ix_inj {j i j' i' : Nat} (hi : i < 4) (hi' : i' < 4) (h : 4 * j + i = 4 * j' + i') : j = j' ∧ i = i' := by omega
theorem ok_set {a : aS} (ha : okA a) {k c : Nat} {v : Int32} (h : c ≤ 2 ∧ (c = 0 → v = 0) ∧ (c = 2 → ∃ y, y < sN a ∧ v = nI y)) : okA (aSet a k c v) := by
  refine ⟨ha.1, ha.2.1, ha.2.2.1, fun j i hj hk hi => ?_, ha.2.2.2.2.1, ha.2.2.2.2.2⟩
  have h0 := ha.2.2.2.1 j i hj hk hi
  show (if 4 * j + i = k then c else sC a (4 * j + i)) ≤ 2 ∧ ((if 4 * j + i = k then c else sC a (4 * j + i)) = 0 → (if 4 * j + i = k then v else sV a (4 * j + i)) = 0) ∧ ((if 4 * j + i = k then c else sC a (4 * j + i)) = 2 → ∃ y, y < sN a ∧ (if 4 * j + i = k then v else sV a (4 * j + i)) = nI y)
  by_cases he : 4 * j + i = k
  · rw [if_pos he, if_pos he]; exact h
  · rw [if_neg he, if_neg he]; exact h0
theorem c_set {σ : gS} {a : aS} (hc : absC σ a) {k c : Nat} {v : Int32} : absC (sA (sA σ 4 (upd (σ.2 4) k (nI c))) 5 (upd (σ.2 5) k v)) (aSet a k c v) := by
  refine ⟨hc.1, hc.2.1, hc.2.2.1, fun j i hj hk hi => ?_, hc.2.2.2.2.1, hc.2.2.2.2.2.1, hc.2.2.2.2.2.2⟩
  have h0 := hc.2.2.2.1 j i hj hk hi
  show upd (σ.2 4) k (nI c) (4 * j + i) = nI (if 4 * j + i = k then c else sC a (4 * j + i)) ∧ upd (σ.2 5) k v (4 * j + i) = if 4 * j + i = k then v else sV a (4 * j + i)
  unfold upd
  by_cases he : 4 * j + i = k
  · rw [if_pos he, if_pos he, if_pos he, if_pos he]; exact ⟨rfl, rfl⟩
  · rw [if_neg he, if_neg he, if_neg he, if_neg he]; exact h0
theorem m_set {τ : gS} {a : aS} (hm : absM τ a) {k c : Nat} {v w : Int32} (hw : c ≠ 0 → w = v) : absM (sA (sA τ 3 (upd (τ.2 3) k (nI c))) 4 (upd (τ.2 4) k w)) (aSet a k c v) := by
  refine ⟨hm.1, hm.2.1, hm.2.2.1, fun j i hj hk hi => ?_, hm.2.2.2.2.1, hm.2.2.2.2.2.1, hm.2.2.2.2.2.2⟩
  have h0 := hm.2.2.2.1 j i hj hk hi
  show upd (τ.2 3) k (nI c) (4 * j + i) = nI (if 4 * j + i = k then c else sC a (4 * j + i)) ∧ ((if 4 * j + i = k then c else sC a (4 * j + i)) ≠ 0 → upd (τ.2 4) k w (4 * j + i) = if 4 * j + i = k then v else sV a (4 * j + i))
  unfold upd
  by_cases he : 4 * j + i = k
  · rw [if_pos he, if_pos he, if_pos he, if_pos he]; exact ⟨rfl, hw⟩
  · rw [if_neg he, if_neg he, if_neg he, if_neg he]; exact h0
theorem u_put {σ τ : gS} {a : aS} (ha : okA a) (hc : absC σ a) (hm : absM τ a) (x k v : Int32) : ∃ a', okA a' ∧ sameR a' (f_O_put σ x k v) (f_M_put τ x k v) := by
  have h16 := ha.1
  unfold f_O_put f_M_put
  rcases d_slot ha x k with ⟨j, i, hj, hk, hi, rfl, rfl⟩ | h
  · have z3 := (okA_K ha hj).2.2 hk
    refine ⟨aSet a (4 * j + i) 1 v, ok_set ha ⟨by decide, fun h => absurd h (by decide), fun h => absurd h (by decide)⟩, 1, _, _, ?_, ?_, c_set hc, m_set hm (fun _ => rfl)⟩
    · rw [r_slot ha hc hj hk hi, gBd_s, if_neg (by decide), p_setSlot σ (i := i) (by omega) (by omega) rfl, gBd_s]
      rfl
    · rw [r_mslot ha hm hj hk hi, gBd_s, if_neg (by decide), gSt_ok (4 * j + i) (g_4x j i) (by omega) (by decide), gSt_ok (4 * j + i) (g_4x j i) (by omega) (by decide)]
      rfl
  · exact ⟨a, ha, 0, σ, τ, by rw [r_slotN ha hc h, gBd_s, if_pos rfl], by rw [r_mslotN ha hm h, gBd_s, if_pos rfl], hc, hm⟩
