def aMk (a : aS) (w z : Nat) : aS := (sN a + 1, fun p => if p = sN a then w else sK a p, fun p => if p = sN a then z else sZ a p, fun p => if 4 * sN a ≤ p ∧ p < 4 * sN a + 4 then 0 else sC a p, fun p => if 4 * sN a ≤ p ∧ p < 4 * sN a + 4 then 0 else sV a p, sT a, sP a, sU a)
theorem mk_K {a : aS} {w z p : Nat} : sK (aMk a w z) p = if p = sN a then w else sK a p := rfl
theorem mk_Z {a : aS} {w z p : Nat} : sZ (aMk a w z) p = if p = sN a then z else sZ a p := rfl
theorem mk_C {a : aS} {w z p : Nat} : sC (aMk a w z) p = if 4 * sN a ≤ p ∧ p < 4 * sN a + 4 then 0 else sC a p := rfl
theorem mk_V {a : aS} {w z p : Nat} : sV (aMk a w z) p = if 4 * sN a ≤ p ∧ p < 4 * sN a + 4 then 0 else sV a p := rfl
theorem gLay_at (C : Nat → Int32) (n p : Nat) : gLay C n p = if 4 * n ≤ p ∧ p < 4 * n + 4 then 0 else C p := by
  unfold gLay upd
  by_cases h3 : p = 4 * n + 3
  · rw [if_pos h3, if_pos (by omega)]
  · rw [if_neg h3]
    by_cases h2 : p = 4 * n + 2
    · rw [if_pos h2, if_pos (by omega)]
    · rw [if_neg h2]
      by_cases h1 : p = 4 * n + 1
      · rw [if_pos h1, if_pos (by omega)]
      · rw [if_neg h1]
        by_cases h0 : p = 4 * n + 0
        · rw [if_pos h0, if_pos (by omega)]
        · rw [if_neg h0, if_neg (by omega)]
def goodMk (w z : Nat) : Prop := (w = 0 ∧ z = 2) ∨ (w = 1 ∧ z ≤ 4) ∨ (w = 2 ∧ z = 0)
theorem ok_mk {a : aS} (ha : okA a) {w z : Nat} (hn : sN a < 16) (h : goodMk w z) : okA (aMk a w z) := by
  refine ⟨(show sN a + 1 ≤ 16 by omega), ha.2.1, fun p hp => ?_, fun p i hp hk hi => ?_, fun p i hp hk hi => ?_, ha.2.2.2.2.2⟩
  · have hp : p < sN a + 1 := hp
    rw [mk_K, mk_Z]
    by_cases he : p = sN a
    · rw [if_pos he, if_pos he]
      rcases h with h | h | h
      · exact Or.inl h
      · exact Or.inr (Or.inl h)
      · exact Or.inr (Or.inr ⟨h.1, by omega⟩)
    · rw [if_neg he, if_neg he]
      exact ha.2.2.1 p (by omega)
  · have hp : p < sN a + 1 := hp
    rw [mk_K] at hk
    rw [mk_Z] at hi
    rw [mk_C, mk_V]
    by_cases he : p = sN a
    · subst he
      rw [if_pos rfl] at hi hk
      have hi4 : i < 4 := by rcases h with h | h | h <;> omega
      rw [if_pos (by omega), if_pos (by omega)]
      exact ⟨by decide, fun _ => rfl, fun h => absurd h (by decide)⟩
    · rw [if_neg he] at hi hk
      have z3 := (okA_K ha (show p < sN a by omega)).2.2 hk
      rw [if_neg (by omega), if_neg (by omega)]
      obtain ⟨q1, q2, q3⟩ := ha.2.2.2.1 p i (by omega) hk hi
      exact ⟨q1, q2, fun hh => by obtain ⟨y, hy, e⟩ := q3 hh; exact ⟨y, (show y < sN a + 1 by omega), e⟩⟩
  · have hp : p < sN a + 1 := hp
    rw [mk_K] at hk
    rw [mk_Z] at hi
    by_cases he : p = sN a
    · rw [if_pos he] at hi hk
      rcases h with h | h | h <;> omega
    · rw [if_neg he] at hi hk
      exact ha.2.2.2.2.1 p i (by omega) hk hi
theorem c_mk {σ : gS} {a : aS} (ha : okA a) (hc : absC σ a) {w z : Nat} (h : goodMk w z) : absC (sI (layS σ (sN a) (nI w) (nI z)) 0 (nI (sN a + 1))) (aMk a w z) := by
  refine ⟨rfl, hc.2.1, fun p hp => ?_, fun p i hp hk hi => ?_, fun p i hp hk hi => ?_, hc.2.2.2.2.2.1, hc.2.2.2.2.2.2⟩
  · have hp : p < sN a + 1 := hp
    rw [mk_K, mk_Z]
    show upd (σ.2 2) (sN a) (nI w) p = _ ∧ upd (σ.2 3) (sN a) (nI z) p = _
    unfold upd
    by_cases he : p = sN a
    · rw [if_pos he, if_pos he, if_pos he, if_pos he]; exact ⟨rfl, rfl⟩
    · rw [if_neg he, if_neg he, if_neg he, if_neg he]; exact hc.2.2.1 p (by omega)
  · have hp : p < sN a + 1 := hp
    rw [mk_K] at hk
    rw [mk_Z] at hi
    rw [mk_C, mk_V]
    show gLay (σ.2 4) (sN a) (4 * p + i) = _ ∧ gLay (σ.2 5) (sN a) (4 * p + i) = _
    rw [gLay_at, gLay_at]
    by_cases he : p = sN a
    · subst he
      rw [if_pos rfl] at hi hk
      have hi4 : i < 4 := by rcases h with h | h | h <;> omega
      rw [if_pos (by omega), if_pos (by omega), if_pos (by omega), if_pos (by omega)]
      exact ⟨rfl, rfl⟩
    · rw [if_neg he] at hi hk
      have z3 := (okA_K ha (show p < sN a by omega)).2.2 hk
      rw [if_neg (by omega), if_neg (by omega), if_neg (by omega), if_neg (by omega)]
      exact hc.2.2.2.1 p i (by omega) hk hi
  · have hp : p < sN a + 1 := hp
    rw [mk_K] at hk
    rw [mk_Z] at hi
    by_cases he : p = sN a
    · rw [if_pos he] at hi hk
      rcases h with h | h | h <;> omega
    · rw [if_neg he] at hi hk
      exact hc.2.2.2.2.1 p i (by omega) hk hi
/-- the reference's store of a new object, and what it leaves -/
theorem p_M2f (τ : gS) {n : Nat} (h0 : τ.1 0 = nI n) (hn : n < 16) (t : Nat) (z : Int32) : ∃ τ' : gS, R_M_make (t + 8) 2 [nI n, z] τ = some (nI n, τ') ∧ τ'.1 0 = nI (n + 1) ∧ τ'.1 1 = τ.1 1 ∧ τ'.2 1 = τ.2 1 ∧ τ'.2 2 = upd (τ.2 2) n z ∧ τ'.2 3 = gLay (τ.2 3) n ∧ τ'.2 4 = τ.2 4 ∧ τ'.2 5 = τ.2 5 ∧ τ'.2 6 = τ.2 6 ∧ τ'.2 7 = τ.2 7 := by
  rw [show R_M_make (t + 8) 2 [nI n, z] τ = B_M_make_2 (R_M_make (t + 7)) (nI n) z τ from rfl]
  unfold B_M_make_2
  rw [gSt_ok n rfl hn (by decide)]
  rw [show ∀ σ, R_M_make (t + 7) 3 [0] σ = B_M_make_3 (R_M_make (t + 6)) 0 σ from fun _ => rfl, p_M3 (n := n) (i := 0) _ (by exact h0) hn (by decide) _ (by decide)]
  rw [show ∀ σ, R_M_make (t + 6) 3 [0 + 1] σ = B_M_make_3 (R_M_make (t + 5)) (0 + 1) σ from fun _ => rfl, p_M3 (n := n) (i := 1) _ (by exact h0) hn (by decide) _ (by decide)]
  rw [show ∀ σ, R_M_make (t + 5) 3 [0 + 1 + 1] σ = B_M_make_3 (R_M_make (t + 4)) (0 + 1 + 1) σ from fun _ => rfl, p_M3 (n := n) (i := 2) _ (by exact h0) hn (by decide) _ (by decide)]
  rw [show ∀ σ, R_M_make (t + 4) 3 [0 + 1 + 1 + 1] σ = B_M_make_3 (R_M_make (t + 3)) (0 + 1 + 1 + 1) σ from fun _ => rfl, p_M3 (n := n) (i := 3) _ (by exact h0) hn (by decide) _ (by decide)]
  rw [show ∀ σ, R_M_make (t + 3) 3 [0 + 1 + 1 + 1 + 1] σ = B_M_make_3 (R_M_make (t + 2)) (0 + 1 + 1 + 1 + 1) σ from fun _ => rfl]
  unfold B_M_make_3
  rw [if_pos (by decide), gPut_s]
  exact ⟨_, p_M3e _ h0, rfl, rfl, rfl, rfl, rfl, rfl, rfl, rfl, rfl⟩
