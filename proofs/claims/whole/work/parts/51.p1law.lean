theorem gLx_ok {β : Type} {xs : Nat → Int32} {L : Nat} {i : Int32} {K : Int32 → Option β} (j : Nat) (hi : i = nI j) (hj : j < L) (hL : L < 2 ^ 31) : gLx xs L i K = K (xs j) := by
  subst hi
  unfold gLx
  rw [if_neg (show ¬ (nI j < 0 ∨ L ≤ (nI j).toNatClampNeg) from vp_in_nI hj hL), nI_clamp (by omega)]
theorem l_end (xs : Nat → Int32) (σ τ : gS) : Rl_ xs 4 3 2 0 σ τ = some 1 := by
  show Bl_2 (Rl_ xs 4 2) 0 σ τ = _
  unfold Bl_2
  show Bl_1 xs 4 (Rl_ xs 4 1) (0 + 4) σ τ = _
  unfold Bl_1
  rw [if_pos (by decide)]
theorem l_cmp {xs : Nat → Int32} {f g : Option (Int32 × gS)} (h : same f g) : gBd f (fun r σ => gBd g (fun r2 τ => if r = r2 then Rl_ xs 4 3 2 0 σ τ else some 0)) = some 1 := by
  obtain ⟨r, σ, τ, h1, h2⟩ := h
  rw [h1, h2, gBd_s, gBd_s, if_pos rfl]
  exact l_end xs σ τ
theorem gls1 {β : Type} {xs : Nat → Int32} {K : Int32 → Option β} : gLx xs 4 (0 + 1) K = K (xs 1) := gLx_ok 1 (by decide) (by decide) (by decide)
theorem gls2 {β : Type} {xs : Nat → Int32} {K : Int32 → Option β} : gLx xs 4 (0 + 2) K = K (xs 2) := gLx_ok 2 (by decide) (by decide) (by decide)
theorem gls3 {β : Type} {xs : Nat → Int32} {K : Int32 → Option β} : gLx xs 4 (0 + 3) K = K (xs 3) := gLx_ok 3 (by decide) (by decide) (by decide)
set_option maxHeartbeats 4000000 in
theorem p1_pure (xs : Nat → Int32) (L : Nat) (hL : L ≤ 4) : Rl_ xs L 4 1 0 z0 z0 = some 1 := by
  show Bl_1 xs L (Rl_ xs L 3) 0 z0 z0 = some 1
  unfold Bl_1
  by_cases h4 : L = 4
  · subst h4
    rw [if_neg (by decide), gLx_ok 0 (show (0 : Int32) = nI 0 from rfl) (by decide) (by decide)]
    by_cases c0 : xs 0 &&& 31 = 0
    · rw [if_pos c0]
      simp only [gls1, gls2, gls3]
      exact l_cmp (q_make _ _)
    rw [if_neg c0]
    by_cases c1 : xs 0 &&& 31 = 1
    · rw [if_pos c1]
      simp only [gls1, gls2, gls3]
      exact l_cmp (q_type _ _)
    rw [if_neg c1]
    by_cases c2 : xs 0 &&& 31 = 2
    · rw [if_pos c2]
      simp only [gls1, gls2, gls3]
      exact l_cmp (q_put _ _ _)
    rw [if_neg c2]
    by_cases c3 : xs 0 &&& 31 = 3
    · rw [if_pos c3]
      simp only [gls1, gls2, gls3]
      exact l_cmp (q_link _ _ _)
    rw [if_neg c3]
    by_cases c4 : xs 0 &&& 31 = 4
    · rw [if_pos c4]
      exact l_cmp q_objects
    rw [if_neg c4]
    by_cases c5 : xs 0 &&& 31 = 5
    · rw [if_pos c5]
      simp only [gls1, gls2, gls3]
      exact l_cmp (q_kind _)
    rw [if_neg c5]
    by_cases c6 : xs 0 &&& 31 = 6
    · rw [if_pos c6]
      simp only [gls1, gls2, gls3]
      exact l_cmp (q_size _)
    rw [if_neg c6]
    by_cases c7 : xs 0 &&& 31 = 7
    · rw [if_pos c7]
      simp only [gls1, gls2, gls3]
      exact l_cmp (q_holds _ _)
    rw [if_neg c7]
    by_cases c8 : xs 0 &&& 31 = 8
    · rw [if_pos c8]
      simp only [gls1, gls2, gls3]
      exact l_cmp (q_value _ _)
    rw [if_neg c8]
    by_cases c9 : xs 0 &&& 31 = 9
    · rw [if_pos c9]
      simp only [gls1, gls2, gls3]
      exact l_cmp (q_alike _ _)
    rw [if_neg c9]
    by_cases c10 : xs 0 &&& 31 = 10
    · rw [if_pos c10]
      simp only [gls1, gls2, gls3]
      exact l_cmp (q_shared _)
    rw [if_neg c10]
    by_cases c11 : xs 0 &&& 31 = 11
    · rw [if_pos c11]
      simp only [gls1, gls2, gls3]
      exact l_cmp (q_encode _)
    rw [if_neg c11]
    by_cases c12 : xs 0 &&& 31 = 12
    · rw [if_pos c12]
      exact l_cmp q_decode
    rw [if_neg c12]
    by_cases c13 : xs 0 &&& 31 = 13
    · rw [if_pos c13]
      exact l_end xs (sI z0 0 0) (sI z0 0 0)
    rw [if_neg c13]
    by_cases c14 : xs 0 &&& 31 = 14
    · rw [if_pos c14]
      simp only [gls1, gls2, gls3]
      by_cases h2 : xs 2 = 0
      · simp only [if_pos h2]
        exact l_cmp (q_understand _ _)
      · simp only [if_neg h2]
        exact l_cmp (q_understand _ _)
    rw [if_neg c14]
    by_cases c15 : xs 0 &&& 31 = 15
    · rw [if_pos c15]
      exact l_cmp q_length
    rw [if_neg c15]
    by_cases c16 : xs 0 &&& 31 = 16
    · rw [if_pos c16]
      simp only [gls1, gls2, gls3]
      exact l_cmp (q_charAt _)
    rw [if_neg c16]
    by_cases c17 : xs 0 &&& 31 = 17
    · rw [if_pos c17]
      simp only [gls1, gls2, gls3]
      exact l_cmp (q_feed _)
    rw [if_neg c17]
    by_cases c18 : xs 0 &&& 31 = 18
    · rw [if_pos c18]
      simp only [gls1, gls2, gls3]
      exact l_cmp (q_alter _ _)
    rw [if_neg c18]
    by_cases c19 : xs 0 &&& 31 = 19
    · rw [if_pos c19]
      simp only [gls1, gls2, gls3]
      exact l_cmp (q_cut _)
    rw [if_neg c19]
    exact l_end xs z0 z0
  · have h5 : (Int32.ofNat L - 4) < 0 := pk_sneg (a := L) (b := 4) (by decide) (by omega)
    rw [if_pos h5]
