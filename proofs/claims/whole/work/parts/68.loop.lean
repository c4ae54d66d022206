/-- what is still wanting: the four large calls, as a hypothesis (open) -/
def big4 : Prop := ∀ (σ τ : gS) (a : aS), okA a → absC σ a → absM τ a → (∀ x y : Int32, ∃ a', okA a' ∧ sameR a' (f_O_alike σ x y) (f_M_alike τ x y)) ∧ (∀ x : Int32, ∃ a', okA a' ∧ sameR a' (f_O_shared σ x) (f_M_shared τ x)) ∧ (∀ x : Int32, ∃ a', okA a' ∧ sameR a' (f_O_encode σ x) (f_M_encode τ x)) ∧ ∃ a', okA a' ∧ sameR a' (f_O_decode σ) (f_M_decode τ)
theorem lw_cmp {f g : Option (Int32 × gS)} {K : gS → gS → Option Int32} (h : ∃ a', okA a' ∧ sameR a' f g) (hK : ∀ (a' : aS) (σ τ : gS), okA a' → absC σ a' → absM τ a' → K σ τ = some 1) : gBd f (fun r σ => gBd g (fun r2 τ => if r = r2 then K σ τ else some 0)) = some 1 := by
  obtain ⟨a', h1, r, σ, τ, e1, e2, h2, h3⟩ := h
  rw [e1, e2, gBd_s, gBd_s, if_pos rfl]
  exact hK a' σ τ h1 h2 h3
theorem lw_cmpV {f g : Option (Int32 × gS)} {K : gS → gS → Option Int32} (h : ∃ a', okA a' ∧ sameR a' f g) (hK : ∀ (a' : aS) (σ τ : gS), okA a' → absC σ a' → absM τ a' → K σ τ = some 1) : gBd f (fun _ σ => gBd g (fun _ τ => K σ τ)) = some 1 := by
  obtain ⟨a', h1, r, σ, τ, e1, e2, h2, h3⟩ := h
  rw [e1, e2, gBd_s, gBd_s]
  exact hK a' σ τ h1 h2 h3
theorem lw_step {xs : Nat → Int32} {L m : Nat} (hb : big4) (hL : L ≤ 2048) (hm : 4 * m + 4 ≤ L) (t : Nat) {σ τ : gS} {a : aS} (ha : okA a) (hc : absC σ a) (hM : absM τ a) (hK : ∀ (a' : aS) (σ τ : gS), okA a' → absC σ a' → absM τ a' → Rl_ xs L t 2 (nI (4 * m)) σ τ = some 1) : Rl_ xs L (t + 1) 1 (nI (4 * m)) σ τ = some 1 := by
  show Bl_1 xs L (Rl_ xs L t) (nI (4 * m)) σ τ = some 1
  unfold Bl_1
  have e0 : ¬ (Int32.ofNat L - 4) < nI (4 * m) := by
    rw [show (Int32.ofNat L - 4 : Int32) = nI (L - 4) from pk_sub (a := L) (b := 4) (by omega)]
    exact nI_nlt (by omega) (by omega)
  have g0 : ∀ {K : Int32 → Option Int32}, gLx xs L (nI (4 * m)) K = K (xs (4 * m)) := gLx_ok (4 * m) rfl (by omega) (by omega)
  have g1 : ∀ {K : Int32 → Option Int32}, gLx xs L (nI (4 * m) + 1) K = K (xs (4 * m + 1)) := gLx_ok (4 * m + 1) (nI_add (4 * m) 1) (by omega) (by omega)
  have g2 : ∀ {K : Int32 → Option Int32}, gLx xs L (nI (4 * m) + 2) K = K (xs (4 * m + 2)) := gLx_ok (4 * m + 2) (nI_add (4 * m) 2) (by omega) (by omega)
  have g3 : ∀ {K : Int32 → Option Int32}, gLx xs L (nI (4 * m) + 3) K = K (xs (4 * m + 3)) := gLx_ok (4 * m + 3) (nI_add (4 * m) 3) (by omega) (by omega)
  obtain ⟨b1, b2, b3, b4⟩ := hb σ τ a ha hc hM
  rw [if_neg e0, g0]
  by_cases c0 : xs (4 * m) &&& 31 = 0
  · rw [if_pos c0]
    simp only [g1, g2, g3]
    exact lw_cmp (u_make ha hc hM _ _) hK
  rw [if_neg c0]
  by_cases c1 : xs (4 * m) &&& 31 = 1
  · rw [if_pos c1]
    simp only [g1, g2, g3]
    exact lw_cmp (u_type ha hc hM _ _) hK
  rw [if_neg c1]
  by_cases c2 : xs (4 * m) &&& 31 = 2
  · rw [if_pos c2]
    simp only [g1, g2, g3]
    exact lw_cmp (u_put ha hc hM _ _ _) hK
  rw [if_neg c2]
  by_cases c3 : xs (4 * m) &&& 31 = 3
  · rw [if_pos c3]
    simp only [g1, g2, g3]
    exact lw_cmp (u_link ha hc hM _ _ _) hK
  rw [if_neg c3]
  by_cases c4 : xs (4 * m) &&& 31 = 4
  · rw [if_pos c4]
    exact lw_cmp ⟨a, ha, u_objects hc hM⟩ hK
  rw [if_neg c4]
  by_cases c5 : xs (4 * m) &&& 31 = 5
  · rw [if_pos c5]
    simp only [g1, g2, g3]
    exact lw_cmp ⟨a, ha, u_kind ha hc hM _⟩ hK
  rw [if_neg c5]
  by_cases c6 : xs (4 * m) &&& 31 = 6
  · rw [if_pos c6]
    simp only [g1, g2, g3]
    exact lw_cmp ⟨a, ha, u_size ha hc hM _⟩ hK
  rw [if_neg c6]
  by_cases c7 : xs (4 * m) &&& 31 = 7
  · rw [if_pos c7]
    simp only [g1, g2, g3]
    exact lw_cmp ⟨a, ha, u_holds ha hc hM _ _⟩ hK
  rw [if_neg c7]
  by_cases c8 : xs (4 * m) &&& 31 = 8
  · rw [if_pos c8]
    simp only [g1, g2, g3]
    exact lw_cmp ⟨a, ha, u_value ha hc hM _ _⟩ hK
  rw [if_neg c8]
  by_cases c9 : xs (4 * m) &&& 31 = 9
  · rw [if_pos c9]
    simp only [g1, g2, g3]
    exact lw_cmp (b1 _ _) hK
  rw [if_neg c9]
  by_cases c10 : xs (4 * m) &&& 31 = 10
  · rw [if_pos c10]
    simp only [g1, g2, g3]
    exact lw_cmp (b2 _) hK
  rw [if_neg c10]
  by_cases c11 : xs (4 * m) &&& 31 = 11
  · rw [if_pos c11]
    simp only [g1, g2, g3]
    exact lw_cmp (b3 _) hK
  rw [if_neg c11]
  by_cases c12 : xs (4 * m) &&& 31 = 12
  · rw [if_pos c12]
    exact lw_cmp (b4) hK
  rw [if_neg c12]
  by_cases c13 : xs (4 * m) &&& 31 = 13
  · rw [if_pos c13]
    exact lw_cmpV ⟨aClear a, ok_clear ha, u_clear hc hM⟩ hK
  rw [if_neg c13]
  by_cases c14 : xs (4 * m) &&& 31 = 14
  · rw [if_pos c14]
    simp only [g1, g2, g3]
    by_cases h2 : xs (4 * m + 2) = 0
    · simp only [if_pos h2]
      exact lw_cmp (u_understand ha hc hM (xs (4 * m + 1)) false) hK
    · simp only [if_neg h2]
      exact lw_cmp (u_understand ha hc hM (xs (4 * m + 1)) true) hK
  rw [if_neg c14]
  by_cases c15 : xs (4 * m) &&& 31 = 15
  · rw [if_pos c15]
    exact lw_cmp ⟨a, ha, u_length hc hM⟩ hK
  rw [if_neg c15]
  by_cases c16 : xs (4 * m) &&& 31 = 16
  · rw [if_pos c16]
    simp only [g1, g2, g3]
    exact lw_cmp ⟨a, ha, u_charAt ha hc hM _⟩ hK
  rw [if_neg c16]
  by_cases c17 : xs (4 * m) &&& 31 = 17
  · rw [if_pos c17]
    simp only [g1, g2, g3]
    exact lw_cmp (u_feed ha hc hM _) hK
  rw [if_neg c17]
  by_cases c18 : xs (4 * m) &&& 31 = 18
  · rw [if_pos c18]
    simp only [g1, g2, g3]
    exact lw_cmp (u_alter ha hc hM _ _) hK
  rw [if_neg c18]
  by_cases c19 : xs (4 * m) &&& 31 = 19
  · rw [if_pos c19]
    simp only [g1, g2, g3]
    exact lw_cmp (u_cut ha hc hM _) hK
  rw [if_neg c19]
  exact hK a σ τ ha hc hM
theorem lw_loop {xs : Nat → Int32} {L : Nat} (hb : big4) (hL : L ≤ 2048) : ∀ (d m : Nat) (σ τ : gS) (a : aS), L < 4 * (m + d) + 4 → 4 * m ≤ 2048 → okA a → absC σ a → absM τ a → Rl_ xs L (2 * d + 1) 1 (nI (4 * m)) σ τ = some 1 := by
  intro d
  induction d with
  | zero =>
    intro m σ τ a h h8 ha hc hM
    show Bl_1 xs L (Rl_ xs L 0) (nI (4 * m)) σ τ = some 1
    unfold Bl_1
    have e0 : (Int32.ofNat L - 4) < nI (4 * m) := by
      rw [Int32.lt_iff_toInt_lt, show (Int32.ofNat L - 4).toInt = (L : Int) - 4 from pk_sub_toInt (a := L) (b := 4) (by omega) (by decide), nI_toInt (by omega)]
      omega
    rw [if_pos e0]
  | succ d ih =>
    intro m σ τ a h h8 ha hc hM
    by_cases h4 : 4 * m + 4 ≤ L
    · refine lw_step hb hL h4 (2 * d + 2) ha hc hM (fun a' σ' τ' h1 h2 h3 => ?_)
      show Bl_2 (Rl_ xs L (2 * d + 1)) (nI (4 * m)) σ' τ' = some 1
      unfold Bl_2
      rw [show nI (4 * m) + 4 = nI (4 * (m + 1)) from nI_add (4 * m) 4]
      exact ih (m + 1) σ' τ' a' (by omega) (by omega) h1 h2 h3
    · show Bl_1 xs L (Rl_ xs L (2 * d + 2)) (nI (4 * m)) σ τ = some 1
      unfold Bl_1
      have e0 : (Int32.ofNat L - 4) < nI (4 * m) := by
        rw [Int32.lt_iff_toInt_lt, show (Int32.ofNat L - 4).toInt = (L : Int) - 4 from pk_sub_toInt (a := L) (b := 4) (by omega) (by decide), nI_toInt (by omega)]
        omega
      rw [if_pos e0]
def a0 : aS := (0, fun _ => 0, fun _ => 0, fun _ => 0, fun _ => 0, fun _ => 0, [], fun _ => false)
theorem pure_open (hb : big4) (xs : Nat → Int32) (L : Nat) (hL : L ≤ 2048) : Rl_ xs L (2 * 512 + 1) 1 0 z0 z0 = some 1 := by
  refine lw_loop hb hL 512 0 z0 z0 a0 (by omega) (by decide) ⟨by decide, by decide, fun j hj => absurd hj (Nat.not_lt_zero j), fun j i hj => absurd hj (Nat.not_lt_zero j), fun j i hj => absurd hj (Nat.not_lt_zero j), fun c h => by cases h⟩ ⟨rfl, rfl, fun j hj => absurd hj (Nat.not_lt_zero j), fun j i hj => absurd hj (Nat.not_lt_zero j), fun j i hj => absurd hj (Nat.not_lt_zero j), fun p hp => absurd hp (Nat.not_lt_zero p), fun k hk => rfl⟩ ⟨rfl, rfl, fun j hj => absurd hj (Nat.not_lt_zero j), fun j i hj => absurd hj (Nat.not_lt_zero j), fun j i hj => absurd hj (Nat.not_lt_zero j), fun p hp => absurd hp (Nat.not_lt_zero p), fun k hk => rfl⟩
