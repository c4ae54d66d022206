/-! The pure functions on a fresh state: one call -/
theorem gBd_s {α β : Type} (y : α) (σ : gS) (K : α → gS → Option β) : gBd (some (y, σ)) K = K y σ := rfl
theorem gPut_s {β : Type} (σ : gS) (k : Nat) (x : Int32) (K : gS → Option β) : gPut σ k x K = K (sI σ k x) := rfl
theorem gSt_ok {β : Type} {σ : gS} {k n : Nat} {i v : Int32} {K : gS → Option β} (j : Nat) (hi : i = nI j) (hj : j < n) (hn : n < 2 ^ 31) : gSt σ k n i v K = K (sA σ k (upd (σ.2 k) j v)) := by
  subst hi
  unfold gSt
  rw [if_neg (show ¬ (nI j < 0 ∨ n ≤ (nI j).toNatClampNeg) from vp_in_nI hj hn), nI_clamp (by omega)]
theorem gLd_ok {β : Type} {σ : gS} {k n : Nat} {i : Int32} {K : Int32 → Option β} (j : Nat) (hi : i = nI j) (hj : j < n) (hn : n < 2 ^ 31) : gLd σ k n i K = K (σ.2 k j) := by
  subst hi
  unfold gLd
  rw [if_neg (show ¬ (nI j < 0 ∨ n ≤ (nI j).toNatClampNeg) from vp_in_nI hj hn), nI_clamp (by omega)]
theorem gF : gFuel = 99980 + 20 := rfl
/-- setSlot at a place that is there -/
theorem p_setSlot (σ : gS) {j i : Nat} {k : Int32} (hj : j < 16) (hi : i < 4) (hk : k = nI i) (w v : Int32) : f_G_setSlot σ (nI j) k w v = some (0, sA (sA σ 4 (upd (σ.2 4) (4 * j + i) w)) 5 (upd (σ.2 5) (4 * j + i) v)) := by
  subst hk
  unfold f_G_setSlot
  rw [gSt_ok (4 * j + i) (g_x4 j i) (by omega) (by decide), gSt_ok (4 * j + i) (g_x4 j i) (by omega) (by decide)]
  rfl
def layS (σ : gS) (j : Nat) (w z : Int32) : gS := sA (sA (sA (sA (sA (sA (sA (sA (sA (sA σ 2 (upd (σ.2 2) j w)) 3 (upd (σ.2 3) j z)) 4 (upd (σ.2 4) (4 * j + 0) 0)) 5 (upd (σ.2 5) (4 * j + 0) 0)) 4 (upd (upd (σ.2 4) (4 * j + 0) 0) (4 * j + 1) 0)) 5 (upd (upd (σ.2 5) (4 * j + 0) 0) (4 * j + 1) 0)) 4 (upd (upd (upd (σ.2 4) (4 * j + 0) 0) (4 * j + 1) 0) (4 * j + 2) 0)) 5 (upd (upd (upd (σ.2 5) (4 * j + 0) 0) (4 * j + 1) 0) (4 * j + 2) 0)) 4 (upd (upd (upd (upd (σ.2 4) (4 * j + 0) 0) (4 * j + 1) 0) (4 * j + 2) 0) (4 * j + 3) 0)) 5 (upd (upd (upd (upd (σ.2 5) (4 * j + 0) 0) (4 * j + 1) 0) (4 * j + 2) 0) (4 * j + 3) 0)
theorem p_lay (σ : gS) {j : Nat} (hj : j < 16) (w z : Int32) : f_G_lay σ (nI j) w z = some (0, layS σ j w z) := by
  unfold f_G_lay
  rw [gF]
  show B_G_lay_0 (R_G_lay (99980 + 19)) (nI j) w z σ = _
  unfold B_G_lay_0
  rw [gSt_ok j rfl hj (by decide), gSt_ok j rfl hj (by decide)]
  show B_G_lay_1 (R_G_lay (99980 + 18)) (nI j) 0 _ = _
  unfold B_G_lay_1
  rw [if_neg (by decide), p_setSlot (i := 0) _ hj (by decide) (by decide), gBd_s]
  show B_G_lay_1 (R_G_lay (99980 + 17)) (nI j) (0 + 1) _ = _
  unfold B_G_lay_1
  rw [if_neg (by decide), p_setSlot (i := 1) _ hj (by decide) (by decide), gBd_s]
  show B_G_lay_1 (R_G_lay (99980 + 16)) (nI j) (0 + 1 + 1) _ = _
  unfold B_G_lay_1
  rw [if_neg (by decide), p_setSlot (i := 2) _ hj (by decide) (by decide), gBd_s]
  show B_G_lay_1 (R_G_lay (99980 + 15)) (nI j) (0 + 1 + 1 + 1) _ = _
  unfold B_G_lay_1
  rw [if_neg (by decide), p_setSlot (i := 3) _ hj (by decide) (by decide), gBd_s]
  show B_G_lay_1 (R_G_lay (99980 + 14)) (nI j) (0 + 1 + 1 + 1 + 1) _ = _
  unfold B_G_lay_1
  rw [if_pos (by decide)]
  rfl
theorem p_add (σ : gS) {n : Nat} (h0 : σ.1 0 = nI n) (hn : n < 16) (w z : Int32) : f_G_add σ w z = some (nI n, sI (layS σ n w z) 0 (nI (n + 1))) := by
  unfold f_G_add
  rw [h0, p_lay σ hn, gBd_s, gPut_s]
  have h1 : (layS σ n w z).1 0 = nI n := h0
  rw [h1, nI_1]
  show some (nI (n + 1) - 1, _) = _
  rw [nI_pred]
theorem z_has (x : Int32) : f_G_has z0 x = some (0, z0) := by
  unfold f_G_has
  by_cases h : x < 0
  · rw [if_pos h]
  · rw [if_neg h, if_pos (show z0.1 0 ≤ x from Int32.not_lt.mp h)]
theorem z_object (x : Int32) : f_M_object z0 x = some (0, z0) := by
  unfold f_M_object
  by_cases h : x < 0
  · rw [if_pos h]
  · rw [if_neg h, if_pos (show z0.1 0 ≤ x from Int32.not_lt.mp h)]
theorem z_isText (x : Int32) : f_G_isText z0 x = some (0, z0) := by unfold f_G_isText; rw [z_has, gBd_s, if_pos rfl]
theorem z_hasSlot (x k : Int32) : f_G_hasSlot z0 x k = some (0, z0) := by unfold f_G_hasSlot; rw [z_has, gBd_s, if_pos rfl]
theorem z_slotThere (x k : Int32) : f_M_slotThere z0 x k = some (0, z0) := by unfold f_M_slotThere; rw [z_object, gBd_s, if_pos rfl]
/-- class and reference answer alike, whatever becomes of them -/
def same {α : Type} (f g : Option (α × gS)) : Prop := ∃ (r : α) (σ τ : gS), f = some (r, σ) ∧ g = some (r, τ)
theorem q_type (x c : Int32) : same (f_O_type z0 x c) (f_M_type z0 x c) := ⟨0, z0, z0, by unfold f_O_type; rw [z_isText, gBd_s, if_pos rfl], by unfold f_M_type; rw [z_object, gBd_s, if_pos rfl]⟩
theorem q_put (x k v : Int32) : same (f_O_put z0 x k v) (f_M_put z0 x k v) := ⟨0, z0, z0, by unfold f_O_put; rw [z_hasSlot, gBd_s, if_pos rfl], by unfold f_M_put; rw [z_slotThere, gBd_s, if_pos rfl]⟩
theorem q_link (x k y : Int32) : same (f_O_link z0 x k y) (f_M_link z0 x k y) := by
  refine ⟨0, z0, z0, by unfold f_O_link; rw [z_hasSlot, gBd_s, if_pos rfl], ?_⟩
  unfold f_M_link
  rw [gF]
  show B_M_link_0 (R_M_link (99980 + 19)) x k y z0 = _
  unfold B_M_link_0
  rw [z_slotThere, gBd_s, if_pos rfl]
theorem q_objects : same (f_O_objects z0) (f_M_objects z0) := ⟨0, z0, z0, rfl, rfl⟩
theorem q_kind (x : Int32) : same (f_O_kind z0 x) (f_M_kind z0 x) := ⟨-1, z0, z0, by unfold f_O_kind; rw [z_has, gBd_s, if_pos rfl], by unfold f_M_kind; rw [z_object, gBd_s, if_pos rfl]⟩
theorem q_size (x : Int32) : same (f_O_size z0 x) (f_M_size z0 x) := ⟨-1, z0, z0, by unfold f_O_size; rw [z_has, gBd_s, if_pos rfl], by unfold f_M_size; rw [z_object, gBd_s, if_pos rfl]⟩
theorem q_holds (x k : Int32) : same (f_O_holds z0 x k) (f_M_holds z0 x k) := ⟨-1, z0, z0, by unfold f_O_holds; rw [z_hasSlot, gBd_s, if_pos rfl], by unfold f_M_holds; rw [z_slotThere, gBd_s, if_pos rfl]⟩
theorem q_value (x k : Int32) : same (f_O_value z0 x k) (f_M_value z0 x k) := by
  refine ⟨0, z0, z0, by unfold f_O_value; rw [z_hasSlot, gBd_s, if_pos rfl, z_isText, gBd_s, if_pos rfl], ?_⟩
  unfold f_M_value
  rw [gF]
  show B_M_value_0 (R_M_value (99980 + 19)) x k z0 = _
  unfold B_M_value_0
  rw [z_object, gBd_s, if_pos rfl]
  show B_M_value_1 (R_M_value (99980 + 18)) x k z0 = _
  unfold B_M_value_1
  rw [z_slotThere, gBd_s, if_pos rfl]
theorem q_alike (x y : Int32) : same (f_O_alike z0 x y) (f_M_alike z0 x y) := by
  refine ⟨0, z0, z0, by unfold f_O_alike; rw [z_has, gBd_s, if_pos rfl], ?_⟩
  unfold f_M_alike
  rw [gF]
  show B_M_alike_0 (R_M_alike (99980 + 19)) x y z0 = _
  unfold B_M_alike_0
  rw [z_object, gBd_s, if_pos rfl]
theorem q_shared (x : Int32) : same (f_O_shared z0 x) (f_M_shared z0 x) := by
  refine ⟨-1, z0, z0, by unfold f_O_shared; rw [z_has, gBd_s, if_pos rfl], ?_⟩
  unfold f_M_shared
  rw [gF]
  show B_M_shared_0 (R_M_shared (99980 + 19)) x z0 = _
  unfold B_M_shared_0
  rw [z_object, gBd_s, if_pos rfl]
theorem q_encode (x : Int32) : same (f_O_encode z0 x) (f_M_encode z0 x) := by
  refine ⟨-1, z0, z0, by unfold f_O_encode; rw [z_has, gBd_s, if_pos rfl], ?_⟩
  unfold f_M_encode
  rw [gF]
  show B_M_encode_0 (R_M_encode (99980 + 19)) x z0 = _
  unfold B_M_encode_0
  rw [z_object, gBd_s, if_pos rfl]
theorem z_form : ∃ σ : gS, f_F_isWellFormed z0 = some (0, σ) := by
  unfold f_F_isWellFormed
  rw [gF]
  show ∃ σ : gS, B_F_isWellFormed_0 (R_F_isWellFormed (99980 + 19)) z0 = some (0, σ)
  unfold B_F_isWellFormed_0 f_E_removeAll
  simp only [gPut_s, gBd_s]
  rw [show ∀ σ, R_F_isWellFormed (99980 + 19) 1 [0] σ = B_F_isWellFormed_1 (R_F_isWellFormed (99980 + 18)) 0 σ from fun _ => rfl]
  unfold B_F_isWellFormed_1
  rw [if_neg (by decide), if_pos (by decide)]
  rw [show ∀ σ, R_F_isWellFormed (99980 + 18) 2 [] σ = B_F_isWellFormed_2 (R_F_isWellFormed (99980 + 17)) σ from fun _ => rfl]
  unfold B_F_isWellFormed_2
  rw [if_pos (by decide)]
  exact ⟨_, rfl⟩
theorem z_well : ∃ σ : gS, f_M_wellFormed z0 = some (0, σ) := by
  unfold f_M_wellFormed
  rw [gF]
  show ∃ σ : gS, B_M_wellFormed_0 (R_M_wellFormed (99980 + 19)) z0 = some (0, σ)
  unfold B_M_wellFormed_0
  simp only [gPut_s]
  rw [show ∀ σ, R_M_wellFormed (99980 + 19) 1 [] σ = B_M_wellFormed_1 (R_M_wellFormed (99980 + 18)) σ from fun _ => rfl]
  unfold B_M_wellFormed_1
  rw [if_pos (by decide), if_pos (by decide)]
  exact ⟨_, rfl⟩
theorem q_decode : same (f_O_decode z0) (f_M_decode z0) := by
  obtain ⟨σ, h1⟩ := z_form
  obtain ⟨τ, h2⟩ := z_well
  refine ⟨-1, σ, τ, by unfold f_O_decode; rw [h1, gBd_s, if_pos rfl], ?_⟩
  unfold f_M_decode
  rw [gF]
  show B_M_decode_0 (R_M_decode (99980 + 19)) z0 = _
  unfold B_M_decode_0
  rw [h2, gBd_s, if_pos rfl]
theorem q_understand (k y : Int32) : same (f_O_understand z0 k y) (f_M_understand z0 k y) := by
  unfold f_O_understand f_M_understand
  by_cases h1 : k < 0
  · exact ⟨0, z0, z0, by rw [if_pos h1], by rw [if_pos h1]⟩
  · rw [if_neg h1, if_neg h1]
    by_cases h2 : 32 ≤ k
    · exact ⟨0, z0, z0, by rw [if_pos h2], by rw [if_pos (p31c h2)]⟩
    · rw [if_neg h2, if_neg (p31d h2)]
      obtain ⟨j, hj, hk, -⟩ := g_in (n := 32) (N := 32) h1 h2 (by decide) (by decide)
      rw [gLd_ok j hk hj (by decide), gLd_ok j hk hj (by decide)]
      by_cases h3 : (0 : Int32) = y
      · exact ⟨0, z0, z0, if_pos h3, if_pos h3⟩
      · exact ⟨1, _, _, (if_neg h3).trans (gSt_ok j hk hj (by decide)), (if_neg h3).trans (gSt_ok j hk hj (by decide))⟩
theorem q_length : same (f_O_length z0) (f_M_length z0) := ⟨0, z0, z0, rfl, rfl⟩
theorem q_charAt (x : Int32) : same (f_O_charAt z0 x) (f_M_charAt z0 x) := by
  unfold f_O_charAt f_P_codeAt f_M_charAt
  by_cases h : x < 0
  · exact ⟨-1, z0, z0, by rw [if_pos h, gBd_s], by rw [if_pos h]⟩
  · have h2 : z0.1 1 ≤ x := Int32.not_lt.mp h
    exact ⟨-1, z0, z0, by rw [if_neg h, if_pos h2, gBd_s], by rw [if_neg h, if_pos h2]⟩
theorem z_prt (σ : gS) (c : Int32) : f_O_isPrintable σ c = some (bI (pPrt c), σ) := by
  unfold f_O_isPrintable pPrt
  by_cases h1 : c < 32
  · rw [if_pos h1]; simp [h1, bI]
  · rw [if_neg h1]
    by_cases h2 : 126 < c
    · rw [if_pos h2]; simp [h2, bI]
    · rw [if_neg h2]; simp [h1, h2, bI]
theorem q_feed (c : Int32) : same (f_O_feed z0 c) (f_M_feed z0 c) := by
  unfold f_O_feed f_M_feed
  rw [z_prt, gBd_s]
  by_cases h1 : c < 32
  · exact ⟨0, z0, z0, by rw [if_pos (by simp [pPrt, h1, bI])], by rw [if_pos h1]⟩
  · by_cases h2 : 126 < c
    · exact ⟨0, z0, z0, by rw [if_pos (by simp [pPrt, h2, bI])], by rw [if_neg h1, if_pos h2]⟩
    · have e1 : ∃ σ : gS, f_P_append z0 c = some (1, σ) := by
        unfold f_P_append
        rw [if_pos (by decide), gSt_ok 0 (show z0.1 1 = nI 0 from rfl) (by decide) (by decide), gPut_s]
        exact ⟨_, rfl⟩
      have e2 : ∃ τ : gS, (gSt z0 7 1600 (z0.1 1) (vp_nar .char c) (fun σ4 => gPut σ4 1 ((σ4.1 1) + 1) (fun σ7 => some ((1 : Int32), σ7)))) = some (1, τ) := by
        rw [gSt_ok 0 (show z0.1 1 = nI 0 from rfl) (by decide) (by decide), gPut_s]
        exact ⟨_, rfl⟩
      obtain ⟨σ, e1⟩ := e1
      obtain ⟨τ, e2⟩ := e2
      exact ⟨1, σ, τ, by rw [if_neg (by simp [pPrt, h1, h2, bI]), e1, gBd_s, if_neg (by decide)], by rw [if_neg h1, if_neg h2, if_neg (by decide), e2]⟩
theorem q_alter (x c : Int32) : same (f_O_alter z0 x c) (f_M_alter z0 x c) := by
  unfold f_O_alter f_M_alter
  by_cases h : x < 0
  · exact ⟨0, z0, z0, by rw [if_pos h], by rw [if_pos h]⟩
  · have h2 : z0.1 1 ≤ x := Int32.not_lt.mp h
    exact ⟨0, z0, z0, by rw [if_neg h, if_pos h2], by rw [if_neg h, if_pos h2]⟩
theorem q_cut (x : Int32) : same (f_O_cut z0 x) (f_M_cut z0 x) := by
  unfold f_O_cut f_M_cut
  by_cases h : x < 0
  · exact ⟨0, z0, z0, by rw [if_pos h], by rw [if_pos h]⟩
  · by_cases h2 : x ≤ z0.1 1
    · exact ⟨1, sI z0 1 x, sI z0 1 x, by rw [if_neg h, if_pos h2, gPut_s], by rw [if_neg h, if_pos h2, gPut_s]⟩
    · exact ⟨0, z0, z0, by rw [if_neg h, if_neg h2], by rw [if_neg h, if_neg h2]⟩
theorem p_M3 (τ : gS) {n i : Nat} (h0 : τ.1 0 = nI n) (hn : n < 16) (hi : i < 4) (rec : Nat → List Int32 → gS → Option (Int32 × gS)) {x : Int32} (hx : x = nI i) : B_M_make_3 rec x τ = rec 3 [x + 1] (sA τ 3 (upd (τ.2 3) (4 * n + i) 0)) := by
  subst hx
  unfold B_M_make_3
  rw [if_neg (show ¬ (4 : Int32) ≤ nI i from nI_ge hi (by decide)), h0, gSt_ok (4 * n + i) (g_4x n i) (by omega) (by decide)]
theorem p_M3e (S : gS) {n : Nat} (h : S.1 0 = nI n) : (some (((sI S 0 ((S.1 0) + 1)).1 0) - 1, sI S 0 ((S.1 0) + 1)) : Option (Int32 × gS)) = some (nI n, sI S 0 (nI (n + 1))) := by
  rw [h, nI_1]
  show some (nI (n + 1) - 1, _) = _
  rw [nI_pred]
theorem p_M2 (τ : gS) {n : Nat} (h0 : τ.1 0 = nI n) (hn : n < 16) (t : Nat) (z : Int32) : ∃ τ' : gS, R_M_make (t + 8) 2 [nI n, z] τ = some (nI n, τ') := by
  show ∃ τ' : gS, B_M_make_2 (R_M_make (t + 7)) (nI n) z τ = some (nI n, τ')
  unfold B_M_make_2
  rw [gSt_ok n rfl hn (by decide)]
  rw [show ∀ σ, R_M_make (t + 7) 3 [0] σ = B_M_make_3 (R_M_make (t + 6)) 0 σ from fun _ => rfl, p_M3 (n := n) (i := 0) _ (by exact h0) hn (by decide) _ (by decide)]
  rw [show ∀ σ, R_M_make (t + 6) 3 [0 + 1] σ = B_M_make_3 (R_M_make (t + 5)) (0 + 1) σ from fun _ => rfl, p_M3 (n := n) (i := 1) _ (by exact h0) hn (by decide) _ (by decide)]
  rw [show ∀ σ, R_M_make (t + 5) 3 [0 + 1 + 1] σ = B_M_make_3 (R_M_make (t + 4)) (0 + 1 + 1) σ from fun _ => rfl, p_M3 (n := n) (i := 2) _ (by exact h0) hn (by decide) _ (by decide)]
  rw [show ∀ σ, R_M_make (t + 4) 3 [0 + 1 + 1 + 1] σ = B_M_make_3 (R_M_make (t + 3)) (0 + 1 + 1 + 1) σ from fun _ => rfl, p_M3 (n := n) (i := 3) _ (by exact h0) hn (by decide) _ (by decide)]
  rw [show ∀ σ, R_M_make (t + 3) 3 [0 + 1 + 1 + 1 + 1] σ = B_M_make_3 (R_M_make (t + 2)) (0 + 1 + 1 + 1 + 1) σ from fun _ => rfl]
  unfold B_M_make_3
  rw [if_pos (by decide), gPut_s]
  exact ⟨_, p_M3e _ h0⟩
theorem z_add (w z : Int32) : ∃ σ : gS, f_G_add z0 w z = some (0, σ) := ⟨_, p_add z0 (n := 0) rfl (by decide) w z⟩
theorem z_mk (t : Nat) (x z : Int32) : ∃ τ : gS, R_M_make (t + 9) 1 [x, z] z0 = some (0, τ) := by
  show ∃ τ : gS, B_M_make_1 (R_M_make (t + 8)) x z z0 = some (0, τ)
  unfold B_M_make_1
  rw [if_neg (by decide), gSt_ok 0 (show z0.1 0 = nI 0 from rfl) (by decide) (by decide)]
  by_cases h1 : x = 0
  · rw [if_pos h1]
    exact p_M2 _ (n := 0) rfl (by decide) t 2
  · rw [if_neg h1]
    by_cases h2 : x = 1
    · rw [if_pos h2]
      exact p_M2 _ (n := 0) rfl (by decide) t z
    · rw [if_neg h2]
      exact p_M2 _ (n := 0) rfl (by decide) t 0
theorem q_make (x z : Int32) : same (f_O_make z0 x z) (f_M_make z0 x z) := by
  unfold f_O_make f_M_make
  rw [gF]
  show same (B_O_make_0 (R_O_make (99980 + 19)) x z z0) (B_M_make_0 (R_M_make (99980 + 19)) x z z0)
  obtain ⟨τ, hτ⟩ := z_mk (99980 + 10) x z
  unfold B_O_make_0 B_M_make_0
  rw [if_pos (show z0.1 0 < 16 by decide)]
  by_cases h0 : x = 0
  · subst h0
    obtain ⟨σ, hσ⟩ := z_add 0 2
    exact ⟨0, σ, τ, by rw [if_pos rfl, hσ, gBd_s], by rw [if_neg (by decide), if_neg (by decide), if_neg (by decide)]; exact hτ⟩
  · rw [if_neg h0]
    by_cases h1 : x = 1
    · subst h1
      rw [if_pos rfl, if_pos rfl]
      have e1 : R_O_make (99980 + 19) 1 [1] z0 = some (-1, z0) := by
        show B_O_make_1 (R_O_make (99980 + 18)) 1 z0 = _
        unfold B_O_make_1
        rw [if_neg (by decide)]
      by_cases h2 : z < 0
      · exact ⟨-1, z0, z0, by rw [if_pos h2]; exact e1, by rw [if_neg (by decide), if_neg (by decide), if_pos h2]⟩
      · by_cases h3 : 4 < z
        · exact ⟨-1, z0, z0, by rw [if_neg h2, if_pos h3]; exact e1, by rw [if_neg (by decide), if_neg (by decide), if_neg h2, if_pos h3]⟩
        · obtain ⟨σ, hσ⟩ := z_add 1 z
          exact ⟨0, σ, τ, by rw [if_neg h2, if_neg h3, hσ, gBd_s], by rw [if_neg (by decide), if_neg (by decide), if_neg h2, if_neg h3]; exact hτ⟩
    · rw [if_neg h1, if_neg h1]
      by_cases h2 : x = 2
      · subst h2
        obtain ⟨σ, hσ⟩ := z_add 2 0
        refine ⟨0, σ, τ, ?_, by rw [if_neg (by decide), if_neg (by decide)]; exact hτ⟩
        show B_O_make_1 (R_O_make (99980 + 18)) 2 z0 = _
        unfold B_O_make_1
        rw [if_pos rfl, hσ, gBd_s]
      · have e1 : R_O_make (99980 + 19) 1 [x] z0 = some (-1, z0) := by
          show B_O_make_1 (R_O_make (99980 + 18)) x z0 = _
          unfold B_O_make_1
          rw [if_neg h2]
        by_cases h3 : x < 0
        · exact ⟨-1, z0, z0, e1, by rw [if_pos h3]⟩
        · by_cases h4 : 2 < x
          · exact ⟨-1, z0, z0, e1, by rw [if_neg h3, if_pos h4]⟩
          · rcases p3 h3 h4 with h | h | h
            · exact absurd h h0
            · exact absurd h h1
            · exact absurd h h2
