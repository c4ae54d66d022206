/-! What a state is, for class and reference alike: n objects, kinds, sizes, slots' contents and values, texts' characters, the page, the keys understood -/
abbrev aS : Type := Nat × (Nat → Nat) × (Nat → Nat) × (Nat → Nat) × (Nat → Int32) × (Nat → Nat) × List Nat × (Nat → Bool)
def sN (a : aS) : Nat := a.1
def sK (a : aS) : Nat → Nat := a.2.1
def sZ (a : aS) : Nat → Nat := a.2.2.1
def sC (a : aS) : Nat → Nat := a.2.2.2.1
def sV (a : aS) : Nat → Int32 := a.2.2.2.2.1
def sT (a : aS) : Nat → Nat := a.2.2.2.2.2.1
def sP (a : aS) : List Nat := a.2.2.2.2.2.2.1
def sU (a : aS) : Nat → Bool := a.2.2.2.2.2.2.2
def prtN (c : Nat) : Prop := 32 ≤ c ∧ c ≤ 126
def okA (a : aS) : Prop := sN a ≤ 16 ∧ (sP a).length ≤ 1600 ∧ (∀ j, j < sN a → (sK a j = 0 ∧ sZ a j = 2) ∨ (sK a j = 1 ∧ sZ a j ≤ 4) ∨ (sK a j = 2 ∧ sZ a j ≤ 6)) ∧ (∀ j i, j < sN a → sK a j ≠ 2 → i < sZ a j → sC a (4 * j + i) ≤ 2 ∧ (sC a (4 * j + i) = 0 → sV a (4 * j + i) = 0) ∧ (sC a (4 * j + i) = 2 → ∃ y, y < sN a ∧ sV a (4 * j + i) = nI y)) ∧ (∀ j i, j < sN a → sK a j = 2 → i < sZ a j → prtN (sT a (6 * j + i))) ∧ ∀ c ∈ sP a, prtN c
def absC (σ : gS) (a : aS) : Prop := σ.1 0 = nI (sN a) ∧ σ.1 1 = nI (sP a).length ∧ (∀ j, j < sN a → σ.2 2 j = nI (sK a j) ∧ σ.2 3 j = nI (sZ a j)) ∧ (∀ j i, j < sN a → sK a j ≠ 2 → i < sZ a j → σ.2 4 (4 * j + i) = nI (sC a (4 * j + i)) ∧ σ.2 5 (4 * j + i) = sV a (4 * j + i)) ∧ (∀ j i, j < sN a → sK a j = 2 → i < sZ a j → σ.2 6 (6 * j + i) = nI (sT a (6 * j + i))) ∧ (∀ p, p < (sP a).length → σ.2 8 p = nI ((sP a).getD p 0)) ∧ ∀ k, k < 32 → σ.2 9 k = bI (sU a k)
def absM (τ : gS) (a : aS) : Prop := τ.1 0 = nI (sN a) ∧ τ.1 1 = nI (sP a).length ∧ (∀ j, j < sN a → τ.2 1 j = nI (sK a j) ∧ τ.2 2 j = nI (sZ a j)) ∧ (∀ j i, j < sN a → sK a j ≠ 2 → i < sZ a j → τ.2 3 (4 * j + i) = nI (sC a (4 * j + i)) ∧ (sC a (4 * j + i) ≠ 0 → τ.2 4 (4 * j + i) = sV a (4 * j + i))) ∧ (∀ j i, j < sN a → sK a j = 2 → i < sZ a j → τ.2 5 (6 * j + i) = nI (sT a (6 * j + i))) ∧ (∀ p, p < (sP a).length → τ.2 7 p = nI ((sP a).getD p 0)) ∧ ∀ k, k < 32 → τ.2 6 k = bI (sU a k)
/-- an int as an object's number, a slot's, a text's -/
def isJ (n : Nat) (x : Int32) : Prop := ∃ j : Nat, j < n ∧ x = nI j
theorem isJ_or (n : Nat) (hn : n < 2 ^ 31) (x : Int32) : isJ n x ∨ (x < 0 ∨ nI n ≤ x) := by
  rcases pk_ix x hn with h | h | h
  · exact Or.inr (Or.inl h)
  · exact Or.inr (Or.inr h)
  · exact Or.inl h
theorem r_has {σ : gS} {n : Nat} (h0 : σ.1 0 = nI n) (hn : n ≤ 16) {j : Nat} (hj : j < n) : f_G_has σ (nI j) = some (1, σ) := by
  unfold f_G_has
  rw [if_neg (nI_pos (by omega)), h0, if_neg (nI_ge hj (by omega))]
theorem r_hasN {σ : gS} {n : Nat} (h0 : σ.1 0 = nI n) {x : Int32} (h : x < 0 ∨ nI n ≤ x) : f_G_has σ x = some (0, σ) := by
  unfold f_G_has
  by_cases h1 : x < 0
  · rw [if_pos h1]
  · rw [if_neg h1, h0, if_pos (h.resolve_left h1)]
theorem r_obj {σ : gS} {n : Nat} (h0 : σ.1 0 = nI n) (hn : n ≤ 16) {j : Nat} (hj : j < n) : f_M_object σ (nI j) = some (1, σ) := by
  unfold f_M_object
  rw [if_neg (nI_pos (by omega)), h0, if_neg (nI_ge hj (by omega))]
theorem r_objN {σ : gS} {n : Nat} (h0 : σ.1 0 = nI n) {x : Int32} (h : x < 0 ∨ nI n ≤ x) : f_M_object σ x = some (0, σ) := by
  unfold f_M_object
  by_cases h1 : x < 0
  · rw [if_pos h1]
  · rw [if_neg h1, h0, if_pos (h.resolve_left h1)]
/-- objects, kind, size, length, charAt: class and reference answer alike -/
def sameR (a : aS) (f g : Option (Int32 × gS)) : Prop := ∃ (r : Int32) (σ τ : gS), f = some (r, σ) ∧ g = some (r, τ) ∧ absC σ a ∧ absM τ a
theorem u_objects {σ τ : gS} {a : aS} (hc : absC σ a) (hm : absM τ a) : sameR a (f_O_objects σ) (f_M_objects τ) := ⟨nI (sN a), σ, τ, by unfold f_O_objects; rw [hc.1], by unfold f_M_objects; rw [hm.1], hc, hm⟩
theorem u_length {σ τ : gS} {a : aS} (hc : absC σ a) (hm : absM τ a) : sameR a (f_O_length σ) (f_M_length τ) := ⟨nI (sP a).length, σ, τ, by unfold f_O_length; rw [hc.2.1], by unfold f_M_length; rw [hm.2.1], hc, hm⟩
theorem u_kind {σ τ : gS} {a : aS} (ha : okA a) (hc : absC σ a) (hm : absM τ a) (x : Int32) : sameR a (f_O_kind σ x) (f_M_kind τ x) := by
  unfold f_O_kind f_M_kind
  rcases isJ_or (sN a) (by have := ha.1; omega) x with ⟨j, hj, rfl⟩ | h
  · have h16 := ha.1
    exact ⟨nI (sK a j), σ, τ, by rw [r_has hc.1 h16 hj, gBd_s, if_neg (by decide), gLd_ok j rfl (by omega) (by decide), (hc.2.2.1 j hj).1], by rw [r_obj hm.1 h16 hj, gBd_s, if_neg (by decide), gLd_ok j rfl (by omega) (by decide), (hm.2.2.1 j hj).1], hc, hm⟩
  · exact ⟨-1, σ, τ, by rw [r_hasN hc.1 h, gBd_s, if_pos rfl], by rw [r_objN hm.1 h, gBd_s, if_pos rfl], hc, hm⟩
theorem u_size {σ τ : gS} {a : aS} (ha : okA a) (hc : absC σ a) (hm : absM τ a) (x : Int32) : sameR a (f_O_size σ x) (f_M_size τ x) := by
  unfold f_O_size f_M_size
  rcases isJ_or (sN a) (by have := ha.1; omega) x with ⟨j, hj, rfl⟩ | h
  · have h16 := ha.1
    exact ⟨nI (sZ a j), σ, τ, by rw [r_has hc.1 h16 hj, gBd_s, if_neg (by decide), gLd_ok j rfl (by omega) (by decide), (hc.2.2.1 j hj).2], by rw [r_obj hm.1 h16 hj, gBd_s, if_neg (by decide), gLd_ok j rfl (by omega) (by decide), (hm.2.2.1 j hj).2], hc, hm⟩
  · exact ⟨-1, σ, τ, by rw [r_hasN hc.1 h, gBd_s, if_pos rfl], by rw [r_objN hm.1 h, gBd_s, if_pos rfl], hc, hm⟩
theorem u_charAt {σ τ : gS} {a : aS} (ha : okA a) (hc : absC σ a) (hm : absM τ a) (x : Int32) : sameR a (f_O_charAt σ x) (f_M_charAt τ x) := by
  unfold f_O_charAt f_P_codeAt f_M_charAt
  have h16 := ha.2.1
  rcases isJ_or (sP a).length (by omega) x with ⟨j, hj, rfl⟩ | h
  · have e1 : ¬ nI j < 0 := nI_pos (by omega)
    have e2 : ¬ nI (sP a).length ≤ nI j := nI_ge hj (by omega)
    exact ⟨nI ((sP a).getD j 0), σ, τ, by rw [if_neg e1, hc.2.1, if_neg e2, gLd_ok j rfl (by omega) (by decide), gBd_s, hc.2.2.2.2.2.1 j hj], by rw [if_neg e1, hm.2.1, if_neg e2, gLd_ok j rfl (by omega) (by decide), hm.2.2.2.2.2.1 j hj], hc, hm⟩
  · by_cases h1 : x < 0
    · exact ⟨-1, σ, τ, by rw [if_pos h1, gBd_s], by rw [if_pos h1], hc, hm⟩
    · have e2 := h.resolve_left h1
      exact ⟨-1, σ, τ, by rw [if_neg h1, hc.2.1, if_pos e2, gBd_s], by rw [if_neg h1, hm.2.1, if_pos e2], hc, hm⟩
