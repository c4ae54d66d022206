/-! what is reached from an object, and how often each is referred to: the class's search -/
def tg (a : aS) (s : Nat) : Option Nat := if s / 4 < sN a ∧ sK a (s / 4) ≠ 2 ∧ s % 4 < sZ a (s / 4) ∧ sC a s = 2 then some (sV a s).toNatClampNeg else none
def ck (a : aS) (j : Nat) : Nat → Nat → Nat
  | 0, _ => 0
  | k + 1, y => ck a j k y + if tg a (4 * j + k) = some y then 1 else 0
def cs (a : aS) : List Nat → Nat → Nat
  | [], _ => 0
  | j :: l, y => ck a j 4 y + cs a l y
theorem cs_app (a : aS) (y : Nat) : ∀ l m : List Nat, cs a (l ++ m) y = cs a l y + cs a m y := by
  intro l m
  induction l with
  | nil => simp [cs]
  | cons j l ih => simp only [List.cons_append, cs, ih]; omega
theorem ck_le (a : aS) (j y : Nat) : ∀ k, ck a j k y ≤ k := by
  intro k
  induction k with
  | zero => exact Nat.le_refl 0
  | succ k ih => unfold ck; split <;> omega
theorem cs_le (a : aS) (y : Nat) : ∀ l : List Nat, cs a l y ≤ 4 * l.length := by
  intro l
  induction l with
  | nil => exact Nat.le_refl 0
  | cons j l ih => have := ck_le a j y 4; simp only [cs, List.length_cons]; omega
theorem cs_perm (a : aS) (y : Nat) {l m : List Nat} (h : l.Perm m) : cs a l y = cs a m y := by
  induction h with
  | nil => rfl
  | cons j _ ih => simp only [cs, ih]
  | swap i j l => simp only [cs]; omega
  | trans _ _ h1 h2 => exact h1.trans h2
theorem nd_len : ∀ (n : Nat) (l : List Nat), l.Nodup → (∀ j ∈ l, j < n) → l.length ≤ n := by
  intro n
  induction n with
  | zero =>
    intro l _ h
    cases l with
    | nil => exact Nat.le_refl 0
    | cons j l => exact absurd (h j (List.mem_cons_self ..)) (Nat.not_lt_zero j)
  | succ n ih =>
    intro l hn h
    by_cases hm : n ∈ l
    · have h1 := ih (l.erase n) (hn.erase n) (fun j hj => by
        have h2 := hn.mem_erase_iff.mp hj
        have h3 := h j h2.2
        have h4 := h2.1
        omega)
      rw [List.length_erase_of_mem hm] at h1
      omega
    · have h1 := ih l hn (fun j hj => by
        have h3 := h j hj
        have h4 : j ≠ n := fun q => hm (q ▸ hj)
        omega)
      omega
theorem tg_some {a : aS} (ha : okA a) {s y : Nat} (h : tg a s = some y) : s / 4 < sN a ∧ sK a (s / 4) ≠ 2 ∧ s % 4 < sZ a (s / 4) ∧ s % 4 < 4 ∧ sC a s = 2 ∧ sV a s = nI y ∧ y < sN a := by
  unfold tg at h
  have h16 := ha.1
  split at h
  · rename_i q
    obtain ⟨q1, q2, q3, q4⟩ := q
    have z3 := (okA_K ha q1).2.2 q2
    have e : 4 * (s / 4) + s % 4 = s := by omega
    have q5 := ha.2.2.2.1 (s / 4) (s % 4) q1 q2 q3
    rw [e] at q5
    obtain ⟨z, hz, ez⟩ := q5.2.2 q4
    have h := Option.some.inj h
    rw [ez, nI_clamp (by omega)] at h
    subst h
    exact ⟨q1, q2, q3, by omega, q4, ez, hz⟩
  · cases h
theorem tg_none {a : aS} {j k : Nat} (hk4 : k < 4) (h : tg a (4 * j + k) = none) (hj : j < sN a) (hk : sK a j ≠ 2) (hz : k < sZ a j) : sC a (4 * j + k) ≠ 2 := by
  intro q
  unfold tg at h
  rw [show (4 * j + k) / 4 = j by omega, show (4 * j + k) % 4 = k by omega] at h
  rw [if_pos ⟨hj, hk, hz, q⟩] at h
  cases h
/-- the class's search under way -/
def rI (a : aS) (x : Nat) (σ : gS) (r : Nat → Nat) (O : List Nat) : Prop := absC σ a ∧ (∀ j, j < 16 → σ.2 11 j = nI (r j)) ∧ σ.1 2 = nI O.length ∧ (∀ p, p < O.length → σ.2 12 p = nI (O.getD p 0)) ∧ O.Nodup ∧ (∀ j ∈ O, j < sN a) ∧ (∀ j, j ∈ O ↔ r j ≠ 0) ∧ O.getD 0 0 = x ∧ 0 < O.length ∧ (∀ i, 1 ≤ i → i < O.length → ∃ p s, p < i ∧ s / 4 = O.getD p 0 ∧ tg a s = some (O.getD i 0))
theorem rI_r {a : aS} {x : Nat} {σ : gS} {r r' : Nat → Nat} {O : List Nat} (h : rI a x σ r O) (e : ∀ j, r' j = r j) : rI a x σ r' O := by
  have : r' = r := funext e
  rw [this]
  exact h
theorem c_refer {a : aS} (ha : okA a) {x : Nat} {σ : gS} {r : Nat → Nat} {O : List Nat} (h : rI a x σ r O) {y : Nat} (hy : y < sN a) (hr : r y < 1000) (hs : ∃ p s, p < O.length ∧ s / 4 = O.getD p 0 ∧ tg a s = some y) : ∃ σ' O', f_R_refer σ (nI y) = some (0, σ') ∧ rI a x σ' (fun j => r j + if j = y then 1 else 0) (O ++ O') := by
  have h16 := ha.1
  obtain ⟨h0, h1, h2, h3, h4, h5, h6, h7, h8, h9⟩ := h
  have hlen := nd_len _ _ h4 h5
  have e1 := h1 y (by omega)
  by_cases h : r y = 0
  · have hny : y ∉ O := fun q => (h6 y).mp q h
    have hl2 : (O ++ [y]).length ≤ sN a := nd_len _ _ (List.nodup_append.mpr ⟨h4, by simp, fun p hp q hq => by simp at hq; subst hq; intro e; exact hny (e ▸ hp)⟩) (fun j hj => by
      rcases List.mem_append.mp hj with hj | hj
      · exact h5 j hj
      · simp at hj; omega)
    rw [List.length_append] at hl2
    simp only [List.length_singleton] at hl2
    refine ⟨sI (sA (sA σ 11 (upd (σ.2 11) y (nI 1))) 12 (upd (σ.2 12) O.length (nI y))) 2 (nI (O.length + 1)), [y], ?_, h0, ?_, ?_, ?_, ?_, ?_, ?_, ?_, ?_, ?_⟩
    · unfold f_R_refer
      simp (disch := omega) only [gLd_n, gSt_n, e1, h, sA_eq, up_eq, gPut_s, sA_1, sA_ne, h2, add_c1]
      rw [if_pos (by decide)]
    · intro j hj
      show upd (σ.2 11) y (nI 1) j = nI (r j + if j = y then 1 else 0)
      by_cases e : j = y
      · rw [e, up_eq, if_pos rfl, h]
      · rw [up_ne e, if_neg e, h1 j hj]; rfl
    · show nI _ = nI _
      rw [List.length_append]; rfl
    · intro p hp
      show upd (σ.2 12) O.length (nI y) p = _
      rw [List.length_append] at hp
      simp only [List.length_singleton] at hp
      by_cases e : p = O.length
      · rw [e, up_eq]; simp
      · rw [up_ne e, h3 p (by omega)]
        rw [List.getD_eq_getElem?_getD, List.getD_eq_getElem?_getD, List.getElem?_append_left (by omega)]
    · exact List.nodup_append.mpr ⟨h4, by simp, fun p hp q hq => by simp at hq; subst hq; intro e; exact hny (e ▸ hp)⟩
    · intro j hj
      rcases List.mem_append.mp hj with hj | hj
      · exact h5 j hj
      · simp at hj; omega
    · intro j
      rw [List.mem_append, h6 j]
      by_cases e : j = y
      · simp [e]
      · simp [e]
    · rw [List.getD_eq_getElem?_getD, List.getElem?_append_left h8, ← List.getD_eq_getElem?_getD]; exact h7
    · rw [List.length_append]; omega
    · intro i hi1 hi2
      rw [List.length_append] at hi2
      simp only [List.length_singleton] at hi2
      have gl : ∀ q, q < O.length → (O ++ [y]).getD q 0 = O.getD q 0 := fun q hq => by rw [List.getD_eq_getElem?_getD, List.getD_eq_getElem?_getD, List.getElem?_append_left hq]
      by_cases e : i = O.length
      · obtain ⟨p, s, q1, q2, q3⟩ := hs
        exact ⟨p, s, by omega, by rw [gl p q1]; exact q2, by rw [e]; simpa using q3⟩
      · obtain ⟨p, s, q1, q2, q3⟩ := h9 i hi1 (by omega)
        exact ⟨p, s, q1, by rw [gl p (by omega)]; exact q2, by rw [gl i (by omega)]; exact q3⟩
  · refine ⟨sA σ 11 (upd (σ.2 11) y (nI (r y + 1))), [], ?_, h0, ?_, ?_, ?_, ?_, ?_, ?_, ?_, ?_, ?_⟩
    · unfold f_R_refer
      simp (disch := omega) only [gLd_n, gSt_n, e1, sA_eq, up_eq, add_c1, eq_c1, if_neg]
    · intro j hj
      show upd (σ.2 11) y (nI (r y + 1)) j = nI (r j + if j = y then 1 else 0)
      by_cases e : j = y
      · rw [e, up_eq, if_pos rfl]
      · rw [up_ne e, if_neg e, h1 j hj]; rfl
    · rw [List.append_nil]; exact h2
    · rw [List.append_nil]; exact h3
    · rw [List.append_nil]; exact h4
    · rw [List.append_nil]; exact h5
    · intro j
      rw [List.append_nil, h6 j]
      by_cases e : j = y
      · simp [e, h]
      · simp [e]
    · rw [List.append_nil]; exact h7
    · rw [List.append_nil]; exact h8
    · rw [List.append_nil]; exact h9
