/-! an element's head, its characters: both sides write the same -/
noncomputable def nu (x : Int32) : List Nat := Classical.choose (w_num x)
theorem nu_s (x : Int32) : (∀ c ∈ nu x, prtN c) ∧ (nu x).length ≤ 11 ∧ (∀ m, x = nI m → m < 100 → (nu x).length ≤ 2) ∧ (∀ m, x = nI m → m < 10 → (nu x).length ≤ 1) ∧ ∀ a, wC a (fun σ => f_W_writeNumber σ x) (nu x) ∧ wM a (fun τ => f_M_number τ x.toInt64) (nu x) := Classical.choose_spec (w_num x)
def prL (l : List Nat) : Prop := ∀ c ∈ l, prtN c
theorem prL_app {l m : List Nat} (h1 : prL l) (h2 : prL m) : prL (l ++ m) := fun c hc => (List.mem_append.mp hc).elim (h1 c) (h2 c)
theorem prL_nil : prL [] := fun c hc => by cases hc
theorem prL_B {l : List Nat} (h : l.all (fun c => decide (32 ≤ c ∧ c ≤ 126)) = true) : prL l := fun c hc => by
  have h2 : 32 ≤ c ∧ c ≤ 126 := of_decide_eq_true (List.all_eq_true.mp h c hc)
  exact h2
theorem prL_at {nm l : List Nat} (h1 : prL nm) (h2 : prL l) : prL (atL nm l) := by
  unfold atL
  intro c hc
  rcases List.mem_cons.mp hc with hc | hc
  · unfold prtN; omega
  · rcases List.mem_append.mp hc with hc | hc
    · exact h1 c hc
    · rcases List.mem_cons.mp hc with hc | hc
      · unfold prtN; omega
      · rcases List.mem_cons.mp hc with hc | hc
        · unfold prtN; omega
        · rcases List.mem_append.mp hc with hc | hc
          · exact h2 c hc
          · have hc := List.mem_singleton.mp hc
            unfold prtN; omega
theorem atL_len (nm l : List Nat) : (atL nm l).length = nm.length + l.length + 4 := by
  unfold atL
  simp only [List.length_cons, List.length_append, List.length_nil]
  omega
theorem cP_k {σ : gS} {a : aS} {pg : List Nat} (hc : absC σ (aPg a pg)) {j : Nat} (hj : j < sN a) : σ.2 2 j = nI (sK a j) ∧ σ.2 3 j = nI (sZ a j) := hc.2.2.1 j hj
theorem cP_s {σ : gS} {a : aS} {pg : List Nat} (hc : absC σ (aPg a pg)) {j i : Nat} (hj : j < sN a) (hk : sK a j ≠ 2) (hi : i < sZ a j) : σ.2 4 (4 * j + i) = nI (sC a (4 * j + i)) ∧ σ.2 5 (4 * j + i) = sV a (4 * j + i) := hc.2.2.2.1 j i hj hk hi
theorem cP_t {σ : gS} {a : aS} {pg : List Nat} (hc : absC σ (aPg a pg)) {j i : Nat} (hj : j < sN a) (hk : sK a j = 2) (hi : i < sZ a j) : σ.2 6 (6 * j + i) = nI (sT a (6 * j + i)) := hc.2.2.2.2.1 j i hj hk hi
theorem mQ_k {τ : gS} {a : aS} {pg : List Nat} (hc : absM τ (aPg a pg)) {j : Nat} (hj : j < sN a) : τ.2 1 j = nI (sK a j) ∧ τ.2 2 j = nI (sZ a j) := hc.2.2.1 j hj
theorem mQ_s {τ : gS} {a : aS} {pg : List Nat} (hc : absM τ (aPg a pg)) {j i : Nat} (hj : j < sN a) (hk : sK a j ≠ 2) (hi : i < sZ a j) : τ.2 3 (4 * j + i) = nI (sC a (4 * j + i)) ∧ (sC a (4 * j + i) ≠ 0 → τ.2 4 (4 * j + i) = sV a (4 * j + i)) := hc.2.2.2.1 j i hj hk hi
theorem mQ_t {τ : gS} {a : aS} {pg : List Nat} (hc : absM τ (aPg a pg)) {j i : Nat} (hj : j < sN a) (hk : sK a j = 2) (hi : i < sZ a j) : τ.2 5 (6 * j + i) = nI (sT a (6 * j + i)) := hc.2.2.2.2.1 j i hj hk hi
def bh (C : Nat → Nat) : Nat → Nat
  | 0 => 0
  | m + 1 => if C m = 0 then bh C m else m + 1
theorem bh_e {C : Nat → Nat} {m : Nat} (h : C m = 0) : bh C (m + 1) = bh C m := if_pos h
theorem bh_n {C : Nat → Nat} {m : Nat} (h : C m ≠ 0) : bh C (m + 1) = m + 1 := if_neg h
theorem bh_le (C : Nat → Nat) : ∀ m, bh C m ≤ m := by
  intro m
  induction m with
  | zero => exact Nat.le_refl 0
  | succ m ih =>
    by_cases h : C m = 0
    · rw [bh_e h]; omega
    · rw [bh_n h]; omega
theorem bh_0 (C : Nat → Nat) : ∀ m, bh C m = 0 → ∀ i, i < m → C i = 0 := by
  intro m
  induction m with
  | zero => intro _ i hi; omega
  | succ m ih =>
    intro h i hi
    by_cases h2 : C m = 0
    · rw [bh_e h2] at h
      by_cases e : i = m
      · rw [e]; exact h2
      · exact ih h i (by omega)
    · rw [bh_n h2] at h; omega
theorem bh_s (C : Nat → Nat) : ∀ m b, bh C m = b + 1 → C b ≠ 0 := by
  intro m
  induction m with
  | zero => intro b h; exact absurd h (by show ¬ 0 = b + 1; omega)
  | succ m ih =>
    intro b h
    by_cases h2 : C m = 0
    · rw [bh_e h2] at h; exact ih b h
    · rw [bh_n h2] at h
      have : m = b := by omega
      rw [← this]; exact h2
theorem fb_ex (C : Nat → Nat) (Z : Nat) : ∃ f, f ≤ bh C Z ∧ (bh C Z = 0 → f = 0) ∧ (0 < bh C Z → f < bh C Z ∧ C f ≠ 0) ∧ ∀ i, i < f → C i = 0 := by
  cases h : bh C Z with
  | zero => exact ⟨0, Nat.le_refl 0, fun _ => rfl, fun q => absurd q (Nat.lt_irrefl 0), fun i hi => absurd hi (Nat.not_lt_zero i)⟩
  | succ b =>
    have hb := bh_s C Z b h
    obtain ⟨f, h1, h2⟩ := pk_least (fun i => C i ≠ 0) ⟨b, hb⟩
    have hf : f ≤ b := by
      by_cases e : f ≤ b
      · exact e
      · exact absurd hb (h2 b (by omega))
    refine ⟨f, by omega, fun q => by omega, fun _ => ⟨by omega, h1⟩, fun i hi => ?_⟩
    have := h2 i hi
    by_cases e : C i = 0
    · exact e
    · exact absurd e this
/-- the class's first slot that is written -/
theorem c_fst {a : aS} (ha : okA a) {σ : gS} {pg : List Nat} (hc : absC σ (aPg a pg)) {j : Nat} (hj : j < sN a) (hk : sK a j = 1) {f : Nat} (h1 : ∀ i, i < f → sC a (4 * j + i) = 0) (h2 : (f < sZ a j ∧ sC a (4 * j + f) ≠ 0) ∨ (f = 0 ∧ ∀ i, i < sZ a j → sC a (4 * j + i) = 0)) : ∀ (d i t : Nat), i + d = 5 → d + 1 ≤ t → (f < sZ a j ∧ sC a (4 * j + f) ≠ 0 → i ≤ f) → R_W_firstWrittenSlot t 1 [nI j, nI i] σ = some (nI f, σ) := by
  have h16 := ha.1
  have kj := okA_K ha hj
  have z4 := kj.2.2 (by omega)
  have ek := cP_k hc hj
  intro d
  induction d with
  | zero =>
    intro i t hi ht hif
    obtain ⟨t, rfl⟩ : ∃ t', t = t' + 1 := ⟨t - 1, by omega⟩
    rw [st_W_firstWrittenSlot_1]
    unfold B_W_firstWrittenSlot_1
    rw [gLd_n (by omega) (by decide), ek.1, hk, if_pos (show nI 1 = 1 from rfl), gLd_n (by omega) (by decide), ek.2, if_pos (by rw [n_le (by omega) (by omega)]; omega)]
    rcases h2 with h2 | h2
    · have := hif h2
      omega
    · rw [h2.1]; rfl
  | succ d ih =>
    intro i t hi ht hif
    obtain ⟨t, rfl⟩ : ∃ t', t = t' + 1 := ⟨t - 1, by omega⟩
    rw [st_W_firstWrittenSlot_1]
    unfold B_W_firstWrittenSlot_1
    rw [gLd_n (by omega) (by decide), ek.1, hk, if_pos (show nI 1 = 1 from rfl), gLd_n (by omega) (by decide), ek.2]
    by_cases e : sZ a j ≤ i
    · rw [if_pos (by rw [n_le (by omega) (by omega)]; exact e)]
      rcases h2 with h2 | h2
      · have := hif h2
        omega
      · rw [h2.1]; rfl
    · have es := cP_s hc hj (i := i) (by omega) (by omega)
      have ca := (ha.2.2.2.1 j i hj (by omega) (by omega)).1
      rw [if_neg (by rw [n_le (by omega) (by omega)]; exact e), r_content (by omega) (by omega), gBd_s, es.1]
      by_cases e2 : sC a (4 * j + i) = 0
      · rw [if_pos (by rw [e2]; rfl), add_c1]
        refine ih (i + 1) t (by omega) (by omega) (fun q => ?_)
        have := hif q
        by_cases e3 : i = f
        · rw [e3] at e2; exact absurd e2 q.2
        · omega
      · rw [if_neg (nI_ne0 (by omega) (by omega))]
        rcases h2 with h2 | h2
        · have h3 := hif h2
          by_cases e3 : i = f
          · rw [e3]
          · exact absurd (h1 i (by omega)) e2
        · exact absurd (h2.2 i (by omega)) e2
theorem c_fst0 {σ : gS} {a : aS} {pg : List Nat} (ha : okA a) (hc : absC σ (aPg a pg)) {j : Nat} (hj : j < sN a) (hk : sK a j ≠ 1) (t : Nat) (x : Int32) : R_W_firstWrittenSlot (t + 1) 1 [nI j, x] σ = some (0, σ) := by
  have h16 := ha.1
  have kj := okA_K ha hj
  rw [st_W_firstWrittenSlot_1]
  unfold B_W_firstWrittenSlot_1
  rw [gLd_n (by omega) (by decide), (cP_k hc hj).1, if_neg (by rw [eq_c1 (by omega)]; exact hk)]
/-- the class's end of the slots that are written -/
theorem c_bh {a : aS} (ha : okA a) {σ : gS} {pg : List Nat} (hc : absC σ (aPg a pg)) {j : Nat} (hj : j < sN a) (hk : sK a j = 1) : ∀ (m t : Nat), m ≤ sZ a j → m + 1 ≤ t → R_W_behindLastWrittenSlot t 1 [nI j, nI m] σ = some (nI (bh (fun i => sC a (4 * j + i)) m), σ) := by
  have h16 := ha.1
  have kj := okA_K ha hj
  have z4 := kj.2.2 (by omega)
  have ek := cP_k hc hj
  intro m
  induction m with
  | zero =>
    intro t hm ht
    obtain ⟨t, rfl⟩ : ∃ t', t = t' + 1 := ⟨t - 1, by omega⟩
    rw [st_W_behindLastWrittenSlot_1]
    unfold B_W_behindLastWrittenSlot_1
    rw [gLd_n (by omega) (by decide), ek.1, hk, if_pos (show nI 1 = 1 from rfl), if_pos (by decide)]
    rfl
  | succ m ih =>
    intro t hm ht
    obtain ⟨t, rfl⟩ : ∃ t', t = t' + 1 := ⟨t - 1, by omega⟩
    have es := cP_s hc hj (i := m) (by omega) (by omega)
    have ca := (ha.2.2.2.1 j m hj (by omega) (by omega)).1
    rw [st_W_behindLastWrittenSlot_1]
    unfold B_W_behindLastWrittenSlot_1
    rw [gLd_n (by omega) (by decide), ek.1, hk, if_pos (show nI 1 = 1 from rfl), if_neg (by rw [le_c0 (by omega)]; omega), nI_pred, r_content (by omega) (by omega), gBd_s, es.1]
    by_cases e2 : sC a (4 * j + m) = 0
    · rw [if_pos (by rw [e2]; rfl), pk_m1, bh_e (C := fun i => sC a (4 * j + i)) e2]
      exact ih t (by omega) (by omega)
    · rw [if_neg (nI_ne0 (by omega) (by omega)), bh_n (C := fun i => sC a (4 * j + i)) e2]
theorem c_bh0 {a : aS} (ha : okA a) {σ : gS} {pg : List Nat} (hc : absC σ (aPg a pg)) {j : Nat} (hj : j < sN a) (hk : sK a j ≠ 1) (t : Nat) (x : Int32) : R_W_behindLastWrittenSlot (t + 1) 1 [nI j, x] σ = some (x, σ) := by
  have h16 := ha.1
  have kj := okA_K ha hj
  rw [st_W_behindLastWrittenSlot_1]
  unfold B_W_behindLastWrittenSlot_1
  rw [gLd_n (by omega) (by decide), (cP_k hc hj).1, if_neg (by rw [eq_c1 (by omega)]; exact hk)]
theorem n_sm (q : Nat) : nI q + (-1) = nI q - 1 := (Int32.sub_eq_add_neg _ _).symm
theorem n_m1lt (f : Nat) (h : f < 1000) : nI f - 1 < nI f := by
  cases f with
  | zero => decide
  | succ f => rw [nI_pred, n_lt (by omega) (by omega)]; omega
/-- the reference's last slot that is written, then its first -/
theorem m_bh {a : aS} (ha : okA a) {τ : gS} {pg : List Nat} (hm : absM τ (aPg a pg)) {j : Nat} (hj : j < sN a) (hk : sK a j = 1) (z : Int32) : ∀ (m t : Nat), m ≤ sZ a j → m + 1 ≤ t → ∃ t', t ≤ t' + (m + 1) ∧ R_M_element t 3 [nI j, z, 0, nI m - 1] τ = R_M_element t' 4 [nI j, z, 0, nI (bh (fun i => sC a (4 * j + i)) m) - 1] τ := by
  have h16 := ha.1
  have kj := okA_K ha hj
  have z4 := kj.2.2 (by omega)
  intro m
  induction m with
  | zero =>
    intro t hm2 ht
    obtain ⟨t, rfl⟩ : ∃ t', t = t' + 1 := ⟨t - 1, by omega⟩
    refine ⟨t, by omega, ?_⟩
    rw [st_M_element_3]
    unfold B_M_element_3
    rw [if_pos (by decide)]
    rfl
  | succ m ih =>
    intro t hm2 ht
    obtain ⟨t, rfl⟩ : ∃ t', t = t' + 1 := ⟨t - 1, by omega⟩
    have es := mQ_s hm hj (i := m) (by omega) (by omega)
    have ca := (ha.2.2.2.1 j m hj (by omega) (by omega)).1
    rw [st_M_element_3]
    unfold B_M_element_3
    rw [nI_pred, if_neg (nI_pos (by omega)), gLd_ok (4 * j + m) (g_4x j m) (by omega) (by decide), es.1]
    by_cases e2 : sC a (4 * j + m) = 0
    · obtain ⟨t', w1, w2⟩ := ih t (by omega) (by omega)
      refine ⟨t', by omega, ?_⟩
      rw [if_pos (by rw [e2]; rfl), n_sm, bh_e (C := fun i => sC a (4 * j + i)) e2]
      exact w2
    · refine ⟨t, by omega, ?_⟩
      rw [if_neg (nI_ne0 (by omega) (by omega)), bh_n (C := fun i => sC a (4 * j + i)) e2, nI_pred]
theorem m_fst {a : aS} (ha : okA a) {τ : gS} {pg : List Nat} (hm : absM τ (aPg a pg)) {j : Nat} (hj : j < sN a) (hk : sK a j = 1) (z : Int32) {f b : Nat} (hb : b ≤ sZ a j) (h0 : b = 0 → f = 0) (h1 : 0 < b → f < b ∧ sC a (4 * j + f) ≠ 0) (h2 : ∀ i, i < f → sC a (4 * j + i) = 0) : ∀ (d i t : Nat), i + d = f → d + 1 ≤ t → ∃ t', t ≤ t' + (d + 1) ∧ R_M_element t 4 [nI j, z, nI i, nI b - 1] τ = R_M_element t' 5 [nI j, z, nI f, nI b - 1] τ := by
  have h16 := ha.1
  have kj := okA_K ha hj
  have z4 := kj.2.2 (by omega)
  intro d
  induction d with
  | zero =>
    intro i t hi ht
    obtain rfl : i = f := by omega
    obtain ⟨t, rfl⟩ : ∃ t', t = t' + 1 := ⟨t - 1, by omega⟩
    refine ⟨t, by omega, ?_⟩
    rw [st_M_element_4]
    unfold B_M_element_4
    cases b with
    | zero =>
      rw [h0 rfl, if_pos (by decide)]
    | succ b =>
      obtain ⟨q1, q2⟩ := h1 (by omega)
      have es := mQ_s hm hj (i := i) (by omega) (by omega)
      have ca := (ha.2.2.2.1 j i hj (by omega) (by omega)).1
      rw [nI_pred]
      by_cases e : b ≤ i
      · rw [if_pos (by rw [n_le (by omega) (by omega)]; exact e)]
      · rw [if_neg (by rw [n_le (by omega) (by omega)]; exact e), gLd_ok (4 * j + i) (g_4x j i) (by omega) (by decide), es.1, if_neg (nI_ne0 (by omega) (by omega))]
  | succ d ih =>
    intro i t hi ht
    obtain ⟨t, rfl⟩ : ∃ t', t = t' + 1 := ⟨t - 1, by omega⟩
    obtain ⟨t', w1, w2⟩ := ih (i + 1) t (by omega) (by omega)
    refine ⟨t', by omega, ?_⟩
    rw [st_M_element_4]
    unfold B_M_element_4
    cases b with
    | zero =>
      have := h0 rfl
      omega
    | succ b =>
      obtain ⟨q1, q2⟩ := h1 (by omega)
      have es := mQ_s hm hj (i := i) (by omega) (by omega)
      rw [nI_pred] at w2 ⊢
      rw [if_neg (by rw [n_le (by omega) (by omega)]; omega), gLd_ok (4 * j + i) (g_4x j i) (by omega) (by decide), es.1, h2 i (by omega), if_pos (show nI 0 = 0 from rfl), add_c1]
      exact w2
/-! characters -/
def escL (c : Nat) : List Nat := if c = 60 then [38, 108, 116, 59] else if c = 62 then [38, 103, 116, 59] else if c = 38 then [38, 97, 109, 112, 59] else [c]
theorem escL_len (c : Nat) : (escL c).length ≤ 5 := by
  unfold escL
  split
  · decide
  · split
    · decide
    · split
      · decide
      · show 1 ≤ 5
        decide
theorem escL_prt {c : Nat} (h : prtN c) : prL (escL c) := by
  unfold escL
  split
  · exact prL_B rfl
  · split
    · exact prL_B rfl
    · split
      · exact prL_B rfl
      · intro d hd
        rw [List.mem_singleton.mp hd]
        exact h
def txL (a : aS) (j : Nat) : Nat → Nat → List Nat
  | _, 0 => []
  | i, m + 1 => escL (sT a (6 * j + i)) ++ txL a j (i + 1) m
theorem txL_len (a : aS) (j : Nat) : ∀ m i, (txL a j i m).length ≤ 5 * m := by
  intro m
  induction m with
  | zero => intro i; exact Nat.le_refl 0
  | succ m ih =>
    intro i
    have h1 := ih (i + 1)
    have h2 := escL_len (sT a (6 * j + i))
    show (escL (sT a (6 * j + i)) ++ txL a j (i + 1) m).length ≤ _
    rw [List.length_append]
    omega
theorem txL_prt {a : aS} (ha : okA a) {j : Nat} (hj : j < sN a) (hk : sK a j = 2) : ∀ m i, i + m = sZ a j → prL (txL a j i m) := by
  intro m
  induction m with
  | zero => intro i _; exact prL_nil
  | succ m ih =>
    intro i hi
    exact prL_app (escL_prt (ha.2.2.2.2.1 j i hj hk (by omega))) (ih (i + 1) (by omega))
theorem c_txt {a : aS} (ha : okA a) {j : Nat} (hj : j < sN a) (hk : sK a j = 2) : ∀ (m i t : Nat) (σ : gS) (pg : List Nat), i + m = sZ a j → 2 * m + 1 ≤ t → absC σ (aPg a pg) → pg.length + (txL a j i m).length ≤ 1600 → ∃ σ', R_W_writeCharacters t 1 [nI j, nI i] σ = some (0, σ') ∧ oC a σ pg (txL a j i m) σ' := by
  have h16 := ha.1
  have kj := okA_K ha hj
  intro m
  induction m with
  | zero =>
    intro i t σ pg hi ht hc hl
    obtain ⟨t, rfl⟩ : ∃ t', t = t' + 1 := ⟨t - 1, by omega⟩
    refine ⟨σ, ?_, oC_r hc⟩
    rw [st_W_writeCharacters_1]
    unfold B_W_writeCharacters_1
    rw [gLd_n (by omega) (by decide), (cP_k hc hj).2, if_pos (by rw [n_le (by omega) (by omega)]; omega)]
  | succ m ih =>
    intro i t σ pg hi ht hc hl
    obtain ⟨t, rfl⟩ : ∃ t', t = t' + 1 + 1 := ⟨t - 2, by omega⟩
    have hl : pg.length + (escL (sT a (6 * j + i)) ++ txL a j (i + 1) m).length ≤ 1600 := hl
    rw [List.length_append] at hl
    have ht2 := cP_t hc hj hk (i := i) (by omega)
    have hpr := ha.2.2.2.2.1 j i hj hk (by omega)
    have h126 := hpr.2
    have go : ∀ (σ1 : gS), oC a σ pg (escL (sT a (6 * j + i))) σ1 → ∃ σ', R_W_writeCharacters (t + 1) 2 [nI j, nI i] σ1 = some (0, σ') ∧ oC a σ pg (escL (sT a (6 * j + i)) ++ txL a j (i + 1) m) σ' := by
      intro σ1 o1
      obtain ⟨σ2, e2, o2⟩ := ih (i + 1) t σ1 _ (by omega) (by omega) o1.1 (by rw [List.length_append]; omega)
      refine ⟨σ2, ?_, oC_t o1 o2⟩
      rw [st_W_writeCharacters_2]
      unfold B_W_writeCharacters_2
      rw [add_c1, e2]
    rw [st_W_writeCharacters_1]
    unfold B_W_writeCharacters_1
    rw [gLd_n (by omega) (by decide), (cP_k hc hj).2, if_neg (by rw [n_le (by omega) (by omega)]; omega)]
    have e0 : f_G_characterOf σ (nI j) (nI i) = some (nI (sT a (6 * j + i)), σ) := by
      unfold f_G_characterOf
      rw [gLd_ok (6 * j + i) (g_x6 j i) (by omega) (by decide), ht2, nr_c (by omega)]
    rw [e0, gBd_s]
    by_cases e1 : sT a (6 * j + i) = 60
    · have el : escL (sT a (6 * j + i)) = [38, 108, 116, 59] := if_pos e1
      rw [el] at hl go
      obtain ⟨r, σ1, w1, w2⟩ := cw_row11 a σ pg hc (by simp only [List.length_cons, List.length_nil] at hl ⊢; omega)
      have w1 : f_W_writeRow_S11 σ = some (r, σ1) := w1
      rw [if_pos (by rw [e1]; rfl), w1, gBd_s]
      rw [show txL a j i (m + 1) = escL (sT a (6 * j + i)) ++ txL a j (i + 1) m from rfl, el]
      exact go σ1 w2
    · rw [if_neg (by rw [eq_c60 (by omega)]; exact e1)]
      by_cases e2 : sT a (6 * j + i) = 62
      · have el : escL (sT a (6 * j + i)) = [38, 103, 116, 59] := (if_neg e1).trans (if_pos e2)
        rw [el] at hl go
        obtain ⟨r, σ1, w1, w2⟩ := cw_row12 a σ pg hc (by simp only [List.length_cons, List.length_nil] at hl ⊢; omega)
        have w1 : f_W_writeRow_S12 σ = some (r, σ1) := w1
        rw [if_pos (by rw [e2]; rfl), w1, gBd_s]
        rw [show txL a j i (m + 1) = escL (sT a (6 * j + i)) ++ txL a j (i + 1) m from rfl, el]
        exact go σ1 w2
      · rw [if_neg (by rw [eq_c62 (by omega)]; exact e2)]
        by_cases e3 : sT a (6 * j + i) = 38
        · have el : escL (sT a (6 * j + i)) = [38, 97, 109, 112, 59] := (if_neg e1).trans ((if_neg e2).trans (if_pos e3))
          rw [el] at hl go
          obtain ⟨r, σ1, w1, w2⟩ := cw_row13 a σ pg hc (by simp only [List.length_cons, List.length_nil] at hl ⊢; omega)
          have w1 : f_W_writeRow_S13 σ = some (r, σ1) := w1
          rw [if_pos (by rw [e3]; rfl), w1, gBd_s]
          rw [show txL a j i (m + 1) = escL (sT a (6 * j + i)) ++ txL a j (i + 1) m from rfl, el]
          exact go σ1 w2
        · have el : escL (sT a (6 * j + i)) = [sT a (6 * j + i)] := (if_neg e1).trans ((if_neg e2).trans (if_neg e3))
          rw [el] at hl go
          obtain ⟨r, σ1, w1, w2⟩ := wC_ch a hpr rfl σ pg hc (by simp only [List.length_cons, List.length_nil] at hl ⊢; omega)
          have w1 : f_P_append σ (nI (sT a (6 * j + i))) = some (r, σ1) := w1
          rw [if_neg (by rw [eq_c38 (by omega)]; exact e3), w1, gBd_s]
          rw [show txL a j i (m + 1) = escL (sT a (6 * j + i)) ++ txL a j (i + 1) m from rfl, el]
          exact go σ1 w2
theorem m_chr {c : Nat} (a : aS) (h : prtN c) : wM a (fun τ => f_M_character τ (nI c)) (escL c) := by
  have h126 := h.2
  have h32 := h.1
  intro τ pg hm hl
  show ∃ r τ', f_M_character τ (nI c) = some (r, τ') ∧ oM a τ pg (escL c) τ'
  unfold f_M_character
  by_cases e1 : c = 60
  · have el : escL c = [38, 108, 116, 59] := if_pos e1
    rw [el] at hl ⊢
    obtain ⟨r, τ1, w1, w2⟩ := wM_o a (x1 := 38) (x2 := 108) (x3 := 116) (x4 := 59) 38 108 116 59 ⟨rfl, rfl, rfl, rfl⟩ rfl τ pg hm hl
    have w1 : f_M_out τ 38 108 116 59 = some (r, τ1) := w1
    rw [if_pos (by rw [e1]; rfl), w1, gBd_s]
    exact ⟨0, τ1, rfl, w2⟩
  · rw [if_neg (by rw [eq_c60 (by omega)]; exact e1)]
    by_cases e2 : c = 62
    · have el : escL c = [38, 103, 116, 59] := (if_neg e1).trans (if_pos e2)
      rw [el] at hl ⊢
      obtain ⟨r, τ1, w1, w2⟩ := wM_o a (x1 := 38) (x2 := 103) (x3 := 116) (x4 := 59) 38 103 116 59 ⟨rfl, rfl, rfl, rfl⟩ rfl τ pg hm hl
      have w1 : f_M_out τ 38 103 116 59 = some (r, τ1) := w1
      rw [if_pos (by rw [e2]; rfl), w1, gBd_s]
      exact ⟨0, τ1, rfl, w2⟩
    · rw [if_neg (by rw [eq_c62 (by omega)]; exact e2)]
      by_cases e3 : c = 38
      · have el : escL c = [38, 97, 109, 112, 59] := (if_neg e1).trans ((if_neg e2).trans (if_pos e3))
        rw [el] at hl ⊢
        have w := wM_seq (wM_o a (x1 := 38) (x2 := 97) (x3 := 109) (x4 := 112) 38 97 109 112 ⟨rfl, rfl, rfl, rfl⟩ rfl) (wM_seq (wM_o a (x1 := 59) (x2 := 0) (x3 := 0) (x4 := 0) 59 0 0 0 ⟨rfl, rfl, rfl, rfl⟩ rfl) (wM_ret a 0))
        rw [if_pos (by rw [e3]; rfl)]
        exact w τ pg hm hl
      · have el : escL c = [c] := (if_neg e1).trans ((if_neg e2).trans (if_neg e3))
        have ol : outL c 0 0 0 = [c] := by
          unfold outL
          rw [zL_n (by omega)]
          rfl
        rw [el] at hl ⊢
        have w := wM_o a (x2 := 0) (x3 := 0) (x4 := 0) c 0 0 0 ⟨rfl, rfl, rfl, rfl⟩ (by
          have : okB c = true := decide_eq_true (Or.inr (by omega))
          rw [this]
          rfl) τ pg hm (by rw [ol]; exact hl)
        rw [ol] at w
        obtain ⟨r, τ1, w1, w2⟩ := w
        have w1 : f_M_out τ (nI c) 0 0 0 = some (r, τ1) := w1
        rw [if_neg (by rw [eq_c38 (by omega)]; exact e3), w1, gBd_s]
        exact ⟨0, τ1, rfl, w2⟩
theorem m_txt {a : aS} (ha : okA a) {j : Nat} (hj : j < sN a) (hk : sK a j = 2) : ∀ (m i t : Nat) (τ : gS) (pg : List Nat), i + m = sZ a j → m + 1 ≤ t → absM τ (aPg a pg) → pg.length + (txL a j i m).length + 4 ≤ 1600 → ∃ τ', R_M_element t 7 [nI j, nI i] τ = some (0, τ') ∧ oM a τ pg (txL a j i m ++ [60, 47, 116, 62]) τ' := by
  have h16 := ha.1
  have kj := okA_K ha hj
  intro m
  induction m with
  | zero =>
    intro i t τ pg hi ht hm hl
    obtain ⟨t, rfl⟩ : ∃ t', t = t' + 1 := ⟨t - 1, by omega⟩
    have hl : pg.length + 0 + 4 ≤ 1600 := hl
    obtain ⟨r, τ1, w1, w2⟩ := wM_o a (x1 := 60) (x2 := 47) (x3 := 116) (x4 := 62) 60 47 116 62 ⟨rfl, rfl, rfl, rfl⟩ rfl τ pg hm (show pg.length + 4 ≤ 1600 by omega)
    have w1 : f_M_out τ 60 47 116 62 = some (r, τ1) := w1
    refine ⟨τ1, ?_, w2⟩
    rw [st_M_element_7]
    unfold B_M_element_7
    rw [gLd_n (by omega) (by decide), (mQ_k hm hj).2, if_pos (by rw [n_le (by omega) (by omega)]; omega), w1, gBd_s]
  | succ m ih =>
    intro i t τ pg hi ht hm hl
    obtain ⟨t, rfl⟩ : ∃ t', t = t' + 1 := ⟨t - 1, by omega⟩
    have hl : pg.length + (escL (sT a (6 * j + i)) ++ txL a j (i + 1) m).length + 4 ≤ 1600 := hl
    rw [List.length_append] at hl
    have hpr := ha.2.2.2.2.1 j i hj hk (by omega)
    obtain ⟨r, τ1, w1, w2⟩ := m_chr a hpr τ pg hm (by omega)
    have w1 : f_M_character τ (nI (sT a (6 * j + i))) = some (r, τ1) := w1
    obtain ⟨τ2, v1, v2⟩ := ih (i + 1) t τ1 _ (by omega) (by omega) w2.1 (by rw [List.length_append]; omega)
    refine ⟨τ2, ?_, ?_⟩
    · rw [st_M_element_7]
      unfold B_M_element_7
      rw [gLd_n (by omega) (by decide), (mQ_k hm hj).2, if_neg (by rw [n_le (by omega) (by omega)]; omega), gLd_ok (6 * j + i) (g_6x j i) (by omega) (by decide), mQ_t hm hj hk (i := i) (by omega), w1, gBd_s, add_c1, v1]
    · show oM a τ pg ((escL (sT a (6 * j + i)) ++ txL a j (i + 1) m) ++ [60, 47, 116, 62]) τ2
      rw [List.append_assoc]
      exact oM_t w2 v2
