/-! what is reached, and how often each is referred to: the reference's marking, and shared -/
def rO (a : aS) (x : Nat) (O : List Nat) : Prop := O.Nodup ∧ (∀ j ∈ O, j < sN a) ∧ (∀ j, j ∈ O ↔ rx a x O j ≠ 0) ∧ O.getD 0 0 = x ∧ 0 < O.length ∧ (∀ i, 1 ≤ i → i < O.length → ∃ p s, p < i ∧ s / 4 = O.getD p 0 ∧ tg a s = some (O.getD i 0))
theorem rI_O {a : aS} {x : Nat} {σ : gS} {O : List Nat} (h : rI a x σ (rx a x O) O) : rO a x O := h.2.2.2.2
theorem ck_pos {a : aS} {s y : Nat} (h : tg a s = some y) : 1 ≤ ck a (s / 4) 4 y := by
  have e : 4 * (s / 4) + s % 4 = s := by omega
  have m : ∀ k, s % 4 < k → 1 ≤ ck a (s / 4) k y := by
    intro k
    induction k with
    | zero => intro q; omega
    | succ k ih =>
      intro q
      show 1 ≤ ck a (s / 4) k y + if tg a (4 * (s / 4) + k) = some y then 1 else 0
      by_cases q2 : k = s % 4
      · rw [q2, e, if_pos h]; omega
      · have := ih (by omega); omega
  exact m 4 (by omega)
theorem cs_mem (a : aS) (y : Nat) {j : Nat} : ∀ l : List Nat, j ∈ l → ck a j 4 y ≤ cs a l y := by
  intro l
  induction l with
  | nil => intro h; cases h
  | cons i l ih =>
    intro h
    show _ ≤ ck a i 4 y + cs a l y
    rcases List.mem_cons.mp h with rfl | h
    · omega
    · have := ih h; omega
theorem rO_cl {a : aS} {x : Nat} {O : List Nat} (h : rO a x O) {s y : Nat} (hj : s / 4 ∈ O) (ht : tg a s = some y) : y ∈ O := by
  rw [h.2.2.1 y]
  have h1 := ck_pos ht
  have h2 := cs_mem a y O hj
  unfold rx
  omega
theorem rO_len {a : aS} {x : Nat} {O : List Nat} (h : rO a x O) : O.length ≤ sN a := nd_len _ _ h.1 h.2.1
theorem rx_le {a : aS} {x : Nat} {O : List Nat} (ha : okA a) (h : rO a x O) (y : Nat) : rx a x O y ≤ 65 := by
  have h1 := cs_le a y O
  have h2 := rO_len h
  have h3 := ha.1
  unfold rx
  split <;> omega
theorem n_4m (n : Nat) : 4 * nI n = nI (4 * n) := by rw [show (4 : Int32) = nI 4 from rfl, pk_mul]
theorem m_tg {a : aS} (ha : okA a) {τ : gS} (hm : absM τ a) {s : Nat} (hs : s < 4 * sN a) : (∃ y, tg a s = some y ∧ f_M_holds τ (nI (s / 4)) (nI (s % 4)) = some (2, τ) ∧ τ.2 4 s = nI y ∧ y < sN a) ∨ (tg a s = none ∧ ∃ v, f_M_holds τ (nI (s / 4)) (nI (s % 4)) = some (v, τ) ∧ ¬ v = 2) := by
  have h16 := ha.1
  have e : 4 * (s / 4) + s % 4 = s := by omega
  have hj : s / 4 < sN a := by omega
  unfold f_M_holds
  cases h : tg a s with
  | some y =>
    obtain ⟨q1, q2, q3, q4, q5, q6, q7⟩ := tg_some ha h
    have e5 := hm.2.2.2.1 (s / 4) (s % 4) q1 q2 q3
    rw [e] at e5
    refine Or.inl ⟨y, rfl, ?_, ?_, q7⟩
    · rw [r_mslot ha hm q1 q2 q3, gBd_s, if_neg i10, gLd_ok (4 * (s / 4) + s % 4) (g_4x _ _) (by omega) (by decide), e, e5.1, q5]
      rfl
    · rw [e5.2 (by omega), q6]
  | none =>
    refine Or.inr ⟨rfl, ?_⟩
    by_cases q : sK a (s / 4) ≠ 2 ∧ s % 4 < sZ a (s / 4)
    · have z3 := (okA_K ha hj).2.2 q.1
      have e5 := hm.2.2.2.1 (s / 4) (s % 4) hj q.1 q.2
      have h2 := (ha.2.2.2.1 (s / 4) (s % 4) hj q.1 q.2).1
      have h4 : sC a (4 * (s / 4) + s % 4) ≠ 2 := tg_none (by omega) (by rw [e]; exact h) hj q.1 q.2
      exact ⟨nI (sC a (4 * (s / 4) + s % 4)), by rw [r_mslot ha hm hj q.1 q.2, gBd_s, if_neg i10, gLd_ok (4 * (s / 4) + s % 4) (g_4x _ _) (by omega) (by decide), e5.1], n2 h2 h4⟩
    · refine ⟨-1, ?_, im2⟩
      rw [r_mslotN ha hm (Or.inr ⟨s / 4, hj, rfl, ?_⟩), gBd_s, if_pos rfl]
      by_cases h2 : sK a (s / 4) = 2
      · exact Or.inl h2
      · have z := (okA_K ha hj).2.1
        exact Or.inr (Or.inr (nI_le (by
          by_cases h3 : s % 4 < sZ a (s / 4)
          · exact absurd ⟨h2, h3⟩ q
          · omega) (by omega)))
def swp (a : aS) (b : Nat → Bool) : Nat → Nat → Bool
  | 0, y => b y
  | s + 1, y => swp a b s y || (swp a b s (s / 4) && decide (tg a s = some y))
theorem swp_0 (a : aS) (b : Nat → Bool) : swp a b 0 = b := rfl
theorem swp_s (a : aS) (b : Nat → Bool) (s y : Nat) : swp a b (s + 1) y = (swp a b s y || (swp a b s (s / 4) && decide (tg a s = some y))) := rfl
def mI (a : aS) (τ0 : gS) (b : Nat → Bool) (τ : gS) : Prop := absM τ a ∧ τ.1 = τ0.1 ∧ (∀ k, k ≠ 19 → τ.2 k = τ0.2 k) ∧ ∀ j, j < 16 → τ.2 19 j = bI (b j)
theorem m_mk5 {a : aS} (ha : okA a) {b : Nat → Bool} {τ0 : gS} (q : Int32) : ∀ (d s : Nat) (τ : gS) (t : Nat), s + d = 4 * sN a → mI a τ0 (swp a b s) τ → ∃ τ', R_M_mark (t + (2 * d + 1)) 5 [q, nI s] τ = R_M_mark t 4 [q + 1] τ' ∧ mI a τ0 (swp a b (4 * sN a)) τ' := by
  have h16 := ha.1
  intro d
  induction d with
  | zero =>
    intro s τ t hs h
    obtain rfl : s = 4 * sN a := by omega
    refine ⟨τ, ?_, h⟩
    rw [show t + (2 * 0 + 1) = t + 1 from rfl, st_M_mark_5]
    unfold B_M_mark_5
    rw [h.1.1, n_4m, if_pos (by rw [n_le (by omega) (by omega)]; omega)]
  | succ d ih =>
    intro s τ t hs h
    obtain ⟨m0, m1, m2, m3⟩ := h
    have e6 : ∀ τ', R_M_mark (t + (2 * d + 1) + 1) 6 [q, nI s] τ' = R_M_mark (t + (2 * d + 1)) 5 [q, nI (s + 1)] τ' := fun τ' => by
      rw [st_M_mark_6]; unfold B_M_mark_6; rw [add_c1]
    have go : ∀ τ', mI a τ0 (swp a b (s + 1)) τ' → ∃ τ'', R_M_mark (t + (2 * d + 1) + 1) 6 [q, nI s] τ' = R_M_mark t 4 [q + 1] τ'' ∧ mI a τ0 (swp a b (4 * sN a)) τ'' := fun τ' h' => by
      rw [e6]; exact ih (s + 1) τ' t (by omega) h'
    rw [show t + (2 * (d + 1) + 1) = t + (2 * d + 1) + 1 + 1 by omega, st_M_mark_5]
    unfold B_M_mark_5
    rw [m0.1, n_4m, if_neg (by rw [n_le (by omega) (by omega)]; omega), n_div4 (by omega), n_rem4 (by omega), gLd_n (by omega) (by decide), m3 (s / 4) (by omega)]
    cases hb : swp a b s (s / 4) with
    | false =>
      rw [bI_f, if_pos rfl]
      refine go τ ⟨m0, m1, m2, fun j hj => ?_⟩
      rw [m3 j hj, swp_s, hb]; simp
    | true =>
      rw [bI_t, if_neg i10]
      rcases m_tg ha m0 (s := s) (by omega) with ⟨y, q1, q2, q3, q4⟩ | ⟨q1, v, q2, q3⟩
      · rw [q2, gBd_s, if_pos rfl, gLd_n (by omega) (by decide), q3, nar_1, gSt_n (by omega) (by decide)]
        refine go _ ⟨absM_of m0 rfl rfl (fun k hk => sA_ne (by omega)), m1, fun k hk => (sA_ne hk).trans (m2 k hk), fun j hj => ?_⟩
        rw [sA_eq]
        by_cases e : j = y
        · rw [e, up_eq, swp_s, hb, q1]; simp [bI_t]
        · rw [up_ne e, m3 j hj, swp_s, hb, q1]; simp [Ne.symm e]
      · rw [q2, gBd_s, if_neg q3]
        refine go τ ⟨m0, m1, m2, fun j hj => ?_⟩
        rw [m3 j hj, swp_s, q1]; simp
def itr (a : aS) (b : Nat → Bool) : Nat → Nat → Bool
  | 0 => b
  | r + 1 => swp a (itr a b r) (4 * sN a)
theorem itr_0 (a : aS) (b : Nat → Bool) : itr a b 0 = b := rfl
theorem itr_s (a : aS) (b : Nat → Bool) (r : Nat) : itr a b (r + 1) = swp a (itr a b r) (4 * sN a) := rfl
theorem m_mk4 {a : aS} (ha : okA a) {b : Nat → Bool} {τ0 : gS} : ∀ (d i : Nat) (τ : gS) (t : Nat), i + d = 16 → mI a τ0 (itr a b i) τ → ∃ τ', R_M_mark (t + (d * (8 * sN a + 2) + 1)) 4 [nI i] τ = R_M_mark t 7 [0] τ' ∧ mI a τ0 (itr a b 16) τ' := by
  have h16 := ha.1
  intro d
  induction d with
  | zero =>
    intro i τ t hi h
    obtain rfl : i = 16 := by omega
    refine ⟨τ, ?_, h⟩
    rw [show t + (0 * (8 * sN a + 2) + 1) = t + 1 by omega, st_M_mark_4]
    unfold B_M_mark_4
    rw [if_pos (by decide)]
  | succ d ih =>
    intro i τ t hi h
    obtain ⟨τ', w1, w2⟩ := m_mk5 ha (b := itr a b i) (τ0 := τ0) (nI i) (4 * sN a) 0 τ (t + (d * (8 * sN a + 2) + 1)) (by omega) (by rw [swp_0]; exact h)
    rw [nI_0] at w1
    have e : t + ((d + 1) * (8 * sN a + 2) + 1) = t + (d * (8 * sN a + 2) + 1) + (2 * (4 * sN a) + 1) + 1 := by rw [Nat.succ_mul]; omega
    rw [e, st_M_mark_4]
    unfold B_M_mark_4
    rw [if_neg (by rw [c16_le (by omega)]; omega), w1, add_c1]
    exact ih (i + 1) τ' t (by omega) (by rw [itr_s]; exact w2)
theorem swp_up {a : aS} {b : Nat → Bool} {y : Nat} : ∀ d s, swp a b s y = true → swp a b (s + d) y = true := by
  intro d
  induction d with
  | zero => intro s h; exact h
  | succ d ih =>
    intro s h
    rw [← Nat.add_assoc, swp_s, ih s h]; rfl
theorem swp_hit {a : aS} {b : Nat → Bool} {s y m : Nat} (hb : b (s / 4) = true) (ht : tg a s = some y) (hm : s < m) : swp a b m y = true := by
  have h1 : swp a b s (s / 4) = true := by
    have := swp_up (a := a) (b := b) s 0 (y := s / 4) hb
    rw [Nat.zero_add] at this
    exact this
  have h2 : swp a b (s + 1) y = true := by rw [swp_s, h1, ht]; simp
  have h3 := swp_up (m - (s + 1)) (s + 1) h2
  rw [show s + 1 + (m - (s + 1)) = m by omega] at h3
  exact h3
theorem swp_in {a : aS} {x : Nat} {O : List Nat} (hO : rO a x O) {b : Nat → Bool} (hb : ∀ y, b y = true → y ∈ O) : ∀ s y, swp a b s y = true → y ∈ O := by
  intro s
  induction s with
  | zero => intro y h; exact hb y h
  | succ s ih =>
    intro y h
    rw [swp_s] at h
    rcases (Bool.or_eq_true _ _).mp h with h | h
    · exact ih y h
    · have h2 := (Bool.and_eq_true _ _).mp h
      exact rO_cl hO (ih _ h2.1) (of_decide_eq_true h2.2)
theorem itr_in {a : aS} {x : Nat} {O : List Nat} (hO : rO a x O) {b : Nat → Bool} (hb : ∀ y, b y = true → y ∈ O) : ∀ r y, itr a b r y = true → y ∈ O := by
  intro r
  induction r with
  | zero => intro y h; exact hb y h
  | succ r ih => intro y h; rw [itr_s] at h; exact swp_in hO ih _ y h
theorem gD_mem {O : List Nat} {i : Nat} (h : i < O.length) : O.getD i 0 ∈ O := by
  rw [List.getD_eq_getElem?_getD, List.getElem?_eq_getElem h]; exact List.getElem_mem h
theorem mem_gD {O : List Nat} {y : Nat} (h : y ∈ O) : ∃ i, i < O.length ∧ O.getD i 0 = y := by
  obtain ⟨i, hi, e⟩ := List.getElem_of_mem h
  exact ⟨i, hi, by rw [List.getD_eq_getElem?_getD, List.getElem?_eq_getElem hi]; exact e⟩
theorem itr_up {a : aS} {x : Nat} {O : List Nat} (hO : rO a x O) {b : Nat → Bool} (hb : b x = true) : ∀ r i, i ≤ r → i < O.length → itr a b r (O.getD i 0) = true := by
  intro r
  induction r with
  | zero =>
    intro i hi hl
    obtain rfl : i = 0 := by omega
    rw [hO.2.2.2.1]; exact hb
  | succ r ih =>
    intro i hi hl
    rw [itr_s]
    by_cases h : i ≤ r
    · have := swp_up (a := a) (b := itr a b r) (y := O.getD i 0) (4 * sN a) 0 (ih i h hl)
      rw [Nat.zero_add] at this
      exact this
    · obtain ⟨p, s, h1, h2, h3⟩ := hO.2.2.2.2.2 i (by omega) hl
      have h4 := hO.2.1 _ (gD_mem (O := O) (i := p) (by omega))
      exact swp_hit (s := s) (by rw [h2]; exact ih p (by omega) (by omega)) h3 (by omega)
theorem itr_all {a : aS} (ha : okA a) {x : Nat} {O : List Nat} (hO : rO a x O) {b : Nat → Bool} (hb : ∀ y, b y = decide (y = x)) (y : Nat) : itr a b 16 y = decide (y ∈ O) := by
  have h16 := ha.1
  have hl := rO_len hO
  by_cases h : y ∈ O
  · rw [decide_eq_true h]
    obtain ⟨i, hi, rfl⟩ := mem_gD h
    exact itr_up hO (by rw [hb]; simp) 16 i (by omega) hi
  · rw [decide_eq_false h]
    cases e : itr a b 16 y with
    | false => rfl
    | true =>
      refine absurd (itr_in hO (b := b) (fun z hz => ?_) 16 y e) h
      rw [hb] at hz
      have hz := of_decide_eq_true hz
      rw [hz, ← hO.2.2.2.1]
      exact gD_mem hO.2.2.2.2.1
def rcn (a : aS) (x : Nat) (b : Nat → Bool) : Nat → Nat → Nat
  | 0, y => if y = x then 1 else 0
  | s + 1, y => rcn a x b s y + if b (s / 4) = true ∧ tg a s = some y then 1 else 0
theorem rcn_s (a : aS) (x : Nat) (b : Nat → Bool) (s y : Nat) : rcn a x b (s + 1) y = rcn a x b s y + if b (s / 4) = true ∧ tg a s = some y then 1 else 0 := rfl
def smN (f : Nat → Nat) : Nat → Nat
  | 0 => 0
  | n + 1 => smN f n + f n
theorem smN_s (f : Nat → Nat) (n : Nat) : smN f (n + 1) = smN f n + f n := rfl
theorem smN_add (f g : Nat → Nat) : ∀ n, smN (fun i => f i + g i) n = smN f n + smN g n := by
  intro n
  induction n with
  | zero => rfl
  | succ n ih => rw [smN_s, smN_s, smN_s, ih]; omega
theorem smN_z : ∀ n, smN (fun _ => 0) n = 0 := by
  intro n
  induction n with
  | zero => rfl
  | succ n ih => rw [smN_s, ih]
theorem smN_1 (j : Nat) (f : Nat → Nat) : ∀ n, smN (fun i => if i = j then f i else 0) n = if j < n then f j else 0 := by
  intro n
  induction n with
  | zero => rw [if_neg (Nat.not_lt_zero j)]; rfl
  | succ n ih =>
    rw [smN_s, ih]
    by_cases h : n = j
    · rw [if_pos h, if_neg (by omega), if_pos (by omega), h, Nat.zero_add]
    · rw [if_neg h]
      by_cases h2 : j < n
      · rw [if_pos h2, if_pos (by omega)]; rfl
      · rw [if_neg h2, if_neg (by omega)]
theorem smN_c {f g : Nat → Nat} : ∀ n, (∀ i, i < n → f i = g i) → smN f n = smN g n := by
  intro n
  induction n with
  | zero => intro _; rfl
  | succ n ih => intro h; rw [smN_s, smN_s, ih (fun i hi => h i (by omega)), h n (by omega)]
theorem cs_sm (a : aS) (y n : Nat) : ∀ l : List Nat, l.Nodup → (∀ j ∈ l, j < n) → cs a l y = smN (fun i => if i ∈ l then ck a i 4 y else 0) n := by
  intro l
  induction l with
  | nil =>
    intro _ _
    rw [smN_c (g := fun _ => 0) n (fun i _ => if_neg (by simp)), smN_z]
    rfl
  | cons j l ih =>
    intro hn hl
    obtain ⟨h1, h2⟩ := List.nodup_cons.mp hn
    have h3 := ih h2 (fun i hi => hl i (List.mem_cons_of_mem _ hi))
    have h4 := smN_1 j (fun i => ck a i 4 y) n
    rw [if_pos (hl j (List.mem_cons_self ..))] at h4
    show ck a j 4 y + cs a l y = _
    rw [h3, ← h4, ← smN_add]
    refine smN_c n (fun i _ => ?_)
    by_cases e : i = j
    · subst e
      rw [if_pos rfl, if_neg h1, if_pos (List.mem_cons_self ..)]; rfl
    · rw [if_neg e, Nat.zero_add]
      by_cases e2 : i ∈ l
      · rw [if_pos e2, if_pos (List.mem_cons_of_mem _ e2)]
      · rw [if_neg e2, if_neg (fun q => (List.mem_cons.mp q).elim e e2)]
theorem rcn_4 (a : aS) (x : Nat) (b : Nat → Bool) (y : Nat) : ∀ m, rcn a x b (4 * m) y = (if y = x then 1 else 0) + smN (fun i => if b i = true then ck a i 4 y else 0) m := by
  intro m
  induction m with
  | zero => rfl
  | succ m ih =>
    rw [show 4 * (m + 1) = 4 * m + 1 + 1 + 1 + 1 by omega, rcn_s, rcn_s, rcn_s, rcn_s, ih, smN_s, show (4 * m) / 4 = m by omega, show (4 * m + 1) / 4 = m by omega, show (4 * m + 1 + 1) / 4 = m by omega, show (4 * m + 1 + 1 + 1) / 4 = m by omega]
    by_cases h : b m = true
    · simp only [h, true_and, if_true]
      show _ = _ + (_ + (0 + (if tg a (4 * m + 0) = some y then 1 else 0) + (if tg a (4 * m + 1) = some y then 1 else 0) + (if tg a (4 * m + 2) = some y then 1 else 0) + (if tg a (4 * m + 3) = some y then 1 else 0)))
      rw [show 4 * m + 0 = 4 * m from rfl]
      omega
    · simp only [h, false_and, if_false]
      rfl
theorem rcn_O {a : aS} {x : Nat} {O : List Nat} (hO : rO a x O) {b : Nat → Bool} (hb : ∀ y, b y = decide (y ∈ O)) (y : Nat) : rcn a x b (4 * sN a) y = rx a x O y := by
  rw [rcn_4]
  unfold rx
  rw [cs_sm a y (sN a) O hO.1 hO.2.1]
  congr 1
  refine smN_c _ (fun i _ => ?_)
  rw [hb]
  by_cases h : i ∈ O
  · simp [h]
  · simp [h]
theorem rcn_le (a : aS) (x : Nat) (b : Nat → Bool) (y : Nat) : ∀ s, rcn a x b s y ≤ s + 1 := by
  intro s
  induction s with
  | zero => unfold rcn; split <;> omega
  | succ s ih => rw [rcn_s]; split <;> omega
def mJ (a : aS) (τ0 : gS) (b : Nat → Bool) (r : Nat → Nat) (τ : gS) : Prop := absM τ a ∧ τ.1 = τ0.1 ∧ (∀ k, k ≠ 20 → τ.2 k = τ0.2 k) ∧ (∀ j, j < 16 → τ.2 19 j = bI (b j)) ∧ ∀ j, j < 16 → τ.2 20 j = nI (r j)
theorem m_mk7 {a : aS} (ha : okA a) {x : Nat} {b : Nat → Bool} {τ0 : gS} : ∀ (d s : Nat) (τ : gS) (t : Nat), s + d = 4 * sN a → mJ a τ0 b (rcn a x b s) τ → ∃ τ', R_M_mark (t + (2 * d + 1)) 7 [nI s] τ = some (0, τ') ∧ mJ a τ0 b (rcn a x b (4 * sN a)) τ' := by
  have h16 := ha.1
  intro d
  induction d with
  | zero =>
    intro s τ t hs h
    obtain rfl : s = 4 * sN a := by omega
    refine ⟨τ, ?_, h⟩
    rw [show t + (2 * 0 + 1) = t + 1 from rfl, st_M_mark_7]
    unfold B_M_mark_7
    rw [h.1.1, n_4m, if_pos (by rw [n_le (by omega) (by omega)]; omega)]
  | succ d ih =>
    intro s τ t hs h
    obtain ⟨m0, m1, m2, m3, m4⟩ := h
    have e6 : ∀ τ', R_M_mark (t + (2 * d + 1) + 1) 8 [nI s] τ' = R_M_mark (t + (2 * d + 1)) 7 [nI (s + 1)] τ' := fun τ' => by
      rw [st_M_mark_8]; unfold B_M_mark_8; rw [add_c1]
    have go : ∀ τ', mJ a τ0 b (rcn a x b (s + 1)) τ' → ∃ τ'', R_M_mark (t + (2 * d + 1) + 1) 8 [nI s] τ' = some (0, τ'') ∧ mJ a τ0 b (rcn a x b (4 * sN a)) τ'' := fun τ' h' => by
      rw [e6]; exact ih (s + 1) τ' t (by omega) h'
    rw [show t + (2 * (d + 1) + 1) = t + (2 * d + 1) + 1 + 1 by omega, st_M_mark_7]
    unfold B_M_mark_7
    rw [m0.1, n_4m, if_neg (by rw [n_le (by omega) (by omega)]; omega), n_div4 (by omega), n_rem4 (by omega), gLd_n (by omega) (by decide), m3 (s / 4) (by omega)]
    cases hb : b (s / 4) with
    | false =>
      rw [bI_f, if_pos rfl]
      refine go τ ⟨m0, m1, m2, m3, fun j hj => ?_⟩
      rw [m4 j hj, rcn_s, hb, if_neg (by simp)]; rfl
    | true =>
      rw [bI_t, if_neg i10]
      rcases m_tg ha m0 (s := s) (by omega) with ⟨y, q1, q2, q3, q4⟩ | ⟨q1, v, q2, q3⟩
      · rw [q2, gBd_s, if_pos rfl, gLd_n (by omega) (by decide), q3, gLd_n (by omega) (by decide), gSt_n (by omega) (by decide), m4 y (by omega), add_c1]
        refine go _ ⟨absM_of m0 rfl rfl (fun k hk => sA_ne (by omega)), m1, fun k hk => (sA_ne hk).trans (m2 k hk), fun j hj => (congrFun (sA_ne (by decide)) j).trans (m3 j hj), fun j hj => ?_⟩
        rw [sA_eq]
        by_cases e : j = y
        · rw [e, up_eq, rcn_s, if_pos ⟨hb, q1⟩]
        · rw [up_ne e, m4 j hj, rcn_s, if_neg (fun q => e (Option.some.inj (q1.symm.trans q.2)).symm)]; rfl
      · rw [q2, gBd_s, if_neg q3]
        refine go τ ⟨m0, m1, m2, m3, fun j hj => ?_⟩
        rw [m4 j hj, rcn_s, if_neg (fun q => by rw [q1] at q; cases q.2)]; rfl
theorem m_mk1 {x : Nat} (hx : x < 16) : ∀ (d i : Nat) (τ : gS) (t : Nat), i + d = 16 → ∃ τ', R_M_mark (t + (3 * d + 1)) 1 [nI x, nI i] τ = R_M_mark t 4 [0] τ' ∧ τ'.1 = τ.1 ∧ (∀ k, k ≠ 19 → k ≠ 20 → k ≠ 21 → τ'.2 k = τ.2 k) ∧ (∀ j, i ≤ j → j < 16 → τ'.2 19 j = bI (decide (j = x)) ∧ τ'.2 20 j = nI (if j = x then 1 else 0) ∧ τ'.2 21 j = 0) ∧ ∀ j, j < i → τ'.2 19 j = τ.2 19 j ∧ τ'.2 20 j = τ.2 20 j ∧ τ'.2 21 j = τ.2 21 j := by
  intro d
  induction d with
  | zero =>
    intro i τ t hi
    obtain rfl : i = 16 := by omega
    refine ⟨τ, ?_, rfl, fun _ _ _ _ => rfl, fun j h1 h2 => by omega, fun _ _ => ⟨rfl, rfl, rfl⟩⟩
    rw [show t + (3 * 0 + 1) = t + 1 from rfl, st_M_mark_1]
    unfold B_M_mark_1
    rw [if_pos (by decide)]
  | succ d ih =>
    intro i τ t hi
    have key : ∀ v : Nat, (v = if i = x then 1 else 0) → R_M_mark (t + (3 * (d + 1) + 1)) 1 [nI x, nI i] τ = R_M_mark (t + (3 * d + 1)) 1 [nI x, nI (i + 1)] (sA (sA (sA τ 19 (upd (τ.2 19) i (nI v))) 20 (upd (τ.2 20) i (nI v))) 21 (upd (τ.2 21) i 0)) := by
      intro v hv
      rw [show t + (3 * (d + 1) + 1) = t + (3 * d + 1) + 1 + 1 + 1 by omega, st_M_mark_1]
      unfold B_M_mark_1
      rw [if_neg (by rw [c16_le (by omega)]; omega)]
      by_cases e : i = x
      · rw [if_pos e] at hv
        subst hv
        rw [if_pos (by rw [e]), st_M_mark_2]
        unfold B_M_mark_2
        rw [gSt_n (by omega) (by decide), if_pos (by rw [e]), st_M_mark_3]
        unfold B_M_mark_3
        rw [gSt_n (by omega) (by decide), gSt_n (by omega) (by decide), add_c1, nar_1]
        rfl
      · rw [if_neg e] at hv
        subst hv
        rw [if_neg (by rw [n_eq (by omega) (by omega)]; exact e), st_M_mark_2]
        unfold B_M_mark_2
        rw [gSt_n (by omega) (by decide), if_neg (by rw [n_eq (by omega) (by omega)]; exact e), st_M_mark_3]
        unfold B_M_mark_3
        rw [gSt_n (by omega) (by decide), gSt_n (by omega) (by decide), add_c1, nar_0]
        rfl
    rw [key _ rfl]
    obtain ⟨τ', w1, w2, w3, w4, w5⟩ := ih (i + 1) (sA (sA (sA τ 19 (upd (τ.2 19) i (nI (if i = x then 1 else 0)))) 20 (upd (τ.2 20) i (nI (if i = x then 1 else 0)))) 21 (upd (τ.2 21) i 0)) t (by omega)
    refine ⟨τ', w1, w2, fun k h1 h2 h3 => ?_, fun j h1 h2 => ?_, fun j h1 => ?_⟩
    · rw [w3 k h1 h2 h3, sA_ne h3, sA_ne h2, sA_ne h1]
    · by_cases e : j = i
      · obtain ⟨v1, v2, v3⟩ := w5 j (by omega)
        rw [v1, v2, v3, sA_ne (by decide), sA_ne (by decide), sA_eq, sA_ne (by decide), sA_eq, sA_eq, e, up_eq, up_eq, up_eq]
        refine ⟨?_, rfl, rfl⟩
        by_cases e2 : i = x
        · rw [if_pos e2, decide_eq_true e2]; rfl
        · rw [if_neg e2, decide_eq_false e2]; rfl
      · exact w4 j (by omega) h2
    · obtain ⟨v1, v2, v3⟩ := w5 j (by omega)
      rw [v1, v2, v3, sA_ne (by decide), sA_ne (by decide), sA_eq, sA_ne (by decide), sA_eq, sA_eq, up_ne (by omega), up_ne (by omega), up_ne (by omega)]
      exact ⟨rfl, rfl, rfl⟩
/-- the reference's marking: what is reached is what the class's order holds, each with its count -/
theorem m_mark {a : aS} (ha : okA a) {τ : gS} (hm : absM τ a) {x : Nat} (hx : x < sN a) {O : List Nat} (hO : rO a x O) : ∃ τ', f_M_mark τ (nI x) = some (0, τ') ∧ absM τ' a ∧ τ'.1 = τ.1 ∧ (∀ k, k ≠ 19 → k ≠ 20 → k ≠ 21 → τ'.2 k = τ.2 k) ∧ ∀ j, j < 16 → τ'.2 19 j = bI (decide (j ∈ O)) ∧ τ'.2 20 j = nI (rx a x O j) ∧ τ'.2 21 j = 0 := by
  have h16 := ha.1
  obtain ⟨T, hT⟩ := gFx
  obtain ⟨τ1, a1, a2, a3, a4, a5⟩ := m_mk1 (x := x) (by omega) 16 0 τ (T + 49950) (by omega)
  obtain ⟨τ2, b1, b2, b3, b4, b5⟩ := m_mk4 ha (b := fun j => decide (j = x)) (τ0 := τ1) 16 0 τ1 (T + 49949 - 16 * (8 * sN a + 2)) (by omega) ⟨absM_of hm (by rw [a2]) (by rw [a2]) (fun k hk => a3 k (by omega) (by omega) (by omega)), rfl, fun _ _ => rfl, fun j hj => (a4 j (by omega) hj).1⟩
  have b6 : ∀ j, itr a (fun j => decide (j = x)) 16 j = decide (j ∈ O) := itr_all ha hO (fun _ => rfl)
  obtain ⟨τ3, c1, c2, c3, c4, c5, c6⟩ := m_mk7 ha (x := x) (b := fun j => decide (j ∈ O)) (τ0 := τ2) (4 * sN a) 0 τ2 (T + 49949 - 16 * (8 * sN a + 2) - (2 * (4 * sN a) + 1)) (by omega) ⟨b2, rfl, fun _ _ => rfl, fun j hj => by rw [b5 j hj, b6], fun j hj => by rw [b4 20 (by decide)]; exact (a4 j (by omega) hj).2.1⟩
  refine ⟨τ3, ?_, c2, by rw [c3, b3, a2], fun k h1 h2 h3 => by rw [c4 k h2, b4 k h1, a3 k h1 h2 h3], fun j hj => ⟨c5 j hj, by rw [c6 j hj, rcn_O hO (fun _ => rfl)], by rw [c4 21 (by decide), b4 21 (by decide)]; exact (a4 j (by omega) hj).2.2⟩⟩
  rw [fx_M_mark hT]
  unfold B_M_mark_0
  rw [nI_0] at a1 b1 c1
  rw [show T + 49999 = T + 49950 + (3 * 16 + 1) by omega, a1, show T + 49950 = T + 49949 - 16 * (8 * sN a + 2) + (16 * (8 * sN a + 2) + 1) by omega, b1, show T + 49949 - 16 * (8 * sN a + 2) = T + 49949 - 16 * (8 * sN a + 2) - (2 * (4 * sN a) + 1) + (2 * (4 * sN a) + 1) by omega, c1]
/-! shared -/
def cnt2 (r : Nat → Nat) : Nat → Nat
  | 0 => 0
  | i + 1 => cnt2 r i + if r i < 2 then 0 else 1
theorem cnt2_s (r : Nat → Nat) (i : Nat) : cnt2 r (i + 1) = cnt2 r i + if r i < 2 then 0 else 1 := rfl
theorem c_shd {σ : gS} {r : Nat → Nat} (h : ∀ j, j < 16 → σ.2 11 j = nI (r j)) (hr : ∀ j, r j ≤ 65) {i : Nat} (hi : i < 16) : f_R_isShared σ (nI i) = some (bI (decide (2 ≤ r i)), σ) := by
  have h2 := hr i
  unfold f_R_isShared
  rw [gLd_n hi (by decide), h i hi]
  by_cases e : r i < 2
  · rw [if_pos (by rw [lt_c2 (by omega)]; exact e), decide_eq_false (by omega)]; rfl
  · rw [if_neg (by rw [lt_c2 (by omega)]; exact e), decide_eq_true (by omega)]; rfl
theorem c_cnt {σ : gS} {r : Nat → Nat} (h : ∀ j, j < 16 → σ.2 11 j = nI (r j)) (hr : ∀ j, r j ≤ 65) : ∀ (d i t : Nat), i + d = 16 → R_R_countShared (t + (2 * d + 1)) 1 [nI (cnt2 r i), nI i] σ = some (nI (cnt2 r 16), σ) := by
  intro d
  induction d with
  | zero =>
    intro i t hi
    obtain rfl : i = 16 := by omega
    rw [show t + (2 * 0 + 1) = t + 1 from rfl, st_R_countShared_1]
    unfold B_R_countShared_1
    rw [if_pos (by decide)]
  | succ d ih =>
    intro i t hi
    rw [show t + (2 * (d + 1) + 1) = t + (2 * d + 1) + 1 + 1 by omega, st_R_countShared_1]
    unfold B_R_countShared_1
    rw [if_neg (by rw [c16_le (by omega)]; omega), c_shd h hr (by omega), gBd_s, ← ih (i + 1) t (by omega), cnt2_s]
    by_cases e : r i < 2
    · rw [decide_eq_false (by omega), bI_f, if_pos rfl, st_R_countShared_2, if_pos e]
      unfold B_R_countShared_2
      rw [add_c1, show cnt2 r i + 0 = cnt2 r i from rfl]
    · rw [decide_eq_true (by omega), bI_t, if_neg i10, st_R_countShared_2, if_neg e]
      unfold B_R_countShared_2
      rw [add_c1, add_c1]
theorem m_cnt {τ : gS} {r : Nat → Nat} (h : ∀ j, j < 16 → τ.2 20 j = nI (r j)) (hr : ∀ j, r j ≤ 65) : ∀ (d i t : Nat), i + d = 16 → R_M_shared (t + (2 * d + 1)) 1 [nI (cnt2 r i), nI i] τ = some (nI (cnt2 r 16), τ) := by
  intro d
  induction d with
  | zero =>
    intro i t hi
    obtain rfl : i = 16 := by omega
    rw [show t + (2 * 0 + 1) = t + 1 from rfl, st_M_shared_1]
    unfold B_M_shared_1
    rw [if_pos (by decide)]
  | succ d ih =>
    intro i t hi
    have h2 := hr i
    rw [show t + (2 * (d + 1) + 1) = t + (2 * d + 1) + 1 + 1 by omega, st_M_shared_1]
    unfold B_M_shared_1
    rw [if_neg (by rw [c16_le (by omega)]; omega), gLd_n (by omega) (by decide), h i (by omega), ← ih (i + 1) t (by omega), cnt2_s]
    by_cases e : r i < 2
    · rw [if_pos (by rw [lt_c2 (by omega)]; exact e), st_M_shared_2, if_pos e]
      unfold B_M_shared_2
      rw [add_c1, show cnt2 r i + 0 = cnt2 r i from rfl]
    · rw [if_neg (by rw [lt_c2 (by omega)]; exact e), st_M_shared_2, if_neg e]
      unfold B_M_shared_2
      rw [add_c1, add_c1]
theorem u_shared {σ τ : gS} {a : aS} (ha : okA a) (hc : absC σ a) (hm : absM τ a) (x : Int32) : sameR a (f_O_shared σ x) (f_M_shared τ x) := by
  have h16 := ha.1
  obtain ⟨T, hT⟩ := gFx
  rw [fx_M_shared hT]
  unfold f_O_shared B_M_shared_0
  rcases isJ_or (sN a) (by omega) x with ⟨j, hj, rfl⟩ | h
  · obtain ⟨σ', O, w1, w2⟩ := c_reach ha hc hj
    have hO := rI_O w2
    obtain ⟨τ', v1, v2, v3, v4, v5⟩ := m_mark ha hm hj hO
    refine ⟨nI (cnt2 (rx a j O) 16), σ', τ', ?_, ?_, w2.1, v2⟩
    · have k := c_cnt w2.2.1 (rx_le ha hO) 16 0 (T + 49966) (by omega)
      rw [show T + 49966 + (2 * 16 + 1) = T + 49999 by omega, nI_0, show nI (cnt2 (rx a j O) 0) = 0 from rfl] at k
      rw [r_has hc.1 h16 hj, gBd_s, if_neg i10, w1, gBd_s, fx_R_countShared hT]
      unfold B_R_countShared_0
      rw [k, gBd_s]
    · have k := m_cnt (τ := τ') (fun i hi => (v5 i hi).2.1) (rx_le ha hO) 16 0 (T + 49966) (by omega)
      rw [show T + 49966 + (2 * 16 + 1) = T + 49999 by omega, nI_0, show nI (cnt2 (rx a j O) 0) = 0 from rfl] at k
      rw [r_obj hm.1 h16 hj, gBd_s, if_neg i10, v1, gBd_s, k]
  · exact ⟨-1, σ, τ, by rw [r_hasN hc.1 h, gBd_s, if_pos rfl], by rw [r_objN hm.1 h, gBd_s, if_pos rfl], hc, hm⟩
