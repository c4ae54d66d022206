/-! decode: numbers on both sides -/
theorem drop_c {X l : List Nat} {k c : Nat} (h : X.drop k = c :: l) : k < X.length ∧ X.getD k 0 = c ∧ X.drop (k + 1) = l := by
  have hk : k < X.length := by
    by_cases e : k < X.length
    · exact e
    · rw [List.drop_eq_nil_of_le (by omega)] at h
      cases h
  rw [List.drop_eq_getElem_cons hk] at h
  obtain ⟨h1, h2⟩ := List.cons.inj h
  exact ⟨hk, by rw [List.getD_eq_getElem?_getD, List.getElem?_eq_getElem hk]; exact h1, h2⟩
theorem c_digN {c : Nat} (h : c < 2147483648) (σ : gS) : (gB c = true → f_O_isDigit σ (nI c) = some (1, σ)) ∧ (¬ gB c = true → f_O_isDigit σ (nI c) = some (0, σ)) := by
  unfold f_O_isDigit
  by_cases h1 : c < 48
  · rw [if_pos (show nI c < 48 by rw [lt_c48 h]; exact h1)]
    exact ⟨fun q => by have := gB_t.mp q; unfold isG at this; omega, fun _ => rfl⟩
  · rw [if_neg (show ¬ nI c < 48 by rw [lt_c48 h]; exact h1)]
    by_cases h2 : 57 < c
    · rw [if_pos (show 57 < nI c by rw [c57_lt h]; exact h2)]
      exact ⟨fun q => by have := gB_t.mp q; unfold isG at this; omega, fun _ => rfl⟩
    · rw [if_neg (show ¬ 57 < nI c by rw [c57_lt h]; exact h2)]
      exact ⟨fun _ => rfl, fun q => absurd (gB_t.mpr ⟨by omega, by omega⟩) q⟩
def nE (neg : Bool) (r : Option Int64) : Int64 := match r with
  | none => bigN
  | some v => rgN (if neg = true then -v else v)
theorem rg_c (z : Int64) (σ : gS) : (if lg_cmp z z.toInt32.toInt64 = 0 then some (z, σ) else some (1099511627776, σ) : Option (Int64 × gS)) = some (rgN z, σ) := by
  unfold rgN
  by_cases h : z = z.toInt32.toInt64
  · rw [if_pos ((lg_cmp_eq _ _).mpr h), if_pos h]
  · rw [if_neg (fun q => h ((lg_cmp_eq _ _).mp q)), if_neg h]
    rfl
theorem c_num {a : aS} {D : dS} (h : wB a D) {σ : gS} (tc : tC σ D) {e : Nat} (he : e < zN D) (hk0 : kc D e = 0) : f_H_numberIn σ (nI e) = some (nV (zX D e), σ) := by
  have hn := h.1
  have hC := h.2.2.1
  obtain ⟨T, hT⟩ := gFx
  obtain ⟨u1, u2, u3, u4, u5, u6, u7⟩ := tc.2.2.2.1 e he
  have cells := tc.2.2.2.2.2 e he hk0
  have hl := h.2.2.2.2.2.2.2.1 e he hk0
  have hpr := (h.2.2.2.2.2.2.2.2.1 e he).1
  have cc : ∀ k, k < (zX D e).length → (zX D e).getD k 0 < 127 := fun k hk => by
    have := hpr _ (gD_mem hk)
    have := this.2
    omega
  have l4 : ∀ (neg : Bool) (l : List Nat) (k t : Nat) (v : Int64), (zX D e).drop k = l → k ≤ (zX D e).length → l.length + 2 ≤ t → R_H_numberIn t 4 [nI (zS D e + (zX D e).length), bI neg, nI (zS D e + k)] [v] σ = some (nE neg (nF v l), σ) := by
    intro neg l
    induction l with
    | nil =>
      intro k t v hd hk ht
      obtain ⟨t, rfl⟩ : ∃ t', t = t' + 1 + 1 := ⟨t - 2, by omega⟩
      have hkl : k = (zX D e).length := by
        have := congrArg List.length hd
        rw [List.length_drop] at this
        simp only [List.length_nil] at this
        omega
      have e5 : ∀ z : Int64, R_H_numberIn (t + 1) 5 [] [z] σ = some (rgN z, σ) := fun z => by
        rw [st_H_numberIn_5]
        unfold B_H_numberIn_5
        exact rg_c z σ
      rw [st_H_numberIn_4]
      unfold B_H_numberIn_4
      rw [if_pos (show nI (zS D e + (zX D e).length) ≤ nI (zS D e + k) by rw [n_le (by omega) (by omega)]; omega)]
      cases neg with
      | false => rw [bI_f, if_pos rfl, e5]; rfl
      | true => rw [bI_t, if_neg i10, e5]; rfl
    | cons c l ih =>
      intro k t v hd hk ht
      obtain ⟨t, rfl⟩ : ∃ t', t = t' + 1 := ⟨t - 1, by omega⟩
      simp only [List.length_cons] at ht
      obtain ⟨d1, d2, d3⟩ := drop_c hd
      have hc := cc k d1
      rw [d2] at hc
      rw [st_H_numberIn_4]
      unfold B_H_numberIn_4
      rw [if_neg (show ¬ nI (zS D e + (zX D e).length) ≤ nI (zS D e + k) by rw [n_le (by omega) (by omega)]; omega), gLd_n (by omega) (by decide), cells k d1, d2]
      show _ = some (nE neg (if gB c = true then nF ((10 * v + (nI c).toInt64) - 48) l else none), σ)
      by_cases g : gB c = true
      · rw [(c_digN (by omega) σ).1 g, gBd_s, if_neg i10, gLd_n (by omega) (by decide), cells k d1, d2, add_c1, if_pos g, Int64.mul_comm v 10]
        exact ih (k + 1) t _ d3 (by omega) (by omega)
      · rw [(c_digN (by omega) σ).2 g, gBd_s, if_pos rfl, if_neg g]
        rfl
  have l3 : ∀ (neg : Bool) (k t : Nat), k ≤ (zX D e).length → 20 ≤ t → R_H_numberIn t 3 [nI (zS D e + k), nI (zS D e + (zX D e).length), bI neg] [] σ = some (nD neg ((zX D e).drop k), σ) := by
    intro neg k t hk ht
    obtain ⟨t, rfl⟩ : ∃ t', t = t' + 1 := ⟨t - 1, by omega⟩
    have hdl : ((zX D e).drop k).length = (zX D e).length - k := List.length_drop
    rw [st_H_numberIn_3]
    unfold B_H_numberIn_3 nD
    by_cases z : (zX D e).length ≤ k
    · rw [if_pos (show nI (zS D e + (zX D e).length) ≤ nI (zS D e + k) by rw [n_le (by omega) (by omega)]; omega), if_pos (Or.inl (List.drop_eq_nil_of_le z))]
      rfl
    · rw [if_neg (show ¬ nI (zS D e + (zX D e).length) ≤ nI (zS D e + k) by rw [n_le (by omega) (by omega)]; omega), pk_sub (by omega), show zS D e + (zX D e).length - (zS D e + k) = (zX D e).length - k by omega]
      by_cases w : (zX D e).length - k ≤ 10
      · rw [if_pos (show nI ((zX D e).length - k) ≤ 10 by rw [le_c10 (by omega)]; exact w), if_neg (fun q => by
          rcases q with q | q
          · have := congrArg List.length q
            rw [hdl] at this
            simp only [List.length_nil] at this
            omega
          · omega), l4 neg _ k t 0 rfl hk (by omega)]
        rfl
      · rw [if_neg (show ¬ nI ((zX D e).length - k) ≤ 10 by rw [le_c10 (by omega)]; exact w), if_pos (Or.inr (by omega))]
        rfl
  have l2 : ∀ (neg : Bool) (t : Nat), 21 ≤ t → (neg = true → 1 ≤ (zX D e).length) → R_H_numberIn t 2 [nI (zS D e), nI (zS D e + (zX D e).length), bI neg] [] σ = some (nD neg ((zX D e).drop (if neg = true then 1 else 0)), σ) := by
    intro neg t ht hng
    obtain ⟨t, rfl⟩ : ∃ t', t = t' + 1 := ⟨t - 1, by omega⟩
    rw [st_H_numberIn_2]
    unfold B_H_numberIn_2
    cases neg with
    | false =>
      rw [bI_f, if_pos rfl]
      exact l3 false 0 t (by omega) (by omega)
    | true =>
      rw [bI_t, if_neg i10, add_c1]
      exact l3 true 1 t (hng rfl) (by omega)
  have l1 : ∀ t : Nat, 22 ≤ t → R_H_numberIn t 1 [nI (zS D e), nI (zS D e + (zX D e).length)] [] σ = some (nD false (zX D e), σ) := by
    intro t ht
    obtain ⟨t, rfl⟩ : ∃ t', t = t' + 1 := ⟨t - 1, by omega⟩
    rw [st_H_numberIn_1]
    unfold B_H_numberIn_1
    have w := l2 false t (by omega) (fun q => by cases q)
    rw [bI_f, if_neg (by decide), List.drop_zero] at w
    exact w
  rw [fx_H_numberIn hT]
  unfold B_H_numberIn_0
  rw [gLd_n (by omega) (by decide), gLd_n (by omega) (by decide), u6, u7, nI_add]
  cases hX : zX D e with
  | nil =>
    rw [hX] at l1
    rw [if_pos (show nI (zS D e + ([] : List Nat).length) ≤ nI (zS D e) from Int32.le_refl _), l1 (T + 49999) (by omega)]
    rfl
  | cons c l =>
    rw [hX] at l1 l2 cells hl cc
    simp only [List.length_cons] at hl
    have c0 := cells 0 (by simp)
    have hc := cc 0 (by simp)
    have c0 : σ.2 31 (zS D e) = nI c := c0
    have hc : c < 127 := hc
    have ll : (c :: l).length = l.length + 1 := rfl
    rw [if_neg (show ¬ nI (zS D e + (c :: l).length) ≤ nI (zS D e) by rw [n_le (by omega) (by omega)]; omega), gLd_n (by omega) (by decide), c0]
    show _ = some (if c = 45 then nD true l else nD false (c :: l), σ)
    by_cases z : c = 45
    · rw [if_pos (show nI c = 45 by rw [z]; rfl), if_pos z]
      have w := l2 true (T + 49999) (by omega) (fun _ => by simp)
      rw [bI_t, if_pos rfl] at w
      exact w
    · rw [if_neg (show ¬ nI c = 45 by rw [eq_c45 (by omega)]; exact z), if_neg z]
      exact l1 (T + 49999) (by omega)
theorem m_num {a : aS} {D : dS} (h : wB a D) {τ : gS} (tm : tM τ D) {e : Nat} (he : e < zN D) : f_M_numberOf τ (nI e) = some (nV (zX D e), τ) := by
  have hn := h.1
  have hC := h.2.2.1
  obtain ⟨T, hT⟩ := gFx
  obtain ⟨u1, u2, u3, u4, u5⟩ := tm.2.1 e he
  have cells := tm.2.2.2 e he
  have hlC := (h.2.2.2.2.2.2.2.2.1 e he).2
  have hpr := (h.2.2.2.2.2.2.2.2.1 e he).1
  have cc : ∀ k, k < (zX D e).length → (zX D e).getD k 0 < 127 := fun k hk => by
    have := hpr _ (gD_mem hk)
    have := this.2
    omega
  have l4 : ∀ (neg : Bool) (l : List Nat) (k t : Nat) (v : Int64), (zX D e).length ≤ 11 → (zX D e).drop k = l → k ≤ (zX D e).length → l.length + 2 ≤ t → R_M_numberOf t 4 [nI e, nI (zX D e).length, bI neg, nI k] [v] τ = some (nE neg (nF v l), τ) := by
    intro neg l
    induction l with
    | nil =>
      intro k t v h11 hd hk ht
      obtain ⟨t, rfl⟩ : ∃ t', t = t' + 1 + 1 := ⟨t - 2, by omega⟩
      have hkl : k = (zX D e).length := by
        have := congrArg List.length hd
        rw [List.length_drop] at this
        simp only [List.length_nil] at this
        omega
      have e5 : ∀ z : Int64, R_M_numberOf (t + 1) 5 [] [z] τ = some (rgN z, τ) := fun z => by
        rw [st_M_numberOf_5, ← rg_m z]
        unfold B_M_numberOf_5
        by_cases x : lg_cmp z (-2147483648) < 0
        · rw [if_pos x, if_pos x]; rfl
        · rw [if_neg x, if_neg x]
          by_cases y : lg_cmp z 2147483647 ≤ 0
          · rw [if_pos y, if_pos y]
          · rw [if_neg y, if_neg y]; rfl
      rw [st_M_numberOf_4]
      unfold B_M_numberOf_4
      rw [if_pos (show nI (zX D e).length ≤ nI k by rw [n_le (by omega) (by omega)]; omega)]
      cases neg with
      | false => rw [bI_f, if_pos rfl, e5]; rfl
      | true => rw [bI_t, if_neg i10, e5]; rfl
    | cons c l ih =>
      intro k t v h11 hd hk ht
      obtain ⟨t, rfl⟩ : ∃ t', t = t' + 1 := ⟨t - 1, by omega⟩
      simp only [List.length_cons] at ht
      obtain ⟨d1, d2, d3⟩ := drop_c hd
      have hc := cc k d1
      rw [d2] at hc
      rw [st_M_numberOf_4]
      unfold B_M_numberOf_4
      rw [if_neg (show ¬ nI (zX D e).length ≤ nI k by rw [n_le (by omega) (by omega)]; omega), show 12 * nI e = nI (12 * e) from pk_mul 12 e, nI_add, gLd_n (by omega) (by decide), cells k (by omega) d1, d2]
      show _ = some (nE neg (if gB c = true then nF ((10 * v + (nI c).toInt64) - 48) l else none), τ)
      by_cases g : gB c = true
      · have g' := gB_t.mp g
        unfold isG at g'
        rw [if_neg (show ¬ nI c < 48 by rw [lt_c48 (by omega)]; omega), if_pos (show nI c ≤ 57 by rw [le_c57 (by omega)]; omega), add_c1, if_pos g]
        exact ih (k + 1) t _ h11 d3 (by omega) (by omega)
      · rw [if_neg g]
        by_cases x : c < 48
        · rw [if_pos (show nI c < 48 by rw [lt_c48 (by omega)]; exact x)]; rfl
        · rw [if_neg (show ¬ nI c < 48 by rw [lt_c48 (by omega)]; exact x), if_neg (show ¬ nI c ≤ 57 by rw [le_c57 (by omega)]; exact fun q => g (gB_t.mpr ⟨by omega, q⟩))]; rfl
  have l3 : ∀ (neg : Bool) (k t : Nat), k ≤ (zX D e).length → k ≤ 1 → 20 ≤ t → R_M_numberOf t 3 [nI e, nI (zX D e).length, bI neg, nI k] [] τ = some (nD neg ((zX D e).drop k), τ) := by
    intro neg k t hk hk1 ht
    obtain ⟨t, rfl⟩ : ∃ t', t = t' + 1 := ⟨t - 1, by omega⟩
    have hdl : ((zX D e).drop k).length = (zX D e).length - k := List.length_drop
    rw [st_M_numberOf_3]
    unfold B_M_numberOf_3 nD
    by_cases z : (zX D e).length = k
    · rw [if_pos (show nI (zX D e).length = nI k by rw [z]), if_pos (Or.inl (List.drop_eq_nil_of_le (by omega)))]
      rfl
    · rw [if_neg (show ¬ nI (zX D e).length = nI k by rw [n_eq (by omega) (by omega)]; exact z), pk_sub (by omega)]
      by_cases w : (zX D e).length - k ≤ 10
      · rw [if_pos (show nI ((zX D e).length - k) ≤ 10 by rw [le_c10 (by omega)]; exact w), if_neg (fun q => by
          rcases q with q | q
          · have := congrArg List.length q
            rw [hdl] at this
            simp only [List.length_nil] at this
            omega
          · omega), l4 neg _ k t 0 (by omega) rfl hk (by omega)]
        rfl
      · rw [if_neg (show ¬ nI ((zX D e).length - k) ≤ 10 by rw [le_c10 (by omega)]; exact w), if_pos (Or.inr (by omega))]
        rfl
  have l2 : ∀ (neg : Bool) (t : Nat), 21 ≤ t → (neg = true → 1 ≤ (zX D e).length) → R_M_numberOf t 2 [nI e, nI (zX D e).length, bI neg] [] τ = some (nD neg ((zX D e).drop (if neg = true then 1 else 0)), τ) := by
    intro neg t ht hng
    obtain ⟨t, rfl⟩ : ∃ t', t = t' + 1 := ⟨t - 1, by omega⟩
    rw [st_M_numberOf_2]
    unfold B_M_numberOf_2
    cases neg with
    | false =>
      rw [bI_f, if_pos rfl]
      have w := l3 false 0 t (by omega) (by omega) (by omega)
      rw [nI_0, bI_f] at w
      exact w
    | true =>
      rw [bI_t, if_neg i10]
      exact l3 true 1 t (hng rfl) (by omega) (by omega)
  have l1 : ∀ t : Nat, 22 ≤ t → R_M_numberOf t 1 [nI e, nI (zX D e).length] [] τ = some (nD false (zX D e), τ) := by
    intro t ht
    obtain ⟨t, rfl⟩ : ∃ t', t = t' + 1 := ⟨t - 1, by omega⟩
    rw [st_M_numberOf_1]
    unfold B_M_numberOf_1
    have w := l2 false t (by omega) (fun q => by cases q)
    rw [bI_f, if_neg (by decide), List.drop_zero] at w
    exact w
  rw [fx_M_numberOf hT]
  unfold B_M_numberOf_0
  rw [gLd_n (by omega) (by decide), u5]
  cases hX : zX D e with
  | nil =>
    rw [hX] at l1
    rw [if_pos (show nI ([] : List Nat).length ≤ 0 by decide), l1 (T + 49999) (by omega)]
    rfl
  | cons c l =>
    rw [hX] at l1 l2 cells cc hlC
    have ll : (c :: l).length = l.length + 1 := rfl
    have c0 := cells 0 (by decide) (by simp)
    have hc := cc 0 (by simp)
    have c0 : τ.2 13 (12 * e) = nI c := c0
    have hc : c < 127 := hc
    rw [if_neg (show ¬ nI (c :: l).length ≤ 0 by rw [le_c0 (by omega)]; omega), show 12 * nI e = nI (12 * e) from pk_mul 12 e, gLd_n (by omega) (by decide), c0]
    show _ = some (if c = 45 then nD true l else nD false (c :: l), τ)
    by_cases z : c = 45
    · rw [if_pos (show nI c = 45 by rw [z]; rfl), if_pos z]
      have w := l2 true (T + 49999) (by omega) (fun _ => by simp)
      rw [bI_t, if_pos rfl] at w
      exact w
    · rw [if_neg (show ¬ nI c = 45 by rw [eq_c45 (by omega)]; exact z), if_neg z]
      exact l1 (T + 49999) (by omega)
