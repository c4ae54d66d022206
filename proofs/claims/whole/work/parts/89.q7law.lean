/-! decode: the reference's law of a content -/
theorem m_fits {a : aS} (ha : okA a) {D : dS} (h : wB a D) {τ : gS} (hm : absM τ a) (tm : tM τ D) {b e : Nat} (hb : b < e) (he : e < zN D) : f_M_fits τ (nI e) (nI b) = some (bI (ftB a D b e), τ) := by
  have hn := h.1
  have hL := h.2.1
  have hC := h.2.2.1
  have hA := h.2.2.2.2.2.1 e he
  have hx := (h.2.2.2.2.2.2.2.2.1 e he).2
  have hM := h.2.2.2.1 e he
  obtain ⟨T, hT⟩ := gFx
  obtain ⟨v1, v2, v3, v4, v5⟩ := tm.2.1 e he
  obtain ⟨q, p1, p2⟩ := par_ex h he (by omega)
  have hMq := h.2.2.2.1 q (by omega)
  have b4 : ∀ t : Nat, R_M_fits (t + 2) 4 [nI e] τ = some (bI (if zM D e = 9 then decide (nV (zX D e) ≠ bigN) else decide ((zX D e).length ≤ if zM D e = 20 then 6 else 0)), τ) := by
    intro t
    rw [show t + 2 = t + 1 + 1 from rfl, st_M_fits_4]
    unfold B_M_fits_4
    rw [gLd_n (by omega) (by decide), v1]
    by_cases n9 : zM D e = 9
    · rw [if_pos (show nI (zM D e) = 9 by rw [n9]; rfl), if_pos n9, m_num h tm he, gBd_s]
      by_cases z : nV (zX D e) = bigN
      · rw [if_pos (show lg_cmp (nV (zX D e)) 1099511627776 = 0 from (lg_cmp_eq _ _).mpr z), decide_eq_false (fun q => q z)]; rfl
      · rw [if_neg (show ¬ lg_cmp (nV (zX D e)) 1099511627776 = 0 from fun q => z ((lg_cmp_eq _ _).mp q)), decide_eq_true z]; rfl
    · rw [if_neg (show ¬ nI (zM D e) = 9 by rw [eq_c9 (by omega)]; exact n9), if_neg n9, gLd_n (by omega) (by decide), gLd_n (by omega) (by decide), v5, v1]
      have b5 : ∀ m : Nat, m < 1000 → R_M_fits (t + 1) 5 [nI (zX D e).length, nI m] τ = some (bI (decide ((zX D e).length ≤ m)), τ) := by
        intro m hm'
        rw [st_M_fits_5]
        unfold B_M_fits_5
        by_cases z : (zX D e).length ≤ m
        · rw [if_neg (show ¬ nI m < nI (zX D e).length by rw [n_lt (by omega) (by omega)]; omega), decide_eq_true z]; rfl
        · rw [if_pos (show nI m < nI (zX D e).length by rw [n_lt (by omega) (by omega)]; omega), decide_eq_false z]; rfl
      by_cases n20 : zM D e = 20
      · rw [if_pos (show nI (zM D e) = 20 by rw [n20]; rfl), if_pos n20]
        exact b5 6 (by decide)
      · rw [if_neg (show ¬ nI (zM D e) = 20 by rw [eq_c20 (by omega)]; exact n20), if_neg n20]
        exact b5 0 (by decide)
  have b3 : ∀ (m k t : Nat), k + m = zB D e → m + 3 ≤ t → R_M_fits t 3 [nI e, nI k] τ = some (bI (asB a D e (zA D e + k) m && decide (zM D e = 18 → fA D e 8 ≠ none) && (if zM D e = 9 then decide (nV (zX D e) ≠ bigN) else decide ((zX D e).length ≤ if zM D e = 20 then 6 else 0))), τ) := by
    intro m
    induction m with
    | zero =>
      intro k t hk ht
      obtain ⟨t, rfl⟩ : ∃ t', t = t' + 2 + 1 := ⟨t - 3, by omega⟩
      rw [st_M_fits_3]
      unfold B_M_fits_3
      rw [gLd_n (by omega) (by decide), v4, if_pos (show nI (zB D e) ≤ nI k by rw [n_le (by omega) (by omega)]; omega), gLd_n (by omega) (by decide), v1]
      show _ = some (bI (true && _ && _), τ)
      by_cases n18 : zM D e = 18
      · rw [if_pos (show nI (zM D e) = 18 by rw [n18]; rfl), show (8 : Int32) = nI 8 from rfl, m_find h tm he (by decide), gBd_s]
        cases hf : fA D e 8 with
        | none =>
          rw [if_neg (show ¬ (0 : Int32) ≤ oI none by decide), decide_eq_false (fun q => q n18 rfl)]; rfl
        | some i =>
          have := (fA_lt h he hf).1
          rw [if_pos (show (0 : Int32) ≤ oI (some i) from nI_pos' (by omega)), b4, show decide (zM D e = 18 → some i ≠ none) = true from decide_eq_true (fun _ => by simp)]; rfl
      · rw [if_neg (show ¬ nI (zM D e) = 18 by rw [eq_c18 (by omega)]; exact n18), b4, decide_eq_true (fun q => absurd q n18)]; rfl
    | succ m ih =>
      intro k t hk ht
      obtain ⟨t, rfl⟩ : ∃ t', t = t' + 1 := ⟨t - 1, by omega⟩
      have hq := (h.2.2.2.2.2.2.1 (zA D e + k) (by omega)).1
      rw [st_M_fits_3]
      unfold B_M_fits_3
      rw [gLd_n (by omega) (by decide), v4, if_neg (show ¬ nI (zB D e) ≤ nI k by rw [n_le (by omega) (by omega)]; omega), gLd_n (by omega) (by decide), v3, nI_add, gLd_n (by omega) (by decide), (tm.2.2.1 (zA D e + k) (by omega)).1, m_may h tm he (by omega) hq, gBd_s]
      show _ = some (bI (((msB D e (zQ D (zA D e + k)) && (cntA a D (zA D e + k)).isSome) && asB a D e (zA D e + k + 1) m) && _ && _), τ)
      cases x : msB D e (zQ D (zA D e + k)) with
      | false => rw [bI_f, if_pos rfl]; rfl
      | true =>
        rw [bI_t, if_neg i10, m_cnt' ha h hm tm (by omega), gBd_s]
        cases y : cntA a D (zA D e + k) with
        | none => rw [if_neg (show ¬ (0 : Int32) ≤ oI none by decide)]; rfl
        | some v =>
          have := cnt_lt ha y
          rw [if_pos (show (0 : Int32) ≤ oI (some v) from nI_pos' (by omega)), add_c1, ih (k + 1) t (by omega) (by omega)]
          rfl
  have b2 : ∀ t : Nat, zB D e + 4 ≤ t → R_M_fits t 2 [nI e] τ = some (bI (atS a D e && decide (zM D e = 18 → fA D e 8 ≠ none) && (if zM D e = 9 then decide (nV (zX D e) ≠ bigN) else decide ((zX D e).length ≤ if zM D e = 20 then 6 else 0))), τ) := by
    intro t ht
    obtain ⟨t, rfl⟩ : ∃ t', t = t' + 1 := ⟨t - 1, by omega⟩
    rw [st_M_fits_2]
    unfold B_M_fits_2
    have w := b3 (zB D e) 0 t (by omega) (by omega)
    rw [nI_0] at w
    exact w
  have b1 : ∀ t : Nat, zB D e + 5 ≤ t → R_M_fits t 1 [nI e] τ = some (bI (decide (ob D e = true ∨ zM D e = 14 ∨ zM D e = 9 ∨ zM D e = 18) && atS a D e && decide (zM D e = 18 → fA D e 8 ≠ none) && (if zM D e = 9 then decide (nV (zX D e) ≠ bigN) else decide ((zX D e).length ≤ if zM D e = 20 then 6 else 0))), τ) := by
    intro t ht
    obtain ⟨t, rfl⟩ : ∃ t', t = t' + 1 := ⟨t - 1, by omega⟩
    have k14 : nI (zM D e) = 14 ↔ zM D e = 14 := eq_c14 (by omega)
    have k9 : nI (zM D e) = 9 ↔ zM D e = 9 := eq_c9 (by omega)
    have k18 : nI (zM D e) = 18 ↔ zM D e = 18 := eq_c18 (by omega)
    rw [st_M_fits_1]
    unfold B_M_fits_1
    rw [m_ob h tm he, gBd_s]
    cases o : ob D e with
    | true => rw [bI_t, if_neg i10, b2 t (by omega), decide_eq_true (Or.inl rfl)]; rfl
    | false =>
      rw [bI_f, if_pos rfl, gLd_n (by omega) (by decide), v1]
      by_cases x1 : zM D e = 14
      · rw [if_pos (k14.mpr x1), b2 t (by omega), decide_eq_true (Or.inr (Or.inl x1))]; rfl
      · rw [if_neg (fun q => x1 (k14.mp q)), gLd_n (by omega) (by decide), v1]
        by_cases x2 : zM D e = 9
        · rw [if_pos (k9.mpr x2), b2 t (by omega), decide_eq_true (Or.inr (Or.inr (Or.inl x2)))]; rfl
        · rw [if_neg (fun q => x2 (k9.mp q)), gLd_n (by omega) (by decide), v1]
          by_cases x3 : zM D e = 18
          · rw [if_pos (k18.mpr x3), b2 t (by omega), decide_eq_true (Or.inr (Or.inr (Or.inr x3)))]; rfl
          · rw [if_neg (fun q => x3 (k18.mp q)), decide_eq_false (fun q => by
              rcases q with q | q | q | q
              · cases q
              · exact x1 q
              · exact x2 q
              · exact x3 q)]; rfl
  rw [fx_M_fits hT]
  unfold B_M_fits_0 ftB
  rw [gLd_n (by omega) (by decide), v2, p1, show oI (some q) = nI q from rfl, gLd_n (by omega) (by decide), (tm.2.1 q (by omega)).1, gLd_n (by omega) (by decide), v2, p1, show oI (some q) = nI q from rfl, pMn_s p1]
  by_cases x1 : q = b
  · rw [if_pos (show nI q = nI b by rw [x1]), b1 (T + 49999) (by omega), show decide (some q = some b ∨ zM D q = 16 ∨ zM D q = 1) = true from decide_eq_true (Or.inl (by rw [x1]))]; rfl
  · rw [if_neg (show ¬ nI q = nI b by rw [n_eq (by omega) (by omega)]; exact x1)]
    by_cases x2 : zM D q = 16
    · rw [if_pos (show nI (zM D q) = 16 by rw [x2]; rfl), b1 (T + 49999) (by omega), decide_eq_true (Or.inr (Or.inl x2))]; rfl
    · rw [if_neg (show ¬ nI (zM D q) = 16 by rw [eq_c16 (by omega)]; exact x2)]
      by_cases x3 : zM D q = 1
      · rw [if_pos (show nI (zM D q) = 1 by rw [x3]; rfl), b1 (T + 49999) (by omega), decide_eq_true (Or.inr (Or.inr x3))]; rfl
      · rw [if_neg (show ¬ nI (zM D q) = 1 by rw [eq_c1 (by omega)]; exact x3), decide_eq_false (fun z => by
          rcases z with z | z | z
          · exact x1 (Option.some.inj z)
          · exact x2 z
          · exact x3 z)]; rfl
theorem m_wid {a : aS} (ha : okA a) {D : dS} (h : wB a D) {τ : gS} (hm : absM τ a) (tm : tM τ D) (m2 : τ.1 2 = nI (zN D)) {b v : Nat} (hv : v < 100) (hbN : b < zN D) {x : Option Nat} (hx : ∀ o, x = some o → o < 420) : ∃ r, f_M_withId τ (nI b) (nI v) (oI x) = some (oI r, τ) ∧ (∀ c, r = some c → b < c ∧ c < zN D ∧ x ≠ some c ∧ ob D c = true ∧ cIn a D c 247 = some v) ∧ (r = none → ∀ c, b < c → c < zN D → x ≠ some c → ob D c = true → cIn a D c 247 ≠ some v) := by
  have hn := h.1
  obtain ⟨T, hT⟩ := gFx
  have lp : ∀ (d e t : Nat), e + d = zN D → b < e → 2 * d + 1 ≤ t → ∃ r, R_M_withId t 1 [nI v, oI x, nI e] τ = some (oI r, τ) ∧ (∀ c, r = some c → b < c ∧ c < zN D ∧ x ≠ some c ∧ ob D c = true ∧ cIn a D c 247 = some v) ∧ (r = none → ∀ c, e ≤ c → c < zN D → x ≠ some c → ob D c = true → cIn a D c 247 ≠ some v) := by
    intro d
    induction d with
    | zero =>
      intro e t he hbe ht
      obtain ⟨t, rfl⟩ : ∃ t', t = t' + 1 := ⟨t - 1, by omega⟩
      refine ⟨none, ?_, fun c hc => (by cases hc), fun _ c h1 h2 => (by omega)⟩
      rw [st_M_withId_1]
      unfold B_M_withId_1
      rw [m2, if_pos (show nI (zN D) ≤ nI e by rw [n_le (by omega) (by omega)]; omega)]
      rfl
    | succ d ih =>
      intro e t he hbe ht
      obtain ⟨t, rfl⟩ : ∃ t', t = t' + 1 + 1 := ⟨t - 2, by omega⟩
      have heN : e < zN D := by omega
      obtain ⟨r, w1, w2, w3⟩ := ih (e + 1) t (by omega) (by omega) (by omega)
      have f2 : R_M_withId (t + 1) 2 [nI v, oI x, nI e] τ = some (oI r, τ) := by
        rw [st_M_withId_2]
        unfold B_M_withId_2
        rw [add_c1]
        exact w1
      have skip : (x ≠ some e → ob D e = true → cIn a D e 247 ≠ some v) → ∃ r', R_M_withId (t + 1) 2 [nI v, oI x, nI e] τ = some (oI r', τ) ∧ (∀ c, r' = some c → b < c ∧ c < zN D ∧ x ≠ some c ∧ ob D c = true ∧ cIn a D c 247 = some v) ∧ (r' = none → ∀ c, e ≤ c → c < zN D → x ≠ some c → ob D c = true → cIn a D c 247 ≠ some v) := fun hsk => ⟨r, f2, w2, fun hr c h1 h2 => by
        by_cases c1 : c = e
        · rw [c1]; exact hsk
        · exact w3 hr c (by omega) h2⟩
      have hxe : nI e = oI x ↔ x = some e := by
        cases x with
        | none => exact ⟨fun z => absurd z (n_m1 (a := e) (by omega)), fun z => by cases z⟩
        | some o =>
          have := hx o rfl
          constructor
          · intro z
            have z : nI e = nI o := z
            rw [n_eq (by omega) (by omega)] at z
            rw [z]
          · intro z
            rw [Option.some.inj z]
            rfl
      rw [st_M_withId_1]
      unfold B_M_withId_1
      rw [m2, if_neg (show ¬ nI (zN D) ≤ nI e by rw [n_le (by omega) (by omega)]; omega)]
      by_cases z : x = some e
      · rw [if_pos (hxe.mpr z)]
        exact skip (fun q => absurd z q)
      · rw [if_neg (fun q => z (hxe.mp q)), m_ob h tm heN, gBd_s]
        cases o : ob D e with
        | false =>
          rw [bI_f, if_pos rfl]
          exact skip (fun _ q => by rw [o] at q; cases q)
        | true =>
          rw [bI_t, if_neg i10, m_cin ha h hm tm heN (v := 247) (x := 247) (by decide) rfl, gBd_s]
          by_cases y : cIn a D e 247 = some v
          · rw [if_pos (show oI (cIn a D e 247) = nI v by rw [y]; rfl)]
            exact ⟨some e, rfl, fun c hc => (by rw [← Option.some.inj hc]; exact ⟨hbe, heN, z, o, y⟩), fun q => (by cases q)⟩
          · rw [if_neg (show ¬ oI (cIn a D e 247) = nI v from fun q => by
              cases c : cIn a D e 247 with
              | none => rw [c] at q; exact m1_n (a := v) (by omega) q
              | some u =>
                have := cIn_lt ha c
                rw [c] at q
                have q : nI u = nI v := q
                rw [n_eq (by omega) (by omega)] at q
                exact y (by rw [c, q]))]
            exact skip (fun _ _ => y)
  rw [fx_M_withId hT]
  unfold B_M_withId_0
  rw [add_c1]
  obtain ⟨r, w1, w2, w3⟩ := lp (zN D - (b + 1)) (b + 1) (T + 49999) (by omega) (by omega) (by omega)
  exact ⟨r, w1, w2, fun hr c h1 h2 => w3 hr c (by omega) h2⟩
