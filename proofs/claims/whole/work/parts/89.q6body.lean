/-! decode: the body -/
def bF (D : dS) : Nat → Nat → Option Nat → Option Nat
  | _, 0, b => b
  | e, d + 1, b => if zP D e = some 0 then (if b = none then (if zM D e = 2 then bF D (e + 1) d (some e) else if zM D e = 8 then bF D (e + 1) d none else none) else none) else bF D (e + 1) d b
theorem bF_s (D : dS) (e d : Nat) (b : Option Nat) : bF D e (d + 1) b = if zP D e = some 0 then (if b = none then (if zM D e = 2 then bF D (e + 1) d (some e) else if zM D e = 8 then bF D (e + 1) d none else none) else none) else bF D (e + 1) d b := rfl
theorem bF_in {D : dS} {r : Nat} : ∀ d e b, bF D e d b = some r → (b = some r ∧ ∀ c, e ≤ c → c < e + d → zP D c ≠ some 0) ∨ (b = none ∧ e ≤ r ∧ r < e + d ∧ zP D r = some 0 ∧ ∀ c, r < c → c < e + d → zP D c ≠ some 0) := by
  intro d
  induction d with
  | zero => intro e b h; exact Or.inl ⟨h, fun c h1 h2 => by omega⟩
  | succ d ih =>
    intro e b h
    rw [bF_s] at h
    by_cases p0 : zP D e = some 0
    · rw [if_pos p0] at h
      by_cases b0 : b = none
      · rw [if_pos b0] at h
        by_cases n2 : zM D e = 2
        · rw [if_pos n2] at h
          rcases ih (e + 1) _ h with ⟨w1, w2⟩ | ⟨w1, w2⟩
          · have w1 := Option.some.inj w1
            refine Or.inr ⟨b0, by omega, by omega, by rw [← w1]; exact p0, fun c h1 h2 => w2 c (by omega) (by omega)⟩
          · cases w1
        · rw [if_neg n2] at h
          by_cases n8 : zM D e = 8
          · rw [if_pos n8] at h
            rcases ih (e + 1) _ h with ⟨w1, w2⟩ | ⟨w1, w2, w3, w4, w5⟩
            · cases w1
            · exact Or.inr ⟨b0, by omega, by omega, w4, fun c h1 h2 => w5 c h1 (by omega)⟩
          · rw [if_neg n8] at h; cases h
      · rw [if_neg b0] at h; cases h
    · rw [if_neg p0] at h
      rcases ih (e + 1) _ h with ⟨w1, w2⟩ | ⟨w1, w2, w3, w4, w5⟩
      · refine Or.inl ⟨w1, fun c h1 h2 => ?_⟩
        by_cases c1 : c = e
        · rw [c1]; exact p0
        · exact w2 c (by omega) (by omega)
      · exact Or.inr ⟨w1, by omega, by omega, w4, fun c h1 h2 => w5 c h1 (by omega)⟩
theorem bF_bdy {D : dS} {b : Nat} (h0 : 0 < zN D) (h : bF D 1 (zN D - 1) none = some b) : bdy D b := by
  rcases bF_in _ _ _ h with ⟨w1, w2⟩ | ⟨w1, w2, w3, w4, w5⟩
  · cases w1
  · exact ⟨by omega, by omega, w4, fun c h1 h2 => w5 c h1 (by omega)⟩
theorem c_fb {a : aS} {D : dS} (h : wB a D) (h0 : 0 < zN D) {σ : gS} (tc : tC σ D) : f_H_findBody σ = some (oI (bF D 1 (zN D - 1) none), σ) := by
  have hn := h.1
  obtain ⟨T, hT⟩ := gFx
  have lp : ∀ (d e t : Nat) (b : Option Nat), e + d = zN D → 2 * d + 1 ≤ t → (∀ o, b = some o → o < 420) → R_H_findBody t 1 [oI b, nI e] σ = some (oI (bF D e d b), σ) := by
    intro d
    induction d with
    | zero =>
      intro e t b he ht hb
      obtain ⟨t, rfl⟩ : ∃ t', t = t' + 1 := ⟨t - 1, by omega⟩
      rw [st_H_findBody_1]
      unfold B_H_findBody_1
      rw [tc.1, if_pos (show nI (zN D) ≤ nI e by rw [n_le (by omega) (by omega)]; omega)]
      rfl
    | succ d ih =>
      intro e t b he ht hb
      obtain ⟨t, rfl⟩ : ∃ t', t = t' + 1 + 1 := ⟨t - 2, by omega⟩
      have heN : e < zN D := by omega
      obtain ⟨u1, u2, u3, u4, u5, u6, u7⟩ := tc.2.2.2.1 e heN
      have hM := h.2.2.2.1 e heN
      have f2 : ∀ b', (∀ o, b' = some o → o < 420) → R_H_findBody (t + 1) 2 [oI b', nI e] σ = some (oI (bF D (e + 1) d b'), σ) := fun b' hb' => by
        rw [st_H_findBody_2]
        unfold B_H_findBody_2
        rw [add_c1]
        exact ih (e + 1) t b' (by omega) (by omega) hb'
      rw [st_H_findBody_1]
      unfold B_H_findBody_1
      rw [tc.1, if_neg (show ¬ nI (zN D) ≤ nI e by rw [n_le (by omega) (by omega)]; omega), gLd_n (by omega) (by decide), u2, bF_s]
      by_cases p0 : zP D e = some 0
      · rw [if_pos (show oI (zP D e) = 0 by rw [p0]; rfl), if_pos p0]
        cases b with
        | some o =>
          have := hb o rfl
          rw [if_neg (show ¬ oI (some o) = -1 from n_m1 (by omega)), if_neg (by simp)]
          rfl
        | none =>
          rw [if_pos (show oI none = -1 from rfl), if_pos rfl, gLd_n (by omega) (by decide), u1]
          by_cases n2 : zM D e = 2
          · rw [if_pos (show nI (zM D e) = 2 by rw [n2]; rfl), if_pos n2]
            exact f2 (some e) (fun o ho => by have := Option.some.inj ho; omega)
          · rw [if_neg (show ¬ nI (zM D e) = 2 by rw [eq_c2 (by omega)]; exact n2), if_neg n2, gLd_n (by omega) (by decide), u1]
            by_cases n8 : zM D e = 8
            · rw [if_pos (show nI (zM D e) = 8 by rw [n8]; rfl), if_pos n8]
              exact f2 none (fun o ho => by cases ho)
            · rw [if_neg (show ¬ nI (zM D e) = 8 by rw [eq_c8 (by omega)]; exact n8), if_neg n8]
              rfl
      · rw [if_neg (show ¬ oI (zP D e) = 0 from fun q => p0 ((oI_0 h heN (q := 0) (by decide)).mp q)), if_neg p0]
        exact f2 b hb
  rw [fx_H_findBody hT]
  exact lp (zN D - 1) 1 (T + 49999) none (by omega) (by omega) (fun o ho => by cases ho)
def sB (D : dS) (b : Nat) : Prop := zB D 0 = 1 ∧ (zX D 0).length = 0 ∧ zB D b = 0 ∧ (zX D b).length = 0 ∧ b + 1 < zN D
theorem sB_kc {a : aS} {D : dS} (h : wB a D) {b : Nat} (hb : bdy D b) : kc D b ≠ 0 ↔ b + 1 < zN D := by
  constructor
  · intro k
    obtain ⟨c, c1, c2⟩ := kc_ch k
    have := h.2.2.2.2.1 c b c1 c2
    omega
  · intro hlt
    obtain ⟨q, p1, p2, p3⟩ := desc h hb (e := b + 1) (by omega) hlt
    have : q = b := by omega
    rw [this] at p1
    exact kc_pos hlt p1
theorem c_sb {a : aS} {D : dS} (h : wB a D) {b : Nat} (hb : bdy D b) {σ : gS} (tc : tC σ D) : (sB D b ∧ f_H_isSoundBody σ (nI b) = some (1, σ)) ∨ (¬ sB D b ∧ f_H_isSoundBody σ (nI b) = some (0, σ)) := by
  have hn := h.1
  have hb1 := hb.1
  have hb2 := hb.2.1
  obtain ⟨u1, u2, u3, u4, u5, u6, u7⟩ := tc.2.2.2.1 0 (by omega)
  obtain ⟨v1, v2, v3, v4, v5, v6, v7⟩ := tc.2.2.2.1 b hb2
  have hA0 := h.2.2.2.2.2.1 0 (by omega)
  have hAb := h.2.2.2.2.2.1 b hb2
  have hL := h.2.1
  have hC := h.2.2.1
  have hx0 := (h.2.2.2.2.2.2.2.2.1 0 (by omega)).2
  have hxb := (h.2.2.2.2.2.2.2.2.1 b hb2).2
  have hk := kc_lt D b
  have hkc := sB_kc h hb
  unfold f_H_isSoundBody sB
  rw [gLd_0 (by decide) (by decide), u5]
  by_cases e1 : zB D 0 = 1
  · rw [if_pos (show nI (zB D 0) = 1 by rw [e1]; rfl), gLd_0 (by decide) (by decide), u7]
    by_cases e2 : (zX D 0).length = 0
    · rw [if_pos (show nI (zX D 0).length = 0 by rw [e2]; rfl), gLd_n (by omega) (by decide), v5]
      by_cases e3 : zB D b = 0
      · rw [if_pos (show nI (zB D b) = 0 by rw [e3]; rfl), gLd_n (by omega) (by decide), v7]
        by_cases e4 : (zX D b).length = 0
        · rw [if_pos (show nI (zX D b).length = 0 by rw [e4]; rfl), gLd_n (by omega) (by decide), v3]
          by_cases e5 : kc D b = 0
          · rw [if_pos (show nI (kc D b) ≤ 0 by rw [e5]; decide)]
            exact Or.inr ⟨fun q => hkc.mpr q.2.2.2.2 e5, rfl⟩
          · rw [if_neg (show ¬ nI (kc D b) ≤ 0 by rw [le_c0 (by omega)]; omega)]
            exact Or.inl ⟨⟨e1, e2, e3, e4, hkc.mp e5⟩, rfl⟩
        · rw [if_neg (show ¬ nI (zX D b).length = 0 by rw [eq_c0 (by omega)]; exact e4)]
          exact Or.inr ⟨fun q => e4 q.2.2.2.1, rfl⟩
      · rw [if_neg (show ¬ nI (zB D b) = 0 by rw [eq_c0 (by omega)]; exact e3)]
        exact Or.inr ⟨fun q => e3 q.2.2.1, rfl⟩
    · rw [if_neg (show ¬ nI (zX D 0).length = 0 by rw [eq_c0 (by omega)]; exact e2)]
      exact Or.inr ⟨fun q => e2 q.2.1, rfl⟩
  · rw [if_neg (show ¬ nI (zB D 0) = 1 by rw [eq_c1 (by omega)]; exact e1)]
    exact Or.inr ⟨fun q => e1 q.1, rfl⟩
def r6 (D : dS) (b e : Nat) : Prop := zP D e = some b → (ob D e = true ∧ (e = b + 1 ∨ fA D e 247 ≠ none)) ∨ (e = b + 1 ∧ zM D e = 18)
theorem m_bd5 {a : aS} {D : dS} (h : wB a D) {b : Nat} (hb : bdy D b) {τ : gS} (tm : tM τ D) (m2 : τ.1 2 = nI (zN D)) : ∀ (d e t : Nat), e + d = zN D → b < e → 6 * d + 1 ≤ t → ((∀ c, e ≤ c → c < zN D → r6 D b c) ∧ R_M_body t 5 [nI b, nI e] τ = some (nI b, τ)) ∨ (¬ (∀ c, e ≤ c → c < zN D → r6 D b c) ∧ R_M_body t 5 [nI b, nI e] τ = some (-1, τ)) := by
  have hn := h.1
  have hL := h.2.1
  have hb2 := hb.2.1
  intro d
  induction d with
  | zero =>
    intro e t he hbe ht
    obtain ⟨t, rfl⟩ : ∃ t', t = t' + 1 := ⟨t - 1, by omega⟩
    refine Or.inl ⟨fun c h1 h2 => by omega, ?_⟩
    rw [st_M_body_5]
    unfold B_M_body_5
    rw [m2, if_pos (show nI (zN D) ≤ nI e by rw [n_le (by omega) (by omega)]; omega)]
  | succ d ih =>
    intro e t he hbe ht
    obtain ⟨t, rfl⟩ : ∃ t', t = t' + 1 + 1 + 1 + 1 + 1 + 1 := ⟨t - 6, by omega⟩
    have heN : e < zN D := by omega
    obtain ⟨v1, v2, v3, v4, v5⟩ := tm.2.1 e heN
    have hM := h.2.2.2.1 e heN
    have good : ∀ t' : Nat, 6 * d + 1 ≤ t' → r6 D b e → ((∀ c, e ≤ c → c < zN D → r6 D b c) ∧ R_M_body (t' + 1) 10 [nI b, nI e] τ = some (nI b, τ)) ∨ (¬ (∀ c, e ≤ c → c < zN D → r6 D b c) ∧ R_M_body (t' + 1) 10 [nI b, nI e] τ = some (-1, τ)) := by
      intro t' ht' hr
      rw [st_M_body_10]
      unfold B_M_body_10
      rw [add_c1]
      rcases ih (e + 1) t' (by omega) (by omega) ht' with ⟨w1, w2⟩ | ⟨w1, w2⟩
      · refine Or.inl ⟨fun c h1 h2 => ?_, w2⟩
        by_cases c1 : c = e
        · rw [c1]; exact hr
        · exact w1 c (by omega) h2
      · exact Or.inr ⟨fun q => w1 (fun c h1 h2 => q c (by omega) h2), w2⟩
    have g7 : r6 D b e → ∀ t' : Nat, 6 * d + 1 ≤ t' → ((∀ c, e ≤ c → c < zN D → r6 D b c) ∧ R_M_body (t' + 1 + 1 + 1) 7 [nI b, nI e] τ = some (nI b, τ)) ∨ (¬ (∀ c, e ≤ c → c < zN D → r6 D b c) ∧ R_M_body (t' + 1 + 1 + 1) 7 [nI b, nI e] τ = some (-1, τ)) := by
      intro hr t' ht'
      rw [st_M_body_7]
      unfold B_M_body_7
      rw [st_M_body_9]
      unfold B_M_body_9
      rw [if_neg i10]
      exact good t' ht' hr
    have g8 : ¬ r6 D b e → ∀ t' : Nat, ((∀ c, e ≤ c → c < zN D → r6 D b c) ∧ R_M_body (t' + 1 + 1) 8 [nI b, nI e] τ = some (nI b, τ)) ∨ (¬ (∀ c, e ≤ c → c < zN D → r6 D b c) ∧ R_M_body (t' + 1 + 1) 8 [nI b, nI e] τ = some (-1, τ)) := by
      intro hr t'
      rw [st_M_body_8]
      unfold B_M_body_8
      rw [st_M_body_9]
      unfold B_M_body_9
      rw [if_pos rfl]
      exact Or.inr ⟨fun q => hr (q e (Nat.le_refl _) heN), rfl⟩
    have g6 : zP D e = some b → ¬ (ob D e = true ∧ (e = b + 1 ∨ fA D e 247 ≠ none)) → ∀ t' : Nat, 6 * d + 1 ≤ t' → ((∀ c, e ≤ c → c < zN D → r6 D b c) ∧ R_M_body (t' + 1 + 1 + 1 + 1) 6 [nI b, nI e] τ = some (nI b, τ)) ∨ (¬ (∀ c, e ≤ c → c < zN D → r6 D b c) ∧ R_M_body (t' + 1 + 1 + 1 + 1) 6 [nI b, nI e] τ = some (-1, τ)) := by
      intro hp hno t' ht'
      rw [st_M_body_6]
      unfold B_M_body_6
      rw [add_c1]
      by_cases c1 : e = b + 1
      · rw [if_pos (show nI e = nI (b + 1) by rw [c1]), gLd_n (by omega) (by decide), v1]
        by_cases n18 : zM D e = 18
        · rw [if_pos (show nI (zM D e) = 18 by rw [n18]; rfl)]
          exact g7 (fun _ => Or.inr ⟨c1, n18⟩) t' ht'
        · rw [if_neg (show ¬ nI (zM D e) = 18 by rw [eq_c18 (by omega)]; exact n18)]
          exact g8 (fun q => (q hp).elim hno (fun z => n18 z.2)) (t' + 1)
      · rw [if_neg (show ¬ nI e = nI (b + 1) by rw [n_eq (by omega) (by omega)]; exact c1)]
        exact g8 (fun q => (q hp).elim hno (fun z => c1 z.1)) (t' + 1)
    rw [st_M_body_5]
    unfold B_M_body_5
    rw [m2, if_neg (show ¬ nI (zN D) ≤ nI e by rw [n_le (by omega) (by omega)]; omega), gLd_n (by omega) (by decide), v2]
    by_cases hp : zP D e = some b
    · rw [if_pos (show oI (zP D e) = nI b by rw [hp]; rfl), m_ob h tm heN, gBd_s]
      cases ho : ob D e with
      | false =>
        rw [bI_f, if_pos rfl]
        exact g6 hp (fun q => by rw [ho] at q; cases q.1) (t + 1) (by omega)
      | true =>
        rw [bI_t, if_neg i10, add_c1]
        by_cases c1 : e = b + 1
        · rw [if_pos (show nI e = nI (b + 1) by rw [c1])]
          exact g7 (fun _ => Or.inl ⟨ho, Or.inl c1⟩) (t + 1 + 1) (by omega)
        · rw [if_neg (show ¬ nI e = nI (b + 1) by rw [n_eq (by omega) (by omega)]; exact c1), show (247 : Int32) = nI 247 from rfl, m_find h tm heN (by decide), gBd_s]
          cases hf : fA D e 247 with
          | none =>
            rw [if_neg (show ¬ (0 : Int32) ≤ oI none by decide)]
            exact g6 hp (fun q => q.2.elim c1 (fun z => z hf)) (t + 1) (by omega)
          | some i =>
            have := (fA_lt h heN hf).1
            rw [if_pos (show (0 : Int32) ≤ oI (some i) from nI_pos' (by omega))]
            exact g7 (fun _ => Or.inl ⟨ho, Or.inr (by rw [hf]; simp)⟩) (t + 1 + 1) (by omega)
    · rw [if_neg (show ¬ oI (zP D e) = nI b from fun q => hp ((oI_0 h heN (q := b) (by omega)).mp q))]
      exact good (t + 1 + 1 + 1 + 1) (by omega) (fun q => absurd q hp)
theorem m_body {a : aS} {D : dS} (h : wB a D) (h0 : 0 < zN D) {τ : gS} (tm : tM τ D) (m2 : τ.1 2 = nI (zN D)) : (∃ b, bF D 1 (zN D - 1) none = some b ∧ sB D b ∧ (∀ c, b < c → c < zN D → r6 D b c) ∧ f_M_body τ = some (nI b, τ)) ∨ (¬ (∃ b, bF D 1 (zN D - 1) none = some b ∧ sB D b ∧ ∀ c, b < c → c < zN D → r6 D b c) ∧ f_M_body τ = some (-1, τ)) := by
  have hn := h.1
  have hL := h.2.1
  have hC := h.2.2.1
  obtain ⟨T, hT⟩ := gFx
  obtain ⟨u1, u2, u3, u4, u5⟩ := tm.2.1 0 h0
  have hA0 := h.2.2.2.2.2.1 0 h0
  have hx0 := (h.2.2.2.2.2.2.2.2.1 0 h0).2
  have lp : ∀ (d e t : Nat) (b : Option Nat), e + d = zN D → 4 * d + 6 * zN D + 10 ≤ t → (∀ o, b = some o → o < 420) → (bF D e d b = none ∧ R_M_body t 1 [oI b, nI e] τ = some (-1, τ)) ∨ (∃ o t', bF D e d b = some o ∧ 6 * zN D + 10 ≤ t' + 0 ∧ R_M_body t 1 [oI b, nI e] τ = R_M_body t' 1 [nI o, nI (zN D)] τ) := by
    intro d
    induction d with
    | zero =>
      intro e t b he ht hb
      cases b with
      | none =>
        obtain ⟨t, rfl⟩ : ∃ t', t = t' + 1 := ⟨t - 1, by omega⟩
        refine Or.inl ⟨rfl, ?_⟩
        rw [st_M_body_1]
        unfold B_M_body_1
        rw [m2, if_pos (show nI (zN D) ≤ nI e by rw [n_le (by omega) (by omega)]; omega), if_pos (show oI none < 0 by decide)]
      | some o =>
        exact Or.inr ⟨o, t, rfl, by omega, by rw [show e = zN D by omega]; rfl⟩
    | succ d ih =>
      intro e t b he ht hb
      obtain ⟨t, rfl⟩ : ∃ t', t = t' + 1 + 1 + 1 + 1 := ⟨t - 4, by omega⟩
      have heN : e < zN D := by omega
      obtain ⟨v1, v2, v3, v4, v5⟩ := tm.2.1 e heN
      have hM := h.2.2.2.1 e heN
      have f4 : ∀ (t' : Nat) (b' : Option Nat), 4 * d + 6 * zN D + 10 ≤ t' → (∀ o, b' = some o → o < 420) → (bF D (e + 1) d b' = none ∧ R_M_body (t' + 1) 4 [oI b', nI e] τ = some (-1, τ)) ∨ (∃ o t'', bF D (e + 1) d b' = some o ∧ 6 * zN D + 10 ≤ t'' + 0 ∧ R_M_body (t' + 1) 4 [oI b', nI e] τ = R_M_body t'' 1 [nI o, nI (zN D)] τ) := fun t' b' ht' hb' => by
        rw [st_M_body_4]
        unfold B_M_body_4
        rw [add_c1]
        exact ih (e + 1) t' b' (by omega) ht' hb'
      rw [st_M_body_1]
      unfold B_M_body_1
      rw [m2, if_neg (show ¬ nI (zN D) ≤ nI e by rw [n_le (by omega) (by omega)]; omega), gLd_n (by omega) (by decide), v2, bF_s]
      by_cases p0 : zP D e = some 0
      · rw [if_pos (show oI (zP D e) = 0 by rw [p0]; rfl), if_pos p0]
        cases b with
        | some o =>
          have := hb o rfl
          rw [if_pos (show (0 : Int32) ≤ oI (some o) from nI_pos' (by omega)), if_neg (by simp)]
          exact Or.inl ⟨rfl, rfl⟩
        | none =>
          have f2 : R_M_body (t + 1 + 1 + 1) 2 [nI e] τ = if zM D e = 2 then R_M_body (t + 1) 4 [oI (some e), nI e] τ else R_M_body (t + 1) 4 [oI none, nI e] τ := by
            rw [st_M_body_2]
            unfold B_M_body_2
            rw [gLd_n (by omega) (by decide), v1]
            by_cases n2 : zM D e = 2
            · rw [if_pos (show nI (zM D e) = 2 by rw [n2]; rfl), if_pos n2, st_M_body_3]
              rfl
            · rw [if_neg (show ¬ nI (zM D e) = 2 by rw [eq_c2 (by omega)]; exact n2), if_neg n2, st_M_body_3]
              rfl
          rw [if_neg (show ¬ (0 : Int32) ≤ oI none by decide), if_pos rfl, gLd_n (by omega) (by decide), v1]
          by_cases n2 : zM D e = 2
          · rw [if_neg (show ¬ nI (zM D e) = 8 by rw [eq_c8 (by omega)]; omega), gLd_n (by omega) (by decide), v1, if_pos (show nI (zM D e) = 2 by rw [n2]; rfl), f2, if_pos n2, if_pos n2]
            exact f4 t (some e) (by omega) (fun o ho => by have := Option.some.inj ho; omega)
          · rw [if_neg n2]
            by_cases n8 : zM D e = 8
            · rw [if_pos (show nI (zM D e) = 8 by rw [n8]; rfl), f2, if_neg n2, if_pos n8]
              exact f4 t none (by omega) (fun o ho => by cases ho)
            · rw [if_neg (show ¬ nI (zM D e) = 8 by rw [eq_c8 (by omega)]; exact n8), gLd_n (by omega) (by decide), v1, if_neg (show ¬ nI (zM D e) = 2 by rw [eq_c2 (by omega)]; exact n2), if_neg n8]
              exact Or.inl ⟨rfl, rfl⟩
      · rw [if_neg (show ¬ oI (zP D e) = 0 from fun q => p0 ((oI_0 h heN (q := 0) (by decide)).mp q)), if_neg p0]
        exact f4 (t + 1 + 1) b (by omega) hb
  rw [fx_M_body hT]
  unfold B_M_body_0
  rw [gLd_0 (by decide) (by decide), u4]
  by_cases e1 : zB D 0 = 1
  · rw [if_pos (show nI (zB D 0) = 1 by rw [e1]; rfl), gLd_0 (by decide) (by decide), u5]
    by_cases e2 : (zX D 0).length = 0
    · rw [if_pos (show nI (zX D 0).length = 0 by rw [e2]; rfl)]
      have w := lp (zN D - 1) 1 (T + 49999) none (by omega) (by omega) (fun o ho => by cases ho)
      rcases w with ⟨w1, w2⟩ | ⟨b, t', w1, w2, w3⟩
      · have w2 : R_M_body (T + 49999) 1 [-1, 1] τ = some (-1, τ) := w2
        rw [w2]
        exact Or.inr ⟨fun ⟨b, q, _⟩ => (by rw [w1] at q; cases q), rfl⟩
      · have w3 : R_M_body (T + 49999) 1 [-1, 1] τ = R_M_body t' 1 [nI b, nI (zN D)] τ := w3
        have hb := bF_bdy h0 w1
        have hb1 := hb.1
        have hb2 := hb.2.1
        obtain ⟨v1, v2, v3, v4, v5⟩ := tm.2.1 b hb2
        have hAb := h.2.2.2.2.2.1 b hb2
        have hxb := (h.2.2.2.2.2.2.2.2.1 b hb2).2
        have uni : ∀ b', bF D 1 (zN D - 1) none = some b' → b' = b := fun b' q => Option.some.inj (q.symm.trans w1)
        obtain ⟨t', rfl⟩ : ∃ t'', t' = t'' + 1 := ⟨t' - 1, by omega⟩
        rw [w3, st_M_body_1]
        unfold B_M_body_1
        rw [m2, if_pos (Int32.le_refl _), if_neg (nI_pos (by omega)), gLd_n (by omega) (by decide), v4]
        by_cases e3 : zB D b = 0
        · rw [if_pos (show nI (zB D b) = 0 by rw [e3]; rfl), gLd_n (by omega) (by decide), v5]
          by_cases e4 : (zX D b).length = 0
          · rw [if_pos (show nI (zX D b).length = 0 by rw [e4]; rfl), add_c1]
            by_cases e5 : b + 1 = zN D
            · rw [if_pos (show nI (b + 1) = nI (zN D) by rw [e5])]
              refine Or.inr ⟨?_, rfl⟩
              rintro ⟨b', q1, q2, q3⟩
              rw [uni b' q1] at q2
              have := q2.2.2.2.2
              omega
            · rw [if_neg (show ¬ nI (b + 1) = nI (zN D) by rw [n_eq (by omega) (by omega)]; exact e5)]
              rcases m_bd5 h hb tm m2 (zN D - (b + 1)) (b + 1) t' (by omega) (by omega) (by omega) with ⟨z1, z2⟩ | ⟨z1, z2⟩
              · rw [z2]
                exact Or.inl ⟨b, w1, ⟨e1, e2, e3, e4, by omega⟩, fun c h1 h2 => z1 c (by omega) h2, rfl⟩
              · rw [z2]
                refine Or.inr ⟨?_, rfl⟩
                rintro ⟨b', q1, q2, q3⟩
                rw [uni b' q1] at q3
                exact z1 (fun c h1 h2 => q3 c (by omega) h2)
          · rw [if_neg (show ¬ nI (zX D b).length = 0 by rw [eq_c0 (by omega)]; exact e4)]
            refine Or.inr ⟨?_, rfl⟩
            rintro ⟨b', q1, q2, q3⟩
            rw [uni b' q1] at q2
            exact e4 q2.2.2.2.1
        · rw [if_neg (show ¬ nI (zB D b) = 0 by rw [eq_c0 (by omega)]; exact e3)]
          refine Or.inr ⟨?_, rfl⟩
          rintro ⟨b', q1, q2, q3⟩
          rw [uni b' q1] at q2
          exact e3 q2.2.2.1
    · rw [if_neg (show ¬ nI (zX D 0).length = 0 by rw [eq_c0 (by omega)]; exact e2)]
      exact Or.inr ⟨fun ⟨b', q1, q2, q3⟩ => e2 q2.2.1, rfl⟩
  · rw [if_neg (show ¬ nI (zB D 0) = 1 by rw [eq_c1 (by omega)]; exact e1)]
    exact Or.inr ⟨fun ⟨b', q1, q2, q3⟩ => e1 q2.1, rfl⟩
