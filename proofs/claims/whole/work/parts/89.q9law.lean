/-! decode: the reference's law -/
def rE (a : aS) (D : dS) (b e : Nat) : Prop := ftB a D b e = true ∧ (zM D e = 16 ∨ zM D e = 1 → slB a D e = true) ∧ (∀ e' v, ob D e = true → cIn a D e 247 = some v → b < e' → e' < zN D → e' ≠ e → ob D e' = true → cIn a D e' 247 ≠ some v) ∧ (∀ v, zM D e = 18 → cIn a D e 8 = some v → wI a D b v (zN D) ≠ none)
theorem RR_k {a : aS} {D : dS} {b : Nat} : RR a D b ↔ (∀ e, b < e → e < zN D → rE a D b e) ∧ sN a + oc D b (zN D) ≤ 16 ∧ ∀ e, b < e → e < zN D → r6 D b e := by
  constructor
  · rintro ⟨R1, R2, R3, R4, R5, R6⟩
    exact ⟨fun e h1 h2 => ⟨R1 e h1 h2, R2 e h1 h2, fun e' v ho hv h3 h4 hne ho' => R3 e e' v h1 h2 ho hv h3 h4 hne ho', fun v h18 hv => R4 e v h1 h2 h18 hv⟩, R5, fun e h1 h2 => R6 e h1 h2⟩
  · rintro ⟨R, R5, R6⟩
    exact ⟨fun e h1 h2 => (R e h1 h2).1, fun e h1 h2 => (R e h1 h2).2.1, fun e e' v h1 h2 ho hv h3 h4 hne ho' => (R e h1 h2).2.2.1 e' v ho hv h3 h4 hne ho', fun e v h1 h2 h18 hv => (R e h1 h2).2.2.2 v h18 hv, R5, fun e h1 h2 => R6 e h1 h2⟩
theorem m_law1 {a : aS} (ha : okA a) {D : dS} (h : wB a D) {b : Nat} (hb : bdy D b) {τ0 : gS} (hm0 : absM τ0 a) (tm0 : tM τ0 D) (m20 : τ0.1 2 = nI (zN D)) : ∀ (d e : Nat) (τ : gS) (t : Nat), e + d = zN D → b < e → 7 * d + 1 ≤ t → fr14 τ0 τ → (∀ c q, c < zN D → zP D c = some q → b < q → q < e → (zM D q = 16 ∨ zM D q = 1) → τ.2 14 c = nI (slS a D q c)) → ((∀ c, e ≤ c → c < zN D → rE a D b c) ∧ sN a + oc D b (zN D) ≤ 16 ∧ ∃ τ', R_M_lawful t 1 [nI b, nI (sN a + oc D b e), nI e] τ = some (1, τ') ∧ fr14 τ0 τ' ∧ ∀ c q, c < zN D → zP D c = some q → b < q → q < zN D → (zM D q = 16 ∨ zM D q = 1) → τ'.2 14 c = nI (slS a D q c)) ∨ (¬ ((∀ c, e ≤ c → c < zN D → rE a D b c) ∧ sN a + oc D b (zN D) ≤ 16) ∧ ∃ τ', R_M_lawful t 1 [nI b, nI (sN a + oc D b e), nI e] τ = some (0, τ') ∧ fr14 τ0 τ') := by
  have hn := h.1
  have h16 := ha.1
  have hb2 := hb.2.1
  have ocl : ∀ m, oc D b m ≤ m := by
    intro m
    induction m with
    | zero => exact Nat.le_refl 0
    | succ m ih => rw [oc_s]; split <;> omega
  intro d
  induction d with
  | zero =>
    intro e τ t he hbe ht hf hrec
    obtain ⟨t, rfl⟩ : ∃ t', t = t' + 1 := ⟨t - 1, by omega⟩
    obtain rfl : e = zN D := by omega
    have ho := ocl (zN D)
    rw [st_M_lawful_1]
    unfold B_M_lawful_1
    rw [hf.1, m20, if_pos (Int32.le_refl _)]
    by_cases x : sN a + oc D b (zN D) ≤ 16
    · rw [if_neg (show ¬ 16 < nI (sN a + oc D b (zN D)) by rw [c16_lt (by omega)]; omega)]
      exact Or.inl ⟨fun c h1 h2 => by omega, x, τ, rfl, hf, fun c q h1 h2 h3 h4 h5 => hrec c q h1 h2 h3 h4 h5⟩
    · rw [if_pos (show 16 < nI (sN a + oc D b (zN D)) by rw [c16_lt (by omega)]; omega)]
      exact Or.inr ⟨fun q => x q.2, τ, rfl, hf⟩
  | succ d ih =>
    intro e τ t he hbe ht hf hrec
    obtain ⟨t, rfl⟩ : ∃ t', t = t' + 1 + 1 + 1 + 1 + 1 + 1 + 1 := ⟨t - 7, by omega⟩
    have heN : e < zN D := by omega
    have hM := h.2.2.2.1 e heN
    have ho := ocl e
    have hm := fr14_m hf hm0
    have tm := fr14_t' hf tm0
    have v1 := (tm.2.1 e heN).1
    have fail : ∀ τ', fr14 τ0 τ' → ¬ rE a D b e → (∀ (f : Option (Int32 × gS)), f = some (0, τ') → ((∀ c, e ≤ c → c < zN D → rE a D b c) ∧ sN a + oc D b (zN D) ≤ 16 ∧ ∃ τ', f = some (1, τ') ∧ fr14 τ0 τ' ∧ ∀ c q, c < zN D → zP D c = some q → b < q → q < zN D → (zM D q = 16 ∨ zM D q = 1) → τ'.2 14 c = nI (slS a D q c)) ∨ (¬ ((∀ c, e ≤ c → c < zN D → rE a D b c) ∧ sN a + oc D b (zN D) ≤ 16) ∧ ∃ τ', f = some (0, τ') ∧ fr14 τ0 τ')) := fun τ' hf' hno f hff => Or.inr ⟨fun q => hno (q.1 e (Nat.le_refl _) heN), τ', hff, hf'⟩
    rw [st_M_lawful_1]
    unfold B_M_lawful_1
    rw [hf.1, m20, if_neg (show ¬ nI (zN D) ≤ nI e by rw [n_le (by omega) (by omega)]; omega), m_fits ha h hm tm hbe heN, gBd_s]
    cases hft : ftB a D b e with
    | false =>
      rw [bI_f, if_pos rfl]
      exact fail τ hf (fun q => by have := q.1; rw [hft] at this; cases this) _ rfl
    | true =>
      have hat := (ft_k.mp hft).2.2.1
      -- from block 3 on
      have b3 : ∀ (τ1 : gS) (t' : Nat), 7 * d + 1 ≤ t' → fr14 τ0 τ1 → (∀ c q, c < zN D → zP D c = some q → b < q → q < e + 1 → (zM D q = 16 ∨ zM D q = 1) → τ1.2 14 c = nI (slS a D q c)) → (zM D e = 16 ∨ zM D e = 1 → slB a D e = true) → ((∀ c, e ≤ c → c < zN D → rE a D b c) ∧ sN a + oc D b (zN D) ≤ 16 ∧ ∃ τ', R_M_lawful (t' + 1 + 1 + 1 + 1 + 1) 3 [nI b, nI (sN a + oc D b e), nI e] τ1 = some (1, τ') ∧ fr14 τ0 τ' ∧ ∀ c q, c < zN D → zP D c = some q → b < q → q < zN D → (zM D q = 16 ∨ zM D q = 1) → τ'.2 14 c = nI (slS a D q c)) ∨ (¬ ((∀ c, e ≤ c → c < zN D → rE a D b c) ∧ sN a + oc D b (zN D) ≤ 16) ∧ ∃ τ', R_M_lawful (t' + 1 + 1 + 1 + 1 + 1) 3 [nI b, nI (sN a + oc D b e), nI e] τ1 = some (0, τ') ∧ fr14 τ0 τ') := by
        intro τ1 t' ht' hf1 hrec1 hsl
        have hm1 := fr14_m hf1 hm0
        have tm1 := fr14_t' hf1 tm0
        have m21 : τ1.1 2 = nI (zN D) := by rw [hf1.1]; exact m20
        have w1 := (tm1.2.1 e heN).1
        -- block 7
        have b7 : rE a D b e → ∀ t'' : Nat, 7 * d + 1 ≤ t'' → ((∀ c, e ≤ c → c < zN D → rE a D b c) ∧ sN a + oc D b (zN D) ≤ 16 ∧ ∃ τ', R_M_lawful (t'' + 1) 7 [nI b, nI (sN a + oc D b (e + 1)), nI e] τ1 = some (1, τ') ∧ fr14 τ0 τ' ∧ ∀ c q, c < zN D → zP D c = some q → b < q → q < zN D → (zM D q = 16 ∨ zM D q = 1) → τ'.2 14 c = nI (slS a D q c)) ∨ (¬ ((∀ c, e ≤ c → c < zN D → rE a D b c) ∧ sN a + oc D b (zN D) ≤ 16) ∧ ∃ τ', R_M_lawful (t'' + 1) 7 [nI b, nI (sN a + oc D b (e + 1)), nI e] τ1 = some (0, τ') ∧ fr14 τ0 τ') := by
          intro hr t'' ht''
          rw [st_M_lawful_7]
          unfold B_M_lawful_7
          rw [add_c1]
          rcases ih (e + 1) τ1 t'' (by omega) (by omega) ht'' hf1 hrec1 with ⟨z1, z2, z3⟩ | ⟨z1, z2⟩
          · refine Or.inl ⟨fun c h1 h2 => ?_, z2, z3⟩
            by_cases c1 : c = e
            · rw [c1]; exact hr
            · exact z1 c (by omega) h2
          · exact Or.inr ⟨fun q => z1 ⟨fun c h1 h2 => q.1 c (by omega) h2, q.2⟩, z2⟩
        -- block 6
        have b6 : (∀ e' v, ob D e = true → cIn a D e 247 = some v → b < e' → e' < zN D → e' ≠ e → ob D e' = true → cIn a D e' 247 ≠ some v) → ∀ t'' : Nat, 7 * d + 1 ≤ t'' → ((∀ c, e ≤ c → c < zN D → rE a D b c) ∧ sN a + oc D b (zN D) ≤ 16 ∧ ∃ τ', R_M_lawful (t'' + 1 + 1) 6 [nI b, nI (sN a + oc D b (e + 1)), nI e] τ1 = some (1, τ') ∧ fr14 τ0 τ' ∧ ∀ c q, c < zN D → zP D c = some q → b < q → q < zN D → (zM D q = 16 ∨ zM D q = 1) → τ'.2 14 c = nI (slS a D q c)) ∨ (¬ ((∀ c, e ≤ c → c < zN D → rE a D b c) ∧ sN a + oc D b (zN D) ≤ 16) ∧ ∃ τ', R_M_lawful (t'' + 1 + 1) 6 [nI b, nI (sN a + oc D b (e + 1)), nI e] τ1 = some (0, τ') ∧ fr14 τ0 τ') := by
          intro hid t'' ht''
          rw [st_M_lawful_6]
          unfold B_M_lawful_6
          rw [gLd_n (by omega) (by decide), w1]
          by_cases n18 : zM D e = 18
          · rw [if_pos (show nI (zM D e) = 18 by rw [n18]; rfl), m_cin ha h hm1 tm1 heN (v := 8) (x := 8) (by decide) rfl, gBd_s]
            have hf8 := (ft_k.mp hft).2.2.2.1 n18
            have hc8 := (atS_in h heN hat hf8).2
            cases c8 : cIn a D e 8 with
            | none => exact absurd c8 hc8
            | some v =>
              obtain ⟨r, y1, y2, y3⟩ := m_wid ha h hm1 tm1 m21 (b := b) (v := v) (cIn_lt ha c8) hb2 (x := none) (fun o ho => by cases ho)
              rw [show oI (some v) = nI v from rfl, show (-1 : Int32) = oI none from rfl, y1, gBd_s]
              cases r with
              | none =>
                rw [if_neg (show ¬ (0 : Int32) ≤ oI none by decide)]
                refine Or.inr ⟨fun q => ?_, τ1, rfl, hf1⟩
                have z := (q.1 e (Nat.le_refl _) heN).2.2.2 v n18 c8
                cases c9 : wI a D b v (zN D) with
                | none => exact z c9
                | some e' =>
                  obtain ⟨x1, x2, x3, x4⟩ := wI_in _ _ c9
                  exact y3 rfl e' x1 x2 (by simp) x3 x4
              | some c =>
                obtain ⟨x1, x2, x3, x4, x5⟩ := y2 c rfl
                rw [if_pos (show (0 : Int32) ≤ oI (some c) from nI_pos' (by omega))]
                exact b7 ⟨hft, hsl, hid, fun v' _ hv' => by
                  rw [c8] at hv'
                  rw [← Option.some.inj hv']
                  exact wI_ex _ c x1 x2 x4 x5⟩ t'' ht''
          · rw [if_neg (show ¬ nI (zM D e) = 18 by rw [eq_c18 (by omega)]; exact n18)]
            exact b7 ⟨hft, hsl, hid, fun v' q => absurd q n18⟩ t'' ht''
        -- block 5
        have b5 : ∀ own : Option Nat, (∀ v, own = some v → v < 100) → (ob D e = true → own = cIn a D e 247) → (own ≠ none → ob D e = true) → ∀ t'' : Nat, 7 * d + 1 ≤ t'' → ((∀ c, e ≤ c → c < zN D → rE a D b c) ∧ sN a + oc D b (zN D) ≤ 16 ∧ ∃ τ', R_M_lawful (t'' + 1 + 1 + 1) 5 [nI b, nI (sN a + oc D b (e + 1)), nI e, oI own] τ1 = some (1, τ') ∧ fr14 τ0 τ' ∧ ∀ c q, c < zN D → zP D c = some q → b < q → q < zN D → (zM D q = 16 ∨ zM D q = 1) → τ'.2 14 c = nI (slS a D q c)) ∨ (¬ ((∀ c, e ≤ c → c < zN D → rE a D b c) ∧ sN a + oc D b (zN D) ≤ 16) ∧ ∃ τ', R_M_lawful (t'' + 1 + 1 + 1) 5 [nI b, nI (sN a + oc D b (e + 1)), nI e, oI own] τ1 = some (0, τ') ∧ fr14 τ0 τ') := by
          intro own h100 hown hown2 t'' ht''
          rw [st_M_lawful_5]
          unfold B_M_lawful_5
          cases own with
          | none =>
            rw [if_pos (show oI none < 0 by decide)]
            exact b6 (fun e' v ho' hv' => by rw [← hown ho'] at hv'; cases hv') t'' ht''
          | some v =>
            have hv := h100 v rfl
            have hob := hown2 (by simp)
            have hcv := (hown hob).symm
            obtain ⟨r, y1, y2, y3⟩ := m_wid ha h hm1 tm1 m21 (b := b) (v := v) hv hb2 (x := some e) (fun o ho => by have := Option.some.inj ho; omega)
            rw [if_neg (show ¬ oI (some v) < 0 from nI_pos (by omega)), show oI (some v) = nI v from rfl, show nI e = oI (some e) from rfl, y1, gBd_s]
            cases r with
            | none =>
              rw [if_pos (show oI none < 0 by decide)]
              exact b6 (fun e' v' ho' hv' h1 h2 hne hoo => by
                rw [hcv] at hv'
                rw [← Option.some.inj hv']
                exact y3 rfl e' h1 h2 (fun z => hne (Option.some.inj z).symm) hoo) t'' ht''
            | some c =>
              obtain ⟨x1, x2, x3, x4, x5⟩ := y2 c rfl
              rw [if_neg (show ¬ oI (some c) < 0 from nI_pos (by omega))]
              refine Or.inr ⟨fun q => ?_, τ1, rfl, hf1⟩
              exact (q.1 e (Nat.le_refl _) heN).2.2.1 c v hob hcv x1 x2 (fun z => x3 (by rw [z])) x4 x5
        rw [st_M_lawful_3]
        unfold B_M_lawful_3
        rw [m_ob h tm1 heN, gBd_s]
        cases hob : ob D e with
        | false =>
          have hoc : oc D b (e + 1) = oc D b e := by rw [oc_s, if_neg (fun q => by rw [hob] at q; cases q.2)]; rfl
          rw [bI_f, if_pos rfl, st_M_lawful_4]
          unfold B_M_lawful_4
          rw [m_ob h tm1 heN, hob, gBd_s, bI_f, if_pos rfl]
          have w := b5 none (fun v q => by cases q) (fun q => by rw [hob] at q; cases q) (fun q => absurd rfl q) t' ht'
          rw [hoc] at w
          exact w
        | true =>
          have hoc : oc D b (e + 1) = oc D b e + 1 := by rw [oc_s, if_pos ⟨hbe, hob⟩]
          rw [bI_t, if_neg i10, st_M_lawful_4]
          unfold B_M_lawful_4
          rw [m_ob h tm1 heN, hob, gBd_s, bI_t, if_neg i10, m_cin ha h hm1 tm1 heN (v := 247) (x := 247) (by decide) rfl, gBd_s, add_c1]
          have w := b5 (cIn a D e 247) (fun v q => cIn_lt ha q) (fun _ => rfl) (fun _ => hob) t' ht'
          rw [hoc] at w
          exact w
      have rec0 : ∀ τ1 : gS, (∀ c q, c < zN D → zP D c = some q → b < q → q < e → (zM D q = 16 ∨ zM D q = 1) → τ1.2 14 c = nI (slS a D q c)) → (zM D e = 16 ∨ zM D e = 1 → ∀ c, c < zN D → zP D c = some e → τ1.2 14 c = nI (slS a D e c)) → ∀ c q, c < zN D → zP D c = some q → b < q → q < e + 1 → (zM D q = 16 ∨ zM D q = 1) → τ1.2 14 c = nI (slS a D q c) := by
        intro τ1 hr1 hr2 c q h1 h2 h3 h4 h5
        by_cases c1 : q = e
        · rw [c1] at h2 h5 ⊢
          exact hr2 h5 c h1 h2
        · exact hr1 c q h1 h2 h3 (by omega) h5
      rw [bI_t, if_neg i10, gLd_n (by omega) (by decide), v1]
      have two : (zM D e = 16 ∨ zM D e = 1) → ((∀ c, e ≤ c → c < zN D → rE a D b c) ∧ sN a + oc D b (zN D) ≤ 16 ∧ ∃ τ', R_M_lawful (t + 1 + 1 + 1 + 1 + 1 + 1) 2 [nI b, nI (sN a + oc D b e), nI e] τ = some (1, τ') ∧ fr14 τ0 τ' ∧ ∀ c q, c < zN D → zP D c = some q → b < q → q < zN D → (zM D q = 16 ∨ zM D q = 1) → τ'.2 14 c = nI (slS a D q c)) ∨ (¬ ((∀ c, e ≤ c → c < zN D → rE a D b c) ∧ sN a + oc D b (zN D) ≤ 16) ∧ ∃ τ', R_M_lawful (t + 1 + 1 + 1 + 1 + 1 + 1) 2 [nI b, nI (sN a + oc D b e), nI e] τ = some (0, τ') ∧ fr14 τ0 τ') := by
        intro hk
        rw [st_M_lawful_2]
        unfold B_M_lawful_2
        rcases m_slotE ha h hm tm (by rw [hf.1]; exact m20) heN hk hat with ⟨z1, τ1, z2, z3, z4⟩ | ⟨z1, τ1, z2, z3⟩
        · rw [z2, gBd_s, if_neg i10]
          exact b3 τ1 t (by omega) (fr14_t hf z3) (rec0 τ1 (fun c q h1 h2 h3 h4 h5 => by
            rw [(z4 c h1).2 (fun z => by rw [h2] at z; have := Option.some.inj z; omega)]
            exact hrec c q h1 h2 h3 h4 h5) (fun _ c h1 h2 => (z4 c h1).1 h2)) (fun _ => z1)
        · rw [z2, gBd_s, if_pos rfl]
          exact fail τ1 (fr14_t hf z3) (fun q => by rw [q.2.1 hk] at z1; cases z1) _ rfl
      by_cases n16 : zM D e = 16
      · rw [if_pos (show nI (zM D e) = 16 by rw [n16]; rfl)]
        exact two (Or.inl n16)
      · rw [if_neg (show ¬ nI (zM D e) = 16 by rw [eq_c16 (by omega)]; exact n16), gLd_n (by omega) (by decide), v1]
        by_cases n1 : zM D e = 1
        · rw [if_pos (show nI (zM D e) = 1 by rw [n1]; rfl)]
          exact two (Or.inr n1)
        · rw [if_neg (show ¬ nI (zM D e) = 1 by rw [eq_c1 (by omega)]; exact n1)]
          exact b3 τ (t + 1) (by omega) hf (rec0 τ hrec (fun q => q.elim (fun z => absurd z n16) (fun z => absurd z n1))) (fun q => q.elim (fun z => absurd z n16) (fun z => absurd z n1))
theorem m_law {a : aS} (ha : okA a) {D : dS} (h : wB a D) {b : Nat} (hb : bdy D b) {τ : gS} (hm : absM τ a) (tm : tM τ D) (m2 : τ.1 2 = nI (zN D)) : ((∀ c, b < c → c < zN D → rE a D b c) ∧ sN a + oc D b (zN D) ≤ 16 ∧ ∃ τ', f_M_lawful τ (nI b) = some (1, τ') ∧ fr14 τ τ' ∧ ∀ c q, c < zN D → zP D c = some q → b < q → q < zN D → (zM D q = 16 ∨ zM D q = 1) → τ'.2 14 c = nI (slS a D q c)) ∨ (¬ ((∀ c, b < c → c < zN D → rE a D b c) ∧ sN a + oc D b (zN D) ≤ 16) ∧ ∃ τ', f_M_lawful τ (nI b) = some (0, τ') ∧ fr14 τ τ') := by
  have hn := h.1
  have hb2 := hb.2.1
  obtain ⟨T, hT⟩ := gFx
  rw [fx_M_lawful hT]
  unfold B_M_lawful_0
  have w := m_law1 ha h hb hm tm m2 (zN D - (b + 1)) (b + 1) τ (T + 49999) (by omega) (by omega) (by omega) (fr14_r τ) (fun c q h1 h2 h3 h4 h5 => by omega)
  rw [oc_0 D b (b + 1) (Nat.le_refl _), Nat.add_zero] at w
  rw [hm.1, add_c1]
  rcases w with ⟨z1, z2, z3⟩ | ⟨z1, z2⟩
  · exact Or.inl ⟨fun c h1 h2 => z1 c (by omega) h2, z2, z3⟩
  · exact Or.inr ⟨fun q => z1 ⟨fun c h1 h2 => q.1 c (by omega) h2, q.2⟩, z2⟩
