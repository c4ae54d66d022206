/-! decode: the reference's slots and law -/
theorem bit_c : ∀ tk, tk < 16 → ∀ s, s < 4 → ((nI tk >>> (nI s &&& 31)) &&& 1) = bI (bit tk s) := by decide
theorem or_c : ∀ tk, tk < 16 → ∀ s, s < 4 → bit tk s = false → nI tk ||| (1 <<< (nI s &&& 31)) = nI (tk + 2 ^ s) := by decide
def fr14 (τ τ' : gS) : Prop := τ'.1 = τ.1 ∧ ∀ k, k ≠ 14 → τ'.2 k = τ.2 k
theorem fr14_r (τ : gS) : fr14 τ τ := ⟨rfl, fun _ _ => rfl⟩
theorem fr14_t {τ τ' τ'' : gS} (h : fr14 τ τ') (h2 : fr14 τ' τ'') : fr14 τ τ'' := ⟨h2.1.trans h.1, fun k hk => (h2.2 k hk).trans (h.2 k hk)⟩
theorem fr14_m {τ τ' : gS} {a : aS} (h : fr14 τ τ') (hm : absM τ a) : absM τ' a := absM_of hm (by rw [h.1]) (by rw [h.1]) (fun k hk => h.2 k (by omega))
theorem fr14_t' {τ τ' : gS} {D : dS} (h : fr14 τ τ') (tm : tM τ D) : tM τ' D := by
  obtain ⟨t1, t2, t3, t4⟩ := tm
  refine ⟨by rw [h.1]; exact t1, ?_, ?_, ?_⟩
  · rw [h.2 8 (by decide), h.2 9 (by decide), h.2 10 (by decide), h.2 11 (by decide), h.2 12 (by decide)]; exact t2
  · rw [h.2 16 (by decide), h.2 17 (by decide), h.2 18 (by decide)]; exact t3
  · rw [h.2 13 (by decide)]; exact t4
def slS (a : aS) (D : dS) (q c : Nat) : Nat := match sca a D q c with
  | none => 0
  | some r => (cIn a D c 47).getD r.1
theorem offE_lt {a : aS} (ha : okA a) (D : dS) (e : Nat) : offE a D e < 100 := by
  unfold offE
  cases c : cIn a D e 15 with
  | none => decide
  | some v => exact cIn_lt ha c
theorem sca_nx {a : aS} (ha : okA a) {D : dS} {q : Nat} (hz : szO a D q ≤ 4) : ∀ m r, sca a D q m = some r → r.1 < 100 := by
  intro m
  induction m with
  | zero =>
    intro r h
    have h := Option.some.inj h
    rw [← h]
    exact offE_lt ha D q
  | succ m ih =>
    intro r h
    by_cases e : zP D m = some q
    · rw [sca_s, if_pos e] at h
      cases h1 : sca a D q m with
      | none => rw [h1] at h; cases h
      | some r0 =>
        rw [h1] at h
        have h : (if szO a D q ≤ (cIn a D m 47).getD r0.1 ∨ bit r0.2 ((cIn a D m 47).getD r0.1) = true then none else some ((cIn a D m 47).getD r0.1 + 1, r0.2 + 2 ^ ((cIn a D m 47).getD r0.1))) = some r := h
        by_cases c : szO a D q ≤ (cIn a D m 47).getD r0.1 ∨ bit r0.2 ((cIn a D m 47).getD r0.1) = true
        · rw [if_pos c] at h; cases h
        · rw [if_neg c] at h
          have h := Option.some.inj h
          have hs : (cIn a D m 47).getD r0.1 < szO a D q := Nat.lt_of_not_le (fun z => c (Or.inl z))
          rw [← h]
          show (cIn a D m 47).getD r0.1 + 1 < 100
          omega
    · rw [sca_no e] at h
      exact ih r h
theorem sca_init {a : aS} {D : dS} (h : wB a D) {q : Nat} : ∀ m, m ≤ q + 1 → m ≤ zN D → sca a D q m = some (offE a D q, 0) := by
  intro m
  induction m with
  | zero => intro _ _; rfl
  | succ m ih =>
    intro h1 h2
    rw [sca_no (fun z => by have := h.2.2.2.2.1 m q (by omega) z; omega)]
    exact ih (by omega) (by omega)
theorem off_P {a : aS} {D : dS} (h : wB a D) {e : Nat} (he : e < zN D) (hs : atS a D e = true) (h16 : zM D e ≠ 1) : cIn a D e 15 = none := by
  cases c : fA D e 15 with
  | none => unfold cIn; rw [c]
  | some i =>
    have := (atS_in h he hs (v := 15) (by rw [c]; simp)).1
    unfold msB at this
    rw [if_neg (by decide), if_pos (Or.inr rfl)] at this
    exact absurd (of_decide_eq_true this) h16
theorem m_slotE {a : aS} (ha : okA a) {D : dS} (h : wB a D) {τ : gS} (hm : absM τ a) (tm : tM τ D) (m2 : τ.1 2 = nI (zN D)) {e : Nat} (he : e < zN D) (hk : zM D e = 16 ∨ zM D e = 1) (hs : atS a D e = true) : (slB a D e = true ∧ ∃ τ', f_M_slots τ (nI e) = some (1, τ') ∧ fr14 τ τ' ∧ ∀ c, c < zN D → (zP D c = some e → τ'.2 14 c = nI (slS a D e c)) ∧ (zP D c ≠ some e → τ'.2 14 c = τ.2 14 c)) ∨ (slB a D e = false ∧ ∃ τ', f_M_slots τ (nI e) = some (0, τ') ∧ fr14 τ τ') := by
  have hn := h.1
  obtain ⟨T, hT⟩ := gFx
  obtain ⟨v1, v2, v3, v4, v5⟩ := tm.2.1 e he
  have hM := h.2.2.2.1 e he
  have lp : szO a D e ≤ 4 → ∀ (d c : Nat) (τ1 : gS) (r : Nat × Nat) (t : Nat), c + d = zN D → e < c → 3 * d + 1 ≤ t → sca a D e c = some r → fr14 τ τ1 → (∀ k, k < zN D → (k < c ∧ zP D k = some e → τ1.2 14 k = nI (slS a D e k)) ∧ (zP D k ≠ some e → τ1.2 14 k = τ.2 14 k)) → (∃ r', sca a D e (zN D) = some r' ∧ ∃ τ', R_M_slots t 4 [nI e, nI (szO a D e), nI r.1, nI r.2, nI c] τ1 = some (bI (decide (zM D e = 1 ∨ r'.2 = 3)), τ') ∧ fr14 τ τ' ∧ ∀ k, k < zN D → (zP D k = some e → τ'.2 14 k = nI (slS a D e k)) ∧ (zP D k ≠ some e → τ'.2 14 k = τ.2 14 k)) ∨ (sca a D e (zN D) = none ∧ ∃ τ', R_M_slots t 4 [nI e, nI (szO a D e), nI r.1, nI r.2, nI c] τ1 = some (0, τ') ∧ fr14 τ τ') := by
    intro hz d
    induction d with
    | zero =>
      intro c τ1 r t hc hec ht hsc hf hrec
      obtain ⟨t, rfl⟩ : ∃ t', t = t' + 1 := ⟨t - 1, by omega⟩
      obtain rfl : c = zN D := by omega
      obtain ⟨i1, i2, i3⟩ := sca_pc hz _ _ hsc
      refine Or.inl ⟨r, hsc, τ1, ?_, hf, fun k hk => ⟨fun q => (hrec k hk).1 ⟨hk, q⟩, (hrec k hk).2⟩⟩
      have w1 : τ1.2 8 e = nI (zM D e) := by rw [hf.2 8 (by decide)]; exact v1
      rw [st_M_slots_4]
      unfold B_M_slots_4
      rw [hf.1, m2, if_pos (Int32.le_refl _), gLd_n (by omega) (by decide), w1]
      by_cases x1 : zM D e = 1
      · rw [if_pos (show nI (zM D e) = 1 by rw [x1]; rfl), decide_eq_true (Or.inl x1)]; rfl
      · rw [if_neg (show ¬ nI (zM D e) = 1 by rw [eq_c1 (by omega)]; exact x1)]
        by_cases x2 : r.2 = 3
        · rw [if_pos (show nI r.2 = 3 by rw [x2]; rfl), decide_eq_true (Or.inr x2)]; rfl
        · rw [if_neg (show ¬ nI r.2 = 3 by rw [eq_c3 (by omega)]; exact x2), decide_eq_false (fun q => q.elim x1 x2)]; rfl
    | succ d ih =>
      intro c τ1 r t hc hec ht hsc hf hrec
      obtain ⟨t, rfl⟩ : ∃ t', t = t' + 1 + 1 + 1 := ⟨t - 3, by omega⟩
      have hcN : c < zN D := by omega
      obtain ⟨i1, i2, i3⟩ := sca_pc hz _ _ hsc
      have hnx := sca_nx ha hz _ _ hsc
      have tm1 := fr14_t' hf tm
      have hm1 := fr14_m hf hm
      have e6 : ∀ (t' : Nat) (r' : Nat × Nat) (τ' : gS), R_M_slots (t' + 1) 6 [nI e, nI (szO a D e), nI r'.1, nI r'.2, nI c] τ' = R_M_slots t' 4 [nI e, nI (szO a D e), nI r'.1, nI r'.2, nI (c + 1)] τ' := fun t' r' τ' => by
        rw [st_M_slots_6]
        unfold B_M_slots_6
        rw [add_c1]
      rw [st_M_slots_4]
      unfold B_M_slots_4
      rw [hf.1, m2, if_neg (show ¬ nI (zN D) ≤ nI c by rw [n_le (by omega) (by omega)]; omega), gLd_n (by omega) (by decide), (tm1.2.1 c hcN).2.1]
      by_cases hp : zP D c = some e
      · rw [if_pos (show oI (zP D c) = nI e by rw [hp]; rfl), m_cin ha h hm1 tm1 hcN (v := 47) (x := 47) (by decide) rfl, gBd_s]
        have hs' : (cIn a D c 47).getD r.1 < 100 := by
          cases z : cIn a D c 47 with
          | none => exact hnx
          | some v => exact cIn_lt ha z
        have to5 : (if (0 : Int32) ≤ oI (cIn a D c 47) then R_M_slots (t + 1 + 1) 5 [nI e, nI (szO a D e), nI r.2, nI c, oI (cIn a D c 47)] τ1 else R_M_slots (t + 1 + 1) 5 [nI e, nI (szO a D e), nI r.2, nI c, nI r.1] τ1) = R_M_slots (t + 1 + 1) 5 [nI e, nI (szO a D e), nI r.2, nI c, nI ((cIn a D c 47).getD r.1)] τ1 := by
          cases z : cIn a D c 47 with
          | none => rw [if_neg (show ¬ (0 : Int32) ≤ oI none by decide)]; rfl
          | some v =>
            have := cIn_lt ha z
            rw [if_pos (show (0 : Int32) ≤ oI (some v) from nI_pos' (by omega))]; rfl
        have hsl : slS a D e c = (cIn a D c 47).getD r.1 := by unfold slS; rw [hsc]
        rw [to5, st_M_slots_5]
        unfold B_M_slots_5
        have hstep := sca_s a D e c
        rw [if_pos hp, hsc] at hstep
        have hstep : sca a D e (c + 1) = if szO a D e ≤ (cIn a D c 47).getD r.1 ∨ bit r.2 ((cIn a D c 47).getD r.1) = true then none else some ((cIn a D c 47).getD r.1 + 1, r.2 + 2 ^ ((cIn a D c 47).getD r.1)) := hstep
        have bad : szO a D e ≤ (cIn a D c 47).getD r.1 ∨ bit r.2 ((cIn a D c 47).getD r.1) = true → sca a D e (zN D) = none := fun q => by
          rw [if_pos q] at hstep
          have := sca_up (zN D - (c + 1)) (c + 1) hstep
          rw [show c + 1 + (zN D - (c + 1)) = zN D by omega] at this
          exact this
        by_cases x1 : szO a D e ≤ (cIn a D c 47).getD r.1
        · rw [if_pos (show nI (szO a D e) ≤ nI ((cIn a D c 47).getD r.1) by rw [n_le (by omega) (by omega)]; exact x1)]
          exact Or.inr ⟨bad (Or.inl x1), τ1, rfl, hf⟩
        · rw [if_neg (show ¬ nI (szO a D e) ≤ nI ((cIn a D c 47).getD r.1) by rw [n_le (by omega) (by omega)]; exact x1), bit_c r.2 i1 _ (by omega)]
          cases x2 : bit r.2 ((cIn a D c 47).getD r.1) with
          | true =>
            rw [bI_t, if_neg i10]
            exact Or.inr ⟨bad (Or.inr x2), τ1, rfl, hf⟩
          | false =>
            rw [bI_f, if_pos rfl, gSt_n (by omega) (by decide), add_c1, or_c r.2 i1 _ (by omega) x2]
            rw [if_neg (fun q => q.elim x1 (fun z => by rw [x2] at z; cases z))] at hstep
            have e6' := e6 (t) ((cIn a D c 47).getD r.1 + 1, r.2 + 2 ^ ((cIn a D c 47).getD r.1)) (sA τ1 14 (upd (τ1.2 14) c (nI ((cIn a D c 47).getD r.1))))
            rw [e6']
            refine ih (c + 1) _ _ t (by omega) (by omega) (by omega) hstep (fr14_t hf ⟨rfl, fun k hk => sA_ne hk⟩) (fun k hk => ⟨fun q => ?_, fun q => ?_⟩)
            · rw [sA_eq]
              by_cases c1 : k = c
              · rw [c1, up_eq, hsl]
              · rw [up_ne c1]
                exact (hrec k hk).1 ⟨by omega, q.2⟩
            · rw [sA_eq, up_ne (fun z => q (by rw [z]; exact hp))]
              exact (hrec k hk).2 q
      · rw [if_neg (show ¬ oI (zP D c) = nI e from fun q => hp ((oI_0 h hcN (q := e) (by omega)).mp q)), e6 (t + 1)]
        refine ih (c + 1) τ1 r (t + 1) (by omega) (by omega) (by omega) (by rw [sca_no hp]; exact hsc) hf (fun k hk => ⟨fun q => ?_, (hrec k hk).2⟩)
        by_cases c1 : k = c
        · rw [c1] at q
          exact absurd q.2 hp
        · exact (hrec k hk).1 ⟨by omega, q.2⟩
  have main : (zM D e = 16 ∨ szOK a D e = true) → ∀ t : Nat, 3 * zN D + 5 ≤ t → (slB a D e = true ∧ ∃ τ', R_M_slots t 3 [nI e, nI (szO a D e), nI (offE a D e)] τ = some (1, τ') ∧ fr14 τ τ' ∧ ∀ c, c < zN D → (zP D c = some e → τ'.2 14 c = nI (slS a D e c)) ∧ (zP D c ≠ some e → τ'.2 14 c = τ.2 14 c)) ∨ (slB a D e = false ∧ ∃ τ', R_M_slots t 3 [nI e, nI (szO a D e), nI (offE a D e)] τ = some (0, τ') ∧ fr14 τ τ') := by
    intro hz0 t ht
    have hz := szO_4 hz0 hk
    obtain ⟨t, rfl⟩ : ∃ t', t = t' + 1 := ⟨t - 1, by omega⟩
    rw [st_M_slots_3]
    unfold B_M_slots_3
    rw [add_c1]
    have hno : ∀ c, c ≤ e → c < zN D → zP D c ≠ some e := fun c c1 c2 z => by have := h.2.2.2.2.1 c e c2 z; omega
    rcases lp hz (zN D - (e + 1)) (e + 1) τ (offE a D e, 0) t (by omega) (by omega) (by omega) (sca_init h (e + 1) (Nat.le_refl _) (by omega)) (fr14_r τ) (fun k hk => ⟨fun q => absurd q.2 (hno k (by omega) hk), fun _ => rfl⟩) with ⟨r', w1, τ', w2, w3, w4⟩ | ⟨w1, τ', w2, w3⟩
    · have w2 : R_M_slots t 4 [nI e, nI (szO a D e), nI (offE a D e), 0, nI (e + 1)] τ = _ := w2
      rw [w2]
      by_cases z : zM D e = 1 ∨ r'.2 = 3
      · rw [decide_eq_true z]
        exact Or.inl ⟨sl_k.mpr ⟨hz0, r', w1, z⟩, τ', rfl, w3, w4⟩
      · rw [decide_eq_false z]
        refine Or.inr ⟨?_, τ', rfl, w3⟩
        cases y : slB a D e with
        | false => rfl
        | true =>
          obtain ⟨_, r'', y1, y2⟩ := sl_k.mp y
          rw [w1] at y1
          rw [← Option.some.inj y1] at y2
          exact absurd y2 z
    · have w2 : R_M_slots t 4 [nI e, nI (szO a D e), nI (offE a D e), 0, nI (e + 1)] τ = _ := w2
      rw [w2]
      refine Or.inr ⟨?_, τ', rfl, w3⟩
      cases y : slB a D e with
      | false => rfl
      | true =>
        obtain ⟨_, r'', y1, y2⟩ := sl_k.mp y
        rw [w1] at y1
        cases y1
  have nosz : ¬ (zM D e = 16 ∨ szOK a D e = true) → slB a D e = false := fun q => by
    cases y : slB a D e with
    | false => rfl
    | true => exact absurd (sl_k.mp y).1 q
  rw [fx_M_slots hT]
  unfold B_M_slots_0
  rw [gLd_n (by omega) (by decide), v1]
  by_cases x16 : zM D e = 16
  · have hoff : offE a D e = 0 := by unfold offE; rw [off_P h he hs (by omega)]; rfl
    have hsz : szO a D e = 2 := if_pos x16
    have w := main (Or.inl x16) (T + 49996) (by omega)
    rw [hoff, hsz, nI_0] at w
    rw [if_pos (show nI (zM D e) = 16 by rw [x16]; rfl), show T + 49999 = T + 49998 + 1 from rfl, st_M_slots_1]
    unfold B_M_slots_1
    rw [gLd_n (by omega) (by decide), v1, if_pos (show nI (zM D e) = 16 by rw [x16]; rfl), show T + 49998 = T + 49997 + 1 from rfl, st_M_slots_2]
    unfold B_M_slots_2
    rw [if_neg (show ¬ (2 : Int32) < 0 by decide), if_neg (show ¬ (4 : Int32) < 2 by decide), if_pos (show (0 : Int32) ≤ 2 by decide), if_pos (show (0 : Int32) ≤ 0 by decide)]
    have w' := main (Or.inl x16) (T + 49997) (by omega)
    rw [hoff, hsz, nI_0] at w'
    exact w'
  · have x1 := hk.resolve_left x16
    rw [if_neg (show ¬ nI (zM D e) = 16 by rw [eq_c16 (by omega)]; exact x16), m_cin ha h hm tm he (v := 14) (x := 14) (by decide) rfl, gBd_s, show T + 49999 = T + 49998 + 1 from rfl, st_M_slots_1]
    unfold B_M_slots_1
    rw [gLd_n (by omega) (by decide), v1, if_neg (show ¬ nI (zM D e) = 16 by rw [eq_c16 (by omega)]; exact x16), m_cin ha h hm tm he (v := 15) (x := 15) (by decide) rfl, gBd_s, show T + 49998 = T + 49997 + 1 from rfl, st_M_slots_2]
    unfold B_M_slots_2
    cases c14 : cIn a D e 14 with
    | none =>
      rw [if_pos (show oI none < 0 by decide)]
      refine Or.inr ⟨nosz (fun q => ?_), τ, rfl, fr14_r τ⟩
      rcases q with q | q
      · exact x16 q
      · unfold szOK at q
        rw [c14] at q
        cases q
    | some n =>
      have hn100 := cIn_lt ha c14
      have hsz : szO a D e = n := by unfold szO; rw [if_neg x16, if_pos x1, c14]; rfl
      rw [if_neg (show ¬ oI (some n) < 0 from nI_pos (by omega)), show oI (some n) = nI n from rfl]
      have szk : szOK a D e = decide (n ≤ 4 ∧ (cIn a D e 15).getD 0 ≤ n) := by unfold szOK; rw [c14]
      by_cases y4 : n ≤ 4
      · rw [if_neg (show ¬ 4 < nI n by rw [c4_lt (by omega)]; omega)]
        cases c15 : cIn a D e 15 with
        | none =>
          have hoff : offE a D e = 0 := by unfold offE; rw [c15]; rfl
          have w := main (Or.inr (by rw [szk, c15]; exact decide_eq_true ⟨y4, Nat.zero_le _⟩)) (T + 49997) (by omega)
          rw [hoff, hsz, nI_0] at w
          rw [if_pos (show oI none ≤ nI n from by rw [Int32.le_iff_toInt_le, nI_toInt (by omega)]; show (-1 : Int) ≤ n; omega), if_neg (show ¬ (0 : Int32) ≤ oI none by decide)]
          exact w
        | some o =>
          have ho := cIn_lt ha c15
          have hoff : offE a D e = o := by unfold offE; rw [c15]; rfl
          by_cases yo : o ≤ n
          · have w := main (Or.inr (by rw [szk, c15]; exact decide_eq_true ⟨y4, yo⟩)) (T + 49997) (by omega)
            rw [hoff, hsz] at w
            rw [if_pos (show oI (some o) ≤ nI n from (n_le (by omega) (by omega)).mpr yo), if_pos (show (0 : Int32) ≤ oI (some o) from nI_pos' (by omega))]
            exact w
          · rw [if_neg (show ¬ oI (some o) ≤ nI n from fun z => yo ((n_le (by omega) (by omega)).mp z))]
            refine Or.inr ⟨nosz (fun q => ?_), τ, rfl, fr14_r τ⟩
            rcases q with q | q
            · exact x16 q
            · rw [szk, c15] at q
              exact yo (of_decide_eq_true q).2
      · rw [if_pos (show 4 < nI n by rw [c4_lt (by omega)]; omega)]
        refine Or.inr ⟨nosz (fun q => ?_), τ, rfl, fr14_r τ⟩
        rcases q with q | q
        · exact x16 q
        · rw [szk] at q
          exact y4 (of_decide_eq_true q).1
