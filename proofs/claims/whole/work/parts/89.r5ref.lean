/-! decode: the reference makes the objects and fills the slots -/
theorem m_mk2 (τ : gS) {n : Nat} (h0 : τ.1 0 = nI n) (hn : n < 16) (t : Nat) (z : Int32) : ∃ τ' : gS, R_M_make (t + 8) 2 [nI n, z] τ = some (nI n, τ') ∧ τ'.1 0 = nI (n + 1) ∧ τ'.1 1 = τ.1 1 ∧ τ'.2 1 = τ.2 1 ∧ τ'.2 2 = upd (τ.2 2) n z ∧ τ'.2 3 = gLay (τ.2 3) n ∧ τ'.2 4 = τ.2 4 ∧ τ'.2 5 = τ.2 5 ∧ τ'.2 6 = τ.2 6 ∧ τ'.2 7 = τ.2 7 ∧ (∀ k, k ≠ 0 → τ'.1 k = τ.1 k) ∧ ∀ k, 8 ≤ k → τ'.2 k = τ.2 k := by
  rw [show R_M_make (t + 8) 2 [nI n, z] τ = B_M_make_2 (R_M_make (t + 7)) (nI n) z τ from rfl]
  unfold B_M_make_2
  rw [gSt_ok n rfl hn (by decide)]
  rw [show ∀ σ, R_M_make (t + 7) 3 [0] σ = B_M_make_3 (R_M_make (t + 6)) 0 σ from fun _ => rfl, p_M3 (n := n) (i := 0) _ (by exact h0) hn (by decide) _ (by decide)]
  rw [show ∀ σ, R_M_make (t + 6) 3 [0 + 1] σ = B_M_make_3 (R_M_make (t + 5)) (0 + 1) σ from fun _ => rfl, p_M3 (n := n) (i := 1) _ (by exact h0) hn (by decide) _ (by decide)]
  rw [show ∀ σ, R_M_make (t + 5) 3 [0 + 1 + 1] σ = B_M_make_3 (R_M_make (t + 4)) (0 + 1 + 1) σ from fun _ => rfl, p_M3 (n := n) (i := 2) _ (by exact h0) hn (by decide) _ (by decide)]
  rw [show ∀ σ, R_M_make (t + 4) 3 [0 + 1 + 1 + 1] σ = B_M_make_3 (R_M_make (t + 3)) (0 + 1 + 1 + 1) σ from fun _ => rfl, p_M3 (n := n) (i := 3) _ (by exact h0) hn (by decide) _ (by decide)]
  rw [show ∀ σ, R_M_make (t + 3) 3 [0 + 1 + 1 + 1 + 1] σ = B_M_make_3 (R_M_make (t + 2)) (0 + 1 + 1 + 1 + 1) σ from fun _ => rfl]
  unfold B_M_make_3
  rw [if_pos (by decide), gPut_s]
  exact ⟨_, p_M3e _ h0, rfl, rfl, rfl, rfl, rfl, rfl, rfl, rfl, rfl, fun k hk => sI_ne hk, fun k hk => by simp (disch := omega) only [sI_2, sA_ne]⟩
theorem m_makeF {τ : gS} {a : aS} (ha : okA a) (hm : absM τ a) (hn : sN a < 16) {w z : Nat} (h : goodMk w z) (zz : Int32) (hz : w = 1 → zz = nI z) : ∃ τ' : gS, f_M_make τ (nI w) zz = some (nI (sN a), τ') ∧ absM τ' (aMk a w z) ∧ (∀ k, k ≠ 0 → τ'.1 k = τ.1 k) ∧ ∀ k, 8 ≤ k → τ'.2 k = τ.2 k := by
  obtain ⟨T, hT⟩ := gFx
  have one : ∃ τ' : gS, R_M_make (T + 49999) 1 [nI w, zz] τ = some (nI (sN a), τ') ∧ absM τ' (aMk a w z) ∧ (∀ k, k ≠ 0 → τ'.1 k = τ.1 k) ∧ ∀ k, 8 ≤ k → τ'.2 k = τ.2 k := by
    rw [show T + 49999 = T + 49990 + 8 + 1 from rfl, st_M_make_1]
    unfold B_M_make_1
    rw [hm.1, if_neg (show ¬ nI (sN a) = 16 by rw [eq_c16 (by omega)]; omega), gSt_n (by omega) (by decide)]
    have hv : ∀ v : Int32, v = nI z → ∃ τ' : gS, R_M_make (T + 49990 + 8) 2 [(sA τ 1 (upd (τ.2 1) (sN a) (nI w))).1 0, v] (sA τ 1 (upd (τ.2 1) (sN a) (nI w))) = some (nI (sN a), τ') ∧ absM τ' (aMk a w z) ∧ (∀ k, k ≠ 0 → τ'.1 k = τ.1 k) ∧ ∀ k, 8 ≤ k → τ'.2 k = τ.2 k := by
      intro v hv
      subst hv
      rw [show (sA τ 1 (upd (τ.2 1) (sN a) (nI w))).1 0 = nI (sN a) from hm.1]
      obtain ⟨τ', q, e0, e1, f1, f2, f3, f4, f5, f6, f7, g1, g2⟩ := m_mk2 (sA τ 1 (upd (τ.2 1) (sN a) (nI w))) (n := sN a) hm.1 hn (T + 49990) (nI z)
      exact ⟨τ', q, m_mk ha hm h e0 e1 f1 f2 f3 f4 f5 f6 f7, g1, fun k hk => (g2 k hk).trans (sA_ne (by omega))⟩
    rcases h with ⟨rfl, rfl⟩ | ⟨rfl, _⟩ | ⟨rfl, rfl⟩
    · rw [if_pos (show nI 0 = 0 from rfl)]
      exact hv 2 rfl
    · rw [if_neg (show ¬ nI 1 = 0 by decide), if_pos (show nI 1 = 1 from rfl)]
      exact hv zz (hz rfl)
    · rw [if_neg (show ¬ nI 2 = 0 by decide), if_neg (show ¬ nI 2 = 1 by decide)]
      exact hv 0 rfl
  rw [fx_M_make hT]
  unfold B_M_make_0
  rcases h with ⟨rfl, rfl⟩ | ⟨rfl, hz4⟩ | ⟨rfl, rfl⟩
  · rw [if_neg (show ¬ nI 0 < 0 by decide), if_neg (show ¬ 2 < nI 0 by decide), if_neg (show ¬ nI 0 = 1 by decide)]
    exact one
  · have hzz := hz rfl
    rw [if_neg (show ¬ nI 1 < 0 by decide), if_neg (show ¬ 2 < nI 1 by decide), if_pos (show nI 1 = 1 from rfl), if_neg (show ¬ zz < 0 by rw [hzz]; exact nI_pos (by omega)), if_neg (show ¬ 4 < zz by rw [hzz, c4_lt (by omega)]; omega)]
    exact one
  · rw [if_neg (show ¬ nI 2 < 0 by decide), if_neg (show ¬ 2 < nI 2 by decide), if_neg (show ¬ nI 2 = 1 by decide)]
    exact one
theorem m_typeF {τ : gS} {x : aS} (hx : okA x) (hm : absM τ x) {j c : Nat} (hj : j < sN x) (hk : sK x j = 2) (hz : sZ x j < 6) (hc : prtN c) : f_M_type τ (nI j) (nI c) = some (1, sA (sA τ 5 (upd (τ.2 5) (6 * j + sZ x j) (nI c))) 2 (upd (τ.2 2) j (nI (sZ x j + 1)))) := by
  have h16 := hx.1
  have c1 := hc.1
  have c2 := hc.2
  have k1 := (hm.2.2.1 j hj).1
  have k2 := (hm.2.2.1 j hj).2
  unfold f_M_type
  rw [r_obj hm.1 h16 hj, gBd_s, if_neg i10, gLd_n (by omega) (by decide), k1, hk, if_pos (show nI 2 = 2 from rfl), if_neg (show ¬ nI c < 32 by rw [lt_c32 (by omega)]; omega), if_neg (show ¬ 126 < nI c by rw [c126_lt (by omega)]; omega), gLd_n (by omega) (by decide), k2, if_neg (show ¬ nI (sZ x j) = 6 by rw [eq_c6 (by omega)]; omega), gLd_n (by omega) (by decide), k2, gSt_ok (6 * j + sZ x j) (g_6x j (sZ x j)) (by omega) (by decide), gLd_n (by omega) (by decide), sA_ne (by decide), k2, gSt_n (by omega) (by decide), sA_ne (by decide), add_c1]
def N1 (a : aS) (D : dS) (b e : Nat) (τ : gS) : Prop := tM τ D ∧ τ.1 2 = nI (zN D) ∧ absM τ (aO a D b e) ∧ okA (aO a D b e) ∧ extA a (aO a D b e) ∧ (∀ c, b < c → c < e → ob D c = true → τ.2 15 c = nI (sN a + oc D b c)) ∧ ∀ c q, c < zN D → zP D c = some q → b < q → q < zN D → (zM D q = 16 ∨ zM D q = 1) → τ.2 14 c = nI (slS a D q c)
theorem tM_of {τ τ' : gS} {D : dS} (h : tM τ D) (h3 : τ'.1 3 = τ.1 3) (hk : ∀ k, 8 ≤ k → k ≠ 14 → k ≠ 15 → τ'.2 k = τ.2 k) : tM τ' D := by
  obtain ⟨t1, t2, t3, t4⟩ := h
  refine ⟨by rw [h3]; exact t1, ?_, ?_, ?_⟩
  · rw [hk 8 (by decide) (by decide) (by decide), hk 9 (by decide) (by decide) (by decide), hk 10 (by decide) (by decide) (by decide), hk 11 (by decide) (by decide) (by decide), hk 12 (by decide) (by decide) (by decide)]; exact t2
  · rw [hk 16 (by decide) (by decide) (by decide), hk 17 (by decide) (by decide) (by decide), hk 18 (by decide) (by decide) (by decide)]; exact t3
  · rw [hk 13 (by decide) (by decide) (by decide)]; exact t4
theorem m_chrs {D : dS} {a : aS} (h : wB a D) {b e : Nat} (he : e < zN D) (h20 : zM D e = 20) (h6 : (zX D e).length ≤ 6) {j : Nat} (hj : j < 16) : ∀ (l : List Nat) (k t : Nat) (τ : gS) (x : aS), (zX D e).drop k = l → k ≤ (zX D e).length → l.length + 1 ≤ t → okA x → absM τ x → j < sN x → sK x j = 2 → sZ x j + l.length ≤ 6 → tM τ D → τ.2 15 e = nI j → ∃ t' τ', t ≤ t' + (l.length + 1) ∧ R_M_decode t 4 [nI b, nI e, nI k] τ = R_M_decode t' 5 [nI b, nI e] τ' ∧ absM τ' (tyL x j l) ∧ τ'.1 = τ.1 ∧ ∀ k, 8 ≤ k → τ'.2 k = τ.2 k := by
  have hn := h.1
  have hpr := (h.2.2.2.2.2.2.2.2.1 e he).1
  intro l
  induction l with
  | nil =>
    intro k t τ x hd hk ht hx hm hjx hK hZ tm m15
    obtain ⟨t, rfl⟩ : ∃ t', t = t' + 1 := ⟨t - 1, by omega⟩
    have hkl : k = (zX D e).length := by
      have := congrArg List.length hd
      rw [List.length_drop] at this
      simp only [List.length_nil] at this
      omega
    obtain ⟨v1, v2, v3, v4, v5⟩ := tm.2.1 e he
    refine ⟨t, τ, by simp only [List.length_nil]; omega, ?_, hm, rfl, fun _ _ => rfl⟩
    rw [st_M_decode_4]
    unfold B_M_decode_4
    rw [gLd_n (by omega) (by decide), v1, h20, if_pos (show nI 20 = 20 from rfl), gLd_n (by omega) (by decide), v5, if_pos (show nI (zX D e).length ≤ nI k by rw [n_le (by omega) (by omega)]; omega)]
  | cons c l ih =>
    intro k t τ x hd hk ht hx hm hjx hK hZ tm m15
    obtain ⟨t, rfl⟩ : ∃ t', t = t' + 1 := ⟨t - 1, by omega⟩
    simp only [List.length_cons] at ht hZ
    obtain ⟨d1, d2, d3⟩ := drop_c hd
    obtain ⟨v1, v2, v3, v4, v5⟩ := tm.2.1 e he
    have cell := tm.2.2.2 e he k (by omega) d1
    rw [d2] at cell
    have hpc : prtN c := by have := hpr _ (gD_mem d1); rw [d2] at this; exact this
    have hty := m_typeF hx hm hjx hK (by omega) hpc
    have hm2 := m_ty (c := c) hx hm hK hjx
    obtain ⟨t', τ', w0, w1, w2, w3, w4⟩ := ih (k + 1) t _ (aTy x j c) d3 (by omega) (by omega) (ok_ty hx hjx hK (by omega) hpc) hm2 hjx hK (by rw [ty_Z, if_pos rfl]; omega) (tM_of tm rfl (fun k hk _ _ => by rw [sA_ne (by omega), sA_ne (by omega)])) (by rw [sA_ne (by decide), sA_ne (by decide)]; exact m15)
    refine ⟨t', τ', by simp only [List.length_cons]; omega, ?_, w2, w3, fun k hk => by rw [w4 k hk, sA_ne (by omega), sA_ne (by omega)]⟩
    rw [st_M_decode_4]
    unfold B_M_decode_4
    rw [gLd_n (by omega) (by decide), v1, h20, if_pos (show nI 20 = 20 from rfl), gLd_n (by omega) (by decide), v5, if_neg (show ¬ nI (zX D e).length ≤ nI k by rw [n_le (by omega) (by omega)]; omega), gLd_n (by omega) (by decide), m15, show 12 * nI e = nI (12 * e) from pk_mul 12 e, nI_add, gLd_n (by omega) (by decide), cell, hty, gBd_s, add_c1]
    exact w1
theorem m_lp1 {a : aS} (ha : okA a) {D : dS} (h : wB a D) {b : Nat} (h16 : sN a + oc D b (zN D) ≤ 16) (hsO : ∀ c, b < c → c < zN D → ob D c = true → sndO a D c) : ∀ (d e : Nat) (τ : gS) (t : Nat), e + d = zN D → b < e → 12 * d + 1 ≤ t → N1 a D b e τ → ∃ t' τ', t ≤ t' + (12 * d + 1) ∧ R_M_decode t 1 [nI b, nI e] τ = R_M_decode t' 6 [nI b, nI (b + 1)] τ' ∧ N1 a D b (zN D) τ' := by
  have hn := h.1
  intro d
  induction d with
  | zero =>
    intro e τ t he hbe ht hN
    obtain ⟨t, rfl⟩ : ∃ t', t = t' + 1 := ⟨t - 1, by omega⟩
    obtain rfl : e = zN D := by omega
    refine ⟨t, τ, by omega, ?_, hN⟩
    rw [st_M_decode_1]
    unfold B_M_decode_1
    rw [hN.2.1, if_pos (Int32.le_refl _), add_c1]
  | succ d ih =>
    intro e τ t he hbe ht hN
    obtain ⟨t, rfl⟩ : ∃ t', t = t' + 12 := ⟨t - 12, by omega⟩
    have heN : e < zN D := by omega
    have hN' := hN
    obtain ⟨n1, n2', n3, n4, n5, n6, n7⟩ := hN
    obtain ⟨v1, v2, v3, v4, v5⟩ := n1.2.1 e heN
    have hM := h.2.2.2.1 e heN
    have hP : sP (aO a D b e) = sP a := n5.2.2.2.2.1
    have five : ∀ (t' : Nat) (τ' : gS), 12 * d + 1 ≤ t' → t ≤ t' → N1 a D b (e + 1) τ' → ∃ t'' τ'', t + 12 ≤ t'' + (12 * (d + 1) + 1) ∧ R_M_decode (t' + 1) 5 [nI b, nI e] τ' = R_M_decode t'' 6 [nI b, nI (b + 1)] τ'' ∧ N1 a D b (zN D) τ'' := by
      intro t' τ' h1 h2 hN1
      obtain ⟨t'', τ'', w1, w2, w3⟩ := ih (e + 1) τ' t' (by omega) (by omega) h1 hN1
      refine ⟨t'', τ'', by omega, ?_, w3⟩
      rw [st_M_decode_5]
      unfold B_M_decode_5
      rw [add_c1]
      exact w2
    rw [show t + 12 = t + 11 + 1 from rfl, st_M_decode_1]
    unfold B_M_decode_1
    rw [n2', if_neg (show ¬ nI (zN D) ≤ nI e by rw [n_le (by omega) (by omega)]; omega), m_ob h n1 heN, gBd_s]
    cases hob : ob D e with
    | false =>
      have hno : ¬ (b < e ∧ ob D e = true) := fun q => by rw [hob] at q; cases q.2
      rw [bI_f, if_pos rfl]
      refine five (t + 10) τ (by omega) (by omega) ?_
      unfold N1
      rw [aO_n hno]
      exact ⟨n1, n2', n3, n4, n5, fun c h1 h2 ho => n6 c h1 (by
        by_cases c1 : c = e
        · rw [c1, hob] at ho; cases ho
        · omega) ho, n7⟩
    | true =>
      have hyes : b < e ∧ ob D e = true := ⟨hbe, hob⟩
      have hoc : oc D b (e + 1) = oc D b e + 1 := by rw [oc_s, if_pos hyes]
      have hle := oc_up D b (zN D - (e + 1)) (e + 1)
      rw [show e + 1 + (zN D - (e + 1)) = zN D by omega, hoc] at hle
      have hxN := aO_N (a := a) (D := D) (b := b) e
      have hcap : sN (aO a D b e) < 16 := by omega
      have hs := hsO e hbe heN hob
      -- from block 2 on
      have two : ∀ w z : Nat, goodMk w z → (w = 1 → zM D e = 1 ∧ cIn a D e 14 = some z) → (w ≠ 1 → zM D e ≠ 1) → (zM D e = 20 ↔ w = 2) → layE a D e (aO a D b e) = (if w = 2 then tyL (aMk (aO a D b e) 2 0) (sN (aO a D b e)) (zX D e) else aMk (aO a D b e) w z) → ∃ t'' τ'', t + 12 ≤ t'' + (12 * (d + 1) + 1) ∧ R_M_decode (t + 11) 2 [nI b, nI e, nI e, nI w] τ = R_M_decode t'' 6 [nI b, nI (b + 1)] τ'' ∧ N1 a D b (zN D) τ'' := by
        intro w z hg hw1 hw2 hw20 hlay
        have three : ∀ zz : Int32, (w = 1 → zz = nI z) → ∃ t'' τ'', t + 12 ≤ t'' + (12 * (d + 1) + 1) ∧ R_M_decode (t + 10) 3 [nI b, nI e, nI e, nI w, zz] τ = R_M_decode t'' 6 [nI b, nI (b + 1)] τ'' ∧ N1 a D b (zN D) τ'' := by
          intro zz hzz
          obtain ⟨τ1, m1, m2', m3, m4⟩ := m_makeF n4 n3 hcap hg zz hzz
          obtain ⟨τ2, e2⟩ : ∃ τ2, τ2 = sA τ1 15 (upd (τ1.2 15) e (nI (sN (aO a D b e)))) := ⟨_, rfl⟩
          have tm2 : tM τ2 D := tM_of n1 (by rw [e2, sA_1, m3 3 (by decide)]) (fun k h1 h2 h3 => by rw [e2, sA_ne h3, m4 k h1])
          have am2 : absM τ2 (aMk (aO a D b e) w z) := by rw [e2]; exact absM_A m2' (by decide) _
          have k2 : ∀ k, 8 ≤ k → k ≠ 15 → τ2.2 k = τ.2 k := fun k h1 h2 => by rw [e2, sA_ne h2, m4 k h1]
          have i2 : ∀ k, k ≠ 0 → τ2.1 k = τ.1 k := fun k hk => by rw [e2, sA_1, m3 k hk]
          have c15 : τ2.2 15 = upd (τ.2 15) e (nI (sN (aO a D b e))) := by rw [e2, sA_eq, m4 15 (by decide)]
          have build : ∀ τ3 : gS, absM τ3 (layE a D e (aO a D b e)) → (∀ k, τ3.1 k = τ2.1 k ∨ k = 0) → (∀ k, 8 ≤ k → τ3.2 k = τ2.2 k) → N1 a D b (e + 1) τ3 := by
            intro τ3 g1 g2 g3
            have g2' : ∀ k, k ≠ 0 → τ3.1 k = τ2.1 k := fun k hk => (g2 k).resolve_right hk
            unfold N1
            rw [aO_y hyes]
            refine ⟨tM_of tm2 (g2' 3 (by decide)) (fun k h1 _ _ => g3 k h1), by rw [g2' 2 (by decide), i2 2 (by decide)]; exact n2', g1, ok_lay h heN n4 hcap hs, layE_ext a D e n5, fun c h1 h2 ho => ?_, fun c q h1 h2 h3 h4 h5 => ?_⟩
            · rw [g3 15 (by decide), c15]
              by_cases c1 : c = e
              · rw [c1, up_eq, hxN]
              · rw [up_ne c1]; exact n6 c h1 (by omega) ho
            · rw [g3 14 (by decide), k2 14 (by decide) (by decide)]; exact n7 c q h1 h2 h3 h4 h5
          rw [show t + 10 = t + 9 + 1 from rfl, st_M_decode_3]
          unfold B_M_decode_3
          rw [m1, gBd_s, gSt_n (by omega) (by decide), ← e2]
          obtain ⟨w1, w2, w3, w4, w5⟩ := tm2.2.1 e heN
          by_cases hw : w = 2
          · have h20 := hw20.mpr hw
            have h6 := hs.2.2 h20
            have hz0 : z = 0 := by
              rcases hg with q | q | q
              · omega
              · omega
              · exact q.2
            rw [hw, hz0] at am2
            obtain ⟨t', τ3, y0, y1, y2, y3, y4⟩ := m_chrs (a := a) h (b := b) heN h20 h6 hcap (zX D e) 0 (t + 9) τ2 (aMk (aO a D b e) 2 0) List.drop_zero (Nat.zero_le _) (by omega) (ok_mk n4 hcap (Or.inr (Or.inr ⟨rfl, rfl⟩))) am2 (by show sN (aO a D b e) < sN (aO a D b e) + 1; omega) (by rw [mk_K, if_pos rfl]) (by rw [mk_Z, if_pos rfl]; omega) tm2 (by rw [c15, up_eq])
            rw [nI_0] at y1
            rw [y1]
            obtain ⟨t', rfl⟩ : ∃ t'', t' = t'' + 1 := ⟨t' - 1, by omega⟩
            refine five t' τ3 (by omega) (by omega) (build τ3 ?_ (fun k => Or.inl (by rw [y3])) y4)
            rw [hlay, if_pos hw]
            exact y2
          · have h20 : ¬ zM D e = 20 := fun q => hw (hw20.mp q)
            rw [show t + 9 = t + 8 + 1 from rfl, st_M_decode_4]
            unfold B_M_decode_4
            rw [gLd_n (by omega) (by decide), w1, if_neg (show ¬ nI (zM D e) = 20 by rw [eq_c20 (by omega)]; exact h20)]
            refine five (t + 7) τ2 (by omega) (by omega) (build τ2 ?_ (fun k => Or.inl rfl) (fun _ _ => rfl))
            rw [hlay, if_neg hw]
            exact am2
        rw [show t + 11 = t + 10 + 1 from rfl, st_M_decode_2]
        unfold B_M_decode_2
        rw [gLd_n (by omega) (by decide), v1]
        by_cases h1 : w = 1
        · obtain ⟨q1, q2⟩ := hw1 h1
          rw [if_pos (show nI (zM D e) = 1 by rw [q1]; rfl), m_cin n4 (wB_P hP h) n3 n1 heN (v := 14) (x := 14) (by decide) rfl, gBd_s, cIn_P hP, q2]
          exact three (nI z) (fun _ => rfl)
        · rw [if_neg (show ¬ nI (zM D e) = 1 by rw [eq_c1 (by omega)]; exact hw2 h1)]
          exact three 0 (fun q => absurd q h1)
      rw [bI_t, if_neg i10, gLd_n (by omega) (by decide), v1]
      by_cases x16 : zM D e = 16
      · rw [if_pos (show nI (zM D e) = 16 by rw [x16]; rfl)]
        exact two 0 2 (Or.inl ⟨rfl, rfl⟩) (fun q => by cases q) (fun _ => by omega) ⟨fun q => by omega, fun q => by cases q⟩ (by unfold layE; rw [if_pos x16, if_neg (by decide)])
      · rw [if_neg (show ¬ nI (zM D e) = 16 by rw [eq_c16 (by omega)]; exact x16), gLd_n (by omega) (by decide), v1]
        by_cases x1 : zM D e = 1
        · obtain ⟨n, q1, q2⟩ := hs.2.1 x1
          rw [if_pos (show nI (zM D e) = 1 by rw [x1]; rfl)]
          exact two 1 n (Or.inr (Or.inl ⟨rfl, q2⟩)) (fun _ => ⟨x1, q1⟩) (fun q => absurd rfl q) ⟨fun q => by omega, fun q => by cases q⟩ (by unfold layE; rw [if_neg x16, if_pos x1, if_neg (by decide), szO_A x1 q1])
        · rw [if_neg (show ¬ nI (zM D e) = 1 by rw [eq_c1 (by omega)]; exact x1)]
          have x20 : zM D e = 20 := by have := hs.1; omega
          exact two 2 0 (Or.inr (Or.inr ⟨rfl, rfl⟩)) (fun q => by cases q) (fun _ => x1) ⟨fun _ => rfl, fun _ => x20⟩ (by unfold layE; rw [if_neg x16, if_neg x1, if_pos rfl])
