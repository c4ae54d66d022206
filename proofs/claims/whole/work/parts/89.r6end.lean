/-! decode: the reference fills the slots; decode -/
def uniD (a : aS) (D : dS) (b : Nat) : Prop := ∀ e e' v, b < e → e < zN D → b < e' → e' < zN D → ob D e = true → ob D e' = true → cIn a D e 247 = some v → cIn a D e' 247 = some v → e = e'
theorem uni_CC {a : aS} {D : dS} {b : Nat} (h : CC a D b) : uniD a D b := by
  intro e e' v h1 h2 h3 h4 ho ho' hv hv'
  by_cases c : e = e'
  · exact c
  · exfalso
    rcases Nat.lt_or_gt_of_ne c with z | z
    · exact wI_ex e' e h1 z ho hv (h.2.1 e' v h3 h4 ho' hv')
    · exact wI_ex e e' h3 z ho' hv' (h.2.1 e v h1 h2 ho hv)
theorem m_tgt {a : aS} (ha : okA a) {D : dS} (h : wB a D) {b : Nat} (hbN : b < zN D) (hu : uniD a D b) {τ : gS} {x : aS} (hx : okA x) (hP : sP x = sP a) (hm : absM τ x) (tm : tM τ D) (m2 : τ.1 2 = nI (zN D)) {e g : Nat} (hbe : b < e) (he : e < zN D) (ht : tgE a D b e = some g) : f_M_target τ (nI e) (nI b) = some (nI g, τ) := by
  have hn := h.1
  unfold f_M_target
  rw [m_ob h tm he, gBd_s]
  unfold tgE at ht
  by_cases h18 : zM D e = 18
  · rw [if_pos h18] at ht
    have hno : ob D e = false := by
      cases c : ob D e with
      | false => rfl
      | true => have := ob_3.mp c; omega
    rw [hno, bI_f, if_pos rfl, m_cin hx (wB_P hP h) hm tm he (v := 8) (x := 8) (by decide) rfl, gBd_s, cIn_P hP]
    cases c8 : cIn a D e 8 with
    | none => rw [c8] at ht; cases ht
    | some v =>
      rw [c8] at ht
      have ht : wI a D b v (zN D) = some g := ht
      obtain ⟨w1, w2, w3, w4⟩ := wI_in _ _ ht
      obtain ⟨r, y1, y2, y3⟩ := m_wid hx (wB_P hP h) hm tm m2 (b := b) (v := v) (cIn_lt ha c8) hbN (x := none) (fun o ho => by cases ho)
      rw [show oI (some v) = nI v from rfl, show (-1 : Int32) = oI none from rfl, y1, gBd_s]
      cases r with
      | none => exact absurd (by rw [cIn_P hP]; exact w4) (y3 rfl g w1 w2 (by simp) w3)
      | some c =>
        obtain ⟨x1, x2, x3, x4, x5⟩ := y2 c rfl
        rw [cIn_P hP] at x5
        rw [hu c g v x1 x2 w1 w2 x4 w3 x5 w4]
        rfl
  · rw [if_neg h18] at ht
    by_cases ho : ob D e = true
    · rw [if_pos ho] at ht
      rw [ho, bI_t, if_neg i10, Option.some.inj ht]
    · rw [if_neg ho] at ht; cases ht
theorem m_putF {τ : gS} {x : aS} (hx : okA x) (hm : absM τ x) {j i : Nat} (hj : j < sN x) (hk : sK x j ≠ 2) (hi : i < sZ x j) (v : Int32) : ∃ τ', f_M_put τ (nI j) (nI i) v = some (1, τ') ∧ absM τ' (aSet x (4 * j + i) 1 v) ∧ τ'.1 = τ.1 ∧ ∀ k, 8 ≤ k → τ'.2 k = τ.2 k := by
  have h16 := hx.1
  have z4 := (okA_K hx hj).2.2 hk
  refine ⟨sA (sA τ 3 (upd (τ.2 3) (4 * j + i) (nI 1))) 4 (upd (τ.2 4) (4 * j + i) v), ?_, m_set hm (fun _ => rfl), rfl, fun k hk => by rw [sA_ne (by omega), sA_ne (by omega)]⟩
  unfold f_M_put
  rw [r_mslot hx hm hj hk hi, gBd_s, if_neg i10, gSt_ok (4 * j + i) (g_4x j i) (by omega) (by decide), gSt_ok (4 * j + i) (g_4x j i) (by omega) (by decide), sA_ne (by decide)]
  rfl
theorem m_linkF {τ : gS} {x : aS} (hx : okA x) (hm : absM τ x) {j i y : Nat} (hj : j < sN x) (hk : sK x j ≠ 2) (hi : i < sZ x j) (hy : y < sN x) : ∃ τ', f_M_link τ (nI j) (nI i) (nI y) = some (1, τ') ∧ absM τ' (aSet x (4 * j + i) 2 (nI y)) ∧ τ'.1 = τ.1 ∧ ∀ k, 8 ≤ k → τ'.2 k = τ.2 k := by
  have h16 := hx.1
  have z4 := (okA_K hx hj).2.2 hk
  obtain ⟨T, hT⟩ := gFx
  refine ⟨sA (sA τ 3 (upd (τ.2 3) (4 * j + i) (nI 2))) 4 (upd (τ.2 4) (4 * j + i) (nI y)), ?_, m_set hm (fun _ => rfl), rfl, fun k hk => by rw [sA_ne (by omega), sA_ne (by omega)]⟩
  have ny : ¬ nI y = -1 := n_m1 (by omega)
  rw [fx_M_link hT]
  unfold B_M_link_0
  rw [r_mslot hx hm hj hk hi, gBd_s, if_neg i10, if_neg ny, r_obj hm.1 h16 hy, gBd_s, if_neg i10, show T + 49999 = T + 49997 + 1 + 1 from rfl, st_M_link_1]
  unfold B_M_link_1
  rw [if_neg ny, st_M_link_2]
  unfold B_M_link_2
  rw [gSt_ok (4 * j + i) (g_4x j i) (by omega) (by decide), gSt_ok (4 * j + i) (g_4x j i) (by omega) (by decide), sA_ne (by decide)]
  rfl
def N2 (a : aS) (D : dS) (b e : Nat) (τ : gS) : Prop := tM τ D ∧ τ.1 2 = nI (zN D) ∧ absM τ (aP a D b e) ∧ okA (aP a D b e) ∧ extA a (aP a D b e) ∧ (∀ c, b < c → c < zN D → ob D c = true → τ.2 15 c = nI (sN a + oc D b c)) ∧ ∀ c q, c < zN D → zP D c = some q → b < q → q < zN D → (zM D q = 16 ∨ zM D q = 1) → τ.2 14 c = nI (slS a D q c)
theorem m_lp2 {a : aS} (ha : okA a) {D : dS} (h : wB a D) {b : Nat} (hb : bdy D b) (hb1 : b + 1 < zN D) (hCC : CC a D b) {g : Nat} (hg : tgE a D b (b + 1) = some g) : ∀ (d e : Nat) (τ : gS) (t : Nat), e + d = zN D → b < e → 2 * d + 1 ≤ t → N2 a D b e τ → ∃ τ', R_M_decode t 6 [nI b, nI e] τ = some (nI (sN a + oc D b g), τ') ∧ absM τ' (aP a D b (zN D)) := by
  have hn := h.1
  have h16 := hCC.2.2.1
  have hu := uni_CC hCC
  have hsnd := hCC.1
  intro d
  induction d with
  | zero =>
    intro e τ t he hbe ht hN
    obtain ⟨t, rfl⟩ : ∃ t', t = t' + 1 := ⟨t - 1, by omega⟩
    obtain rfl : e = zN D := by omega
    obtain ⟨n1, n2', n3, n4, n5, n6, n7⟩ := hN
    obtain ⟨g1, g2, g3⟩ := tgE_in (by omega) hb1 hg
    refine ⟨τ, ?_, n3⟩
    rw [st_M_decode_6]
    unfold B_M_decode_6
    rw [n2', if_pos (Int32.le_refl _), add_c1, m_tgt ha h hb.2.1 hu n4 n5.2.2.2.2.1 n3 n1 n2' (by omega) hb1 hg, gBd_s, gLd_n (by omega) (by decide), n6 g g1 g2 g3]
  | succ d ih =>
    intro e τ t he hbe ht hN
    obtain ⟨t, rfl⟩ : ∃ t', t = t' + 1 + 1 := ⟨t - 2, by omega⟩
    have heN : e < zN D := by omega
    obtain ⟨n1, n2', n3, n4, n5, n6, n7⟩ := hN
    obtain ⟨v1, v2, v3, v4, v5⟩ := n1.2.1 e heN
    have hM := h.2.2.2.1 e heN
    obtain ⟨q, p1, p2', p3⟩ := desc h hb hbe heN
    have seven : ∀ τ' : gS, N2 a D b (e + 1) τ' → ∃ τ'', R_M_decode (t + 1) 7 [nI b, nI e] τ' = some (nI (sN a + oc D b g), τ'') ∧ absM τ'' (aP a D b (zN D)) := by
      intro τ' hN'
      rw [st_M_decode_7]
      unfold B_M_decode_7
      rw [add_c1]
      exact ih (e + 1) τ' t (by omega) (by omega) (by omega) hN'
    have keep : ¬ (b < e ∧ zP D e ≠ some b ∧ zM D e ≠ 14) → N2 a D b (e + 1) τ := by
      intro hno
      have hs : aP a D b (e + 1) = aP a D b e := by
        rw [aP_s]
        unfold setE
        rw [if_neg hno]
      unfold N2
      rw [hs]
      exact ⟨n1, n2', n3, n4, n5, n6, n7⟩
    rw [st_M_decode_6]
    unfold B_M_decode_6
    rw [n2', if_neg (show ¬ nI (zN D) ≤ nI e by rw [n_le (by omega) (by omega)]; omega), gLd_n (by omega) (by decide), v2, p1, show oI (some q) = nI q from rfl]
    by_cases c : q = b
    · rw [if_pos (show nI q = nI b by rw [c])]
      exact seven τ (keep (fun z => z.2.1 (by rw [p1, c])))
    · rw [if_neg (show ¬ nI q = nI b by rw [n_eq (by omega) (by omega)]; exact c), gLd_n (by omega) (by decide), v1]
      by_cases n14 : zM D e = 14
      · rw [if_pos (show nI (zM D e) = 14 by rw [n14]; rfl)]
        exact seven τ (keep (fun z => z.2.2 n14))
      · have hc5 := hCC.2.2.2.2 e q hbe heN p1 c
        obtain ⟨hoq, hsca, hthird⟩ := hc5
        have hlt := oc_lt (D := D) (show b < q by omega) (show q < zN D by omega) hoq
        have hkq : zM D q = 16 ∨ zM D q = 1 := by
          rcases ob_3.mp hoq with o | o | o
          · exact Or.inl o
          · exact Or.inr o
          · have := (snd_f (hsnd q (by omega) (by omega))).2.2.2.2.2.1 o
            exact absurd this (kc_pos heN p1)
        have hsq := hsnd q (by omega) (by omega)
        have hz4 : szO a D q ≤ 4 := szO_4 (hkq.elim Or.inl (fun z => Or.inr ((snd_f hsq).2.2.2.1 z))) hkq
        have hslt : slS a D q e < szO a D q := by
          unfold slS
          cases r1 : sca a D q e with
          | none =>
            exfalso
            apply hsca
            rw [sca_s, if_pos p1, r1]
          | some r =>
            have hstep := sca_s a D q e
            rw [if_pos p1, r1] at hstep
            have hstep : sca a D q (e + 1) = if szO a D q ≤ (cIn a D e 47).getD r.1 ∨ bit r.2 ((cIn a D e 47).getD r.1) = true then none else some ((cIn a D e 47).getD r.1 + 1, r.2 + 2 ^ ((cIn a D e 47).getD r.1)) := hstep
            show (cIn a D e 47).getD r.1 < szO a D q
            by_cases z : szO a D q ≤ (cIn a D e 47).getD r.1
            · rw [if_pos (Or.inl z)] at hstep
              exact absurd hstep hsca
            · omega
        have hsame := aP_same a D b e
        have hkz := aO_kz (a := a) (D := D) (b := b) (zN D) q (by omega) (by omega) hkq
        have hj : sN a + oc D b q < sN (aP a D b e) := by rw [hsame.1]; omega
        have hK2 : sK (aP a D b e) (sN a + oc D b q) ≠ 2 := by rw [hsame.2.1]; exact hkz.1
        have hZ2 : slS a D q e < sZ (aP a D b e) (sN a + oc D b q) := by rw [hsame.2.2, hkz.2]; exact hslt
        have cond : b < e ∧ zP D e ≠ some b ∧ zM D e ≠ 14 := ⟨hbe, fun z => by rw [p1] at z; exact c (Option.some.inj z), n14⟩
        have hix : ixE a D b e = 4 * (sN a + oc D b q) + slS a D q e := by
          unfold ixE onE qP
          rw [p1]
          rfl
        obtain ⟨o1, o2⟩ := set_ok hbe heN p1 c (by omega) p3 hkq rfl (by omega) hthird n4 hsame.1 n5
        have build : ∀ τ' : gS, absM τ' (setE a D b e (aP a D b e)) → τ'.1 = τ.1 → (∀ k, 8 ≤ k → τ'.2 k = τ.2 k) → N2 a D b (e + 1) τ' := by
          intro τ' g1 g2 g3
          unfold N2
          rw [aP_s]
          refine ⟨tM_of n1 (by rw [g2]) (fun k h1 _ _ => g3 k h1), by rw [g2]; exact n2', g1, o1, o2, ?_, ?_⟩
          · rw [g3 15 (by decide)]; exact n6
          · rw [g3 14 (by decide)]; exact n7
        have c14 : τ.2 14 e = nI (slS a D q e) := n7 e q heN p1 (by omega) (by omega) hkq
        have c15 : τ.2 15 q = nI (sN a + oc D b q) := n6 q (by omega) (by omega) hoq
        rw [if_neg (show ¬ nI (zM D e) = 14 by rw [eq_c14 (by omega)]; exact n14), gLd_n (by omega) (by decide), v2, p1, show oI (some q) = nI q from rfl, gLd_n (by omega) (by decide), c15, gLd_n (by omega) (by decide), v1]
        by_cases n9 : zM D e = 9
        · obtain ⟨τ', w1, w2, w3, w4⟩ := m_putF n4 n3 hj hK2 hZ2 (nV (zX D e)).toInt32
          rw [if_pos (show nI (zM D e) = 9 by rw [n9]; rfl), gLd_n (by omega) (by decide), c14, m_num h n1 heN, gBd_s, w1, gBd_s]
          refine seven τ' (build τ' ?_ w3 w4)
          unfold setE
          rw [if_pos cond, if_pos n9, hix]
          exact w2
        · cases ht : tgE a D b e with
          | none =>
            exfalso
            rcases hthird with z | z | z
            · exact n14 z
            · exact n9 z
            · exact z ht
          | some g' =>
            obtain ⟨g1, g2, g3⟩ := tgE_in hbe heN ht
            have hg' := oc_lt (D := D) g1 g2 g3
            obtain ⟨τ', w1, w2, w3, w4⟩ := m_linkF n4 n3 hj hK2 hZ2 (y := sN a + oc D b g') (by rw [hsame.1]; omega)
            rw [if_neg (show ¬ nI (zM D e) = 9 by rw [eq_c9 (by omega)]; exact n9), gLd_n (by omega) (by decide), c14, m_tgt ha h hb.2.1 hu n4 n5.2.2.2.2.1 n3 n1 n2' hbe heN ht, gBd_s, gLd_n (by omega) (by decide), n6 g' g1 g2 g3, w1, gBd_s]
            refine seven τ' (build τ' ?_ w3 w4)
            unfold setE
            rw [if_pos cond, if_neg n9, hix, ht]
            exact w2
/-- the reference's making and filling, once the content is lawful -/
theorem m_rest {a : aS} (ha : okA a) {D : dS} (h : wB a D) {b : Nat} (hb : bdy D b) (hb1 : b + 1 < zN D) (hCC : CC a D b) {g : Nat} (hg : tgE a D b (b + 1) = some g) {τ : gS} (hm : absM τ a) (tm : tM τ D) (m2 : τ.1 2 = nI (zN D)) (hsl : ∀ c q, c < zN D → zP D c = some q → b < q → q < zN D → (zM D q = 16 ∨ zM D q = 1) → τ.2 14 c = nI (slS a D q c)) {t : Nat} (ht : 20 * zN D + 10 ≤ t) : ∃ τ', R_M_decode t 1 [nI b, nI (b + 1)] τ = some (nI (sN a + oc D b g), τ') ∧ absM τ' (aP a D b (zN D)) := by
  have hO := aO_0 (a := a) (D := D) (b := b) (b + 1) (Nat.le_refl _)
  have N : N1 a D b (b + 1) τ := by
    unfold N1
    rw [hO]
    exact ⟨tm, m2, hm, ha, extA_r a, fun c h1 h2 => by omega, hsl⟩
  obtain ⟨t', τ1, w1, w2, w3⟩ := m_lp1 ha h hCC.2.2.1 (fun c h1 h2 ho => sndO_of (hCC.1 c h1 h2) ho) (zN D - (b + 1)) (b + 1) τ t (by omega) (by omega) (by omega) N
  have hP0 := aP_0 (a := a) (D := D) (b := b) (b + 1) (Nat.le_refl _)
  have M : N2 a D b (b + 1) τ1 := by
    obtain ⟨n1, n2', n3, n4, n5, n6, n7⟩ := w3
    unfold N2
    rw [hP0]
    exact ⟨n1, n2', n3, n4, n5, n6, n7⟩
  obtain ⟨τ2, y1, y2⟩ := m_lp2 ha h hb hb1 hCC hg (zN D - (b + 1)) (b + 1) τ1 t' (by omega) (by omega) (by omega) M
  exact ⟨τ2, by rw [w2, y1], y2⟩
theorem u_decode {σ τ : gS} {a : aS} (ha : okA a) (hc : absC σ a) (hm : absM τ a) : ∃ a', okA a' ∧ sameR a' (f_O_decode σ) (f_M_decode τ) := by
  obtain ⟨T, hT⟩ := gFx
  rw [fx_M_decode hT]
  unfold f_O_decode B_M_decode_0
  rcases form ha hc hm with ⟨σ1, τ1, w1, w2, w3, w4⟩ | ⟨σ1, τ1, D, w1, w2, hc1, hm1, tc, tm, h, h0, m2⟩
  · exact ⟨a, ha, -1, σ1, τ1, by rw [w1, gBd_s, if_pos rfl], by rw [w2, gBd_s, if_pos rfl], w3, w4⟩
  · have hn := h.1
    have hM0 := h.2.2.2.1 0 h0
    have u1 := (tc.2.2.2.1 0 h0).1
    have v1 := (tm.2.1 0 h0).1
    have one := c_one ha h hc1 tc h0 (v := 22) (x := 22) (by decide) rfl
    have oneM := m_one ha h hm1 tm h0 (v := 22) (x := 22) (by decide) rfl
    rw [nI_0] at one oneM
    rw [w1, gBd_s, if_neg i10, w2, gBd_s, if_neg i10]
    -- the version
    have ver : ∀ bv : Bool, bv = (decide (zM D 0 = 5) && oneA a D 0 22) → f_H_knowsVersion σ1 = some (bI bv, σ1) := by
      intro bv hbv
      unfold f_H_knowsVersion
      rw [gLd_0 (by decide) (by decide), u1, hbv]
      by_cases z : zM D 0 = 5
      · rw [if_pos (show nI (zM D 0) = 5 by rw [z]; rfl), one, gBd_s, decide_eq_true z, Bool.true_and]
        cases oneA a D 0 22 with
        | false => rw [bI_f, if_pos rfl]
        | true => rw [bI_t, if_neg i10]
      · rw [if_neg (show ¬ nI (zM D 0) = 5 by rw [eq_c5 (by omega)]; exact z), decide_eq_false z]
        rfl
    rw [gLd_0 (by decide) (by decide), v1]
    by_cases z5 : zM D 0 = 5
    · rw [if_pos (show nI (zM D 0) = 5 by rw [z5]; rfl), oneM, gBd_s]
      cases ho : oneA a D 0 22 with
      | false =>
        have hv := ver false (by rw [ho, Bool.and_false])
        exact ⟨a, ha, -2, σ1, τ1, by rw [hv, gBd_s, bI_f, if_pos rfl], by rw [bI_f, if_pos rfl], hc1, hm1⟩
      | true =>
        have hv := ver true (by rw [ho, decide_eq_true z5]; rfl)
        rw [hv, gBd_s, bI_t, if_neg i10, if_neg i10]
        obtain ⟨bh', x1, x2⟩ := heads ha h h0 hc1 hm1 tc tm m2
        rw [x1, gBd_s, x2, gBd_s]
        cases bh' with
        | false => exact ⟨a, ha, -3, σ1, τ1, by rw [bI_f, if_pos rfl], by rw [show bI (!false) = 1 from rfl, if_neg i10], hc1, hm1⟩
        | true =>
          rw [bI_t, if_neg i10, show bI (!true) = 0 from rfl, if_pos rfl]
          rcases c_rg ha h h0 hc1 tc with ⟨b, g, y1, y2, y3, y4, σ2, y5, y6, y7⟩ | ⟨y1, σ2, y2, y3⟩
          · have hb := bF_bdy h0 y1
            have hb2 := hb.2.1
            have hRR := (CC_RR h hb).mp y3
            obtain ⟨k1, k2, k3⟩ := RR_k.mp hRR
            obtain ⟨g1, g2, g3⟩ := tgE_in (by omega) y2.2.2.2.2 y4
            have hg := oc_lt (D := D) g1 g2 g3
            have h16 := y3.2.2.1
            have hbd : f_M_body τ1 = some (nI b, τ1) := by
              rcases m_body h h0 tm m2 with ⟨b', q1, q2, q3, q4⟩ | ⟨q1, q2⟩
              · have : b' = b := Option.some.inj (q1.symm.trans y1)
                rw [q4, this]
              · exact absurd ⟨b, y1, y2, k3⟩ q1
            have hlw : ∃ τ2, f_M_lawful τ1 (nI b) = some (1, τ2) ∧ fr14 τ1 τ2 ∧ ∀ c q, c < zN D → zP D c = some q → b < q → q < zN D → (zM D q = 16 ∨ zM D q = 1) → τ2.2 14 c = nI (slS a D q c) := by
              rcases m_law ha h hb hm1 tm m2 with ⟨_, _, q3⟩ | ⟨q1, _⟩
              · exact q3
              · exact absurd ⟨k1, k2⟩ q1
            obtain ⟨τ2, q1, q2, q3⟩ := hlw
            obtain ⟨τ3, q4, q5⟩ := m_rest ha h hb y2.2.2.2.2 y3 y4 (fr14_m q2 hm1) (fr14_t' q2 tm) (by rw [q2.1]; exact m2) q3 (t := T + 49999) (by omega)
            refine ⟨aP a D b (zN D), y7, nI (sN a + oc D b g), σ2, τ3, ?_, ?_, y6, q5⟩
            · rw [y5, gBd_s, if_neg (n_m1 (a := sN a + oc D b g) (by omega))]
            · rw [hbd, gBd_s, if_neg (nI_pos (n := b) (by omega)), q1, gBd_s, if_neg i10, add_c1, q4]
          · rw [y2, gBd_s, if_pos rfl]
            rcases m_body h h0 tm m2 with ⟨b, q1, q2, q3, q4⟩ | ⟨q1, q2⟩
            · have hb := bF_bdy h0 q1
              have hb2 := hb.2.1
              rcases m_law ha h hb hm1 tm m2 with ⟨k1, k2, _⟩ | ⟨_, τ2, k2, k3⟩
              · exact absurd ⟨b, q1, q2, (CC_RR h hb).mpr (RR_k.mpr ⟨k1, k2, q3⟩)⟩ y1
              · refine ⟨a, ha, -4, σ2, τ2, rfl, ?_, y3, fr14_m k3 hm1⟩
                rw [q4, gBd_s, if_neg (nI_pos (n := b) (by omega)), k2, gBd_s, if_pos rfl]
            · refine ⟨a, ha, -4, σ2, τ1, rfl, ?_, y3, hm1⟩
              rw [q2, gBd_s, if_pos iml]
    · have hv := ver false (by rw [decide_eq_false z5, Bool.false_and])
      exact ⟨a, ha, -2, σ1, τ1, by rw [hv, gBd_s, bI_f, if_pos rfl], by rw [if_neg (show ¬ nI (zM D 0) = 5 by rw [eq_c5 (by omega)]; exact z5)], hc1, hm1⟩
theorem big4_holds : big4 := fun σ τ a ha hc hm => ⟨fun x y => ⟨a, ha, u_alike ha hc hm x y⟩, fun x => ⟨a, ha, u_shared ha hc hm x⟩, fun x => u_encode ha hc hm x, u_decode ha hc hm⟩
