theorem m_mk {τ τ' : gS} {a : aS} (ha : okA a) (hm : absM τ a) {w z : Nat} (h : goodMk w z) (e0 : τ'.1 0 = nI (sN a + 1)) (e1 : τ'.1 1 = τ.1 1) (f1 : τ'.2 1 = upd (τ.2 1) (sN a) (nI w)) (f2 : τ'.2 2 = upd (τ.2 2) (sN a) (nI z)) (f3 : τ'.2 3 = gLay (τ.2 3) (sN a)) (f4 : τ'.2 4 = τ.2 4) (f5 : τ'.2 5 = τ.2 5) (f6 : τ'.2 6 = τ.2 6) (f7 : τ'.2 7 = τ.2 7) : absM τ' (aMk a w z) := by
  refine ⟨e0, e1.trans hm.2.1, fun p hp => ?_, fun p i hp hk hi => ?_, fun p i hp hk hi => ?_, fun p hp => by rw [f7]; exact hm.2.2.2.2.2.1 p hp, fun p hp => by rw [f6]; exact hm.2.2.2.2.2.2 p hp⟩
  · have hp : p < sN a + 1 := hp
    rw [mk_K, mk_Z, f1, f2]
    unfold upd
    by_cases he : p = sN a
    · rw [if_pos he, if_pos he, if_pos he, if_pos he]; exact ⟨rfl, rfl⟩
    · rw [if_neg he, if_neg he, if_neg he, if_neg he]; exact hm.2.2.1 p (by omega)
  · have hp : p < sN a + 1 := hp
    rw [mk_K] at hk
    rw [mk_Z] at hi
    rw [mk_C, mk_V, f3, f4, gLay_at]
    by_cases he : p = sN a
    · subst he
      rw [if_pos rfl] at hi hk
      have hi4 : i < 4 := by rcases h with h | h | h <;> omega
      rw [if_pos (by omega), if_pos (by omega)]
      exact ⟨rfl, fun h => absurd rfl h⟩
    · rw [if_neg he] at hi hk
      have z3 := (okA_K ha (show p < sN a by omega)).2.2 hk
      rw [if_neg (by omega), if_neg (by omega), if_neg (by omega)]
      exact hm.2.2.2.1 p i (by omega) hk hi
  · have hp : p < sN a + 1 := hp
    rw [mk_K] at hk
    rw [mk_Z] at hi
    rw [f5]
    by_cases he : p = sN a
    · rw [if_pos he] at hi hk
      rcases h with h | h | h <;> omega
    · rw [if_neg he] at hi hk
      exact hm.2.2.2.2.1 p i (by omega) hk hi
theorem mm1 {τ : gS} {a : aS} (ha : okA a) (hm : absM τ a) (hn : sN a < 16) {w z : Nat} (h : goodMk w z) (zz : Int32) (hz : w = 1 → zz = nI z) (t : Nat) : ∃ τ' : gS, R_M_make (t + 9) 1 [nI w, zz] τ = some (nI (sN a), τ') ∧ absM τ' (aMk a w z) := by
  rw [show R_M_make (t + 9) 1 [nI w, zz] τ = B_M_make_1 (R_M_make (t + 8)) (nI w) zz τ from rfl]
  unfold B_M_make_1
  rw [hm.1, if_neg (show ¬ nI (sN a) = 16 from fun q => absurd ((nI_eq (b := 16) (by omega) (by decide)).mp q) (by omega)), gSt_ok (sN a) rfl (by omega) (by decide)]
  have hv : ∀ v : Int32, v = nI z → ∃ τ' : gS, R_M_make (t + 8) 2 [(sA τ 1 (upd (τ.2 1) (sN a) (nI w))).1 0, v] (sA τ 1 (upd (τ.2 1) (sN a) (nI w))) = some (nI (sN a), τ') ∧ absM τ' (aMk a w z) := by
    intro v hv
    subst hv
    rw [show (sA τ 1 (upd (τ.2 1) (sN a) (nI w))).1 0 = nI (sN a) from hm.1]
    obtain ⟨τ', q, e0, e1, f1, f2, f3, f4, f5, f6, f7⟩ := p_M2f (sA τ 1 (upd (τ.2 1) (sN a) (nI w))) (n := sN a) hm.1 hn t (nI z)
    exact ⟨τ', q, m_mk ha hm h e0 e1 f1 f2 f3 f4 f5 f6 f7⟩
  rcases h with ⟨rfl, rfl⟩ | ⟨rfl, _⟩ | ⟨rfl, rfl⟩
  · rw [if_pos (by decide)]
    exact hv 2 rfl
  · rw [if_neg (by decide), if_pos (by decide)]
    exact hv zz (hz rfl)
  · rw [if_neg (by decide), if_neg (by decide)]
    exact hv 0 rfl
theorem mm16 {τ : gS} {a : aS} (hm : absM τ a) (hn : sN a = 16) (x z : Int32) (t : Nat) : R_M_make (t + 1) 1 [x, z] τ = some (-1, τ) := by
  show B_M_make_1 (R_M_make t) x z τ = _
  unfold B_M_make_1
  rw [hm.1, hn, if_pos (by decide)]
theorem u_make {σ τ : gS} {a : aS} (ha : okA a) (hc : absC σ a) (hm : absM τ a) (x z : Int32) : ∃ a', okA a' ∧ sameR a' (f_O_make σ x z) (f_M_make τ x z) := by
  have h16 := ha.1
  unfold f_O_make f_M_make
  rw [gF]
  rw [show R_O_make (99980 + 20) 0 [x, z] σ = B_O_make_0 (R_O_make (99980 + 19)) x z σ from rfl, show R_M_make (99980 + 20) 0 [x, z] τ = B_M_make_0 (R_M_make (99980 + 19)) x z τ from rfl]
  unfold B_O_make_0 B_M_make_0
  rw [hc.1]
  by_cases hn : sN a < 16
  · rw [if_pos (show nI (sN a) < 16 from nI_lt (b := 16) hn (by decide))]
    have e1 : ∀ y : Int32, y ≠ 2 → R_O_make (99980 + 19) 1 [y] σ = some (-1, σ) := by
      intro y hy
      show B_O_make_1 (R_O_make (99980 + 18)) y σ = _
      unfold B_O_make_1
      rw [if_neg hy]
    by_cases h0 : x = 0
    · subst h0
      obtain ⟨τ', e, hm'⟩ := mm1 ha hm hn (w := 0) (z := 2) (Or.inl ⟨rfl, rfl⟩) z (fun h => absurd h (by decide)) (99980 + 10)
      refine ⟨aMk a 0 2, ok_mk ha hn (Or.inl ⟨rfl, rfl⟩), nI (sN a), _, τ', ?_, ?_, c_mk ha hc (Or.inl ⟨rfl, rfl⟩), hm'⟩
      · rw [if_pos rfl, p_add σ hc.1 hn, gBd_s]
        rfl
      · rw [if_neg (by decide), if_neg (by decide), if_neg (by decide)]
        exact e
    · rw [if_neg h0]
      by_cases h1 : x = 1
      · subst h1
        rw [if_pos rfl, if_pos rfl]
        by_cases h2 : z < 0
        · exact ⟨a, ha, -1, σ, τ, by rw [if_pos h2]; exact e1 1 (by decide), by rw [if_neg (by decide), if_neg (by decide), if_pos h2], hc, hm⟩
        · by_cases h3 : 4 < z
          · exact ⟨a, ha, -1, σ, τ, by rw [if_neg h2, if_pos h3]; exact e1 1 (by decide), by rw [if_neg (by decide), if_neg (by decide), if_neg h2, if_pos h3], hc, hm⟩
          · obtain ⟨q, hq, rfl⟩ := nI_of2 (M := 4) (n := 4) (by decide) h2 (Int32.not_lt.mp h3)
            obtain ⟨τ', e, hm'⟩ := mm1 ha hm hn (w := 1) (z := q) (Or.inr (Or.inl ⟨rfl, hq⟩)) (nI q) (fun _ => rfl) (99980 + 10)
            refine ⟨aMk a 1 q, ok_mk ha hn (Or.inr (Or.inl ⟨rfl, hq⟩)), nI (sN a), _, τ', ?_, ?_, c_mk ha hc (Or.inr (Or.inl ⟨rfl, hq⟩)), hm'⟩
            · rw [if_neg h2, if_neg h3, p_add σ hc.1 hn, gBd_s]
              rfl
            · rw [if_neg (by decide), if_neg (by decide), if_neg h2, if_neg h3]
              exact e
      · rw [if_neg h1, if_neg h1]
        by_cases h2 : x = 2
        · subst h2
          obtain ⟨τ', e, hm'⟩ := mm1 ha hm hn (w := 2) (z := 0) (Or.inr (Or.inr ⟨rfl, rfl⟩)) z (fun h => absurd h (by decide)) (99980 + 10)
          refine ⟨aMk a 2 0, ok_mk ha hn (Or.inr (Or.inr ⟨rfl, rfl⟩)), nI (sN a), _, τ', ?_, ?_, c_mk ha hc (Or.inr (Or.inr ⟨rfl, rfl⟩)), hm'⟩
          · rw [show R_O_make (99980 + 19) 1 [2] σ = B_O_make_1 (R_O_make (99980 + 18)) 2 σ from rfl]
            unfold B_O_make_1
            rw [if_pos rfl, p_add σ hc.1 hn, gBd_s]
            rfl
          · rw [if_neg (by decide), if_neg (by decide)]
            exact e
        · by_cases h3 : x < 0
          · exact ⟨a, ha, -1, σ, τ, e1 x h2, by rw [if_pos h3], hc, hm⟩
          · by_cases h4 : 2 < x
            · exact ⟨a, ha, -1, σ, τ, e1 x h2, by rw [if_neg h3, if_pos h4], hc, hm⟩
            · rcases p3 h3 h4 with h | h | h
              · exact absurd h h0
              · exact absurd h h1
              · exact absurd h h2
  · have h6 : sN a = 16 := by omega
    refine ⟨a, ha, -1, σ, τ, by rw [h6, if_neg (by decide)], ?_, hc, hm⟩
    have e := mm16 hm h6 x z (99980 + 18)
    by_cases h3 : x < 0
    · rw [if_pos h3]
    · rw [if_neg h3]
      by_cases h4 : 2 < x
      · rw [if_pos h4]
      · rw [if_neg h4]
        by_cases h1 : x = 1
        · rw [if_pos h1]
          by_cases h5 : z < 0
          · rw [if_pos h5]
          · rw [if_neg h5]
            by_cases h7 : 4 < z
            · rw [if_pos h7]
            · rw [if_neg h7]
              exact e
        · rw [if_neg h1]
          exact e
