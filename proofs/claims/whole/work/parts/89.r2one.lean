/-! decode: the class's soundness of an element -/
theorem c_emp {a : aS} {D : dS} (h : wB a D) {σ : gS} (tc : tC σ D) {e : Nat} (he : e < zN D) : f_E_isEmpty σ (nI e) = some (bI (decide ((zX D e).length = 0 ∧ kc D e = 0)), σ) := by
  have hn := h.1
  have hC := h.2.2.1
  have hx := (h.2.2.2.2.2.2.2.2.1 e he).2
  have hk := kc_lt D e
  obtain ⟨u1, u2, u3, u4, u5, u6, u7⟩ := tc.2.2.2.1 e he
  unfold f_E_isEmpty
  rw [gLd_n (by omega) (by decide), u7]
  by_cases x1 : (zX D e).length = 0
  · rw [if_pos (show nI (zX D e).length = 0 by rw [x1]; rfl), gLd_n (by omega) (by decide), u3]
    by_cases x2 : kc D e = 0
    · rw [if_pos (show nI (kc D e) = 0 by rw [x2]; rfl), decide_eq_true ⟨x1, x2⟩]; rfl
    · rw [if_neg (show ¬ nI (kc D e) = 0 by rw [eq_c0 (by omega)]; exact x2), decide_eq_false (fun q => x2 q.2)]; rfl
  · rw [if_neg (show ¬ nI (zX D e).length = 0 by rw [eq_c0 (by omega)]; exact x1), decide_eq_false (fun q => x1 q.1)]; rfl
theorem c_ssz {a : aS} (ha : okA a) {D : dS} (h : wB a D) {σ : gS} (hc : absC σ a) (tc : tC σ D) {e : Nat} (he : e < zN D) : f_H_hasSoundSize σ (nI e) = some (bI (szOK a D e), σ) := by
  unfold f_H_hasSoundSize szOK
  rw [c_cin ha h hc tc he (v := 14) (x := 14) (by decide) rfl, gBd_s]
  cases c : cIn a D e 14 with
  | none => rw [if_pos (show oI none < 0 by decide)]; rfl
  | some n =>
    have hn := cIn_lt ha c
    show _ = some (bI (decide (n ≤ 4 ∧ (cIn a D e 15).getD 0 ≤ n)), σ)
    rw [if_neg (show ¬ oI (some n) < 0 from nI_pos (by omega)), show oI (some n) = nI n from rfl]
    by_cases x1 : n ≤ 4
    · rw [if_neg (show ¬ 4 < nI n by rw [c4_lt (by omega)]; omega), c_cin ha h hc tc he (v := 15) (x := 15) (by decide) rfl, gBd_s]
      cases c2 : cIn a D e 15 with
      | none =>
        rw [if_neg (show ¬ nI n < oI none from not_lt_m1 (by omega)), show decide (n ≤ 4 ∧ (none : Option Nat).getD 0 ≤ n) = true from decide_eq_true ⟨x1, Nat.zero_le _⟩]; rfl
      | some o =>
        have ho := cIn_lt ha c2
        show _ = some (bI (decide (n ≤ 4 ∧ o ≤ n)), σ)
        by_cases x2 : o ≤ n
        · rw [if_neg (show ¬ nI n < oI (some o) from fun z => by have z := (n_lt (a := n) (b := o) (by omega) (by omega)).mp z; omega), decide_eq_true ⟨x1, x2⟩]; rfl
        · rw [if_pos (show nI n < oI (some o) from (n_lt (a := n) (b := o) (by omega) (by omega)).mpr (by omega)), decide_eq_false (fun q => x2 q.2)]; rfl
    · rw [if_pos (show 4 < nI n by rw [c4_lt (by omega)]; omega), decide_eq_false (fun q => x1 q.1)]; rfl
theorem c_snd {a : aS} (ha : okA a) {D : dS} (h : wB a D) {σ : gS} (hc : absC σ a) (tc : tC σ D) {e : Nat} (he : e < zN D) (h0 : 0 < e) : f_H_isSound σ (nI e) = some (bI (snd' a D e), σ) := by
  have hn := h.1
  have hC := h.2.2.1
  have hM := h.2.2.2.1 e he
  have hx := (h.2.2.2.2.2.2.2.2.1 e he).2
  have hk := kc_lt D e
  obtain ⟨u1, u2, u3, u4, u5, u6, u7⟩ := tc.2.2.2.1 e he
  unfold f_H_isSound snd'
  rw [c_atS ha h hc tc he h0, gBd_s]
  cases hat : atS a D e with
  | false => rw [bI_f, if_pos rfl]; rfl
  | true =>
    rw [bI_t, if_neg i10, gLd_n (by omega) (by decide), u1, Bool.true_and]
    by_cases x1 : zM D e = 1
    · rw [if_pos x1, x1, if_pos (show nI 1 = 1 from rfl), gLd_n (by omega) (by decide), u7]
      by_cases y : (zX D e).length = 0
      · rw [if_pos (show nI (zX D e).length = 0 by rw [y]; rfl), c_ssz ha h hc tc he, gBd_s, decide_eq_true y, Bool.true_and]
        cases z : szOK a D e with
        | false => rw [bI_f, if_pos rfl]
        | true => rw [bI_t, if_neg i10]
      · rw [if_neg (show ¬ nI (zX D e).length = 0 by rw [eq_c0 (by omega)]; exact y), decide_eq_false y]; rfl
    · rw [if_neg x1]
      by_cases x9 : zM D e = 9
      · rw [if_pos x9, x9, if_neg (show ¬ nI 9 = 1 by decide), if_neg (show ¬ nI 9 = 2 by decide), if_neg (show ¬ nI 9 = 3 by decide), if_neg (show ¬ nI 9 = 4 by decide), if_neg (show ¬ nI 9 = 5 by decide), if_neg (show ¬ nI 9 = 6 by decide), if_neg (show ¬ nI 9 = 7 by decide), if_neg (show ¬ nI 9 = 8 by decide), if_pos (show nI 9 = 9 from rfl), gLd_n (by omega) (by decide), u3]
        by_cases y : kc D e = 0
        · rw [if_pos (show nI (kc D e) = 0 by rw [y]; rfl), c_num h tc he y, gBd_s]
          by_cases z : nV (zX D e) = bigN
          · rw [if_pos (show lg_cmp (nV (zX D e)) 1099511627776 = 0 from (lg_cmp_eq _ _).mpr z), decide_eq_false (fun q => q.2 z)]; rfl
          · rw [if_neg (show ¬ lg_cmp (nV (zX D e)) 1099511627776 = 0 from fun q => z ((lg_cmp_eq _ _).mp q)), decide_eq_true ⟨y, z⟩]; rfl
        · rw [if_neg (show ¬ nI (kc D e) = 0 by rw [eq_c0 (by omega)]; exact y), decide_eq_false (fun q => y q.1)]; rfl
      · rw [if_neg x9]
        by_cases x14 : zM D e = 14
        · rw [if_pos x14, x14, if_neg (show ¬ nI 14 = 1 by decide), if_neg (show ¬ nI 14 = 2 by decide), if_neg (show ¬ nI 14 = 3 by decide), if_neg (show ¬ nI 14 = 4 by decide), if_neg (show ¬ nI 14 = 5 by decide), if_neg (show ¬ nI 14 = 6 by decide), if_neg (show ¬ nI 14 = 7 by decide), if_neg (show ¬ nI 14 = 8 by decide), if_neg (show ¬ nI 14 = 9 by decide), if_neg (show ¬ nI 14 = 10 by decide), if_neg (show ¬ nI 14 = 11 by decide), if_neg (show ¬ nI 14 = 12 by decide), if_neg (show ¬ nI 14 = 13 by decide), if_pos (show nI 14 = 14 from rfl), c_emp h tc he, gBd_s, nr_b]
        · rw [if_neg x14]
          by_cases x16 : zM D e = 16
          · rw [if_pos x16, x16, if_neg (show ¬ nI 16 = 1 by decide), if_neg (show ¬ nI 16 = 2 by decide), if_neg (show ¬ nI 16 = 3 by decide), if_neg (show ¬ nI 16 = 4 by decide), if_neg (show ¬ nI 16 = 5 by decide), if_neg (show ¬ nI 16 = 6 by decide), if_neg (show ¬ nI 16 = 7 by decide), if_neg (show ¬ nI 16 = 8 by decide), if_neg (show ¬ nI 16 = 9 by decide), if_neg (show ¬ nI 16 = 10 by decide), if_neg (show ¬ nI 16 = 11 by decide), if_neg (show ¬ nI 16 = 12 by decide), if_neg (show ¬ nI 16 = 13 by decide), if_neg (show ¬ nI 16 = 14 by decide), if_neg (show ¬ nI 16 = 15 by decide), if_pos (show nI 16 = 16 from rfl), gLd_n (by omega) (by decide), u7]
            by_cases y : (zX D e).length = 0
            · rw [if_pos (show nI (zX D e).length = 0 by rw [y]; rfl), gLd_n (by omega) (by decide), u3]
              by_cases z : kc D e = 2
              · rw [if_pos (show nI (kc D e) = 2 by rw [z]; rfl), decide_eq_true ⟨y, z⟩]; rfl
              · rw [if_neg (show ¬ nI (kc D e) = 2 by rw [eq_c2 (by omega)]; exact z), decide_eq_false (fun q => z q.2)]; rfl
            · rw [if_neg (show ¬ nI (zX D e).length = 0 by rw [eq_c0 (by omega)]; exact y), decide_eq_false (fun q => y q.1)]; rfl
          · rw [if_neg x16]
            by_cases x18 : zM D e = 18
            · rw [if_pos x18, x18, if_neg (show ¬ nI 18 = 1 by decide), if_neg (show ¬ nI 18 = 2 by decide), if_neg (show ¬ nI 18 = 3 by decide), if_neg (show ¬ nI 18 = 4 by decide), if_neg (show ¬ nI 18 = 5 by decide), if_neg (show ¬ nI 18 = 6 by decide), if_neg (show ¬ nI 18 = 7 by decide), if_neg (show ¬ nI 18 = 8 by decide), if_neg (show ¬ nI 18 = 9 by decide), if_neg (show ¬ nI 18 = 10 by decide), if_neg (show ¬ nI 18 = 11 by decide), if_neg (show ¬ nI 18 = 12 by decide), if_neg (show ¬ nI 18 = 13 by decide), if_neg (show ¬ nI 18 = 14 by decide), if_neg (show ¬ nI 18 = 15 by decide), if_neg (show ¬ nI 18 = 16 by decide), if_neg (show ¬ nI 18 = 17 by decide), if_pos (show nI 18 = 18 from rfl), c_emp h tc he, gBd_s]
              by_cases y : (zX D e).length = 0 ∧ kc D e = 0
              · rw [decide_eq_true y, bI_t, if_neg i10, show (8 : Int32) = nI 8 from rfl, c_find h tc he (by decide), gBd_s]
                cases hf : fA D e 8 with
                | none => rw [if_pos (show oI none = -1 from rfl), decide_eq_false (fun q => q.2.2 rfl)]; rfl
                | some i =>
                  have := (fA_lt h he hf).1
                  have hL := h.2.1
                  rw [if_neg (show ¬ oI (some i) = -1 from n_m1 (by omega)), show decide ((zX D e).length = 0 ∧ kc D e = 0 ∧ (some i : Option Nat) ≠ none) = true from decide_eq_true ⟨y.1, y.2, by simp⟩]; rfl
              · rw [decide_eq_false y, bI_f, if_pos rfl, decide_eq_false (fun q => y ⟨q.1, q.2.1⟩)]; rfl
            · rw [if_neg x18]
              by_cases x20 : zM D e = 20
              · rw [if_pos x20, x20, if_neg (show ¬ nI 20 = 1 by decide), if_neg (show ¬ nI 20 = 2 by decide), if_neg (show ¬ nI 20 = 3 by decide), if_neg (show ¬ nI 20 = 4 by decide), if_neg (show ¬ nI 20 = 5 by decide), if_neg (show ¬ nI 20 = 6 by decide), if_neg (show ¬ nI 20 = 7 by decide), if_neg (show ¬ nI 20 = 8 by decide), if_neg (show ¬ nI 20 = 9 by decide), if_neg (show ¬ nI 20 = 10 by decide), if_neg (show ¬ nI 20 = 11 by decide), if_neg (show ¬ nI 20 = 12 by decide), if_neg (show ¬ nI 20 = 13 by decide), if_neg (show ¬ nI 20 = 14 by decide), if_neg (show ¬ nI 20 = 15 by decide), if_neg (show ¬ nI 20 = 16 by decide), if_neg (show ¬ nI 20 = 17 by decide), if_neg (show ¬ nI 20 = 18 by decide), if_neg (show ¬ nI 20 = 19 by decide), if_pos (show nI 20 = 20 from rfl), gLd_n (by omega) (by decide), u3]
                by_cases y : kc D e = 0
                · rw [if_pos (show nI (kc D e) = 0 by rw [y]; rfl), gLd_n (by omega) (by decide), u7]
                  by_cases z : (zX D e).length ≤ 6
                  · rw [if_neg (show ¬ 6 < nI (zX D e).length by rw [c6_lt (by omega)]; omega), decide_eq_true ⟨y, z⟩]; rfl
                  · rw [if_pos (show 6 < nI (zX D e).length by rw [c6_lt (by omega)]; omega), decide_eq_false (fun q => z q.2)]; rfl
                · rw [if_neg (show ¬ nI (kc D e) = 0 by rw [eq_c0 (by omega)]; exact y), decide_eq_false (fun q => y q.1)]; rfl
              · rw [if_neg x20, if_neg (show ¬ nI (zM D e) = 1 by rw [eq_c1 (by omega)]; exact x1), if_neg (show ¬ nI (zM D e) = 9 by rw [eq_c9 (by omega)]; exact x9), if_neg (show ¬ nI (zM D e) = 14 by rw [eq_c14 (by omega)]; exact x14), if_neg (show ¬ nI (zM D e) = 16 by rw [eq_c16 (by omega)]; exact x16), if_neg (show ¬ nI (zM D e) = 18 by rw [eq_c18 (by omega)]; exact x18), if_neg (show ¬ nI (zM D e) = 20 by rw [eq_c20 (by omega)]; exact x20)]
                simp only [ite_self]
                rfl
/-! the class's first loop -/
def L1 (a : aS) (D : dS) (b e : Nat) (σ : gS) : Prop := tC σ D ∧ σ.1 0 = nI (sN a) ∧ absC (sI σ 0 (nI (sN a + oc D b e))) (aO a D b e) ∧ okA (aO a D b e) ∧ extA a (aO a D b e) ∧ sN (aO a D b e) = sN a + oc D b e ∧ σ.1 11 = nI (sN a + oc D b e) ∧ sN a + oc D b e ≤ 16 ∧ (∀ c, b < c → c < e → σ.2 34 c = oI (if ob D c = true then some (sN a + oc D b c) else none)) ∧ (∀ v, v < 100 → σ.2 35 v = oI ((wI a D b v e).map (fun c => sN a + oc D b c))) ∧ ∀ c, b < c → c < e → ob D c = true → σ.2 36 (sN a + oc D b c) = nI (offE a D c) ∧ σ.2 37 (sN a + oc D b c) = 0
theorem L1_a {a : aS} (ha : okA a) {D : dS} {b e : Nat} {σ : gS} (h : L1 a D b e σ) : absC σ a := absC_ext ha h.2.2.2.2.1 h.2.2.1 h.2.1
theorem c_numO {a : aS} (ha : okA a) {D : dS} (h : wB a D) {b e : Nat} (hbe : b < e) (he : e < zN D) {σ : gS} (hL : L1 a D b e σ) (hs : snd' a D e = true) : (∃ σ', f_H_numberObject σ (nI e) = some (1, σ') ∧ L1 a D b (e + 1) σ' ∧ ∀ v, ob D e = true → cIn a D e 247 = some v → wI a D b v e = none) ∨ (¬ ((∀ v, ob D e = true → cIn a D e 247 = some v → wI a D b v e = none) ∧ sN a + oc D b (zN D) ≤ 16) ∧ ∃ σ', f_H_numberObject σ (nI e) = some (0, σ') ∧ absC σ' a) := by
  have hn := h.1
  have h16 := ha.1
  have hca := L1_a ha hL
  obtain ⟨l1, l2, l3, l4, l5, l6, l7, l8, l9, l10, l11⟩ := hL
  unfold f_H_numberObject
  rw [gSt_n (by omega) (by decide)]
  have tc1 : tC (sA σ 34 (upd (σ.2 34) e (-1))) D := l1
  have hca1 : absC (sA σ 34 (upd (σ.2 34) e (-1))) a := absC_A hca (by decide) _
  rw [c_ob h tc1 he, gBd_s]
  cases hob : ob D e with
  | false =>
    have hno : ¬ (b < e ∧ ob D e = true) := fun q => by rw [hob] at q; cases q.2
    have hoc : oc D b (e + 1) = oc D b e := by rw [oc_s, if_neg hno]; rfl
    have hw : ∀ v, wI a D b v (e + 1) = wI a D b v e := fun v => by
      cases c : wI a D b v e with
      | some e' => exact wI_k c
      | none => rw [wI_n c, if_neg (fun q => hno ⟨q.1, q.2.1⟩)]
    rw [bI_f, if_pos rfl]
    refine Or.inl ⟨_, rfl, ?_, fun v q => by cases q⟩
    unfold L1
    rw [hoc, aO_n hno]
    refine ⟨tc1, l2, l3, l4, l5, l6, l7, l8, fun c h1 h2 => ?_, fun v hv => ?_, fun c h1 h2 ho => ?_⟩
    · rw [sA_eq]
      by_cases c1 : c = e
      · rw [c1, up_eq, hob]; rfl
      · rw [up_ne c1]; exact l9 c h1 (by omega)
    · rw [sA_ne (by decide), hw v]; exact l10 v hv
    · rw [sA_ne (by decide), sA_ne (by decide)]
      exact l11 c h1 (by
        by_cases c1 : c = e
        · rw [c1, hob] at ho; cases ho
        · omega) ho
  | true =>
    have hyes : b < e ∧ ob D e = true := ⟨hbe, hob⟩
    have hoc : oc D b (e + 1) = oc D b e + 1 := by rw [oc_s, if_pos hyes]
    have hle := oc_up D b (zN D - (e + 1)) (e + 1)
    rw [show e + 1 + (zN D - (e + 1)) = zN D by omega, hoc] at hle
    rw [bI_t, if_neg i10, sA_1, l7]
    by_cases hcap : sN a + oc D b e < 16
    · rw [if_pos (show nI (sN a + oc D b e) < 16 by rw [lt_c16 (by omega)]; exact hcap), gSt_n (by omega) (by decide), sA_eq, up_up, show sA (sA σ 34 (upd (σ.2 34) e (-1))) 34 (upd (σ.2 34) e (nI (sN a + oc D b e))) = sA σ 34 (upd (σ.2 34) e (nI (sN a + oc D b e))) from by
        show (σ.1, fun i => if i = 34 then _ else if i = 34 then _ else σ.2 i) = (σ.1, fun i => if i = 34 then _ else σ.2 i)
        congr 1
        funext i
        by_cases q : i = 34
        · rw [if_pos q, if_pos q]
        · rw [if_neg q, if_neg q, if_neg q]]
      have tc2 : tC (sA σ 34 (upd (σ.2 34) e (nI (sN a + oc D b e)))) D := l1
      have c2 : absC (sI (sA σ 34 (upd (σ.2 34) e (nI (sN a + oc D b e)))) 0 (nI (sN (aO a D b e)))) (aO a D b e) := by rw [l6]; exact absC_A l3 (by decide) _
      obtain ⟨σ', w1, w2, w3, w4, w5, w6⟩ := c_layO ha h he (sndO_of hs hob) (snd_f hs).2.2.2.2.2.1 l4 (by rw [l6]; exact hcap) l5 c2 l2 tc2
      rw [l6] at w1 w2 w5 w6
      have i11 : σ'.1 11 = nI (sN a + oc D b e) := by rw [w3]; exact l7
      rw [sA_1, l7, w1, gBd_s, gPut_s, i11, add_c1]
      have hokE := ok_lay h he l4 (by rw [l6]; exact hcap) (sndO_of hs hob)
      have hextE := layE_ext a D e l5
      have tc3 : tC (sI σ' 11 (nI (sN a + oc D b e + 1))) D := by
        obtain ⟨q1, q2, q3, q4, q5, q6⟩ := l1
        refine ⟨by rw [sI_ne (by decide), w3]; exact q1, by rw [sI_ne (by decide), w3]; exact q2, by rw [sI_ne (by decide), w3]; exact q3, ?_, ?_, ?_⟩
        · rw [sI_2, w4 21 (by decide) (by decide) (by decide), w4 22 (by decide) (by decide) (by decide), w4 23 (by decide) (by decide) (by decide), w4 24 (by decide) (by decide) (by decide), w4 25 (by decide) (by decide) (by decide), w4 26 (by decide) (by decide) (by decide), w4 27 (by decide) (by decide) (by decide)]
          exact q4
        · rw [sI_2, w4 28 (by decide) (by decide) (by decide), w4 29 (by decide) (by decide) (by decide), w4 30 (by decide) (by decide) (by decide)]
          exact q5
        · rw [sI_2, w4 31 (by decide) (by decide) (by decide)]
          exact q6
      have c3 : absC (sI (sI σ' 11 (nI (sN a + oc D b e + 1))) 0 (nI (sN a + oc D b e + 1))) (layE a D e (aO a D b e)) := absC_of w2 rfl rfl (fun _ _ => rfl)
      have h03 : (sI σ' 11 (nI (sN a + oc D b e + 1))).1 0 = nI (sN a) := by rw [sI_ne (by decide), w3]; exact l2
      have hca3 := absC_ext ha hextE c3 h03
      have s34 : (sI σ' 11 (nI (sN a + oc D b e + 1))).2 34 = upd (σ.2 34) e (nI (sN a + oc D b e)) := by rw [sI_2, w4 34 (by decide) (by decide) (by decide), sA_eq]
      have s35 : (sI σ' 11 (nI (sN a + oc D b e + 1))).2 35 = σ.2 35 := by rw [sI_2, w4 35 (by decide) (by decide) (by decide), sA_ne (by decide)]
      have s36 : (sI σ' 11 (nI (sN a + oc D b e + 1))).2 36 = upd (σ.2 36) (sN a + oc D b e) (nI (offE a D e)) := by rw [sI_2, w5, sA_ne (by decide)]
      have s37 : (sI σ' 11 (nI (sN a + oc D b e + 1))).2 37 = upd (σ.2 37) (sN a + oc D b e) 0 := by rw [sI_2, w6, sA_ne (by decide)]
      have s11 : (sI σ' 11 (nI (sN a + oc D b e + 1))).1 11 = nI (sN a + oc D b e + 1) := sI_eq _ _ _
      obtain ⟨σ3, e3⟩ : ∃ σ3, σ3 = sI σ' 11 (nI (sN a + oc D b e + 1)) := ⟨_, rfl⟩
      rw [← e3] at tc3 c3 h03 hca3 s34 s35 s36 s37 s11 ⊢
      have build : ∀ σ4 : gS, (∀ k, σ4.1 k = σ3.1 k) → (∀ k, k ≠ 35 → σ4.2 k = σ3.2 k) → (∀ v, v < 100 → σ4.2 35 v = oI ((wI a D b v (e + 1)).map (fun c => sN a + oc D b c))) → L1 a D b (e + 1) σ4 := by
        intro σ4 g1 g2 g3
        unfold L1
        rw [hoc, aO_y hyes]
        refine ⟨?_, by rw [g1]; exact h03, absC_of c3 rfl (by show σ4.1 1 = σ3.1 1; exact g1 1) (fun k hk => g2 k (by omega)), hokE, hextE, by rw [layE_N, l6]; omega, by rw [g1]; exact s11, by omega, fun c h1 h2 => ?_, g3, fun c h1 h2 ho => ?_⟩
        · obtain ⟨q1, q2, q3, q4, q5, q6⟩ := tc3
          refine ⟨by rw [g1]; exact q1, by rw [g1]; exact q2, by rw [g1]; exact q3, ?_, ?_, ?_⟩
          · rw [g2 21 (by decide), g2 22 (by decide), g2 23 (by decide), g2 24 (by decide), g2 25 (by decide), g2 26 (by decide), g2 27 (by decide)]; exact q4
          · rw [g2 28 (by decide), g2 29 (by decide), g2 30 (by decide)]; exact q5
          · rw [g2 31 (by decide)]; exact q6
        · rw [g2 34 (by decide), s34]
          by_cases c1 : c = e
          · rw [c1, up_eq, hob]; rfl
          · rw [up_ne c1]; exact l9 c h1 (by omega)
        · rw [g2 36 (by decide), g2 37 (by decide), s36, s37]
          by_cases c1 : c = e
          · rw [c1, up_eq, up_eq]; exact ⟨rfl, rfl⟩
          · have := oc_lt (D := D) h1 (show c < e by omega) ho
            rw [up_ne (by omega), up_ne (by omega)]
            exact l11 c h1 (by omega) ho
      unfold f_H_keepId
      rw [c_cin ha h hca3 tc3 he (v := 247) (x := 247) (by decide) rfl, gBd_s]
      cases hid : cIn a D e 247 with
      | none =>
        rw [if_pos (show oI none = -1 from rfl), gBd_s, nr_1]
        refine Or.inl ⟨σ3, rfl, build σ3 (fun _ => rfl) (fun _ _ => rfl) (fun v hv => ?_), fun v _ q => by cases q⟩
        rw [s35, l10 v hv]
        cases c : wI a D b v e with
        | some e' => rw [wI_k c]
        | none => rw [wI_n c, if_neg (fun q => by rw [hid] at q; cases q.2.2)]
      | some u =>
        have hu := cIn_lt ha hid
        rw [if_neg (show ¬ oI (some u) = -1 from n_m1 (by omega)), show oI (some u) = nI u from rfl, gLd_n (by omega) (by decide), s35, l10 u hu]
        cases c : wI a D b u e with
        | some e' =>
          rw [if_neg (show ¬ oI (Option.map (fun c => sN a + oc D b c) (some e')) = -1 from n_m1 (a := sN a + oc D b e') (by
            obtain ⟨y1, y2, y3, y4⟩ := wI_in _ _ c
            have := oc_lt (D := D) y1 y2 y3
            omega)), gBd_s, nr_0]
          exact Or.inr ⟨fun q => (by have := q.1 u rfl rfl; rw [c] at this; cases this), σ3, rfl, hca3⟩
        | none =>
          rw [if_pos (show oI (Option.map (fun c => sN a + oc D b c) none) = -1 from rfl), gLd_n (by omega) (by decide), s34, up_eq, gSt_n (by omega) (by decide), gBd_s, nr_1]
          refine Or.inl ⟨_, rfl, build _ (fun _ => rfl) (fun k hk => sA_ne hk) (fun v hv => ?_), fun v _ q => by rw [← Option.some.inj q]; exact c⟩
          rw [sA_eq]
          by_cases c1 : v = u
          · rw [c1, up_eq, wI_n c, if_pos ⟨hbe, hob, hid⟩]; rfl
          · rw [up_ne c1, s35, l10 v hv]
            cases c2 : wI a D b v e with
            | some e' => rw [wI_k c2]
            | none => rw [wI_n c2, if_neg (fun q => by rw [hid] at q; exact c1 (Option.some.inj q.2.2).symm)]
    · rw [if_neg (show ¬ nI (sN a + oc D b e) < 16 by rw [lt_c16 (by omega)]; exact hcap)]
      exact Or.inr ⟨fun q => by omega, _, rfl, hca1⟩
def cE (a : aS) (D : dS) (b e : Nat) : Prop := snd' a D e = true ∧ ∀ v, ob D e = true → cIn a D e 247 = some v → wI a D b v e = none
theorem c_lp1 {a : aS} (ha : okA a) {D : dS} (h : wB a D) {b : Nat} : ∀ (d e : Nat) (σ : gS) (t : Nat), e + d = zN D → b < e → d + 1 ≤ t → L1 a D b e σ → ((∀ c, e ≤ c → c < zN D → cE a D b c) ∧ ∃ t' σ', t ≤ t' + (d + 1) ∧ R_H_readGraph t 1 [nI b, nI e] σ = R_H_readGraph t' 2 [nI b, nI (b + 1)] σ' ∧ L1 a D b (zN D) σ') ∨ (¬ ((∀ c, e ≤ c → c < zN D → cE a D b c) ∧ sN a + oc D b (zN D) ≤ 16) ∧ ∃ σ', R_H_readGraph t 1 [nI b, nI e] σ = some (-1, σ') ∧ absC σ' a) := by
  have hn := h.1
  intro d
  induction d with
  | zero =>
    intro e σ t he hbe ht hL
    obtain ⟨t, rfl⟩ : ∃ t', t = t' + 1 := ⟨t - 1, by omega⟩
    obtain rfl : e = zN D := by omega
    refine Or.inl ⟨fun c h1 h2 => by omega, t, σ, by omega, ?_, hL⟩
    rw [st_H_readGraph_1]
    unfold B_H_readGraph_1
    rw [hL.1.1, if_pos (Int32.le_refl _), add_c1]
  | succ d ih =>
    intro e σ t he hbe ht hL
    obtain ⟨t, rfl⟩ : ∃ t', t = t' + 1 := ⟨t - 1, by omega⟩
    have heN : e < zN D := by omega
    have hca := L1_a ha hL
    rw [st_H_readGraph_1]
    unfold B_H_readGraph_1
    rw [hL.1.1, if_neg (show ¬ nI (zN D) ≤ nI e by rw [n_le (by omega) (by omega)]; omega), c_snd ha h hca hL.1 heN (by omega), gBd_s]
    cases hs : snd' a D e with
    | false =>
      rw [bI_f, if_pos rfl]
      exact Or.inr ⟨fun q => (by have := (q.1 e (Nat.le_refl _) heN).1; rw [hs] at this; cases this), σ, rfl, hca⟩
    | true =>
      rw [bI_t, if_neg i10]
      rcases c_numO ha h hbe heN hL hs with ⟨σ', w1, w2, w3⟩ | ⟨w1, σ', w2, w3⟩
      · rw [w1, gBd_s, if_neg i10, add_c1]
        rcases ih (e + 1) σ' t (by omega) (by omega) (by omega) w2 with ⟨z1, t', σ'', z2, z3, z4⟩ | ⟨z1, z2⟩
        · refine Or.inl ⟨fun c h1 h2 => ?_, t', σ'', by omega, z3, z4⟩
          by_cases c1 : c = e
          · rw [c1]; exact ⟨hs, w3⟩
          · exact z1 c (by omega) h2
        · exact Or.inr ⟨fun q => z1 ⟨fun c h1 h2 => q.1 c (by omega) h2, q.2⟩, z2⟩
      · rw [w2, gBd_s, if_pos rfl]
        exact Or.inr ⟨fun q => w1 ⟨(q.1 e (Nat.le_refl _) heN).2, q.2⟩, σ', rfl, w3⟩
