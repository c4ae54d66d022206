/-! decode: what may stand where; numbers -/
def ob (D : dS) (e : Nat) : Bool := decide (zM D e = 16 ∨ zM D e = 1 ∨ zM D e = 20)
def pMn (D : dS) (e : Nat) : Nat := match zP D e with
  | none => 0
  | some q => zM D q
def msB (D : dS) (e v : Nat) : Bool := if v = 8 then decide (zM D e = 18) else if v = 14 ∨ v = 15 then decide (zM D e = 1) else if v = 47 then decide (pMn D e = 1) else if v = 247 then ob D e else false
theorem c_ob {a : aS} {D : dS} (h : wB a D) {σ : gS} (tc : tC σ D) {e : Nat} (he : e < zN D) : f_H_isObject σ (nI e) = some (bI (ob D e), σ) := by
  have hn := h.1
  have hM := h.2.2.2.1 e he
  unfold f_H_isObject ob
  rw [gLd_n (by omega) (by decide), (tc.2.2.2.1 e he).1]
  by_cases e1 : zM D e = 16
  · rw [if_pos (show nI (zM D e) = 16 by rw [e1]; rfl), decide_eq_true (Or.inl e1)]; rfl
  · rw [if_neg (show ¬ nI (zM D e) = 16 by rw [eq_c16 (by omega)]; exact e1)]
    by_cases e2 : zM D e = 1
    · rw [if_pos (show nI (zM D e) = 1 by rw [e2]; rfl), decide_eq_true (Or.inr (Or.inl e2))]; rfl
    · rw [if_neg (show ¬ nI (zM D e) = 1 by rw [eq_c1 (by omega)]; exact e2)]
      by_cases e3 : zM D e = 20
      · rw [if_pos (show nI (zM D e) = 20 by rw [e3]; rfl), decide_eq_true (Or.inr (Or.inr e3))]; rfl
      · rw [if_neg (show ¬ nI (zM D e) = 20 by rw [eq_c20 (by omega)]; exact e3), decide_eq_false (fun q => q.elim e1 (fun q => q.elim e2 e3))]; rfl
theorem m_ob {a : aS} {D : dS} (h : wB a D) {τ : gS} (tm : tM τ D) {e : Nat} (he : e < zN D) : f_M_isObject τ (nI e) = some (bI (ob D e), τ) := by
  have hn := h.1
  have hM := h.2.2.2.1 e he
  have v1 := (tm.2.1 e he).1
  unfold f_M_isObject ob
  rw [gLd_n (by omega) (by decide), v1]
  by_cases e1 : zM D e = 16
  · rw [if_pos (show nI (zM D e) = 16 by rw [e1]; rfl), decide_eq_true (Or.inl e1)]; rfl
  · rw [if_neg (show ¬ nI (zM D e) = 16 by rw [eq_c16 (by omega)]; exact e1), gLd_n (by omega) (by decide), v1]
    by_cases e2 : zM D e = 1
    · rw [if_pos (show nI (zM D e) = 1 by rw [e2]; rfl), decide_eq_true (Or.inr (Or.inl e2))]; rfl
    · rw [if_neg (show ¬ nI (zM D e) = 1 by rw [eq_c1 (by omega)]; exact e2), gLd_n (by omega) (by decide), v1]
      by_cases e3 : zM D e = 20
      · rw [if_pos (show nI (zM D e) = 20 by rw [e3]; rfl), decide_eq_true (Or.inr (Or.inr e3))]; rfl
      · rw [if_neg (show ¬ nI (zM D e) = 20 by rw [eq_c20 (by omega)]; exact e3), decide_eq_false (fun q => q.elim e1 (fun q => q.elim e2 e3))]; rfl
theorem if_b {σ : gS} {P : Prop} (d : Decidable P) : (if P then some (1, σ) else some (0, σ) : Option (Int32 × gS)) = some (bI (decide P), σ) := by
  by_cases h : P
  · rw [if_pos h, decide_eq_true h]; rfl
  · rw [if_neg h, decide_eq_false h]; rfl
theorem pMn_s {D : dS} {e q : Nat} (h : zP D e = some q) : pMn D e = zM D q := by unfold pMn; rw [h]
theorem par_ex {a : aS} {D : dS} (h : wB a D) {e : Nat} (he : e < zN D) (h0 : 0 < e) : ∃ q, zP D e = some q ∧ q < e := by
  cases e1 : zP D e with
  | none =>
    have := (h.2.2.2.2.2.2.2.2.2.1 e he).mp e1
    omega
  | some q => exact ⟨q, rfl, h.2.2.2.2.1 e q he e1⟩
theorem c_bear {a : aS} {D : dS} (h : wB a D) {σ : gS} (tc : tC σ D) {e v : Nat} (he : e < zN D) (h0 : 0 < e) (hv : v < 387420489) : f_H_mayBear σ (nI e) (nI v) = some (bI (msB D e v), σ) := by
  have hn := h.1
  have hM := h.2.2.2.1 e he
  obtain ⟨T, hT⟩ := gFx
  obtain ⟨u1, u2, u3, u4, u5, u6, u7⟩ := tc.2.2.2.1 e he
  obtain ⟨q, p1, p2⟩ := par_ex h he h0
  have hMq := h.2.2.2.1 q (by omega)
  have b1 : R_H_mayBear (T + 49999) 1 [nI (zM D e)] σ = some (bI (decide (zM D e = 1)), σ) := by
    rw [show T + 49999 = T + 49998 + 1 from rfl, st_H_mayBear_1]
    unfold B_H_mayBear_1
    by_cases x : zM D e = 1
    · rw [if_pos (show nI (zM D e) = 1 by rw [x]; rfl), decide_eq_true x]; rfl
    · rw [if_neg (show ¬ nI (zM D e) = 1 by rw [eq_c1 (by omega)]; exact x), decide_eq_false x]; rfl
  rw [fx_H_mayBear hT]
  unfold B_H_mayBear_0 msB
  rw [gLd_n (by omega) (by decide), u1]
  by_cases v8 : v = 8
  · rw [if_pos (show nI v = 8 by rw [v8]; rfl), if_pos v8]
    by_cases x : zM D e = 18
    · rw [if_pos (show nI (zM D e) = 18 by rw [x]; rfl), decide_eq_true x]; rfl
    · rw [if_neg (show ¬ nI (zM D e) = 18 by rw [eq_c18 (by omega)]; exact x), decide_eq_false x]; rfl
  · rw [if_neg (show ¬ nI v = 8 by rw [eq_c8 (by omega)]; exact v8), if_neg v8]
    by_cases v14 : v = 14
    · rw [if_pos (show nI v = 14 by rw [v14]; rfl), b1, if_pos (Or.inl v14)]
    · rw [if_neg (show ¬ nI v = 14 by rw [eq_c14 (by omega)]; exact v14)]
      by_cases v15 : v = 15
      · rw [if_pos (show nI v = 15 by rw [v15]; rfl), b1, if_pos (Or.inr v15)]
      · rw [if_neg (show ¬ nI v = 15 by rw [eq_c15 (by omega)]; exact v15), if_neg (show ¬ (v = 14 ∨ v = 15) from fun z => z.elim v14 v15)]
        by_cases v47 : v = 47
        · rw [if_pos (show nI v = 47 by rw [v47]; rfl), if_pos v47, gLd_n (by omega) (by decide), u2, p1, show oI (some q) = nI q from rfl, gLd_n (by omega) (by decide), (tc.2.2.2.1 q (by omega)).1, pMn_s p1]
          by_cases x : zM D q = 1
          · rw [if_pos (show nI (zM D q) = 1 by rw [x]; rfl), decide_eq_true x]; rfl
          · rw [if_neg (show ¬ nI (zM D q) = 1 by rw [eq_c1 (by omega)]; exact x), decide_eq_false x]; rfl
        · rw [if_neg (show ¬ nI v = 47 by rw [eq_c47 (by omega)]; exact v47), if_neg v47]
          by_cases v247 : v = 247
          · rw [if_pos (show nI v = 247 by rw [v247]; rfl), if_pos v247, c_ob h tc he, gBd_s, nr_b]
          · rw [if_neg (show ¬ nI v = 247 by rw [eq_c247 (by omega)]; exact v247), if_neg v247]; rfl
theorem m_may {a : aS} {D : dS} (h : wB a D) {τ : gS} (tm : tM τ D) {e v : Nat} (he : e < zN D) (h0 : 0 < e) (hv : v < 387420489) : f_M_mayStand τ (nI e) (nI v) = some (bI (msB D e v), τ) := by
  have hn := h.1
  have hM := h.2.2.2.1 e he
  obtain ⟨T, hT⟩ := gFx
  obtain ⟨u1, u2, u3, u4, u5⟩ := tm.2.1 e he
  obtain ⟨q, p1, p2⟩ := par_ex h he h0
  have hMq := h.2.2.2.1 q (by omega)
  have k47 : nI v = 47 ↔ v = 47 := eq_c47 (by omega)
  have k247 : nI v = 247 ↔ v = 247 := eq_c247 (by omega)
  have k8 : nI v = 8 ↔ v = 8 := eq_c8 (by omega)
  have k14 : nI v = 14 ↔ v = 14 := eq_c14 (by omega)
  have k15 : nI v = 15 ↔ v = 15 := eq_c15 (by omega)
  have b4 : ∀ t : Nat, R_M_mayStand (t + 1) 4 [nI e] τ = some (bI (decide (zM D e = 1)), τ) := fun t => by
    rw [st_M_mayStand_4]
    unfold B_M_mayStand_4
    rw [gLd_n (by omega) (by decide), u1]
    by_cases x : zM D e = 1
    · rw [if_pos (show nI (zM D e) = 1 by rw [x]; rfl), decide_eq_true x]; rfl
    · rw [if_neg (show ¬ nI (zM D e) = 1 by rw [eq_c1 (by omega)]; exact x), decide_eq_false x]; rfl
  have b3 : ∀ t : Nat, R_M_mayStand (t + 2) 3 [nI e, nI v] τ = some (bI (if v = 14 ∨ v = 15 then decide (zM D e = 1) else false), τ) := fun t => by
    rw [show t + 2 = t + 1 + 1 from rfl, st_M_mayStand_3]
    unfold B_M_mayStand_3
    by_cases v14 : v = 14
    · rw [if_pos (k14.mpr v14), b4, if_pos (Or.inl v14)]
    · rw [if_neg (fun z => v14 (k14.mp z))]
      by_cases v15 : v = 15
      · rw [if_pos (k15.mpr v15), b4, if_pos (Or.inr v15)]
      · rw [if_neg (fun z => v15 (k15.mp z)), if_neg (show ¬ (v = 14 ∨ v = 15) from fun z => z.elim v14 v15)]; rfl
  have b2 : ∀ t : Nat, R_M_mayStand (t + 3) 2 [nI e, nI v] τ = some (bI (if v = 8 then decide (zM D e = 18) else if v = 14 ∨ v = 15 then decide (zM D e = 1) else false), τ) := fun t => by
    rw [show t + 3 = t + 2 + 1 from rfl, st_M_mayStand_2]
    unfold B_M_mayStand_2
    by_cases v8 : v = 8
    · rw [if_pos (k8.mpr v8), if_pos v8, gLd_n (by omega) (by decide), u1]
      by_cases x : zM D e = 18
      · rw [if_pos (show nI (zM D e) = 18 by rw [x]; rfl), decide_eq_true x]; rfl
      · rw [if_neg (show ¬ nI (zM D e) = 18 by rw [eq_c18 (by omega)]; exact x), b3, if_neg (show ¬ (v = 14 ∨ v = 15) by omega), decide_eq_false x]
    · rw [if_neg (fun z => v8 (k8.mp z)), if_neg v8, b3]
  have b1 : ∀ t : Nat, R_M_mayStand (t + 4) 1 [nI e, nI v] τ = some (bI (if v = 8 then decide (zM D e = 18) else if v = 14 ∨ v = 15 then decide (zM D e = 1) else if v = 247 then ob D e else false), τ) := fun t => by
    rw [show t + 4 = t + 3 + 1 from rfl, st_M_mayStand_1]
    unfold B_M_mayStand_1
    by_cases v247 : v = 247
    · rw [if_pos (k247.mpr v247), m_ob h tm he, gBd_s, if_neg (show ¬ v = 8 by omega), if_neg (show ¬ (v = 14 ∨ v = 15) by omega), if_pos v247]
      cases x : ob D e with
      | false => rw [bI_f, if_pos rfl, b2, if_neg (show ¬ v = 8 by omega), if_neg (show ¬ (v = 14 ∨ v = 15) by omega)]; rfl
      | true => rw [bI_t, if_neg i10]
    · rw [if_neg (fun z => v247 (k247.mp z)), b2, if_neg v247]
  rw [fx_M_mayStand hT]
  unfold B_M_mayStand_0 msB
  by_cases v47 : v = 47
  · rw [if_pos (k47.mpr v47), gLd_n (by omega) (by decide), u2, p1, show oI (some q) = nI q from rfl, gLd_n (by omega) (by decide), (tm.2.1 q (by omega)).1, pMn_s p1, if_neg (show ¬ v = 8 by omega), if_neg (show ¬ (v = 14 ∨ v = 15) by omega), if_pos v47]
    by_cases x : zM D q = 1
    · rw [if_pos (show nI (zM D q) = 1 by rw [x]; rfl), decide_eq_true x]; rfl
    · rw [if_neg (show ¬ nI (zM D q) = 1 by rw [eq_c1 (by omega)]; exact x), show T + 49999 = T + 49995 + 4 from rfl, b1, if_neg (show ¬ v = 8 by omega), if_neg (show ¬ (v = 14 ∨ v = 15) by omega), if_neg (show ¬ v = 247 by omega), decide_eq_false x]
  · rw [if_neg (fun z => v47 (k47.mp z)), show T + 49999 = T + 49995 + 4 from rfl, b1, if_neg v47]
/-- all attributes from i on, m of them, may stand with e and show counts -/
def asB (a : aS) (D : dS) (e : Nat) : Nat → Nat → Bool
  | _, 0 => true
  | i, m + 1 => (msB D e (zQ D i) && (cntA a D i).isSome) && asB a D e (i + 1) m
theorem asB_in {a : aS} {D : dS} {e : Nat} : ∀ m i, asB a D e i m = true → ∀ r, i ≤ r → r < i + m → msB D e (zQ D r) = true ∧ cntA a D r ≠ none := by
  intro m
  induction m with
  | zero => intro i _ r h1 h2; omega
  | succ m ih =>
    intro i h r h1 h2
    have h : ((msB D e (zQ D i) && (cntA a D i).isSome) && asB a D e (i + 1) m) = true := h
    simp only [Bool.and_eq_true] at h
    by_cases e1 : r = i
    · rw [e1]
      refine ⟨h.1.1, fun q => ?_⟩
      have := h.1.2
      rw [q] at this
      cases this
    · exact ih (i + 1) h.2 r (by omega) (by omega)
def atS (a : aS) (D : dS) (e : Nat) : Bool := asB a D e (zA D e) (zB D e)
theorem atS_in {a : aS} {D : dS} (h : wB a D) {e v : Nat} (he : e < zN D) (hs : atS a D e = true) (hf : fA D e v ≠ none) : msB D e v = true ∧ cIn a D e v ≠ none := by
  cases e1 : fA D e v with
  | none => exact absurd e1 hf
  | some i =>
    obtain ⟨w1, w2, w3, w4⟩ := fA_lt h he e1
    have := asB_in _ _ hs i w2 w3
    rw [w4] at this
    refine ⟨this.1, ?_⟩
    unfold cIn
    rw [e1]
    exact this.2
theorem c_atS {a : aS} (ha : okA a) {D : dS} (h : wB a D) {σ : gS} (hc : absC σ a) (tc : tC σ D) {e : Nat} (he : e < zN D) (h0 : 0 < e) : f_H_hasSoundAttributes σ (nI e) = some (bI (atS a D e), σ) := by
  have hn := h.1
  have hL := h.2.1
  have hA := h.2.2.2.2.2.1 e he
  obtain ⟨T, hT⟩ := gFx
  obtain ⟨u1, u2, u3, u4, u5, u6, u7⟩ := tc.2.2.2.1 e he
  have lp : ∀ (m i t : Nat), i + m = zA D e + zB D e → m + 1 ≤ t → R_H_hasSoundAttributes t 1 [nI e, nI (zA D e + zB D e), nI i] σ = some (bI (asB a D e i m), σ) := by
    intro m
    induction m with
    | zero =>
      intro i t hi ht
      obtain ⟨t, rfl⟩ : ∃ t', t = t' + 1 := ⟨t - 1, by omega⟩
      rw [st_H_hasSoundAttributes_1]
      unfold B_H_hasSoundAttributes_1
      rw [if_pos (by rw [n_le (by omega) (by omega)]; omega)]
      rfl
    | succ m ih =>
      intro i t hi ht
      obtain ⟨t, rfl⟩ : ∃ t', t = t' + 1 := ⟨t - 1, by omega⟩
      have hq := (h.2.2.2.2.2.2.1 i (by omega)).1
      rw [st_H_hasSoundAttributes_1]
      unfold B_H_hasSoundAttributes_1
      rw [if_neg (by rw [n_le (by omega) (by omega)]; omega), gLd_n (by omega) (by decide), (tc.2.2.2.2.1 i (by omega)).1, c_bear h tc he h0 hq, gBd_s]
      show _ = some (bI ((msB D e (zQ D i) && (cntA a D i).isSome) && asB a D e (i + 1) m), σ)
      cases x : msB D e (zQ D i) with
      | false => rw [bI_f, if_pos rfl]; rfl
      | true =>
        rw [bI_t, if_neg i10, c_cntO ha h hc tc (by omega), gBd_s]
        cases y : cntA a D i with
        | none => rw [if_pos (show oI none = -1 from rfl)]; rfl
        | some v =>
          have := cnt_lt ha y
          rw [if_neg (show ¬ oI (some v) = -1 from n_m1 (by omega)), add_c1, ih (i + 1) t (by omega) (by omega)]
          rfl
  rw [fx_H_hasSoundAttributes hT]
  unfold B_H_hasSoundAttributes_0
  rw [gLd_n (by omega) (by decide), gLd_n (by omega) (by decide), u4, u5, gLd_n (by omega) (by decide), u4, nI_add]
  exact lp (zB D e) (zA D e) (T + 49999) rfl (by omega)
/-! the number that a text shows -/
def bigN : Int64 := 1099511627776
def nF : Int64 → List Nat → Option Int64
  | v, [] => some v
  | v, c :: l => if gB c = true then nF ((10 * v + (nI c).toInt64) - 48) l else none
def rgN (z : Int64) : Int64 := if z = z.toInt32.toInt64 then z else bigN
def nD (neg : Bool) (l : List Nat) : Int64 := if l = [] ∨ 10 < l.length then bigN else match nF 0 l with
  | none => bigN
  | some v => rgN (if neg = true then -v else v)
def nV (l : List Nat) : Int64 := match l with
  | [] => bigN
  | c :: l' => if c = 45 then nD true l' else nD false (c :: l')
theorem rg_m (z : Int64) : (if lg_cmp z (-2147483648) < 0 then bigN else if lg_cmp z 2147483647 ≤ 0 then z else bigN) = rgN z := by
  unfold rgN
  have e1 : lg_cmp z (-2147483648) < 0 ↔ z.toInt < -2147483648 := by rw [lg_cmp_lt, Int64.lt_iff_toInt_lt]; rfl
  have e2 : lg_cmp z 2147483647 ≤ 0 ↔ z.toInt ≤ 2147483647 := by rw [lg_cmp_le, Int64.le_iff_toInt_le]; rfl
  by_cases h1 : z.toInt < -2147483648
  · rw [if_pos (e1.mpr h1), if_neg (fun q => by
      have q := congrArg Int64.toInt q
      rw [Int32.toInt_toInt64] at q
      have := Int32.le_toInt z.toInt32
      omega)]
  · rw [if_neg (fun q => h1 (e1.mp q))]
    by_cases h2 : z.toInt ≤ 2147483647
    · rw [if_pos (e2.mpr h2), if_pos (lg_i2l_l2i (by omega) (by omega)).symm]
    · rw [if_neg (fun q => h2 (e2.mp q)), if_neg (fun q => by
        have q := congrArg Int64.toInt q
        rw [Int32.toInt_toInt64] at q
        have := Int32.toInt_lt z.toInt32
        omega)]
