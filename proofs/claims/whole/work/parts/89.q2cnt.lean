/-! decode: counts, versions, headers -/
def gB (c : Nat) : Bool := decide (48 ≤ c ∧ c ≤ 57)
theorem gB_t {c : Nat} : gB c = true ↔ isG c := by
  unfold gB isG
  exact decide_eq_true_iff
def cntA (a : aS) (D : dS) (i : Nat) : Option Nat := if zT D i - zF D i = 1 then (if gB (chA a (zF D i)) = true then some (dv a (zF D i) 1) else none) else if zT D i - zF D i = 2 then (if gB (chA a (zF D i)) = true then (if gB (chA a (zF D i + 1)) = true then some (dv a (zF D i) 2) else none) else none) else none
theorem cnt_lt {a : aS} (ha : okA a) {D : dS} {i v : Nat} (h : cntA a D i = some v) : v < 100 := by
  have l0 := chA_lt ha (zF D i)
  have l1 := chA_lt ha (zF D i + 1)
  unfold cntA at h
  by_cases w1 : zT D i - zF D i = 1
  · rw [if_pos w1] at h
    by_cases g0 : gB (chA a (zF D i)) = true
    · rw [if_pos g0] at h
      have g := gB_t.mp g0
      unfold isG at g
      have h := Option.some.inj h
      rw [dv_s, show dv a (zF D i) 0 = 0 from rfl, show zF D i + 0 = zF D i from rfl] at h
      omega
    · rw [if_neg g0] at h; cases h
  · rw [if_neg w1] at h
    by_cases w2 : zT D i - zF D i = 2
    · rw [if_pos w2] at h
      by_cases g0 : gB (chA a (zF D i)) = true
      · rw [if_pos g0] at h
        by_cases g1 : gB (chA a (zF D i + 1)) = true
        · rw [if_pos g1] at h
          have g := gB_t.mp g0
          have g' := gB_t.mp g1
          unfold isG at g g'
          have h := Option.some.inj h
          rw [dv_s, dv_s, show dv a (zF D i) 0 = 0 from rfl, show zF D i + 0 = zF D i from rfl] at h
          omega
        · rw [if_neg g1] at h; cases h
      · rw [if_neg g0] at h; cases h
    · rw [if_neg w2] at h; cases h
theorem c_cntO {a : aS} (ha : okA a) {D : dS} (h : wB a D) {σ : gS} (hc : absC σ a) (ht : tC σ D) {i : Nat} (hi : i < zW D) : f_H_countOf σ (nI i) = some (oI (cntA a D i), σ) := by
  have hpl := ha.2.1
  have hW := h.2.1
  obtain ⟨q1, q2, q3⟩ := h.2.2.2.2.2.2.1 i hi
  obtain ⟨T, hT⟩ := gFx
  obtain ⟨t1, t2, t3⟩ := ht.2.2.2.2.1 i hi
  have step : ∀ (w k t : Nat), k < w → w < 1000 → zF D i + k < (sP a).length → R_H_countOf (t + 1) 2 [nI i, nI w, nI (dv a (zF D i) k), nI k] σ = if gB (chA a (zF D i + k)) = true then R_H_countOf t 2 [nI i, nI w, nI (dv a (zF D i) (k + 1)), nI (k + 1)] σ else some (-1, σ) := by
    intro w k t hk hw hin
    have c32 := (chA_p ha hin).1
    rw [st_H_countOf_2]
    unfold B_H_countOf_2
    rw [if_neg (show ¬ nI w ≤ nI k by rw [n_le (by omega) (by omega)]; omega), gLd_n (by omega) (by decide), t2, nI_add, c_code ha hc (by omega), gBd_s]
    by_cases g : gB (chA a (zF D i + k)) = true
    · have g' := gB_t.mp g
      rw [if_pos g, (c_dig ha _ _).1 g', gBd_s, if_neg i10, cI_in (by omega), n_dvC g'.1, add_c1, dv_s]
    · rw [if_neg g, (c_dig ha _ _).2 (fun q => g (gB_t.mpr q)), gBd_s, if_pos rfl]
  have last : ∀ (w t : Nat) (v : Int32), R_H_countOf (t + 1) 2 [nI i, nI w, v, nI w] σ = some (v, σ) := by
    intro w t v
    rw [st_H_countOf_2]
    unfold B_H_countOf_2
    rw [if_pos (Int32.le_refl _)]
  have e1 : ∀ (t : Nat) (w : Int32), R_H_countOf (t + 1) 1 [nI i, w] σ = R_H_countOf t 2 [nI i, w, 0, 0] σ := by
    intro t w
    rw [st_H_countOf_1]
    rfl
  rw [fx_H_countOf hT]
  unfold B_H_countOf_0 cntA
  rw [gLd_n (by omega) (by decide), t3]
  by_cases w1 : zT D i - zF D i = 1
  · have s := step 1 0 (T + 49997) (by decide) (by decide) (by omega)
    rw [show nI 1 = 1 from rfl, show dv a (zF D i) 0 = 0 from rfl, nI_0, show zF D i + 0 = zF D i from rfl] at s
    rw [w1, if_pos (show nI 1 = 1 from rfl), if_pos rfl, show nI 1 = 1 from rfl, show T + 49999 = T + 49998 + 1 from rfl, e1, show T + 49998 = T + 49997 + 1 from rfl, s]
    by_cases g0 : gB (chA a (zF D i)) = true
    · rw [if_pos g0, if_pos g0, show T + 49997 = T + 49996 + 1 from rfl]
      exact last 1 (T + 49996) _
    · rw [if_neg g0, if_neg g0]
      rfl
  · rw [if_neg (show ¬ nI (zT D i - zF D i) = 1 by rw [eq_c1 (by omega)]; exact w1), if_neg w1]
    by_cases w2 : zT D i - zF D i = 2
    · have s := step 2 0 (T + 49997) (by decide) (by decide) (by omega)
      have s2 := step 2 1 (T + 49996) (by decide) (by decide) (by omega)
      rw [show nI 2 = 2 from rfl, show dv a (zF D i) 0 = 0 from rfl, nI_0, show zF D i + 0 = zF D i from rfl] at s
      rw [show nI 2 = 2 from rfl] at s2
      rw [w2, if_pos (show nI 2 = 2 from rfl), if_pos rfl, show nI 2 = 2 from rfl, show T + 49999 = T + 49998 + 1 from rfl, e1, show T + 49998 = T + 49997 + 1 from rfl, s]
      by_cases g0 : gB (chA a (zF D i)) = true
      · rw [if_pos g0, if_pos g0, show T + 49997 = T + 49996 + 1 from rfl, s2]
        by_cases g1 : gB (chA a (zF D i + 1)) = true
        · rw [if_pos g1, if_pos g1, show T + 49996 = T + 49995 + 1 from rfl]
          exact last 2 (T + 49995) _
        · rw [if_neg g1, if_neg g1]
          rfl
      · rw [if_neg g0, if_neg g0]
        rfl
    · rw [if_neg (show ¬ nI (zT D i - zF D i) = 2 by rw [eq_c2 (by omega)]; exact w2), if_neg w2]
      rfl
theorem m_cnt' {a : aS} (ha : okA a) {D : dS} (h : wB a D) {τ : gS} (hm : absM τ a) (ht : tM τ D) {i : Nat} (hi : i < zW D) : f_M_countOf τ (nI i) = some (oI (cntA a D i), τ) := by
  have hpl := ha.2.1
  have hW := h.2.1
  obtain ⟨q1, q2, q3⟩ := h.2.2.2.2.2.2.1 i hi
  obtain ⟨T, hT⟩ := gFx
  obtain ⟨t1, t2, t3⟩ := ht.2.2.1 i hi
  have pg7 : ∀ q, q < (sP a).length → τ.2 7 q = nI (chA a q) := fun q hq => hm.2.2.2.2.2.1 q hq
  have step : ∀ (k t : Nat), zF D i + k < zT D i → R_M_countOf (t + 1) 1 [nI i, nI (dv a (zF D i) k), nI (zF D i + k)] τ = if gB (chA a (zF D i + k)) = true then R_M_countOf t 1 [nI i, nI (dv a (zF D i) (k + 1)), nI (zF D i + (k + 1))] τ else some (-1, τ) := by
    intro k t hk
    have l := chA_lt ha (zF D i + k)
    rw [st_M_countOf_1]
    unfold B_M_countOf_1
    rw [gLd_n (by omega) (by decide), t3, if_neg (show ¬ nI (zT D i) ≤ nI (zF D i + k) by rw [n_le (by omega) (by omega)]; omega), gLd_n (by omega) (by decide), pg7 _ (by omega)]
    by_cases g : gB (chA a (zF D i + k)) = true
    · have g' := gB_t.mp g
      have g1 : 48 ≤ chA a (zF D i + k) := g'.1
      have g2 : chA a (zF D i + k) ≤ 57 := g'.2
      rw [if_pos g, if_neg (show ¬ nI (chA a (zF D i + k)) < 48 by rw [lt_c48 (by omega)]; omega), gLd_n (by omega) (by decide), pg7 _ (by omega), if_pos (show nI (chA a (zF D i + k)) ≤ 57 by rw [le_c57 (by omega)]; omega), gLd_n (by omega) (by decide), pg7 _ (by omega), n_dvM g1, add_c1, dv_s]
      rfl
    · rw [if_neg g]
      have g' : ¬ isG (chA a (zF D i + k)) := fun q => g (gB_t.mpr q)
      by_cases e : chA a (zF D i + k) < 48
      · rw [if_pos (show nI (chA a (zF D i + k)) < 48 by rw [lt_c48 (by omega)]; exact e)]
      · rw [if_neg (show ¬ nI (chA a (zF D i + k)) < 48 by rw [lt_c48 (by omega)]; exact e), gLd_n (by omega) (by decide), pg7 _ (by omega), if_neg (show ¬ nI (chA a (zF D i + k)) ≤ 57 by rw [le_c57 (by omega)]; exact fun q => g' ⟨by omega, q⟩)]
  have last : ∀ (k t : Nat) (v : Int32), zF D i + k = zT D i → R_M_countOf (t + 1) 1 [nI i, v, nI (zF D i + k)] τ = some (v, τ) := by
    intro k t v hk
    rw [st_M_countOf_1]
    unfold B_M_countOf_1
    rw [gLd_n (by omega) (by decide), t3, if_pos (show nI (zT D i) ≤ nI (zF D i + k) by rw [n_le (by omega) (by omega)]; omega)]
  rw [fx_M_countOf hT]
  unfold B_M_countOf_0 cntA
  rw [if_pos (show (0 : Int32) ≤ nI i from nI_pos' (by omega)), gLd_n (by omega) (by decide), gLd_n (by omega) (by decide), t3, t2, pk_sub q2]
  by_cases w1 : zT D i - zF D i = 1
  · have s := step 0 (T + 49998) (by omega)
    rw [show dv a (zF D i) 0 = 0 from rfl, nI_0, show zF D i + 0 = zF D i from rfl] at s
    rw [w1, if_neg (show ¬ nI 1 < 1 by decide), if_pos (show nI 1 ≤ 2 by decide), if_pos rfl, gLd_n (by omega) (by decide), t2, show T + 49999 = T + 49998 + 1 from rfl, s]
    by_cases g0 : gB (chA a (zF D i)) = true
    · rw [if_pos g0, if_pos g0, show T + 49998 = T + 49997 + 1 from rfl]
      exact last 1 (T + 49997) _ (by omega)
    · rw [if_neg g0, if_neg g0]
      rfl
  · rw [if_neg w1]
    by_cases w2 : zT D i - zF D i = 2
    · have s := step 0 (T + 49998) (by omega)
      have s2 := step 1 (T + 49997) (by omega)
      rw [show dv a (zF D i) 0 = 0 from rfl, nI_0, show zF D i + 0 = zF D i from rfl] at s
      rw [w2, if_neg (show ¬ nI 2 < 1 by decide), if_pos (show nI 2 ≤ 2 by decide), if_pos rfl, gLd_n (by omega) (by decide), t2, show T + 49999 = T + 49998 + 1 from rfl, s]
      by_cases g0 : gB (chA a (zF D i)) = true
      · rw [if_pos g0, if_pos g0, show T + 49998 = T + 49997 + 1 from rfl, s2]
        by_cases g1 : gB (chA a (zF D i + 1)) = true
        · rw [if_pos g1, if_pos g1, show T + 49997 = T + 49996 + 1 from rfl]
          exact last 2 (T + 49996) _ (by omega)
        · rw [if_neg g1, if_neg g1]
          rfl
      · rw [if_neg g0, if_neg g0]
        rfl
    · rw [if_neg w2]
      by_cases e : zT D i - zF D i < 1
      · rw [if_pos (show nI (zT D i - zF D i) < 1 by rw [lt_c1 (by omega)]; exact e)]
        rfl
      · rw [if_neg (show ¬ nI (zT D i - zF D i) < 1 by rw [lt_c1 (by omega)]; exact e), if_neg (show ¬ nI (zT D i - zF D i) ≤ 2 by rw [le_c2 (by omega)]; omega)]
        rfl
/-- the count that e's attribute v shows -/
def cIn (a : aS) (D : dS) (e v : Nat) : Option Nat := match fA D e v with
  | none => none
  | some i => cntA a D i
theorem cIn_lt {a : aS} (ha : okA a) {D : dS} {e v n : Nat} (h : cIn a D e v = some n) : n < 100 := by
  unfold cIn at h
  cases e1 : fA D e v with
  | none => rw [e1] at h; cases h
  | some i => rw [e1] at h; exact cnt_lt ha h
theorem c_cin {a : aS} (ha : okA a) {D : dS} (h : wB a D) {σ : gS} (hc : absC σ a) (ht : tC σ D) {e v : Nat} (he : e < zN D) (hv : v < 387420489) {x : Int32} (hx : x = nI v) : f_H_countIn σ (nI e) x = some (oI (cIn a D e v), σ) := by
  have hW := h.2.1
  unfold f_H_countIn cIn
  rw [hx, c_find h ht he hv, gBd_s]
  cases e1 : fA D e v with
  | none => rw [if_pos (show oI none = -1 from rfl)]; rfl
  | some i =>
    have hi := (fA_lt h he e1).1
    rw [if_neg (show ¬ oI (some i) = -1 from n_m1 (by omega)), show oI (some i) = nI i from rfl, c_cntO ha h hc ht hi, gBd_s]
theorem m_cin {a : aS} (ha : okA a) {D : dS} (h : wB a D) {τ : gS} (hm : absM τ a) (ht : tM τ D) {e v : Nat} (he : e < zN D) (hv : v < 387420489) {x : Int32} (hx : x = nI v) : f_M_countIn τ (nI e) x = some (oI (cIn a D e v), τ) := by
  have hW := h.2.1
  unfold f_M_countIn cIn
  rw [hx, m_find h ht he hv, gBd_s]
  cases e1 : fA D e v with
  | none =>
    obtain ⟨T, hT⟩ := gFx
    have : f_M_countOf τ (oI none) = some (-1, τ) := by
      rw [fx_M_countOf hT]
      unfold B_M_countOf_0
      rw [if_neg (show ¬ (0 : Int32) ≤ oI none by decide)]
    rw [this, gBd_s]
    rfl
  | some i =>
    have hi := (fA_lt h he e1).1
    rw [show oI (some i) = nI i from rfl, m_cnt' ha h hm ht hi, gBd_s]
def oneA (a : aS) (D : dS) (e v : Nat) : Bool := match fA D e v with
  | none => false
  | some i => decide (zT D i - zF D i = 1 ∧ chA a (zF D i) = 49)
theorem c_one {a : aS} (ha : okA a) {D : dS} (h : wB a D) {σ : gS} (hc : absC σ a) (ht : tC σ D) {e v : Nat} (he : e < zN D) (hv : v < 387420489) {x : Int32} (hx : x = nI v) : f_H_isOne σ (nI e) x = some (bI (oneA a D e v), σ) := by
  have hW := h.2.1
  have hpl := ha.2.1
  unfold f_H_isOne oneA
  rw [hx, c_find h ht he hv, gBd_s]
  cases e1 : fA D e v with
  | none => rw [if_pos (show oI none = -1 from rfl)]; rfl
  | some i =>
    have hi := (fA_lt h he e1).1
    obtain ⟨q1, q2, q3⟩ := h.2.2.2.2.2.2.1 i hi
    obtain ⟨t1, t2, t3⟩ := ht.2.2.2.2.1 i hi
    have e49 : cI a (zF D i) = 49 ↔ chA a (zF D i) = 49 := cI_eq ha (c := 49) (by decide) (by decide)
    rw [if_neg (show ¬ oI (some i) = -1 from n_m1 (by omega)), show oI (some i) = nI i from rfl, gLd_n (by omega) (by decide), t3]
    show _ = some (bI (decide (zT D i - zF D i = 1 ∧ chA a (zF D i) = 49)), σ)
    by_cases w1 : zT D i - zF D i = 1
    · rw [w1, if_pos (show nI 1 = 1 from rfl), gLd_n (by omega) (by decide), t2, c_code ha hc (by omega), gBd_s]
      by_cases w2 : chA a (zF D i) = 49
      · rw [if_pos (e49.mpr w2), decide_eq_true ⟨rfl, w2⟩]; rfl
      · rw [if_neg (fun q => w2 (e49.mp q)), decide_eq_false (fun q => w2 q.2)]; rfl
    · rw [if_neg (show ¬ nI (zT D i - zF D i) = 1 by rw [eq_c1 (by omega)]; exact w1), decide_eq_false (fun q => w1 q.1)]; rfl
theorem m_one {a : aS} (ha : okA a) {D : dS} (h : wB a D) {τ : gS} (hm : absM τ a) (ht : tM τ D) {e v : Nat} (he : e < zN D) (hv : v < 387420489) {x : Int32} (hx : x = nI v) : f_M_isOne τ (nI e) x = some (bI (oneA a D e v), τ) := by
  have hW := h.2.1
  have hpl := ha.2.1
  unfold f_M_isOne oneA
  rw [hx, m_find h ht he hv, gBd_s]
  cases e1 : fA D e v with
  | none => rw [if_pos (show oI none < 0 by decide)]; rfl
  | some i =>
    have hi := (fA_lt h he e1).1
    obtain ⟨q1, q2, q3⟩ := h.2.2.2.2.2.2.1 i hi
    obtain ⟨t1, t2, t3⟩ := ht.2.2.1 i hi
    have l := chA_lt ha (zF D i)
    have pg7 : τ.2 7 (zF D i) = nI (chA a (zF D i)) := hm.2.2.2.2.2.1 _ (show zF D i < (sP a).length by omega)
    rw [if_neg (show ¬ oI (some i) < 0 from nI_pos (by omega)), show oI (some i) = nI i from rfl, gLd_n (by omega) (by decide), gLd_n (by omega) (by decide), t3, t2, pk_sub q2]
    show _ = some (bI (decide (zT D i - zF D i = 1 ∧ chA a (zF D i) = 49)), τ)
    by_cases w1 : zT D i - zF D i = 1
    · rw [w1, if_pos (show nI 1 = 1 from rfl), gLd_n (by omega) (by decide), t2, gLd_n (by omega) (by decide), pg7]
      by_cases w2 : chA a (zF D i) = 49
      · rw [if_pos (show nI (chA a (zF D i)) = 49 by rw [w2]; rfl), decide_eq_true ⟨rfl, w2⟩]; rfl
      · rw [if_neg (show ¬ nI (chA a (zF D i)) = 49 from fun q => w2 ((n_eq (b := 49) (by omega) (by decide)).mp q)), decide_eq_false (fun q => w2 q.2)]; rfl
    · rw [if_neg (show ¬ nI (zT D i - zF D i) = 1 by rw [eq_c1 (by omega)]; exact w1), decide_eq_false (fun q => w1 q.1)]; rfl
/-! headers -/
theorem oI_0 {D : dS} {a : aS} (h : wB a D) {e : Nat} (he : e < zN D) {q : Nat} (hq : q < 420) : oI (zP D e) = nI q ↔ zP D e = some q := by
  have hn := h.1
  cases e1 : zP D e with
  | none => exact ⟨fun z => absurd z (m1_n (a := q) (by omega)), fun z => by cases z⟩
  | some o =>
    have := h.2.2.2.2.1 e o he e1
    constructor
    · intro z
      have z : nI o = nI q := z
      rw [n_eq (by omega) (by omega)] at z
      rw [z]
    · intro z
      rw [Option.some.inj z]
      rfl
def unB (a : aS) (r : Option Nat) : Bool := match r with
  | none => false
  | some v => if v < 32 then sU a v else false
theorem und {a : aS} (ha : okA a) {σ : gS} (hc : absC σ a) {r : Option Nat} (hr : ∀ v, r = some v → v < 100) : f_H_isUnderstood σ (oI r) = some (bI (unB a r), σ) := by
  unfold f_H_isUnderstood
  cases r with
  | none => rw [if_pos (show oI none < 0 by decide)]; rfl
  | some v =>
    have hv := hr v rfl
    rw [if_neg (show ¬ oI (some v) < 0 from nI_pos (by omega)), show oI (some v) = nI v from rfl]
    show _ = some (bI (if v < 32 then sU a v else false), σ)
    by_cases e : v < 32
    · rw [if_neg (show ¬ (32 : Int32) ≤ nI v by rw [c32_le (by omega)]; omega), gLd_n e (by decide), hc.2.2.2.2.2.2 v e, if_pos e]
      cases sU a v with
      | false => rw [bI_f, if_pos rfl]
      | true => rw [bI_t, if_neg i10]
    · rw [if_pos (show (32 : Int32) ≤ nI v by rw [c32_le (by omega)]; omega), if_neg e]; rfl
def badH (a : aS) (D : dS) (e : Nat) : Bool := decide (zP D e = some 0 ∧ zM D e = 8) && oneA a D e 13 && !(unB a (cIn a D e 11))
def hOK (a : aS) (D : dS) : Nat → Nat → Bool
  | _, 0 => true
  | e, d + 1 => !(badH a D e) && hOK a D (e + 1) d
theorem c_heads {a : aS} (ha : okA a) {D : dS} (h : wB a D) {σ : gS} (hc : absC σ a) (tc : tC σ D) : ∀ (d e t : Nat), e + d = zN D → 4 * d + 1 ≤ t → R_H_understandsHeaders t 1 [nI e] σ = some (bI (hOK a D e d), σ) := by
  have hn := h.1
  intro d
  induction d with
  | zero =>
    intro e t he ht
    obtain ⟨t, rfl⟩ : ∃ t', t = t' + 1 := ⟨t - 1, by omega⟩
    rw [st_H_understandsHeaders_1]
    unfold B_H_understandsHeaders_1
    rw [tc.1, if_pos (show nI (zN D) ≤ nI e by rw [n_le (by omega) (by omega)]; omega)]
    rfl
  | succ d ih =>
    intro e t he ht
    obtain ⟨t, rfl⟩ : ∃ t', t = t' + 1 + 1 + 1 + 1 := ⟨t - 4, by omega⟩
    have heN : e < zN D := by omega
    obtain ⟨u1, u2, u3, u4, u5, u6, u7⟩ := tc.2.2.2.1 e heN
    have hM := h.2.2.2.1 e heN
    have f4 : ∀ t', 4 * d + 1 ≤ t' → R_H_understandsHeaders (t' + 1) 4 [nI e] σ = some (bI (hOK a D (e + 1) d), σ) := fun t' ht' => by
      rw [st_H_understandsHeaders_4]
      unfold B_H_understandsHeaders_4
      rw [add_c1]
      exact ih (e + 1) t' (by omega) ht'
    have f2 : R_H_understandsHeaders (t + 1 + 1 + 1) 2 [nI e] σ = some (bI (hOK a D (e + 1) d), σ) := by
      rw [st_H_understandsHeaders_2]
      unfold B_H_understandsHeaders_2
      rw [st_H_understandsHeaders_3]
      unfold B_H_understandsHeaders_3
      rw [if_pos rfl, f4 t (by omega)]
    rw [st_H_understandsHeaders_1]
    unfold B_H_understandsHeaders_1
    rw [tc.1, if_neg (show ¬ nI (zN D) ≤ nI e by rw [n_le (by omega) (by omega)]; omega), gLd_n (by omega) (by decide), u2]
    show _ = some (bI (!(badH a D e) && hOK a D (e + 1) d), σ)
    by_cases p0 : zP D e = some 0
    · rw [if_pos (show oI (zP D e) = 0 by rw [p0]; rfl), gLd_n (by omega) (by decide), u1]
      by_cases n8 : zM D e = 8
      · rw [if_pos (show nI (zM D e) = 8 by rw [n8]; rfl), st_H_understandsHeaders_3]
        unfold B_H_understandsHeaders_3 badH
        rw [if_neg i10, c_one ha h hc tc heN (v := 13) (x := 13) (by decide) rfl, gBd_s, decide_eq_true ⟨p0, n8⟩]
        cases h1 : oneA a D e 13 with
        | false =>
          rw [bI_f, if_pos rfl, f4 (t + 1) (by omega)]
          rfl
        | true =>
          rw [bI_t, if_neg i10, c_cin ha h hc tc heN (v := 11) (x := 11) (by decide) rfl, gBd_s, und ha hc (fun v hv => cIn_lt ha hv), gBd_s]
          cases h2 : unB a (cIn a D e 11) with
          | false => rw [bI_f, if_pos rfl]; rfl
          | true => rw [bI_t, if_neg i10, f4 (t + 1) (by omega)]; rfl
      · rw [if_neg (show ¬ nI (zM D e) = 8 by rw [eq_c8 (by omega)]; exact n8), f2]
        unfold badH
        rw [decide_eq_false (fun q => n8 q.2)]
        rfl
    · rw [if_neg (show ¬ oI (zP D e) = 0 from fun q => p0 ((oI_0 h heN (q := 0) (by decide)).mp q)), f2]
      unfold badH
      rw [decide_eq_false (fun q => p0 q.1)]
      rfl
theorem m_heads {a : aS} (ha : okA a) {D : dS} (h : wB a D) {τ : gS} (hm : absM τ a) (tmm : tM τ D) (m2 : τ.1 2 = nI (zN D)) : ∀ (d e t : Nat), e + d = zN D → 2 * d + 1 ≤ t → R_M_must t 1 [nI e] τ = some (bI (!(hOK a D e d)), τ) := by
  have hn := h.1
  intro d
  induction d with
  | zero =>
    intro e t he ht
    obtain ⟨t, rfl⟩ : ∃ t', t = t' + 1 := ⟨t - 1, by omega⟩
    rw [st_M_must_1]
    unfold B_M_must_1
    rw [m2, if_pos (show nI (zN D) ≤ nI e by rw [n_le (by omega) (by omega)]; omega)]
    rfl
  | succ d ih =>
    intro e t he ht
    obtain ⟨t, rfl⟩ : ∃ t', t = t' + 1 + 1 := ⟨t - 2, by omega⟩
    have heN : e < zN D := by omega
    obtain ⟨v1, v2, v3, v4, v5⟩ := tmm.2.1 e heN
    have hM := h.2.2.2.1 e heN
    have g2 : R_M_must (t + 1) 2 [nI e] τ = some (bI (!(hOK a D (e + 1) d)), τ) := by
      rw [st_M_must_2]
      unfold B_M_must_2
      rw [add_c1]
      exact ih (e + 1) t (by omega) (by omega)
    rw [st_M_must_1]
    unfold B_M_must_1
    rw [m2, if_neg (show ¬ nI (zN D) ≤ nI e by rw [n_le (by omega) (by omega)]; omega), gLd_n (by omega) (by decide), v2]
    show _ = some (bI (!(!(badH a D e) && hOK a D (e + 1) d)), τ)
    by_cases p0 : zP D e = some 0
    · rw [if_pos (show oI (zP D e) = 0 by rw [p0]; rfl), gLd_n (by omega) (by decide), v1]
      by_cases n8 : zM D e = 8
      · unfold badH
        rw [if_pos (show nI (zM D e) = 8 by rw [n8]; rfl), m_one ha h hm tmm heN (v := 13) (x := 13) (by decide) rfl, gBd_s, decide_eq_true ⟨p0, n8⟩]
        cases h1 : oneA a D e 13 with
        | false =>
          rw [bI_f, if_pos rfl, g2]
          rfl
        | true =>
          rw [bI_t, if_neg i10, m_cin ha h hm tmm heN (v := 11) (x := 11) (by decide) rfl, gBd_s]
          cases h2 : cIn a D e 11 with
          | none => rw [if_pos (show oI none < 0 by decide)]; rfl
          | some v =>
            have hv := cIn_lt ha h2
            rw [if_neg (show ¬ oI (some v) < 0 from nI_pos (by omega)), show oI (some v) = nI v from rfl]
            show _ = some (bI (!(!(true && true && !(if v < 32 then sU a v else false)) && hOK a D (e + 1) d)), τ)
            by_cases e32 : v < 32
            · rw [if_neg (show ¬ 31 < nI v by rw [c31_lt (by omega)]; omega), gLd_n e32 (by decide), hm.2.2.2.2.2.2 v e32, if_pos e32]
              cases sU a v with
              | false => rw [bI_f, if_pos rfl]; rfl
              | true => rw [bI_t, if_neg i10, g2]; rfl
            · rw [if_pos (show 31 < nI v by rw [c31_lt (by omega)]; omega), if_neg e32]; rfl
      · rw [if_neg (show ¬ nI (zM D e) = 8 by rw [eq_c8 (by omega)]; exact n8), g2]
        unfold badH
        rw [decide_eq_false (fun q => n8 q.2)]
        rfl
    · rw [if_neg (show ¬ oI (zP D e) = 0 from fun q => p0 ((oI_0 h heN (q := 0) (by decide)).mp q)), g2]
      unfold badH
      rw [decide_eq_false (fun q => p0 q.1)]
      rfl
theorem heads {a : aS} (ha : okA a) {D : dS} (h : wB a D) (hn0 : 0 < zN D) {σ τ : gS} (hc : absC σ a) (hm : absM τ a) (tc : tC σ D) (tmm : tM τ D) (m2 : τ.1 2 = nI (zN D)) : ∃ b : Bool, f_H_understandsHeaders σ = some (bI b, σ) ∧ f_M_must τ = some (bI (!b), τ) := by
  have hn := h.1
  obtain ⟨T, hT⟩ := gFx
  refine ⟨hOK a D 1 (zN D - 1), ?_, ?_⟩
  · rw [fx_H_understandsHeaders hT]
    exact c_heads ha h hc tc (zN D - 1) 1 (T + 49999) (by omega) (by omega)
  · rw [fx_M_must hT]
    exact m_heads ha h hm tmm m2 (zN D - 1) 1 (T + 49999) (by omega) (by omega)
