/-! decode: a document as both sides keep it -/
abbrev dS : Type := Nat × (Nat → Nat) × (Nat → Option Nat) × (Nat → Nat) × (Nat → Nat) × (Nat → Nat) × (Nat → Nat) × (Nat → Nat) × Nat × (Nat → List Nat) × (Nat → Nat) × Nat
def zN (D : dS) : Nat := D.1
def zM (D : dS) : Nat → Nat := D.2.1
def zP (D : dS) : Nat → Option Nat := D.2.2.1
def zA (D : dS) : Nat → Nat := D.2.2.2.1
def zB (D : dS) : Nat → Nat := D.2.2.2.2.1
def zQ (D : dS) : Nat → Nat := D.2.2.2.2.2.1
def zF (D : dS) : Nat → Nat := D.2.2.2.2.2.2.1
def zT (D : dS) : Nat → Nat := D.2.2.2.2.2.2.2.1
def zW (D : dS) : Nat := D.2.2.2.2.2.2.2.2.1
def zX (D : dS) : Nat → List Nat := D.2.2.2.2.2.2.2.2.2.1
def zS (D : dS) : Nat → Nat := D.2.2.2.2.2.2.2.2.2.2.1
def zC (D : dS) : Nat := D.2.2.2.2.2.2.2.2.2.2.2
def kc (D : dS) (e : Nat) : Nat := smN (fun c => if zP D c = some e then 1 else 0) (zN D)
def fU {α : Type} (f : Nat → α) (n : Nat) (v : α) : Nat → α := fun j => if j = n then v else f j
theorem fU_e {α : Type} (f : Nat → α) (n : Nat) (v : α) : fU f n v n = v := if_pos rfl
theorem fU_n {α : Type} {f : Nat → α} {n j : Nat} {v : α} (h : j ≠ n) : fU f n v j = f j := if_neg h
/-- a new element; an attribute of the last one; a character of o's text -/
def addE (D : dS) (v : Nat) (q : Option Nat) : dS := (zN D + 1, fU (zM D) (zN D) v, fU (zP D) (zN D) q, fU (zA D) (zN D) (zW D), fU (zB D) (zN D) 0, zQ D, zF D, zT D, zW D, fU (zX D) (zN D) [], fU (zS D) (zN D) (zC D), zC D)
def addQ (D : dS) (e v f t : Nat) : dS := (zN D, zM D, zP D, zA D, fU (zB D) e (zB D e + 1), fU (zQ D) (zW D) v, fU (zF D) (zW D) f, fU (zT D) (zW D) t, zW D + 1, zX D, zS D, zC D)
def addX (D : dS) (o c : Nat) : dS := (zN D, zM D, zP D, zA D, zB D, zQ D, zF D, zT D, zW D, fU (zX D) o (zX D o ++ [c]), zS D, zC D + 1)
def tC (σ : gS) (D : dS) : Prop := σ.1 5 = nI (zN D) ∧ σ.1 6 = nI (zW D) ∧ σ.1 7 = nI (zC D) ∧ (∀ e, e < zN D → σ.2 21 e = nI (zM D e) ∧ σ.2 22 e = oI (zP D e) ∧ σ.2 23 e = nI (kc D e) ∧ σ.2 24 e = nI (zA D e) ∧ σ.2 25 e = nI (zB D e) ∧ σ.2 26 e = nI (zS D e) ∧ σ.2 27 e = nI (zX D e).length) ∧ (∀ i, i < zW D → σ.2 28 i = nI (zQ D i) ∧ σ.2 29 i = nI (zF D i) ∧ σ.2 30 i = nI (zT D i - zF D i)) ∧ ∀ e, e < zN D → kc D e = 0 → ∀ k, k < (zX D e).length → σ.2 31 (zS D e + k) = nI ((zX D e).getD k 0)
def tM (τ : gS) (D : dS) : Prop := τ.1 3 = nI (zW D) ∧ (∀ e, e < zN D → τ.2 8 e = nI (zM D e) ∧ τ.2 9 e = oI (zP D e) ∧ τ.2 10 e = nI (zA D e) ∧ τ.2 11 e = nI (zB D e) ∧ τ.2 12 e = nI (zX D e).length) ∧ (∀ i, i < zW D → τ.2 16 i = nI (zQ D i) ∧ τ.2 17 i = nI (zF D i) ∧ τ.2 18 i = nI (zT D i)) ∧ ∀ e, e < zN D → ∀ k, k < 12 → k < (zX D e).length → τ.2 13 (12 * e + k) = nI ((zX D e).getD k 0)
def wB (a : aS) (D : dS) : Prop := zN D ≤ 420 ∧ zW D ≤ 320 ∧ zC D ≤ 1600 ∧ (∀ e, e < zN D → 0 < zM D e ∧ zM D e < 387420489) ∧ (∀ e q, e < zN D → zP D e = some q → q < e) ∧ (∀ e, e < zN D → zA D e + zB D e ≤ zW D) ∧ (∀ i, i < zW D → zQ D i < 387420489 ∧ zF D i ≤ zT D i ∧ zT D i < (sP a).length) ∧ (∀ e, e < zN D → kc D e = 0 → zS D e + (zX D e).length ≤ zC D) ∧ (∀ e, e < zN D → prL (zX D e) ∧ (zX D e).length ≤ zC D) ∧ (∀ e, e < zN D → (zP D e = none ↔ e = 0)) ∧ (∀ e b q, b < e → e < zN D → zP D b = some 0 → zP D e = some q → q < b → q = 0)
/-- what both keep of ints and arrays that the document does not touch -/
theorem kc_lt (D : dS) (e : Nat) : kc D e ≤ zN D := smN_le _ (fun i => by split <;> omega)
theorem kc_addE {a : aS} {D : dS} (h : wB a D) {v : Nat} {q : Option Nat} (hq : ∀ o, q = some o → o < zN D) (e : Nat) : kc (addE D v q) e = kc D e + if q = some e then 1 else 0 := by
  show smN (fun c => if fU (zP D) (zN D) q c = some e then 1 else 0) (zN D + 1) = _
  rw [smN_s, fU_e]
  congr 1
  exact smN_c _ (fun i hi => by rw [fU_n (by omega)])
theorem kc_new {a : aS} {D : dS} (h : wB a D) {v : Nat} {q : Option Nat} (hq : ∀ o, q = some o → o < zN D) : kc (addE D v q) (zN D) = 0 := by
  rw [kc_addE h hq, if_neg (fun e => Nat.lt_irrefl _ (hq _ e))]
  show smN _ (zN D) = 0
  rw [smN_c (g := fun _ => 0) _ (fun i hi => if_neg (fun e => by have := h.2.2.2.2.1 i _ hi e; omega)), smN_z]
theorem tx_addE {D : dS} {v : Nat} {q : Option Nat} (e : Nat) : zX (addE D v q) e = if e = zN D then [] else zX D e := rfl
theorem c_addE {a : aS} {D : dS} (h : wB a D) (hn : zN D < 420) {σ : gS} (ht : tC σ D) {v : Nat} {q : Option Nat} (hq : ∀ o, q = some o → o < zN D) : ∃ σ', f_E_addElement σ (nI v) (oI q) = some (1, σ') ∧ tC σ' (addE D v q) ∧ (∀ k, k ≠ 5 → σ'.1 k = σ.1 k) ∧ ∀ k, k < 21 → σ'.2 k = σ.2 k := by
  obtain ⟨T, hT⟩ := gFx
  obtain ⟨t1, t2, t3, t4, t5, t6⟩ := ht
  have hkn : kc (addE D v q) (zN D) = 0 := kc_new h hq
  have fin : ∀ σ1 : gS, (∀ k, k ≠ 5 → σ1.1 k = σ.1 k) → σ1.1 5 = nI (zN D + 1) → σ1.2 21 = upd (σ.2 21) (zN D) (nI v) → σ1.2 22 = upd (σ.2 22) (zN D) (oI q) → (∀ e, e < zN D + 1 → σ1.2 23 e = nI (kc (addE D v q) e)) → σ1.2 24 = upd (σ.2 24) (zN D) (nI (zW D)) → σ1.2 25 = upd (σ.2 25) (zN D) 0 → σ1.2 26 = upd (σ.2 26) (zN D) (nI (zC D)) → σ1.2 27 = upd (σ.2 27) (zN D) 0 → (∀ k, 27 < k → σ1.2 k = σ.2 k) → tC σ1 (addE D v q) := by
    intro σ1 g1 g5 g21 g22 g23 g24 g25 g26 g27 gk
    refine ⟨g5, ?_, ?_, fun e he => ?_, fun i hi => ?_, fun e he hk k hk2 => ?_⟩
    · rw [g1 6 (by decide)]; exact t2
    · rw [g1 7 (by decide)]; exact t3
    · have he : e < zN D + 1 := he
      rw [g21, g22, g23 e he, g24, g25, g26, g27]
      by_cases e0 : e = zN D
      · rw [e0, up_eq, up_eq, up_eq, up_eq, up_eq, up_eq]
        refine ⟨?_, ?_, rfl, ?_, ?_, ?_, ?_⟩
        · show _ = nI (fU (zM D) (zN D) v (zN D)); rw [fU_e]
        · show _ = oI (fU (zP D) (zN D) q (zN D)); rw [fU_e]
        · show _ = nI (fU (zA D) (zN D) (zW D) (zN D)); rw [fU_e]
        · show _ = nI (fU (zB D) (zN D) 0 (zN D)); rw [fU_e]; rfl
        · show _ = nI (fU (zS D) (zN D) (zC D) (zN D)); rw [fU_e]
        · show _ = nI (fU (zX D) (zN D) [] (zN D)).length; rw [fU_e]; rfl
      · obtain ⟨u1, u2, u3, u4, u5, u6, u7⟩ := t4 e (by omega)
        rw [up_ne e0, up_ne e0, up_ne e0, up_ne e0, up_ne e0, up_ne e0]
        refine ⟨?_, ?_, rfl, ?_, ?_, ?_, ?_⟩
        · show _ = nI (fU (zM D) (zN D) v e); rw [fU_n e0]; exact u1
        · show _ = oI (fU (zP D) (zN D) q e); rw [fU_n e0]; exact u2
        · show _ = nI (fU (zA D) (zN D) (zW D) e); rw [fU_n e0]; exact u4
        · show _ = nI (fU (zB D) (zN D) 0 e); rw [fU_n e0]; exact u5
        · show _ = nI (fU (zS D) (zN D) (zC D) e); rw [fU_n e0]; exact u6
        · show _ = nI (fU (zX D) (zN D) [] e).length; rw [fU_n e0]; exact u7
    · rw [gk 28 (by decide), gk 29 (by decide), gk 30 (by decide)]; exact t5 i hi
    · have he : e < zN D + 1 := he
      rw [gk 31 (by decide)]
      by_cases e0 : e = zN D
      · have hk2 : k < (fU (zX D) (zN D) [] e).length := hk2
        rw [e0, fU_e] at hk2
        exact absurd hk2 (Nat.not_lt_zero k)
      · have hk2 : k < (fU (zX D) (zN D) [] e).length := hk2
        rw [fU_n e0] at hk2
        show σ.2 31 (fU (zS D) (zN D) (zC D) e + k) = nI ((fU (zX D) (zN D) [] e).getD k 0)
        rw [fU_n e0, fU_n e0]
        exact t6 e (by omega) (by rw [kc_addE h hq] at hk; omega) k hk2
  rw [fx_E_addElement hT]
  unfold B_E_addElement_0
  rw [t1, if_pos (by rw [lt_c533 (by omega)]; omega)]
  simp (disch := omega) only [gSt_n, sA_1, sA_ne, sA_eq, t1, t2, t3]
  have e1 : ∀ σ1 : gS, σ1.1 5 = nI (zN D) → R_E_addElement (T + 49999) 1 [] σ1 = some (1, sI σ1 5 (nI (zN D + 1))) := fun σ1 h1 => by
    rw [show T + 49999 = T + 49998 + 1 from rfl, st_E_addElement_1]
    unfold B_E_addElement_1
    rw [gPut_s, h1, add_c1]
  cases q with
  | none =>
    rw [if_pos (show oI none = -1 from rfl), e1 _ (by exact t1)]
    refine ⟨_, rfl, fin _ (fun k hk => sI_ne hk) (sI_eq _ _ _) ?_ ?_ (fun e he => ?_) ?_ ?_ ?_ ?_ (fun k hk => ?_), fun k hk => sI_ne hk, fun k hk => ?_⟩
    · simp (disch := decide) only [sI_2, sA_eq, sA_ne]
    · simp (disch := decide) only [sI_2, sA_eq, sA_ne]
    · simp (disch := decide) only [sI_2, sA_eq, sA_ne]
      by_cases e0 : e = zN D
      · rw [e0, up_eq, hkn]; rfl
      · rw [up_ne e0, kc_addE h hq, if_neg (by simp)]; exact (t4 e (by omega)).2.2.1
    · simp (disch := decide) only [sI_2, sA_eq, sA_ne]
    · simp (disch := decide) only [sI_2, sA_eq, sA_ne]
    · simp (disch := decide) only [sI_2, sA_eq, sA_ne]
    · simp (disch := decide) only [sI_2, sA_eq, sA_ne]
    · simp (disch := omega) only [sI_2, sA_ne]
    · simp (disch := omega) only [sI_2, sA_ne]
  | some o =>
    have ho := hq o rfl
    have ko : σ.2 23 o = nI (kc D o) := (t4 o ho).2.2.1
    rw [if_neg (show ¬ oI (some o) = -1 from n_m1 (by omega)), show oI (some o) = nI o from rfl, gLd_n (by omega) (by decide), gSt_n (by omega) (by decide)]
    simp (disch := decide) only [sA_eq, sA_ne]
    rw [up_ne (show o ≠ zN D by omega), ko, add_c1, e1 _ (by exact t1)]
    refine ⟨_, rfl, fin _ (fun k hk => sI_ne hk) (sI_eq _ _ _) ?_ ?_ (fun e he => ?_) ?_ ?_ ?_ ?_ (fun k hk => ?_), fun k hk => sI_ne hk, fun k hk => ?_⟩
    · simp (disch := decide) only [sI_2, sA_eq, sA_ne]
    · simp (disch := decide) only [sI_2, sA_eq, sA_ne]; rfl
    · simp (disch := decide) only [sI_2, sA_eq, sA_ne]
      by_cases e1 : e = o
      · rw [e1, up_eq, kc_addE h hq, if_pos rfl]
      · rw [up_ne e1]
        by_cases e0 : e = zN D
        · rw [e0, up_eq, hkn]; rfl
        · rw [up_ne e0, kc_addE h hq, if_neg (fun q => e1 (Option.some.inj q).symm)]; exact (t4 e (by omega)).2.2.1
    · simp (disch := decide) only [sI_2, sA_eq, sA_ne]
    · simp (disch := decide) only [sI_2, sA_eq, sA_ne]
    · simp (disch := decide) only [sI_2, sA_eq, sA_ne]
    · simp (disch := decide) only [sI_2, sA_eq, sA_ne]
    · simp (disch := omega) only [sI_2, sA_ne]
    · simp (disch := omega) only [sI_2, sA_ne]
/-- the first attribute of e that is named v -/
def fa (D : dS) (v : Nat) : Nat → Nat → Option Nat
  | _, 0 => none
  | i, m + 1 => if zQ D i = v then some i else fa D v (i + 1) m
def fA (D : dS) (e v : Nat) : Option Nat := fa D v (zA D e) (zB D e)
theorem fa_in {D : dS} {v : Nat} : ∀ m i r, fa D v i m = some r → i ≤ r ∧ r < i + m ∧ zQ D r = v := by
  intro m
  induction m with
  | zero => intro i r h; cases h
  | succ m ih =>
    intro i r h
    have h : (if zQ D i = v then some i else fa D v (i + 1) m) = some r := h
    by_cases e : zQ D i = v
    · rw [if_pos e] at h
      have h := Option.some.inj h
      rw [← h]
      exact ⟨Nat.le_refl _, by omega, e⟩
    · rw [if_neg e] at h
      have := ih (i + 1) r h
      exact ⟨by omega, by omega, this.2.2⟩
theorem fa_no {D : dS} {v : Nat} : ∀ m i, fa D v i m = none → ∀ r, i ≤ r → r < i + m → zQ D r ≠ v := by
  intro m
  induction m with
  | zero => intro i _ r h1 h2; omega
  | succ m ih =>
    intro i h r h1 h2
    have h : (if zQ D i = v then some i else fa D v (i + 1) m) = none := h
    by_cases e : zQ D i = v
    · rw [if_pos e] at h; cases h
    · rw [if_neg e] at h
      by_cases e2 : r = i
      · rw [e2]; exact e
      · exact ih (i + 1) h r (by omega) (by omega)
theorem fA_lt {a : aS} {D : dS} (h : wB a D) {e v r : Nat} (he : e < zN D) (hr : fA D e v = some r) : r < zW D ∧ zA D e ≤ r ∧ r < zA D e + zB D e ∧ zQ D r = v := by
  have h1 := fa_in _ _ _ hr
  have h2 := h.2.2.2.2.2.1 e he
  exact ⟨by omega, h1.1, h1.2.1, h1.2.2⟩
theorem c_find {a : aS} {D : dS} (h : wB a D) {σ : gS} (ht : tC σ D) {e v : Nat} (he : e < zN D) (hv : v < 387420489) : f_E_findAttribute σ (nI e) (nI v) = some (oI (fA D e v), σ) := by
  obtain ⟨T, hT⟩ := gFx
  have hn := h.1
  have hL := h.2.1
  have hA := h.2.2.2.2.2.1 e he
  obtain ⟨t1, t2, t3, t4, t5, t6⟩ := ht
  obtain ⟨u1, u2, u3, u4, u5, u6, u7⟩ := t4 e he
  have lp : ∀ (m i t : Nat), i + m = zA D e + zB D e → m + 1 ≤ t → R_E_findAttribute t 1 [nI v, nI (zA D e + zB D e), nI i] σ = some (oI (fa D v i m), σ) := by
    intro m
    induction m with
    | zero =>
      intro i t hi ht
      obtain ⟨t, rfl⟩ : ∃ t', t = t' + 1 := ⟨t - 1, by omega⟩
      rw [st_E_findAttribute_1]
      unfold B_E_findAttribute_1
      rw [if_pos (by rw [n_le (by omega) (by omega)]; omega)]
      rfl
    | succ m ih =>
      intro i t hi ht
      obtain ⟨t, rfl⟩ : ∃ t', t = t' + 1 := ⟨t - 1, by omega⟩
      have hq := (h.2.2.2.2.2.2.1 i (by omega)).1
      rw [st_E_findAttribute_1]
      unfold B_E_findAttribute_1
      rw [if_neg (by rw [n_le (by omega) (by omega)]; omega), gLd_n (by omega) (by decide), (t5 i (by omega)).1]
      by_cases e1 : zQ D i = v
      · rw [if_pos (by rw [e1]), show fa D v i (m + 1) = some i from if_pos e1]
        rfl
      · rw [if_neg (by rw [n_eq (by omega) (by omega)]; exact e1), add_c1, show fa D v i (m + 1) = fa D v (i + 1) m from if_neg e1]
        exact ih (i + 1) t (by omega) (by omega)
  rw [fx_E_findAttribute hT]
  unfold B_E_findAttribute_0
  rw [gLd_n (by omega) (by decide), gLd_n (by omega) (by decide), u4, u5, gLd_n (by omega) (by decide), u4, nI_add]
  exact lp (zB D e) (zA D e) (T + 49999) rfl (by omega)
theorem m_find {a : aS} {D : dS} (h : wB a D) {τ : gS} (ht : tM τ D) {e v : Nat} (he : e < zN D) (hv : v < 387420489) : f_M_attr τ (nI e) (nI v) = some (oI (fA D e v), τ) := by
  obtain ⟨T, hT⟩ := gFx
  have hn := h.1
  have hL := h.2.1
  have hA := h.2.2.2.2.2.1 e he
  obtain ⟨t1, t2, t3, t4⟩ := ht
  obtain ⟨u1, u2, u3, u4, u5⟩ := t2 e he
  have lp : ∀ (m i t : Nat), i + m = zB D e → m + 1 ≤ t → R_M_attr t 1 [nI e, nI v, nI i] τ = some (oI (fa D v (zA D e + i) m), τ) := by
    intro m
    induction m with
    | zero =>
      intro i t hi ht
      obtain ⟨t, rfl⟩ : ∃ t', t = t' + 1 := ⟨t - 1, by omega⟩
      rw [st_M_attr_1]
      unfold B_M_attr_1
      rw [gLd_n (by omega) (by decide), u4, if_pos (by rw [n_le (by omega) (by omega)]; omega)]
      rfl
    | succ m ih =>
      intro i t hi ht
      obtain ⟨t, rfl⟩ : ∃ t', t = t' + 1 := ⟨t - 1, by omega⟩
      have hq := (h.2.2.2.2.2.2.1 (zA D e + i) (by omega)).1
      rw [st_M_attr_1]
      unfold B_M_attr_1
      rw [gLd_n (by omega) (by decide), u4, if_neg (by rw [n_le (by omega) (by omega)]; omega), gLd_n (by omega) (by decide), u3, nI_add, gLd_n (by omega) (by decide), (t3 (zA D e + i) (by omega)).1]
      by_cases e1 : zQ D (zA D e + i) = v
      · rw [if_pos (by rw [e1]), gLd_n (by omega) (by decide), u3, nI_add, show fa D v (zA D e + i) (m + 1) = some (zA D e + i) from if_pos e1]
        rfl
      · rw [if_neg (by rw [n_eq (by omega) (by omega)]; exact e1), add_c1, show fa D v (zA D e + i) (m + 1) = fa D v (zA D e + i + 1) m from if_neg e1]
        exact ih (i + 1) t (by omega) (by omega)
  rw [fx_M_attr hT]
  unfold B_M_attr_0
  have w := lp (zB D e) 0 (T + 49999) (by omega) (by omega)
  rw [nI_0] at w
  exact w
