/-! decode: spaces, attributes -/
theorem sp_ex (a : aS) (p : Nat) : ∃ s, (∀ i, i < s → chA a (p + i) = 32) ∧ chA a (p + s) ≠ 32 := by
  obtain ⟨s, h1, h2⟩ := pk_least (fun i => chA a (p + i) ≠ 32) ⟨(sP a).length, by rw [chA_0 (by omega)]; decide⟩
  refine ⟨s, fun i hi => ?_, h1⟩
  have := h2 i hi
  by_cases e : chA a (p + i) = 32
  · exact e
  · exact absurd e this
theorem sp_le {a : aS} {p s : Nat} (h : ∀ i, i < s → chA a (p + i) = 32) (hp : p ≤ (sP a).length) : p + s ≤ (sP a).length := by
  cases s with
  | zero => exact hp
  | succ s =>
    have := chA_in (a := a) (p := p + s) (by rw [h s (by omega)]; decide)
    omega
theorem c_sp {a : aS} (ha : okA a) {p s : Nat} (h1 : ∀ i, i < s → chA a (p + i) = 32) (h2 : chA a (p + s) ≠ 32) (hp : p ≤ (sP a).length) {σ : gS} (hc : absC σ a) (h8 : σ.1 8 = nI p) : f_F_skipSpaces σ = some (bI (decide (0 < s)), sI σ 8 (nI (p + s))) := by
  have hl := ha.2.1
  have hps := sp_le h1 hp
  obtain ⟨T, hT⟩ := gFx
  have lp : ∀ (d i t : Nat), i + d = s → d + 2 ≤ t → R_F_skipSpaces t 1 [nI p] (sI σ 8 (nI (p + i))) = some (bI (decide (0 < s)), sI σ 8 (nI (p + s))) := by
    intro d
    induction d with
    | zero =>
      intro i t hi ht
      obtain rfl : i = s := by omega
      obtain ⟨t, rfl⟩ : ∃ t', t = t' + 1 + 1 := ⟨t - 2, by omega⟩
      have hc' := absC_I hc (k := 8) (by decide) (nI (p + i))
      have e2 : R_F_skipSpaces (t + 1) 2 [nI p] (sI σ 8 (nI (p + i))) = some (bI (decide (0 < i)), sI σ 8 (nI (p + i))) := by
        rw [st_F_skipSpaces_2]
        unfold B_F_skipSpaces_2
        rw [sI_eq]
        by_cases e : 0 < i
        · rw [if_neg (by rw [n_le (by omega) (by omega)]; omega), decide_eq_true e]; rfl
        · rw [if_pos (by rw [n_le (by omega) (by omega)]; omega), decide_eq_false e]; rfl
      rw [st_F_skipSpaces_1]
      unfold B_F_skipSpaces_1
      rw [hc'.2.1, sI_eq]
      by_cases e : (sP a).length ≤ p + i
      · rw [if_pos (by rw [n_le (by omega) (by omega)]; exact e), e2]
      · rw [if_neg (by rw [n_le (by omega) (by omega)]; exact e), c_code ha hc' (by omega), gBd_s, if_neg (fun q => h2 ((show cI a (p + i) = 32 ↔ chA a (p + i) = 32 from cI_eq ha (c := 32) (by decide) (by decide)).mp q)), e2]
    | succ d ih =>
      intro i t hi ht
      obtain ⟨t, rfl⟩ : ∃ t', t = t' + 1 := ⟨t - 1, by omega⟩
      have hc' := absC_I hc (k := 8) (by decide) (nI (p + i))
      rw [st_F_skipSpaces_1]
      unfold B_F_skipSpaces_1
      rw [hc'.2.1, sI_eq, if_neg (by rw [n_le (by omega) (by omega)]; omega), c_code ha hc' (by omega), gBd_s, if_pos ((show cI a (p + i) = 32 ↔ chA a (p + i) = 32 from cI_eq ha (c := 32) (by decide) (by decide)).mpr (h1 i (by omega))), gPut_s, sI_eq, add_c1, sI_sI]
      exact ih (i + 1) t (by omega) (by omega)
  rw [fx_F_skipSpaces hT]
  unfold B_F_skipSpaces_0
  have w := lp s 0 (T + 49999) (by omega) (by omega)
  rw [show p + 0 = p from rfl, sI_self h8] at w
  rw [h8]
  exact w
theorem m_sp {a : aS} (ha : okA a) {s : Nat} {τ : gS} (hm : absM τ a) (x2 x4 x5 : Int32) : ∀ (s p t : Nat), p + s < 2000 → (∀ i, i < s → chA a (p + i) = 32) → R_M_start (t + s) 2 [x2, nI p, x4, x5] τ = R_M_start t 2 [x2, nI (p + s), x4, x5] τ := by
  intro s
  induction s with
  | zero => intro p t _ _; rfl
  | succ s ih =>
    intro p t hp h
    rw [show t + (s + 1) = t + s + 1 from rfl, st_M_start_2]
    unfold B_M_start_2
    rw [m_or0 ha hm (by omega), gBd_s, show chA a p = 32 from h 0 (by omega), if_pos (show nI 32 = 32 from rfl), add_c1, ih (p + 1) t (by omega) (fun i hi => by rw [show p + 1 + i = p + (i + 1) by omega]; exact h (i + 1) (by omega)), show p + 1 + s = p + (s + 1) by omega]
theorem c_skip {a : aS} (ha : okA a) {σ : gS} (hc : absC σ a) {p c : Nat} (hp : p < 2000) (h8 : σ.1 8 = nI p) (hc0 : 0 < c) (hc2 : c < 1000) {x : Int32} (hx : x = nI c) : f_F_skip σ x = if chA a p = c then some (1, sI σ 8 (nI (p + 1))) else some (0, σ) := by
  unfold f_F_skip
  rw [h8, c_code ha hc (by omega), gBd_s, hx]
  by_cases e : chA a p = c
  · rw [if_pos ((cI_eq ha hc0 (by omega)).mpr e), if_pos e, gPut_s, h8, add_c1]
  · rw [if_neg (fun q => e ((cI_eq ha hc0 (by omega)).mp q)), if_neg e]
/-- what may stand in a value -/
def isV (c : Nat) : Prop := c ≠ 0 ∧ c ≠ 34 ∧ c ≠ 60 ∧ c ≠ 38
theorem vl_ex (a : aS) (f : Nat) : ∃ w, (∀ i, i < w → isV (chA a (f + i))) ∧ ¬ isV (chA a (f + w)) := by
  obtain ⟨s, h1, h2⟩ := pk_least (fun i => ¬ isV (chA a (f + i))) ⟨(sP a).length, by rw [chA_0 (by omega)]; exact fun q => q.1 rfl⟩
  refine ⟨s, fun i hi => ?_, h1⟩
  have := h2 i hi
  by_cases e : isV (chA a (f + i))
  · exact e
  · exact absurd e this
theorem vl_le {a : aS} {p s : Nat} (h : ∀ i, i < s → isV (chA a (p + i))) (hp : p ≤ (sP a).length) : p + s ≤ (sP a).length := by
  cases s with
  | zero => exact hp
  | succ s =>
    have := chA_in (a := a) (p := p + s) (h s (by omega)).1
    omega
theorem c_may {a : aS} (ha : okA a) (σ : gS) {p : Nat} (hp : p < (sP a).length) : (isV (chA a p) → f_F_mayStandInValue σ (cI a p) = some (1, σ)) ∧ (¬ isV (chA a p) → f_F_mayStandInValue σ (cI a p) = some (0, σ)) := by
  have c32 := (chA_p ha hp).1
  unfold f_F_mayStandInValue isV
  have e34 : cI a p = 34 ↔ chA a p = 34 := cI_eq ha (c := 34) (by decide) (by decide)
  have e60 : cI a p = 60 ↔ chA a p = 60 := cI_eq ha (c := 60) (by decide) (by decide)
  have e38 : cI a p = 38 ↔ chA a p = 38 := cI_eq ha (c := 38) (by decide) (by decide)
  by_cases h1 : chA a p = 34
  · rw [if_pos (e34.mpr h1)]
    exact ⟨fun q => absurd h1 q.2.1, fun _ => rfl⟩
  · rw [if_neg (fun q => h1 (e34.mp q))]
    by_cases h2 : chA a p = 60
    · rw [if_pos (e60.mpr h2)]
      exact ⟨fun q => absurd h2 q.2.2.1, fun _ => rfl⟩
    · rw [if_neg (fun q => h2 (e60.mp q))]
      by_cases h3 : chA a p = 38
      · rw [if_pos (e38.mpr h3)]
        exact ⟨fun q => absurd h3 q.2.2.2, fun _ => rfl⟩
      · rw [if_neg (fun q => h3 (e38.mp q))]
        exact ⟨fun _ => rfl, fun q => absurd ⟨by omega, h1, h2, h3⟩ q⟩
theorem c_val {a : aS} (ha : okA a) {f w : Nat} (h1 : ∀ i, i < w → isV (chA a (f + i))) (h2 : ¬ isV (chA a (f + w))) (hf : f ≤ (sP a).length) {σ : gS} (hc : absC σ a) (x2 x3 : Int32) : ∀ (d i t : Nat), i + d = w → R_F_readAttribute (t + (d + 1)) 1 [x2, x3] (sI σ 8 (nI (f + i))) = R_F_readAttribute t 2 [x2, x3] (sI σ 8 (nI (f + w))) := by
  have hl := ha.2.1
  have hps := vl_le h1 hf
  intro d
  induction d with
  | zero =>
    intro i t hi
    obtain rfl : i = w := by omega
    have hc' := absC_I hc (k := 8) (by decide) (nI (f + i))
    rw [show t + (0 + 1) = t + 1 from rfl, st_F_readAttribute_1]
    unfold B_F_readAttribute_1
    rw [hc'.2.1, sI_eq]
    by_cases e : (sP a).length ≤ f + i
    · rw [if_pos (by rw [n_le (by omega) (by omega)]; exact e)]
    · rw [if_neg (by rw [n_le (by omega) (by omega)]; exact e), c_code ha hc' (by omega), gBd_s, (c_may ha _ (by omega)).2 h2, gBd_s, if_pos rfl]
  | succ d ih =>
    intro i t hi
    have hv := h1 i (by omega)
    have hin := chA_in hv.1
    have hc' := absC_I hc (k := 8) (by decide) (nI (f + i))
    rw [show t + (d + 1 + 1) = t + (d + 1) + 1 from rfl, st_F_readAttribute_1]
    unfold B_F_readAttribute_1
    rw [hc'.2.1, sI_eq, if_neg (by rw [n_le (by omega) (by omega)]; omega), c_code ha hc' (by omega), gBd_s, (c_may ha _ hin).1 hv, gBd_s, if_neg i10, gPut_s, sI_eq, add_c1, sI_sI]
    exact ih (i + 1) t (by omega)
theorem m_val {a : aS} (ha : okA a) {f w : Nat} (h1 : ∀ i, i < w → isV (chA a (f + i))) (h2 : ¬ isV (chA a (f + w))) (hf : f ≤ (sP a).length) {τ : gS} (hm : absM τ a) (x1 x3 x4 : Int32) : ∀ (d i t : Nat), i + d = w → R_M_attributeAt (t + (d + 1)) 1 [x1, x3, x4, nI (f + i)] τ = R_M_attributeAt t 2 [x1, x3, x4, nI (f + w)] τ := by
  have hl := ha.2.1
  have hps := vl_le h1 hf
  have pc : ∀ q, q < (sP a).length → τ.2 7 q = nI (chA a q) := fun q hq => hm.2.2.2.2.2.1 q hq
  intro d
  induction d with
  | zero =>
    intro i t hi
    obtain rfl : i = w := by omega
    rw [show t + (0 + 1) = t + 1 from rfl, st_M_attributeAt_1]
    unfold B_M_attributeAt_1
    rw [hm.2.1]
    by_cases e : (sP a).length ≤ f + i
    · rw [if_pos (by rw [n_le (by omega) (by omega)]; exact e)]
    · have c1 := chA_p ha (p := f + i) (by omega)
      rw [if_neg (by rw [n_le (by omega) (by omega)]; exact e), gLd_n (by omega) (by decide), pc _ (by omega)]
      by_cases e1 : chA a (f + i) = 34
      · rw [if_pos (by rw [e1]; rfl)]
      · rw [if_neg (by rw [eq_c34 (by omega)]; exact e1), gLd_n (by omega) (by decide), pc _ (by omega)]
        by_cases e2 : chA a (f + i) = 60
        · rw [if_pos (by rw [e2]; rfl)]
        · rw [if_neg (by rw [eq_c60 (by omega)]; exact e2), gLd_n (by omega) (by decide), pc _ (by omega)]
          by_cases e3 : chA a (f + i) = 38
          · rw [if_pos (by rw [e3]; rfl)]
          · exact absurd ⟨by omega, e1, e2, e3⟩ h2
  | succ d ih =>
    intro i t hi
    have hv := h1 i (by omega)
    have hin := chA_in hv.1
    have c1 := chA_p ha hin
    rw [show t + (d + 1 + 1) = t + (d + 1) + 1 from rfl, st_M_attributeAt_1]
    unfold B_M_attributeAt_1
    rw [hm.2.1, if_neg (by rw [n_le (by omega) (by omega)]; omega), gLd_n (by omega) (by decide), pc _ hin, if_neg (by rw [eq_c34 (by omega)]; exact hv.2.1), gLd_n (by omega) (by decide), pc _ hin, if_neg (by rw [eq_c60 (by omega)]; exact hv.2.2.1), gLd_n (by omega) (by decide), pc _ hin, if_neg (by rw [eq_c38 (by omega)]; exact hv.2.2.2), add_c1]
    exact ih (i + 1) t (by omega)
