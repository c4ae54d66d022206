/-! decode: the page's characters, names -/
def chA (a : aS) (p : Nat) : Nat := (sP a).getD p 0
def cI (a : aS) (p : Nat) : Int32 := if p < (sP a).length then nI (chA a p) else -1
theorem chA_0 {a : aS} {p : Nat} (h : (sP a).length ≤ p) : chA a p = 0 := by
  unfold chA
  rw [List.getD_eq_getElem?_getD, List.getElem?_eq_none h]
  rfl
theorem chA_p {a : aS} (ha : okA a) {p : Nat} (h : p < (sP a).length) : 32 ≤ chA a p ∧ chA a p ≤ 126 := ha.2.2.2.2.2 _ (gD_mem h)
theorem chA_lt {a : aS} (ha : okA a) (p : Nat) : chA a p < 127 := by
  by_cases h : p < (sP a).length
  · have := (chA_p ha h).2
    omega
  · rw [chA_0 (by omega)]
    decide
theorem chA_in {a : aS} {p : Nat} (h : chA a p ≠ 0) : p < (sP a).length := by
  by_cases e : p < (sP a).length
  · exact e
  · exact absurd (chA_0 (by omega)) h
theorem cI_eq {a : aS} (ha : okA a) {p c : Nat} (hc : 0 < c) (hc2 : c < 2147483648) : cI a p = nI c ↔ chA a p = c := by
  have := chA_lt ha p
  unfold cI
  by_cases h : p < (sP a).length
  · rw [if_pos h, n_eq (by omega) hc2]
  · rw [if_neg h, chA_0 (by omega)]
    exact ⟨fun q => absurd q (m1_n hc2), fun q => by omega⟩
theorem m1_lt {c : Nat} (hc2 : c < 2147483648) : (-1 : Int32) < nI c := by
  rw [Int32.lt_iff_toInt_lt, nI_toInt hc2]
  show (-1 : Int) < c
  omega
theorem not_lt_m1 {c : Nat} (hc2 : c < 2147483648) : ¬ nI c < (-1 : Int32) := by
  rw [Int32.lt_iff_toInt_lt, nI_toInt hc2]
  show ¬ (c : Int) < -1
  omega
theorem cI_lt {a : aS} (ha : okA a) {p c : Nat} (hc : 0 < c) (hc2 : c < 2147483648) : cI a p < nI c ↔ chA a p < c := by
  have := chA_lt ha p
  unfold cI
  by_cases h : p < (sP a).length
  · rw [if_pos h, n_lt (by omega) hc2]
  · rw [if_neg h, chA_0 (by omega)]
    exact ⟨fun _ => hc, fun _ => m1_lt hc2⟩
theorem lt_cI {a : aS} (ha : okA a) {p c : Nat} (hc2 : c < 2147483648) : nI c < cI a p ↔ c < chA a p := by
  have := chA_lt ha p
  unfold cI
  by_cases h : p < (sP a).length
  · rw [if_pos h, n_lt hc2 (by omega)]
  · rw [if_neg h, chA_0 (by omega)]
    exact ⟨fun q => absurd q (not_lt_m1 hc2), fun q => by omega⟩
theorem c_code {a : aS} (ha : okA a) {σ : gS} (hc : absC σ a) {p : Nat} (hp : p < 2147483648) : f_P_codeAt σ (nI p) = some (cI a p, σ) := by
  have hl := ha.2.1
  unfold f_P_codeAt cI
  rw [if_neg (nI_pos hp), hc.2.1]
  by_cases h : p < (sP a).length
  · rw [if_neg (by rw [n_le (by omega) hp]; omega), gLd_n (by omega) (by decide), hc.2.2.2.2.2.1 p h, if_pos h]
    rfl
  · rw [if_pos (by rw [n_le (by omega) hp]; omega), if_neg h]
theorem m_or0 {a : aS} (ha : okA a) {τ : gS} (hm : absM τ a) {p : Nat} (hp : p < 2147483648) : f_M_charOr0 τ (nI p) = some (nI (chA a p), τ) := by
  have hl := ha.2.1
  unfold f_M_charOr0
  rw [hm.2.1]
  by_cases h : p < (sP a).length
  · rw [if_neg (by rw [n_le (by omega) hp]; omega), gLd_n (by omega) (by decide), hm.2.2.2.2.2.1 p h]
    rfl
  · rw [if_pos (by rw [n_le (by omega) hp]; omega), chA_0 (by omega)]
    rfl
def isL (c : Nat) : Prop := 97 ≤ c ∧ c ≤ 122
def isG (c : Nat) : Prop := 48 ≤ c ∧ c ≤ 57
theorem c_let {a : aS} (ha : okA a) (σ : gS) (p : Nat) : (isL (chA a p) → f_O_isLetter σ (cI a p) = some (1, σ)) ∧ (¬ isL (chA a p) → f_O_isLetter σ (cI a p) = some (0, σ)) := by
  unfold f_O_isLetter isL
  by_cases h1 : chA a p < 97
  · rw [if_pos (show cI a p < 97 from (cI_lt ha (c := 97) (by decide) (by decide)).mpr h1)]
    exact ⟨fun q => by omega, fun _ => rfl⟩
  · rw [if_neg (show ¬ cI a p < 97 from fun q => h1 ((cI_lt ha (c := 97) (by decide) (by decide)).mp q))]
    by_cases h2 : 122 < chA a p
    · rw [if_pos (show 122 < cI a p from (lt_cI ha (c := 122) (by decide)).mpr h2)]
      exact ⟨fun q => by omega, fun _ => rfl⟩
    · rw [if_neg (show ¬ 122 < cI a p from fun q => h2 ((lt_cI ha (c := 122) (by decide)).mp q))]
      exact ⟨fun _ => rfl, fun q => absurd ⟨by omega, by omega⟩ q⟩
theorem c_dig {a : aS} (ha : okA a) (σ : gS) (p : Nat) : (isG (chA a p) → f_O_isDigit σ (cI a p) = some (1, σ)) ∧ (¬ isG (chA a p) → f_O_isDigit σ (cI a p) = some (0, σ)) := by
  unfold f_O_isDigit isG
  by_cases h1 : chA a p < 48
  · rw [if_pos (show cI a p < 48 from (cI_lt ha (c := 48) (by decide) (by decide)).mpr h1)]
    exact ⟨fun q => by omega, fun _ => rfl⟩
  · rw [if_neg (show ¬ cI a p < 48 from fun q => h1 ((cI_lt ha (c := 48) (by decide) (by decide)).mp q))]
    by_cases h2 : 57 < chA a p
    · rw [if_pos (show 57 < cI a p from (lt_cI ha (c := 57) (by decide)).mpr h2)]
      exact ⟨fun q => by omega, fun _ => rfl⟩
    · rw [if_neg (show ¬ 57 < cI a p from fun q => h2 ((lt_cI ha (c := 57) (by decide)).mp q))]
      exact ⟨fun _ => rfl, fun q => absurd ⟨by omega, by omega⟩ q⟩
theorem cI_in {a : aS} {p : Nat} (h : chA a p ≠ 0) : cI a p = nI (chA a p) := if_pos (chA_in h)
theorem up_up (f : Nat → Int32) (k : Nat) (u v : Int32) : upd (upd f k u) k v = upd f k v := by
  funext j
  by_cases h : j = k
  · rw [h, up_eq, up_eq]
  · rw [up_ne h, up_ne h, up_ne h]
theorem sI_sI (σ : gS) (k : Nat) (u v : Int32) : sI (sI σ k u) k v = sI σ k v := by
  show (upd (upd σ.1 k u) k v, σ.2) = (upd σ.1 k v, σ.2)
  rw [up_up]
theorem sI_self {σ : gS} {k : Nat} {v : Int32} (h : σ.1 k = v) : sI σ k v = σ := by
  show (upd σ.1 k v, σ.2) = σ
  have : upd σ.1 k v = σ.1 := by
    funext j
    by_cases e : j = k
    · rw [e, up_eq, h]
    · rw [up_ne e]
  rw [this]
theorem absC_I {σ : gS} {a : aS} (h : absC σ a) {k : Nat} (hk : 2 ≤ k) (v : Int32) : absC (sI σ k v) a := absC_of h (sI_ne (by omega)) (sI_ne (by omega)) (fun _ _ => rfl)
theorem absM_I {σ : gS} {a : aS} (h : absM σ a) {k : Nat} (hk : 2 ≤ k) (v : Int32) : absM (sI σ k v) a := absM_of h (sI_ne (by omega)) (sI_ne (by omega)) (fun _ _ => rfl)
theorem absC_A {σ : gS} {a : aS} (h : absC σ a) {k : Nat} (hk : 10 ≤ k) (f : Nat → Int32) : absC (sA σ k f) a := absC_of h rfl rfl (fun _ _ => sA_ne (by omega))
theorem absM_A {σ : gS} {a : aS} (h : absM σ a) {k : Nat} (hk : 8 ≤ k) (f : Nat → Int32) : absM (sA σ k f) a := absM_of h rfl rfl (fun _ _ => sA_ne (by omega))
/-! names -/
def nv (a : aS) (p : Nat) : Nat → Nat
  | 0 => 0
  | k + 1 => 27 * nv a p k + chA a (p + k) - 96
theorem nv_s (a : aS) (p k : Nat) : nv a p (k + 1) = 27 * nv a p k + chA a (p + k) - 96 := rfl
def nk (a : aS) (p k : Nat) : Prop := k ≤ 7 ∧ (∀ i, i < k → isL (chA a (p + i))) ∧ (k < 7 → ¬ isL (chA a (p + k)))
theorem nk_ex (a : aS) (p : Nat) : ∃ k, nk a p k := by
  obtain ⟨k, h1, h2⟩ := pk_least (fun i => i = 7 ∨ ¬ isL (chA a (p + i))) ⟨7, Or.inl rfl⟩
  refine ⟨k, ?_, fun i hi => ?_, fun hk => ?_⟩
  · by_cases e : k ≤ 7
    · exact e
    · exact absurd (Or.inl rfl) (h2 7 (by omega))
  · have := h2 i hi
    by_cases e : isL (chA a (p + i))
    · exact e
    · exact absurd (Or.inr e) this
  · rcases h1 with h1 | h1
    · omega
    · exact h1
theorem nv_lt {a : aS} {p k : Nat} (h : nk a p k) : ∀ i, i ≤ k → nv a p i < 27 ^ i ∧ (0 < i → 0 < nv a p i) := by
  intro i
  induction i with
  | zero => intro _; exact ⟨Nat.zero_lt_one, fun q => absurd q (Nat.lt_irrefl 0)⟩
  | succ i ih =>
    intro hi
    have h1 := ih (by omega)
    have h2 := h.2.1 i (by omega)
    unfold isL at h2
    rw [nv_s, Nat.pow_succ]
    refine ⟨by omega, fun _ => by omega⟩
theorem nv_6 {a : aS} {p k : Nat} (h : nk a p k) (h6 : k ≤ 6) : nv a p k < 387420489 := by
  have h1 := (nv_lt h k (Nat.le_refl _)).1
  have h2 : (27 : Nat) ^ k ≤ 27 ^ 6 := Nat.pow_le_pow_right (by decide) h6
  rw [show (27 : Nat) ^ 6 = 387420489 from rfl] at h2
  omega
theorem n_nmC {v c : Nat} (h : 97 ≤ c) : ((nI v * 27 + nI c) - 97) + 1 = nI (27 * v + c - 96) := by
  rw [show nI v * 27 = nI (v * 27) from pk_mul v 27, nI_add, show nI (v * 27 + c) - 97 = nI (v * 27 + c - 97) from pk_sub (b := 97) (by omega), add_c1]
  congr 1
  omega
theorem n_nmM {v c : Nat} (h : 97 ≤ c) : (27 * nI v + nI c) - 96 = nI (27 * v + c - 96) := by
  rw [show 27 * nI v = nI (27 * v) from pk_mul 27 v, nI_add]
  exact pk_sub (b := 96) (by omega)
theorem c_nm1 {a : aS} (ha : okA a) {p k : Nat} (hp : p < 2000) (h : nk a p k) {σ : gS} (hc : absC σ a) : ∀ (d i t : Nat), i + d = min k 6 → d + 1 ≤ t → R_F_readName t 1 [nI (nv a p i), nI i] (sI σ 8 (nI (p + i))) = some (nI (nv a p (min k 6)), sI σ 8 (nI (p + min k 6))) := by
  have h7 := h.1
  intro d
  induction d with
  | zero =>
    intro i t hi ht
    obtain ⟨t, rfl⟩ : ∃ t', t = t' + 1 := ⟨t - 1, by omega⟩
    obtain rfl : i = min k 6 := by omega
    rw [st_F_readName_1]
    unfold B_F_readName_1
    by_cases e : 6 ≤ k
    · rw [if_pos (by rw [c6_le (by omega)]; omega)]
    · rw [if_neg (by rw [c6_le (by omega)]; omega), sI_eq, c_code ha (absC_I hc (by decide) _) (by omega), gBd_s, (c_let ha _ _).2 (by rw [show min k 6 = k by omega]; exact h.2.2 (by omega)), gBd_s, if_pos rfl]
  | succ d ih =>
    intro i t hi ht
    obtain ⟨t, rfl⟩ : ∃ t', t = t' + 1 := ⟨t - 1, by omega⟩
    have hL := h.2.1 i (by omega)
    have hL2 : 97 ≤ chA a (p + i) := hL.1
    rw [st_F_readName_1]
    unfold B_F_readName_1
    rw [if_neg (by rw [c6_le (by omega)]; omega), sI_eq, c_code ha (absC_I hc (by decide) _) (by omega), gBd_s, (c_let ha _ _).1 hL, gBd_s, if_neg i10, sI_eq, c_code ha (absC_I hc (by decide) _) (by omega), gBd_s, gPut_s, sI_eq, add_c1, sI_sI, cI_in (by omega), n_nmC hL2, add_c1]
    exact ih (i + 1) t (by omega) (by omega)
theorem c_name {a : aS} (ha : okA a) {p k : Nat} (hp : p < 2000) (h : nk a p k) {σ : gS} (hc : absC σ a) (h8 : σ.1 8 = nI p) : f_F_readName σ = some (nI (nv a p (min k 6)), sI σ 8 (nI (p + min k 6))) := by
  obtain ⟨T, hT⟩ := gFx
  have w := c_nm1 ha hp h hc (min k 6) 0 (T + 49999) (by omega) (by omega)
  rw [show p + 0 = p from rfl, sI_self h8, show nv a p 0 = 0 from rfl, nI_0] at w
  rw [fx_F_readName hT]
  exact w
theorem m_nm1 {a : aS} (ha : okA a) {p k : Nat} (hp : p < 2000) (h : nk a p k) {τ : gS} (hm : absM τ a) : ∀ (d i t : Nat), i + d = k → 2 * d + 2 ≤ t → R_M_nameAt t 1 [nI p, nI (nv a p (min i 6)), nI i] τ = some (if k = 0 ∨ k = 7 then -1 else nI (nv a p k), sI τ 7 (nI (p + k))) := by
  have h7 := h.1
  intro d
  induction d with
  | zero =>
    intro i t hi ht
    obtain rfl : i = k := by omega
    obtain ⟨t, rfl⟩ : ∃ t', t = t' + 1 + 1 := ⟨t - 2, by omega⟩
    have e3 : R_M_nameAt (t + 1) 3 [nI p, nI (nv a p (min i 6)), nI i] τ = some (if i = 0 ∨ i = 7 then -1 else nI (nv a p i), sI τ 7 (nI (p + i))) := by
      rw [st_M_nameAt_3]
      unfold B_M_nameAt_3
      rw [gPut_s, nI_add]
      by_cases e0 : i = 0
      · rw [if_pos (by rw [e0]; rfl), if_pos (Or.inl e0)]
      · rw [if_neg (nI_ne0 (by omega) (by omega))]
        by_cases e7 : i = 7
        · rw [if_pos (by rw [e7]; rfl), if_pos (Or.inr e7)]
        · rw [if_neg (by rw [eq_c7 (by omega)]; exact e7), if_neg (fun q => q.elim e0 e7), show min i 6 = i by omega]
    rw [st_M_nameAt_1]
    unfold B_M_nameAt_1
    by_cases e7 : i = 7
    · rw [if_pos (by rw [c7_le (by omega)]; omega), e3]
    · have hn := h.2.2 (by omega)
      have c127 := chA_lt ha (p + i)
      rw [if_neg (by rw [c7_le (by omega)]; omega), nI_add, m_or0 ha hm (by omega), gBd_s]
      by_cases e1 : chA a (p + i) < 97
      · rw [if_pos (by rw [lt_c97 (by omega)]; exact e1), e3]
      · rw [if_neg (by rw [lt_c97 (by omega)]; exact e1), m_or0 ha hm (by omega), gBd_s, if_pos (by rw [c122_lt (by omega)]; exact Nat.lt_of_not_le (fun q => hn ⟨by omega, q⟩)), e3]
  | succ d ih =>
    intro i t hi ht
    obtain ⟨t, rfl⟩ : ∃ t', t = t' + 1 + 1 := ⟨t - 2, by omega⟩
    have hL := h.2.1 i (by omega)
    have hL1 : 97 ≤ chA a (p + i) := hL.1
    have hL2 : chA a (p + i) ≤ 122 := hL.2
    have e2 : ∀ z, R_M_nameAt (t + 1) 2 [nI p, nI i, z] τ = R_M_nameAt t 1 [nI p, z, nI (i + 1)] τ := fun z => by
      rw [st_M_nameAt_2]
      unfold B_M_nameAt_2
      rw [add_c1]
    rw [st_M_nameAt_1]
    unfold B_M_nameAt_1
    rw [if_neg (by rw [c7_le (by omega)]; omega), nI_add, m_or0 ha hm (by omega), gBd_s, if_neg (by rw [lt_c97 (by omega)]; omega), m_or0 ha hm (by omega), gBd_s, if_neg (by rw [c122_lt (by omega)]; omega)]
    have w := ih (i + 1) t (by omega) (by omega)
    by_cases e6 : 6 ≤ i
    · rw [if_pos (by rw [c6_le (by omega)]; exact e6), e2]
      rw [show min (i + 1) 6 = min i 6 by omega] at w
      exact w
    · rw [if_neg (by rw [c6_le (by omega)]; exact e6), m_or0 ha hm (by omega), gBd_s, n_nmM hL1, e2, show min i 6 = i by omega]
      rw [show min (i + 1) 6 = i + 1 by omega] at w
      exact w
theorem m_name {a : aS} (ha : okA a) {p k : Nat} (hp : p < 2000) (h : nk a p k) {τ : gS} (hm : absM τ a) : f_M_nameAt τ (nI p) = some (if k = 0 ∨ k = 7 then -1 else nI (nv a p k), sI τ 7 (nI (p + k))) := by
  have h7 := h.1
  obtain ⟨T, hT⟩ := gFx
  have w := m_nm1 ha hp h hm k 0 (T + 49999) (by omega) (by omega)
  rw [show nv a p (min 0 6) = 0 from rfl, nI_0] at w
  rw [fx_M_nameAt hT]
  exact w
