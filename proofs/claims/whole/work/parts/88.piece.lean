/-! decode: codes and entities, a piece, the whole form -/
def dv (a : aS) (p : Nat) : Nat → Nat
  | 0 => 0
  | k + 1 => 10 * dv a p k + chA a (p + k) - 48
theorem dv_s (a : aS) (p k : Nat) : dv a p (k + 1) = 10 * dv a p k + chA a (p + k) - 48 := rfl
def dk (a : aS) (p k : Nat) : Prop := k ≤ 3 ∧ (∀ i, i < k → isG (chA a (p + i))) ∧ (k < 3 → ¬ isG (chA a (p + k)))
theorem dk_ex (a : aS) (p : Nat) : ∃ k, dk a p k := by
  obtain ⟨k, h1, h2⟩ := pk_least (fun i => i = 3 ∨ ¬ isG (chA a (p + i))) ⟨3, Or.inl rfl⟩
  refine ⟨k, ?_, fun i hi => ?_, fun hk => ?_⟩
  · by_cases e : k ≤ 3
    · exact e
    · exact absurd (Or.inl rfl) (h2 3 (by omega))
  · have := h2 i hi
    by_cases e : isG (chA a (p + i))
    · exact e
    · exact absurd (Or.inr e) this
  · rcases h1 with h1 | h1
    · omega
    · exact h1
theorem dv_lt {a : aS} {p k : Nat} (h : dk a p k) : ∀ i, i ≤ k → dv a p i < 10 ^ i := by
  intro i
  induction i with
  | zero => intro _; exact Nat.zero_lt_one
  | succ i ih =>
    intro hi
    have h1 := ih (by omega)
    have h2 := h.2.1 i (by omega)
    unfold isG at h2
    rw [dv_s, Nat.pow_succ]
    omega
theorem dv_1000 {a : aS} {p k : Nat} (h : dk a p k) : dv a p k < 1000 := by
  have h1 := dv_lt h k (Nat.le_refl _)
  have h2 : (10 : Nat) ^ k ≤ 10 ^ 3 := Nat.pow_le_pow_right (by decide) h.1
  rw [show (10 : Nat) ^ 3 = 1000 from rfl] at h2
  omega
theorem n_dvC {v c : Nat} (h : 48 ≤ c) : (nI v * 10 + nI c) - 48 = nI (10 * v + c - 48) := by
  rw [show nI v * 10 = nI (v * 10) from pk_mul v 10, nI_add, Nat.mul_comm v 10]
  exact pk_sub (b := 48) (by omega)
theorem n_dvM {v c : Nat} (h : 48 ≤ c) : (10 * nI v + nI c) - 48 = nI (10 * v + c - 48) := by
  rw [show 10 * nI v = nI (10 * v) from pk_mul 10 v, nI_add]
  exact pk_sub (b := 48) (by omega)
theorem c_cd1 {a : aS} (ha : okA a) {p k : Nat} (hp : p < 2000) (h : dk a p k) {σ : gS} (hc : absC σ a) : ∀ (d i t : Nat), i + d = k → R_F_readCode (t + (d + 1)) 1 [nI (dv a p i), nI i] (sI σ 8 (nI (p + i))) = R_F_readCode t 2 [nI (dv a p k)] (sI σ 8 (nI (p + k))) := by
  have h3 := h.1
  intro d
  induction d with
  | zero =>
    intro i t hi
    obtain rfl : i = k := by omega
    rw [show t + (0 + 1) = t + 1 from rfl, st_F_readCode_1]
    unfold B_F_readCode_1
    by_cases e : 3 ≤ i
    · rw [if_pos (show (3 : Int32) ≤ nI i by rw [c3_le (by omega)]; exact e)]
    · rw [if_neg (show ¬ (3 : Int32) ≤ nI i by rw [c3_le (by omega)]; exact e), sI_eq, c_code ha (absC_I hc (by decide) _) (by omega), gBd_s, (c_dig ha _ _).2 (h.2.2 (by omega)), gBd_s, if_pos rfl]
  | succ d ih =>
    intro i t hi
    have hL := h.2.1 i (by omega)
    have hL2 : 48 ≤ chA a (p + i) := hL.1
    rw [show t + (d + 1 + 1) = t + (d + 1) + 1 from rfl, st_F_readCode_1]
    unfold B_F_readCode_1
    rw [if_neg (show ¬ (3 : Int32) ≤ nI i by rw [c3_le (by omega)]; omega), sI_eq, c_code ha (absC_I hc (by decide) _) (by omega), gBd_s, (c_dig ha _ _).1 hL, gBd_s, if_neg i10, sI_eq, c_code ha (absC_I hc (by decide) _) (by omega), gBd_s, gPut_s, sI_eq, add_c1, sI_sI, cI_in (by omega), n_dvC hL2, add_c1]
    exact ih (i + 1) t (by omega)
theorem m_cd1 {a : aS} (ha : okA a) {p k : Nat} (hp : p < 2000) (h : dk a (p + 2) k) {τ : gS} (hm : absM τ a) (m4 : τ.1 4 = nI p) : ∀ (d i t : Nat), i + d = k → R_M_content (t + (d + 1)) 1 [nI (dv a (p + 2) i), nI (p + 2 + i)] τ = R_M_content t 2 [nI (dv a (p + 2) k), nI (p + 2 + k)] τ := by
  have h3 := h.1
  intro d
  induction d with
  | zero =>
    intro i t hi
    obtain rfl : i = k := by omega
    have c127 := chA_lt ha (p + 2 + i)
    rw [show t + (0 + 1) = t + 1 from rfl, st_M_content_1]
    unfold B_M_content_1
    rw [m4, show nI (p + 2 + i) - nI p = nI (2 + i) by rw [pk_sub (by omega)]; congr 1; omega]
    by_cases e : 3 ≤ i
    · rw [if_pos (show (5 : Int32) ≤ nI (2 + i) by rw [c5_le (by omega)]; omega)]
    · have hn := h.2.2 (by omega)
      rw [if_neg (show ¬ (5 : Int32) ≤ nI (2 + i) by rw [c5_le (by omega)]; omega), m_or0 ha hm (by omega), gBd_s]
      by_cases e1 : chA a (p + 2 + i) < 48
      · rw [if_pos (show nI (chA a (p + 2 + i)) < 48 by rw [lt_c48 (by omega)]; exact e1)]
      · rw [if_neg (show ¬ nI (chA a (p + 2 + i)) < 48 by rw [lt_c48 (by omega)]; exact e1), m_or0 ha hm (by omega), gBd_s, if_pos (show 57 < nI (chA a (p + 2 + i)) by rw [c57_lt (by omega)]; exact Nat.lt_of_not_le (fun q => hn ⟨by omega, q⟩))]
  | succ d ih =>
    intro i t hi
    have hL := h.2.1 i (by omega)
    have hL1 : 48 ≤ chA a (p + 2 + i) := hL.1
    have hL2 : chA a (p + 2 + i) ≤ 57 := hL.2
    rw [show t + (d + 1 + 1) = t + (d + 1) + 1 from rfl, st_M_content_1]
    unfold B_M_content_1
    rw [m4, show nI (p + 2 + i) - nI p = nI (2 + i) by rw [pk_sub (by omega)]; congr 1; omega, if_neg (show ¬ (5 : Int32) ≤ nI (2 + i) by rw [c5_le (by omega)]; omega), m_or0 ha hm (by omega), gBd_s, if_neg (show ¬ nI (chA a (p + 2 + i)) < 48 by rw [lt_c48 (by omega)]; omega), m_or0 ha hm (by omega), gBd_s, if_neg (show ¬ 57 < nI (chA a (p + 2 + i)) by rw [c57_lt (by omega)]; omega), m_or0 ha hm (by omega), gBd_s, n_dvM hL1, add_c1]
    exact ih (i + 1) t (by omega)
/-- does the page show the entity at p -/
theorem cl_shows {R : Nat → Nat → List Int32 → gS → Option (Int32 × gS)} {i : Nat} {c : Int32} (hcc : c = nI (gTn i)) (hn : gTn i < 100) (hp : ∀ k, k < gTn i → prtN ((gTx.getD i []).getD k 0)) (hR : ∀ (t : Nat) (x y : Int32) (σ : gS), R (t + 1) 1 [x, y] σ = if c ≤ y then some (1, σ) else gBd (f_P_codeAt σ (x + y)) (fun y5 σ6 => gChr i y (fun y8 => if y5 = y8 then R t 1 [x, y + 1] σ6 else some (0, σ6)))) {a : aS} (ha : okA a) {σ : gS} (hc : absC σ a) {p : Nat} (hpp : p < 2000) : ∀ (d k t : Nat), k + d = gTn i → d + 1 ≤ t → ∃ b : Bool, R t 1 [nI p, nI k] σ = some (bI b, σ) ∧ (b = true ↔ ∀ m, k ≤ m → m < gTn i → chA a (p + m) = (gTx.getD i []).getD m 0) := by
  intro d
  induction d with
  | zero =>
    intro k t hk ht
    obtain ⟨t, rfl⟩ : ∃ t', t = t' + 1 := ⟨t - 1, by omega⟩
    refine ⟨true, ?_, fun _ m h1 h2 => by omega, fun _ => rfl⟩
    rw [hR, hcc, if_pos (nI_le (by omega) (by omega))]
    rfl
  | succ d ih =>
    intro k t hk ht
    obtain ⟨t, rfl⟩ : ∃ t', t = t' + 1 := ⟨t - 1, by omega⟩
    have hpr := hp k (by omega)
    have h1 := hpr.1
    have h2 := hpr.2
    rw [hR, hcc, if_neg (nI_ge (by omega) (by omega)), nI_add, c_code ha hc (by omega), gBd_s, gChr_n (by omega) hn]
    by_cases e : chA a (p + k) = (gTx.getD i []).getD k 0
    · obtain ⟨b, w1, w2⟩ := ih (k + 1) t (by omega) (by omega)
      rw [if_pos ((cI_eq ha (by omega) (by omega)).mpr e), add_c1]
      refine ⟨b, w1, w2.trans ⟨fun h m h1 h2 => ?_, fun h m h1 h2 => h m (by omega) h2⟩⟩
      by_cases e2 : m = k
      · rw [e2]; exact e
      · exact h m (by omega) h2
    · rw [if_neg (fun q => e ((cI_eq ha (by omega) (by omega)).mp q))]
      exact ⟨false, rfl, fun q => (by cases q), fun h => absurd (h k (by omega) (by omega)) e⟩
theorem c_sh21 {a : aS} (ha : okA a) {σ : gS} (hc : absC σ a) {p : Nat} (hpp : p < 2000) (h38 : chA a p = 38) : ∃ b : Bool, f_P_showsAt_S21 σ (nI p) = some (bI b, σ) ∧ (b = true ↔ chA a (p + 1) = 108 ∧ chA a (p + 2) = 116 ∧ chA a (p + 3) = 59) := by
  obtain ⟨T, hT⟩ := gFx
  obtain ⟨b, w1, w2⟩ := cl_shows (R := R_P_showsAt_S21) (i := 21) (c := 4) rfl (by decide) (by unfold prtN; decide) (fun t x y σ => st_P_showsAt_S21_1 t x y σ) ha hc hpp 4 0 (T + 49999) rfl (by omega)
  rw [nI_0] at w1
  refine ⟨b, by rw [fx_P_showsAt_S21 hT]; exact w1, w2.trans ⟨fun h => ?_, fun h m _ hm => ?_⟩⟩
  · exact ⟨h 1 (by decide) (by decide), h 2 (by decide) (by decide), h 3 (by decide) (by decide)⟩
  · have hm : m < 4 := hm
    obtain ⟨h1, h2, h3⟩ := h
    have hh : m = 0 ∨ m = 1 ∨ m = 2 ∨ m = 3 := by omega
    rcases hh with rfl | rfl | rfl | rfl
    · exact h38
    · exact h1
    · exact h2
    · exact h3
theorem c_sh22 {a : aS} (ha : okA a) {σ : gS} (hc : absC σ a) {p : Nat} (hpp : p < 2000) (h38 : chA a p = 38) : ∃ b : Bool, f_P_showsAt_S22 σ (nI p) = some (bI b, σ) ∧ (b = true ↔ chA a (p + 1) = 103 ∧ chA a (p + 2) = 116 ∧ chA a (p + 3) = 59) := by
  obtain ⟨T, hT⟩ := gFx
  obtain ⟨b, w1, w2⟩ := cl_shows (R := R_P_showsAt_S22) (i := 22) (c := 4) rfl (by decide) (by unfold prtN; decide) (fun t x y σ => st_P_showsAt_S22_1 t x y σ) ha hc hpp 4 0 (T + 49999) rfl (by omega)
  rw [nI_0] at w1
  refine ⟨b, by rw [fx_P_showsAt_S22 hT]; exact w1, w2.trans ⟨fun h => ?_, fun h m _ hm => ?_⟩⟩
  · exact ⟨h 1 (by decide) (by decide), h 2 (by decide) (by decide), h 3 (by decide) (by decide)⟩
  · have hm : m < 4 := hm
    obtain ⟨h1, h2, h3⟩ := h
    have hh : m = 0 ∨ m = 1 ∨ m = 2 ∨ m = 3 := by omega
    rcases hh with rfl | rfl | rfl | rfl
    · exact h38
    · exact h1
    · exact h2
    · exact h3
theorem c_sh23 {a : aS} (ha : okA a) {σ : gS} (hc : absC σ a) {p : Nat} (hpp : p < 2000) (h38 : chA a p = 38) : ∃ b : Bool, f_P_showsAt_S23 σ (nI p) = some (bI b, σ) ∧ (b = true ↔ chA a (p + 1) = 97 ∧ chA a (p + 2) = 109 ∧ chA a (p + 3) = 112 ∧ chA a (p + 4) = 59) := by
  obtain ⟨T, hT⟩ := gFx
  obtain ⟨b, w1, w2⟩ := cl_shows (R := R_P_showsAt_S23) (i := 23) (c := 5) rfl (by decide) (by unfold prtN; decide) (fun t x y σ => st_P_showsAt_S23_1 t x y σ) ha hc hpp 5 0 (T + 49999) rfl (by omega)
  rw [nI_0] at w1
  refine ⟨b, by rw [fx_P_showsAt_S23 hT]; exact w1, w2.trans ⟨fun h => ?_, fun h m _ hm => ?_⟩⟩
  · exact ⟨h 1 (by decide) (by decide), h 2 (by decide) (by decide), h 3 (by decide) (by decide), h 4 (by decide) (by decide)⟩
  · have hm : m < 5 := hm
    obtain ⟨h1, h2, h3, h4⟩ := h
    have hh : m = 0 ∨ m = 1 ∨ m = 2 ∨ m = 3 ∨ m = 4 := by omega
    rcases hh with rfl | rfl | rfl | rfl | rfl
    · exact h38
    · exact h1
    · exact h2
    · exact h3
    · exact h4
theorem c_sh24 {a : aS} (ha : okA a) {σ : gS} (hc : absC σ a) {p : Nat} (hpp : p < 2000) (h38 : chA a p = 38) : ∃ b : Bool, f_P_showsAt_S24 σ (nI p) = some (bI b, σ) ∧ (b = true ↔ chA a (p + 1) = 113 ∧ chA a (p + 2) = 117 ∧ chA a (p + 3) = 111 ∧ chA a (p + 4) = 116 ∧ chA a (p + 5) = 59) := by
  obtain ⟨T, hT⟩ := gFx
  obtain ⟨b, w1, w2⟩ := cl_shows (R := R_P_showsAt_S24) (i := 24) (c := 6) rfl (by decide) (by unfold prtN; decide) (fun t x y σ => st_P_showsAt_S24_1 t x y σ) ha hc hpp 6 0 (T + 49999) rfl (by omega)
  rw [nI_0] at w1
  refine ⟨b, by rw [fx_P_showsAt_S24 hT]; exact w1, w2.trans ⟨fun h => ?_, fun h m _ hm => ?_⟩⟩
  · exact ⟨h 1 (by decide) (by decide), h 2 (by decide) (by decide), h 3 (by decide) (by decide), h 4 (by decide) (by decide), h 5 (by decide) (by decide)⟩
  · have hm : m < 6 := hm
    obtain ⟨h1, h2, h3, h4, h5⟩ := h
    have hh : m = 0 ∨ m = 1 ∨ m = 2 ∨ m = 3 ∨ m = 4 ∨ m = 5 := by omega
    rcases hh with rfl | rfl | rfl | rfl | rfl | rfl
    · exact h38
    · exact h1
    · exact h2
    · exact h3
    · exact h4
    · exact h5
