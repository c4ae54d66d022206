/-! Cells of the class and of the reference, and the small tests, as words -/
abbrev gT (cI cC cZ : ClassId) : List (ClassId × FieldType) := [(cI, .int), (cC, .char), (cZ, .boolean)]
abbrev kI (c : ClassId) (q N : Nat) (f : Nat → Int32) : Nat × va_E := (q, .inl (c, N, .inl f))
def pHas (n x : Int32) : Bool := !decide (x < 0) && !decide (n ≤ x)
def pTxt (n : Int32) (K : Nat → Int32) (x : Int32) : Bool := pHas n x && decide (K x.toNatClampNeg = 2)
def pSlt (n : Int32) (K Z : Nat → Int32) (x k : Int32) : Bool := pHas n x && (!decide (K x.toNatClampNeg = 2) && (!decide (k < 0) && !decide (Z x.toNatClampNeg ≤ k)))
def pPrt (c : Int32) : Bool := !decide (c < 32) && !decide (126 < c)
theorem pHas_in {n N : Nat} {x : Int32} (h : pHas (nI n) x = true) (hn : n ≤ N) (hN : N < 2 ^ 31) : ∃ j : Nat, j < n ∧ x = nI j ∧ vp_in x N := by
  simp only [pHas, Bool.and_eq_true, Bool.not_eq_true', decide_eq_false_iff_not] at h
  exact g_in h.1 h.2 hn hN
theorem pSlt_1 {n : Int32} {K Z : Nat → Int32} {x k : Int32} (h : pSlt n K Z x k = true) : pHas n x = true ∧ ¬ K x.toNatClampNeg = 2 ∧ ¬ k < 0 ∧ ¬ Z x.toNatClampNeg ≤ k := by
  simpa only [pSlt, Bool.and_eq_true, Bool.not_eq_true', decide_eq_false_iff_not] using h
theorem pTxt_1 {n : Int32} {K : Nat → Int32} {x : Int32} (h : pTxt n K x = true) : pHas n x = true ∧ K x.toNatClampNeg = 2 := by
  simpa only [pTxt, Bool.and_eq_true, decide_eq_true_eq] using h
/-- the four slots of a row emptied -/
def gLay (C : Nat → Int32) (j : Nat) : Nat → Int32 := upd (upd (upd (upd C (4 * j + 0) 0) (4 * j + 1) 0) (4 * j + 2) 0) (4 * j + 3) 0
def pMk (n : Nat) (x z : Int32) : Bool := decide (n < 16) && (decide (x = 0) || ((decide (x = 1) && (!decide (z < 0) && !decide (4 < z))) || decide (x = 2)))
def pMz (x z : Int32) : Int32 := if x = 0 then 2 else if x = 1 then z else 0
theorem pMz_0 (z : Int32) : pMz 0 z = 2 := by simp [pMz]
theorem pMz_1 (z : Int32) : pMz 1 z = z := by simp [pMz]
theorem pMz_2 (z : Int32) : pMz 2 z = 0 := by simp [pMz]
def pTy (n : Int32) (K Z : Nat → Int32) (x ch : Int32) : Bool := pTxt n K x && (pPrt ch && decide (Z x.toNatClampNeg < 6))
def pUn (U : Nat → Int32) (k y : Int32) : Bool := !decide (k < 0) && (!decide (32 ≤ k) && !decide (U k.toNatClampNeg = y))
def pFd (ed : Nat) (ch : Int32) : Bool := pPrt ch && decide (ed < 1600)
def pAl (ed : Nat) (x ch : Int32) : Bool := pHas (nI ed) x && pPrt ch
def pCt (ed : Nat) (x : Int32) : Bool := !decide (x < 0) && !decide (nI ed < x)
def ix4 (x k : Int32) : Nat := 4 * x.toNatClampNeg + k.toNatClampNeg
def ix6 (x k : Int32) : Nat := 6 * x.toNatClampNeg + k.toNatClampNeg
theorem ix4_n {j i : Nat} (hj : j < 2 ^ 31) (hi : i < 2 ^ 31) : ix4 (nI j) (nI i) = 4 * j + i := by rw [ix4, nI_clamp hj, nI_clamp hi]
theorem ix6_n {j i : Nat} (hj : j < 2 ^ 31) (hi : i < 2 ^ 31) : ix6 (nI j) (nI i) = 6 * j + i := by rw [ix6, nI_clamp hj, nI_clamp hi]
/-- sizes of slot objects and of texts are in their bounds -/
def okZ (n : Nat) (K Z : Nat → Int32) : Prop := (∀ j, j < n → ¬ K j = 2 → ∃ z : Nat, z ≤ 4 ∧ Z j = nI z) ∧ ∀ j, j < n → K j = 2 → ∃ z : Nat, z ≤ 6 ∧ Z j = nI z
def okT (T : Nat → Int32) : Prop := ∀ q, narrow .char (.int (T q)) = .int (T q)
theorem pSlt_in {n : Nat} {K Z : Nat → Int32} {x k : Int32} (h : pSlt (nI n) K Z x k = true) (hn : n ≤ 16) (hz : okZ n K Z) : ∃ j i : Nat, j < n ∧ i < 4 ∧ x = nI j ∧ k = nI i := by
  obtain ⟨h1, h2, h3, h4⟩ := pSlt_1 h
  obtain ⟨j, hj, rfl, -⟩ := pHas_in h1 hn (by decide)
  rw [nI_clamp (by omega)] at h2 h4
  obtain ⟨z, z4, hz⟩ := hz.1 j hj h2
  rw [hz] at h4
  obtain ⟨i, hi, rfl, -⟩ := pk_mu h3 h4 (by omega)
  exact ⟨j, i, hj, by omega, rfl, rfl⟩
theorem p3 {x : Int32} (h : ¬ x < 0) (h2 : ¬ 2 < x) : x = 0 ∨ x = 1 ∨ x = 2 := by
  obtain ⟨j, hj, rfl⟩ := nI_of2 (M := 2) (n := 2) (by decide) h (Int32.not_lt.mp h2)
  rcases (show j = 0 ∨ j = 1 ∨ j = 2 by omega) with rfl | rfl | rfl
  · exact Or.inl rfl
  · exact Or.inr (Or.inl rfl)
  · exact Or.inr (Or.inr rfl)
theorem p31 {k : Int32} (h : ¬ 31 < k) : ¬ 32 ≤ k := fun q => h (by
  rw [Int32.lt_iff_toInt_lt]
  rw [Int32.le_iff_toInt_le] at q
  exact Int.lt_of_lt_of_le (by decide) q)
theorem p31b {k : Int32} (h : 31 < k) : 32 ≤ k := by
  rw [Int32.lt_iff_toInt_lt] at h
  rw [Int32.le_iff_toInt_le]
  exact h
theorem p31c {k : Int32} (h : 32 ≤ k) : 31 < k := by
  rw [Int32.le_iff_toInt_le] at h
  rw [Int32.lt_iff_toInt_lt]
  exact Int.lt_of_lt_of_le (by decide) h
theorem p31d {k : Int32} (h : ¬ 32 ≤ k) : ¬ 31 < k := fun q => h (p31b q)
