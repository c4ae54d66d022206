/-! decode: what a content must keep, as the one side asks and as the other -/
def offE (a : aS) (D : dS) (e : Nat) : Nat := (cIn a D e 15).getD 0
def szO (a : aS) (D : dS) (e : Nat) : Nat := if zM D e = 16 then 2 else if zM D e = 1 then (cIn a D e 14).getD 0 else 0
def bit (tk s : Nat) : Bool := decide (tk / 2 ^ s % 2 = 1)
def sca (a : aS) (D : dS) (q : Nat) : Nat → Option (Nat × Nat)
  | 0 => some (offE a D q, 0)
  | c + 1 => if zP D c = some q then (match sca a D q c with
      | none => none
      | some r => if szO a D q ≤ (cIn a D c 47).getD r.1 ∨ bit r.2 ((cIn a D c 47).getD r.1) = true then none else some ((cIn a D c 47).getD r.1 + 1, r.2 + 2 ^ ((cIn a D c 47).getD r.1))) else sca a D q c
theorem sca_s (a : aS) (D : dS) (q c : Nat) : sca a D q (c + 1) = if zP D c = some q then (match sca a D q c with
      | none => none
      | some r => if szO a D q ≤ (cIn a D c 47).getD r.1 ∨ bit r.2 ((cIn a D c 47).getD r.1) = true then none else some ((cIn a D c 47).getD r.1 + 1, r.2 + 2 ^ ((cIn a D c 47).getD r.1))) else sca a D q c := rfl
theorem sca_no {a : aS} {D : dS} {q c : Nat} (h : zP D c ≠ some q) : sca a D q (c + 1) = sca a D q c := if_neg h
theorem sca_up {a : aS} {D : dS} {q : Nat} : ∀ d m, sca a D q m = none → sca a D q (m + d) = none := by
  intro d
  induction d with
  | zero => intro m h; exact h
  | succ d ih =>
    intro m h
    rw [← Nat.add_assoc, sca_s, ih m h]
    split <;> rfl
theorem sca_first {a : aS} {D : dS} {q : Nat} : ∀ m, sca a D q m = none → ∃ c, c < m ∧ zP D c = some q ∧ sca a D q (c + 1) = none := by
  intro m
  induction m with
  | zero => intro h; cases h
  | succ m ih =>
    intro h
    by_cases e : zP D m = some q
    · exact ⟨m, by omega, e, h⟩
    · rw [sca_no e] at h
      obtain ⟨c, h1, h2, h3⟩ := ih h
      exact ⟨c, by omega, h2, h3⟩
/-- as many bits as children -/
def pcN (t : Nat) : Nat := t % 2 + t / 2 % 2 + t / 4 % 2 + t / 8 % 2
theorem pc_add : ∀ t, t < 16 → ∀ s, s < 4 → bit t s = false → pcN (t + 2 ^ s) = pcN t + 1 ∧ t + 2 ^ s < 16 := by decide
theorem pc_2 : ∀ t, t < 4 → ∀ s, s < 2 → bit t s = false → t + 2 ^ s < 4 := by decide
def kcB (D : dS) (q m : Nat) : Nat := smN (fun c => if zP D c = some q then 1 else 0) m
theorem sca_pc {a : aS} {D : dS} {q : Nat} (hz : szO a D q ≤ 4) : ∀ m r, sca a D q m = some r → r.2 < 16 ∧ pcN r.2 = kcB D q m ∧ (szO a D q ≤ 2 → r.2 < 4) := by
  intro m
  induction m with
  | zero =>
    intro r h
    have h := Option.some.inj h
    rw [← h]
    exact ⟨show 0 < 16 by decide, show pcN 0 = kcB D q 0 from rfl, fun _ => show 0 < 4 by decide⟩
  | succ m ih =>
    intro r h
    have hk : kcB D q (m + 1) = kcB D q m + if zP D m = some q then 1 else 0 := rfl
    by_cases e : zP D m = some q
    · rw [sca_s, if_pos e] at h
      cases h1 : sca a D q m with
      | none => rw [h1] at h; cases h
      | some r0 =>
        rw [h1] at h
        have h : (if szO a D q ≤ (cIn a D m 47).getD r0.1 ∨ bit r0.2 ((cIn a D m 47).getD r0.1) = true then none else some ((cIn a D m 47).getD r0.1 + 1, r0.2 + 2 ^ ((cIn a D m 47).getD r0.1))) = some r := h
        obtain ⟨i1, i2, i3⟩ := ih r0 h1
        by_cases c : szO a D q ≤ (cIn a D m 47).getD r0.1 ∨ bit r0.2 ((cIn a D m 47).getD r0.1) = true
        · rw [if_pos c] at h; cases h
        · rw [if_neg c] at h
          have h := Option.some.inj h
          have hs : (cIn a D m 47).getD r0.1 < szO a D q := Nat.lt_of_not_le (fun z => c (Or.inl z))
          have hb : bit r0.2 ((cIn a D m 47).getD r0.1) = false := by
            cases z : bit r0.2 ((cIn a D m 47).getD r0.1) with
            | false => rfl
            | true => exact absurd (Or.inr z) c
          have w := pc_add r0.2 i1 _ (by omega) hb
          rw [← h, hk, if_pos e]
          refine ⟨w.2, by show pcN (r0.2 + _) = _; rw [w.1, i2], fun h2 => ?_⟩
          exact pc_2 r0.2 (i3 h2) _ (by omega) hb
    · rw [sca_no e] at h
      obtain ⟨i1, i2, i3⟩ := ih r h
      exact ⟨i1, by rw [hk, if_neg e]; exact i2, i3⟩
theorem pc_3 : ∀ t, t < 4 → (pcN t = 2 ↔ t = 3) := by decide
/-! ids -/
def wI (a : aS) (D : dS) (b v : Nat) : Nat → Option Nat
  | 0 => none
  | c + 1 => match wI a D b v c with
    | some e => some e
    | none => if b < c ∧ ob D c = true ∧ cIn a D c 247 = some v then some c else none
theorem wI_n {a : aS} {D : dS} {b v c : Nat} (h : wI a D b v c = none) : wI a D b v (c + 1) = if b < c ∧ ob D c = true ∧ cIn a D c 247 = some v then some c else none := by
  show (match wI a D b v c with | some e => some e | none => if b < c ∧ ob D c = true ∧ cIn a D c 247 = some v then some c else none) = _
  rw [h]
theorem wI_k {a : aS} {D : dS} {b v c e : Nat} (h : wI a D b v c = some e) : wI a D b v (c + 1) = some e := by
  show (match wI a D b v c with | some e => some e | none => if b < c ∧ ob D c = true ∧ cIn a D c 247 = some v then some c else none) = _
  rw [h]
theorem wI_in {a : aS} {D : dS} {b v : Nat} : ∀ m e, wI a D b v m = some e → b < e ∧ e < m ∧ ob D e = true ∧ cIn a D e 247 = some v := by
  intro m
  induction m with
  | zero => intro e h; cases h
  | succ m ih =>
    intro e h
    cases h1 : wI a D b v m with
    | some e' =>
      rw [wI_k h1] at h
      rw [← Option.some.inj h]
      obtain ⟨w1, w2, w3⟩ := ih e' h1
      exact ⟨w1, by omega, w3⟩
    | none =>
      rw [wI_n h1] at h
      by_cases c : b < m ∧ ob D m = true ∧ cIn a D m 247 = some v
      · rw [if_pos c] at h
        rw [← Option.some.inj h]
        exact ⟨c.1, by omega, c.2⟩
      · rw [if_neg c] at h; cases h
theorem wI_ex {a : aS} {D : dS} {b v : Nat} : ∀ m e, b < e → e < m → ob D e = true → cIn a D e 247 = some v → wI a D b v m ≠ none := by
  intro m
  induction m with
  | zero => intro e _ h; omega
  | succ m ih =>
    intro e h1 h2 h3 h4 hn
    cases h5 : wI a D b v m with
    | some e' => rw [wI_k h5] at hn; cases hn
    | none =>
      by_cases c : e = m
      · rw [wI_n h5, ← c, if_pos ⟨h1, h3, h4⟩] at hn
        cases hn
      · exact ih e h1 (by omega) h3 h4 h5
def oc (D : dS) (b : Nat) : Nat → Nat
  | 0 => 0
  | m + 1 => oc D b m + if b < m ∧ ob D m = true then 1 else 0
theorem oc_s (D : dS) (b m : Nat) : oc D b (m + 1) = oc D b m + if b < m ∧ ob D m = true then 1 else 0 := rfl
theorem oc_up (D : dS) (b : Nat) : ∀ d m, oc D b m ≤ oc D b (m + d) := by
  intro d
  induction d with
  | zero => intro m; exact Nat.le_refl _
  | succ d ih => intro m; have := ih m; rw [← Nat.add_assoc, oc_s]; omega
theorem oc_lt {D : dS} {b e m : Nat} (hb : b < e) (he : e < m) (ho : ob D e = true) : oc D b e < oc D b m := by
  have h1 := oc_up D b (m - (e + 1)) (e + 1)
  rw [show e + 1 + (m - (e + 1)) = m by omega, oc_s, if_pos ⟨hb, ho⟩] at h1
  omega
theorem oc_0 (D : dS) (b : Nat) : ∀ m, m ≤ b + 1 → oc D b m = 0 := by
  intro m
  induction m with
  | zero => intro _; rfl
  | succ m ih => intro h; rw [oc_s, ih (by omega), if_neg (fun q => by omega)]
def tgE (a : aS) (D : dS) (b e : Nat) : Option Nat := if zM D e = 18 then (match cIn a D e 8 with
    | none => none
    | some v => wI a D b v (zN D)) else if ob D e = true then some e else none
def szOK (a : aS) (D : dS) (e : Nat) : Bool := match cIn a D e 14 with
  | none => false
  | some s => decide (s ≤ 4 ∧ (cIn a D e 15).getD 0 ≤ s)
def snd' (a : aS) (D : dS) (e : Nat) : Bool := atS a D e && (if zM D e = 1 then decide ((zX D e).length = 0) && szOK a D e else if zM D e = 9 then decide (kc D e = 0 ∧ nV (zX D e) ≠ bigN) else if zM D e = 14 then decide ((zX D e).length = 0 ∧ kc D e = 0) else if zM D e = 16 then decide ((zX D e).length = 0 ∧ kc D e = 2) else if zM D e = 18 then decide ((zX D e).length = 0 ∧ kc D e = 0 ∧ fA D e 8 ≠ none) else if zM D e = 20 then decide (kc D e = 0 ∧ (zX D e).length ≤ 6) else false)
def ftB (a : aS) (D : dS) (b e : Nat) : Bool := decide (zP D e = some b ∨ pMn D e = 16 ∨ pMn D e = 1) && decide (ob D e = true ∨ zM D e = 14 ∨ zM D e = 9 ∨ zM D e = 18) && atS a D e && decide (zM D e = 18 → fA D e 8 ≠ none) && (if zM D e = 9 then decide (nV (zX D e) ≠ bigN) else decide ((zX D e).length ≤ if zM D e = 20 then 6 else 0))
def slB (a : aS) (D : dS) (e : Nat) : Bool := (zM D e == 16 || szOK a D e) && (match sca a D e (zN D) with
  | none => false
  | some r => decide (zM D e = 1 ∨ r.2 = 3))
def CC (a : aS) (D : dS) (b : Nat) : Prop := (∀ e, b < e → e < zN D → snd' a D e = true) ∧ (∀ e v, b < e → e < zN D → ob D e = true → cIn a D e 247 = some v → wI a D b v e = none) ∧ sN a + oc D b (zN D) ≤ 16 ∧ (∀ e, b < e → e < zN D → zP D e = some b → (e = b + 1 → tgE a D b e ≠ none) ∧ (e ≠ b + 1 → ob D e = true ∧ fA D e 247 ≠ none)) ∧ (∀ e q, b < e → e < zN D → zP D e = some q → q ≠ b → ob D q = true ∧ sca a D q (e + 1) ≠ none ∧ (zM D e = 14 ∨ zM D e = 9 ∨ tgE a D b e ≠ none))
def RR (a : aS) (D : dS) (b : Nat) : Prop := (∀ e, b < e → e < zN D → ftB a D b e = true) ∧ (∀ e, b < e → e < zN D → zM D e = 16 ∨ zM D e = 1 → slB a D e = true) ∧ (∀ e e' v, b < e → e < zN D → ob D e = true → cIn a D e 247 = some v → b < e' → e' < zN D → e' ≠ e → ob D e' = true → cIn a D e' 247 ≠ some v) ∧ (∀ e v, b < e → e < zN D → zM D e = 18 → cIn a D e 8 = some v → wI a D b v (zN D) ≠ none) ∧ sN a + oc D b (zN D) ≤ 16 ∧ (∀ e, b < e → e < zN D → zP D e = some b → (ob D e = true ∧ (e = b + 1 ∨ fA D e 247 ≠ none)) ∨ (e = b + 1 ∧ zM D e = 18))
/-- the body: the last child of the outermost; all behind it lies within it -/
def bdy (D : dS) (b : Nat) : Prop := 0 < b ∧ b < zN D ∧ zP D b = some 0 ∧ ∀ e, b < e → e < zN D → zP D e ≠ some 0
theorem desc {a : aS} {D : dS} (h : wB a D) {b : Nat} (hb : bdy D b) {e : Nat} (h1 : b < e) (h2 : e < zN D) : ∃ q, zP D e = some q ∧ b ≤ q ∧ q < e := by
  obtain ⟨q, p1, p2⟩ := par_ex h h2 (by omega)
  refine ⟨q, p1, ?_, p2⟩
  by_cases c : b ≤ q
  · exact c
  · have := h.2.2.2.2.2.2.2.2.2.2 e b q h1 h2 hb.2.2.1 p1 (by omega)
    rw [this] at p1
    exact absurd p1 (hb.2.2.2 e h1 h2)
theorem kc_ch {D : dS} {q : Nat} (h : kc D q ≠ 0) : ∃ c, c < zN D ∧ zP D c = some q := by
  have : ∀ n, smN (fun c => if zP D c = some q then 1 else 0) n ≠ 0 → ∃ c, c < n ∧ zP D c = some q := by
    intro n
    induction n with
    | zero => intro h; exact absurd rfl h
    | succ n ih =>
      intro h
      by_cases e : zP D n = some q
      · exact ⟨n, by omega, e⟩
      · rw [smN_s, if_neg e] at h
        obtain ⟨c, c1, c2⟩ := ih h
        exact ⟨c, by omega, c2⟩
  exact this (zN D) h
theorem ob_3 {D : dS} {e : Nat} : ob D e = true ↔ zM D e = 16 ∨ zM D e = 1 ∨ zM D e = 20 := by
  unfold ob
  exact decide_eq_true_iff
theorem snd_at {a : aS} {D : dS} {e : Nat} (h : snd' a D e = true) : atS a D e = true := by
  unfold snd' at h
  exact ((Bool.and_eq_true _ _).mp h).1
/-- what soundness says of each name -/
theorem snd_k {a : aS} {D : dS} {e : Nat} : snd' a D e = true ↔ atS a D e = true ∧ ((zM D e = 1 ∧ (zX D e).length = 0 ∧ szOK a D e = true) ∨ (zM D e = 9 ∧ kc D e = 0 ∧ nV (zX D e) ≠ bigN) ∨ (zM D e = 14 ∧ (zX D e).length = 0 ∧ kc D e = 0) ∨ (zM D e = 16 ∧ (zX D e).length = 0 ∧ kc D e = 2) ∨ (zM D e = 18 ∧ (zX D e).length = 0 ∧ kc D e = 0 ∧ fA D e 8 ≠ none) ∨ (zM D e = 20 ∧ kc D e = 0 ∧ (zX D e).length ≤ 6)) := by
  unfold snd'
  rw [Bool.and_eq_true]
  refine and_congr Iff.rfl ?_
  by_cases e1 : zM D e = 1
  · rw [if_pos e1]
    simp [e1]
  · rw [if_neg e1]
    by_cases e2 : zM D e = 9
    · rw [if_pos e2]
      simp [e2]
    · rw [if_neg e2]
      by_cases e3 : zM D e = 14
      · rw [if_pos e3]
        simp [e3]
      · rw [if_neg e3]
        by_cases e4 : zM D e = 16
        · rw [if_pos e4]
          simp [e4]
        · rw [if_neg e4]
          by_cases e5 : zM D e = 18
          · rw [if_pos e5]
            simp [e5]
          · rw [if_neg e5]
            by_cases e6 : zM D e = 20
            · rw [if_pos e6]
              simp [e6]
            · rw [if_neg e6]
              simp [e1, e2, e3, e4, e5, e6]
theorem snd_f {a : aS} {D : dS} {e : Nat} (h : snd' a D e = true) : (zM D e = 18 → fA D e 8 ≠ none) ∧ (zM D e = 9 → nV (zX D e) ≠ bigN) ∧ (zM D e ≠ 9 → (zX D e).length ≤ if zM D e = 20 then 6 else 0) ∧ (zM D e = 1 → szOK a D e = true) ∧ (zM D e = 16 → kc D e = 2) ∧ (zM D e = 20 → kc D e = 0) ∧ (zM D e = 1 ∨ zM D e = 9 ∨ zM D e = 14 ∨ zM D e = 16 ∨ zM D e = 18 ∨ zM D e = 20) ∧ (zM D e ≠ 16 → zM D e ≠ 1 → kc D e = 0) := by
  have h := (snd_k.mp h).2
  rcases h with ⟨n, r1, r2⟩ | ⟨n, r1, r2⟩ | ⟨n, r1, r2⟩ | ⟨n, r1, r2⟩ | ⟨n, r1, r2, r3⟩ | ⟨n, r1, r2⟩
  · exact ⟨fun q => by omega, fun q => by omega, fun _ => by rw [r1]; exact Nat.zero_le _, fun _ => r2, fun q => by omega, fun q => by omega, by omega, fun _ q => absurd n q⟩
  · exact ⟨fun q => by omega, fun _ => r2, fun q => absurd n q, fun q => by omega, fun q => by omega, fun q => by omega, by omega, fun _ _ => r1⟩
  · exact ⟨fun q => by omega, fun q => by omega, fun _ => by rw [r1]; exact Nat.zero_le _, fun q => by omega, fun q => by omega, fun q => by omega, by omega, fun _ _ => r2⟩
  · exact ⟨fun q => by omega, fun q => by omega, fun _ => by rw [r1]; exact Nat.zero_le _, fun q => by omega, fun _ => r2, fun q => by omega, by omega, fun q => absurd n q⟩
  · exact ⟨fun _ => r3, fun q => by omega, fun _ => by rw [r1]; exact Nat.zero_le _, fun q => by omega, fun q => by omega, fun q => by omega, by omega, fun _ _ => r2⟩
  · exact ⟨fun q => by omega, fun q => by omega, fun _ => by rw [if_pos n]; exact r2, fun q => by omega, fun q => by omega, fun _ => r1, by omega, fun _ _ => r1⟩
theorem ft_k {a : aS} {D : dS} {b e : Nat} : ftB a D b e = true ↔ (zP D e = some b ∨ pMn D e = 16 ∨ pMn D e = 1) ∧ (ob D e = true ∨ zM D e = 14 ∨ zM D e = 9 ∨ zM D e = 18) ∧ atS a D e = true ∧ (zM D e = 18 → fA D e 8 ≠ none) ∧ (zM D e = 9 → nV (zX D e) ≠ bigN) ∧ (zM D e ≠ 9 → (zX D e).length ≤ if zM D e = 20 then 6 else 0) := by
  unfold ftB
  simp only [Bool.and_eq_true, decide_eq_true_eq]
  by_cases e9 : zM D e = 9
  · rw [if_pos e9]
    simp only [decide_eq_true_eq]
    constructor
    · rintro ⟨⟨⟨⟨h1, h2⟩, h3⟩, h4⟩, h5⟩
      exact ⟨h1, h2, h3, h4, fun _ => h5, fun q => absurd e9 q⟩
    · rintro ⟨h1, h2, h3, h4, h5, h6⟩
      exact ⟨⟨⟨⟨h1, h2⟩, h3⟩, h4⟩, h5 e9⟩
  · rw [if_neg e9]
    simp only [decide_eq_true_eq]
    constructor
    · rintro ⟨⟨⟨⟨h1, h2⟩, h3⟩, h4⟩, h5⟩
      exact ⟨h1, h2, h3, h4, fun q => absurd q e9, fun _ => h5⟩
    · rintro ⟨h1, h2, h3, h4, h5, h6⟩
      exact ⟨⟨⟨⟨h1, h2⟩, h3⟩, h4⟩, h6 e9⟩
theorem szO_4 {a : aS} {D : dS} {e : Nat} (h : zM D e = 16 ∨ szOK a D e = true) (h2 : zM D e = 16 ∨ zM D e = 1) : szO a D e ≤ 4 := by
  unfold szO
  by_cases e1 : zM D e = 16
  · rw [if_pos e1]; decide
  · rw [if_neg e1, if_pos (h2.resolve_left e1)]
    have h := h.resolve_left e1
    unfold szOK at h
    cases c : cIn a D e 14 with
    | none => exact Nat.zero_le _
    | some s =>
      rw [c] at h
      have h : s ≤ 4 ∧ _ := of_decide_eq_true h
      exact h.1
theorem sl_k {a : aS} {D : dS} {e : Nat} : slB a D e = true ↔ (zM D e = 16 ∨ szOK a D e = true) ∧ ∃ r, sca a D e (zN D) = some r ∧ (zM D e = 1 ∨ r.2 = 3) := by
  unfold slB
  rw [Bool.and_eq_true, Bool.or_eq_true, beq_iff_eq]
  refine and_congr Iff.rfl ?_
  cases h : sca a D e (zN D) with
  | none => exact ⟨fun q => (by cases q), fun ⟨r, q, _⟩ => (by cases q)⟩
  | some r =>
    constructor
    · intro q
      exact ⟨r, rfl, of_decide_eq_true q⟩
    · rintro ⟨r', q1, q2⟩
      have q1 := Option.some.inj q1
      rw [← q1] at q2
      exact decide_eq_true q2
theorem CC_RR {a : aS} {D : dS} (h : wB a D) {b : Nat} (hb : bdy D b) : CC a D b ↔ RR a D b := by
  constructor
  · rintro ⟨C1, C2, C3, C4, C5⟩
    have par : ∀ e q, b < e → e < zN D → zP D e = some q → q ≠ b → zM D q = 16 ∨ zM D q = 1 := by
      intro e q h1 h2 hp hq
      obtain ⟨q', p1, p2, p3⟩ := desc h hb h1 h2
      have e1 : q' = q := Option.some.inj (p1.symm.trans hp)
      rcases ob_3.mp (C5 e q h1 h2 hp hq).1 with o | o | o
      · exact Or.inl o
      · exact Or.inr o
      · exfalso
        have := (snd_f (C1 q (by omega) (by omega))).2.2.2.2.2.1 o
        exact kc_pos h2 hp this
    refine ⟨fun e h1 h2 => ?_, fun e h1 h2 hn => ?_, fun e e' v h1 h2 ho hv h1' h2' hne ho' hv' => ?_, fun e v h1 h2 h18 hv => ?_, C3, fun e h1 h2 hp => ?_⟩
    · have hs1 := snd_at (C1 e h1 h2)
      obtain ⟨s1, s2, s3, s4, s5, s6, s7, s8⟩ := snd_f (C1 e h1 h2)
      refine ft_k.mpr ⟨?_, ?_, hs1, s1, s2, s3⟩
      · obtain ⟨q, p1, p2, p3⟩ := desc h hb h1 h2
        by_cases c : q = b
        · exact Or.inl (by rw [p1, c])
        · rw [pMn_s p1]
          exact Or.inr (par e q h1 h2 p1 c)
      · rw [ob_3]; omega
    · obtain ⟨s1, s2, s3, s4, s5, s6, s7, s8⟩ := snd_f (C1 e h1 h2)
      have hz0 : zM D e = 16 ∨ szOK a D e = true := hn.elim Or.inl (fun z => Or.inr (s4 z))
      refine sl_k.mpr ⟨hz0, ?_⟩
      have hz := szO_4 (a := a) (D := D) (e := e) hz0 hn
      cases c : sca a D e (zN D) with
      | none =>
        obtain ⟨c', w1, w2, w3⟩ := sca_first _ c
        have := h.2.2.2.2.1 c' e w1 w2
        exact absurd w3 (C5 c' e (by omega) w1 w2 (by omega)).2.1
      | some r =>
        refine ⟨r, rfl, ?_⟩
        rcases hn with e16 | e1
        · obtain ⟨i1, i2, i3⟩ := sca_pc hz _ _ c
          have hk : kc D e = 2 := s5 e16
          have i2 : pcN r.2 = kc D e := i2
          exact Or.inr ((pc_3 r.2 (i3 (by unfold szO; rw [if_pos e16]; exact Nat.le_refl _))).mp (by omega))
        · exact Or.inl e1
    · rcases Nat.lt_or_gt_of_ne hne with c | c
      · have w := C2 e v h1 h2 ho hv
        exact wI_ex e e' h1' c ho' hv' w
      · have w := C2 e' v h1' h2' ho' hv'
        exact wI_ex e' e h1 c ho hv w
    · obtain ⟨q, p1, p2, p3⟩ := desc h hb h1 h2
      have ht : tgE a D b e = wI a D b v (zN D) := by
        unfold tgE
        rw [if_pos h18, hv]
      have hno : ob D e ≠ true := fun z => by have := ob_3.mp z; omega
      by_cases c : q = b
      · rw [c] at p1
        obtain ⟨w1, w2⟩ := C4 e h1 h2 p1
        by_cases c2 : e = b + 1
        · rw [← ht]; exact w1 c2
        · exact absurd (w2 c2).1 hno
      · have w := (C5 e q h1 h2 p1 c).2.2
        rw [← ht]
        rcases w with w | w | w
        · omega
        · omega
        · exact w
    · obtain ⟨w1, w2⟩ := C4 e h1 h2 hp
      by_cases c2 : e = b + 1
      · have w := w1 c2
        unfold tgE at w
        by_cases h18 : zM D e = 18
        · exact Or.inr ⟨c2, h18⟩
        · rw [if_neg h18] at w
          by_cases ho : ob D e = true
          · exact Or.inl ⟨ho, Or.inl c2⟩
          · rw [if_neg ho] at w
            exact absurd rfl w
      · exact Or.inl ⟨(w2 c2).1, Or.inr (w2 c2).2⟩
  · rintro ⟨R1, R2, R3, R4, R5, R6⟩
    have nok : ∀ e, b < e → e < zN D → zM D e ≠ 16 → zM D e ≠ 1 → kc D e = 0 := by
      intro e h1 h2 n1 n2
      by_cases c : kc D e = 0
      · exact c
      · obtain ⟨k, k1, k2⟩ := kc_ch c
        have k3 := h.2.2.2.2.1 k e k1 k2
        have w := (ft_k.mp (R1 k (by omega) k1)).1
        rw [pMn_s k2, k2] at w
        rcases w with w | w | w
        · have := Option.some.inj w
          omega
        · omega
        · omega
    have tgt : ∀ e, b < e → e < zN D → zM D e = 18 ∨ ob D e = true → tgE a D b e ≠ none := by
      intro e h1 h2 ho
      unfold tgE
      by_cases h18 : zM D e = 18
      · rw [if_pos h18]
        obtain ⟨f1, f2, f3, f4, f5, f6⟩ := ft_k.mp (R1 e h1 h2)
        have w := (atS_in h h2 f3 (f4 h18)).2
        cases c : cIn a D e 8 with
        | none => exact absurd c w
        | some v => exact R4 e v h1 h2 h18 c
      · rw [if_neg h18, if_pos (ho.resolve_left h18)]
        simp
    refine ⟨fun e h1 h2 => ?_, fun e v h1 h2 ho hv => ?_, R5, fun e h1 h2 hp => ⟨fun c => ?_, fun c => ?_⟩, fun e q h1 h2 hp hq => ?_⟩
    · obtain ⟨f1, f2, f3, f4, f5, f6⟩ := ft_k.mp (R1 e h1 h2)
      refine snd_k.mpr ⟨f3, ?_⟩
      rw [ob_3] at f2
      rcases f2 with (o | o | o) | o | o | o
      · refine Or.inr (Or.inr (Or.inr (Or.inl ⟨o, ?_, ?_⟩)))
        · have := f6 (by omega)
          rw [if_neg (by omega)] at this
          omega
        · obtain ⟨s1, r, s2, s3⟩ := sl_k.mp (R2 e h1 h2 (Or.inl o))
          obtain ⟨i1, i2, i3⟩ := sca_pc (szO_4 s1 (Or.inl o)) _ _ s2
          have i2 : pcN r.2 = kc D e := i2
          have := (pc_3 r.2 (i3 (by unfold szO; rw [if_pos o]; exact Nat.le_refl _))).mpr (by omega)
          omega
      · refine Or.inl ⟨o, ?_, ?_⟩
        · have := f6 (by omega)
          rw [if_neg (by omega)] at this
          omega
        · exact (sl_k.mp (R2 e h1 h2 (Or.inr o))).1.resolve_left (by omega)
      · refine Or.inr (Or.inr (Or.inr (Or.inr (Or.inr ⟨o, nok e h1 h2 (by omega) (by omega), ?_⟩))))
        have := f6 (by omega)
        rw [if_pos o] at this
        exact this
      · refine Or.inr (Or.inr (Or.inl ⟨o, ?_, nok e h1 h2 (by omega) (by omega)⟩))
        have := f6 (by omega)
        rw [if_neg (by omega)] at this
        omega
      · exact Or.inr (Or.inl ⟨o, nok e h1 h2 (by omega) (by omega), f5 o⟩)
      · refine Or.inr (Or.inr (Or.inr (Or.inr (Or.inl ⟨o, ?_, nok e h1 h2 (by omega) (by omega), f4 o⟩))))
        have := f6 (by omega)
        rw [if_neg (by omega)] at this
        omega
    · cases c : wI a D b v e with
      | none => rfl
      | some e' =>
        obtain ⟨w1, w2, w3, w4⟩ := wI_in _ _ c
        exact absurd w4 (R3 e e' v h1 h2 ho hv w1 (by omega) (by omega) w3)
    · rcases R6 e h1 h2 hp with w | w
      · exact tgt e h1 h2 (Or.inr w.1)
      · exact tgt e h1 h2 (Or.inl w.2)
    · rcases R6 e h1 h2 hp with w | w
      · exact ⟨w.1, w.2.resolve_left c⟩
      · exact absurd w.1 c
    · obtain ⟨q', p1, p2, p3⟩ := desc h hb h1 h2
      have e1 : q' = q := Option.some.inj (p1.symm.trans hp)
      obtain ⟨f1, f2, f3, f4, f5, f6⟩ := ft_k.mp (R1 e h1 h2)
      rw [pMn_s hp, hp] at f1
      have hq2 : zM D q = 16 ∨ zM D q = 1 := by
        rcases f1 with w | w | w
        · exact absurd (Option.some.inj w) hq
        · exact Or.inl w
        · exact Or.inr w
      refine ⟨ob_3.mpr (by omega), fun z => ?_, ?_⟩
      · obtain ⟨s1, r, s2, s3⟩ := sl_k.mp (R2 q (by omega) (by omega) hq2)
        have := sca_up (zN D - (e + 1)) (e + 1) z
        rw [show e + 1 + (zN D - (e + 1)) = zN D by omega, s2] at this
        cases this
      · rcases f2 with w | w | w | w
        · exact Or.inr (Or.inr (tgt e h1 h2 (Or.inr w)))
        · exact Or.inl w
        · exact Or.inr (Or.inl w)
        · exact Or.inr (Or.inr (tgt e h1 h2 (Or.inl w)))
