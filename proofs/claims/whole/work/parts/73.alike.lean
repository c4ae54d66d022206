/-! alike: a one to one pairing of what is reached -/
def oI : Option Nat → Int32
  | none => -1
  | some k => nI k
def lcs (a : aS) (j k i : Nat) : Prop := (sK a j = 2 → sT a (6 * j + i) = sT a (6 * k + i)) ∧ (sK a j ≠ 2 → sC a (4 * j + i) = sC a (4 * k + i) ∧ (sC a (4 * j + i) ≠ 2 → sV a (4 * j + i) = sV a (4 * k + i)))
def lc (a : aS) (j k : Nat) : Prop := sK a j = sK a k ∧ sZ a j = sZ a k ∧ ∀ i, i < sZ a j → lcs a j k i
def Pm (a : aS) (x y : Nat) (P : Nat → Nat → Prop) : Prop := P x y ∧ (∀ j k, P j k → lc a j k) ∧ (∀ j k k', P j k → P j k' → k = k') ∧ (∀ j j' k, P j k → P j' k → j = j') ∧ ∀ j k i u v, P j k → i < 4 → tg a (4 * j + i) = some u → tg a (4 * k + i) = some v → P u v
def upO (p : Nat → Option Nat) (u v : Nat) : Nat → Option Nat := fun j => if j = u then some v else p j
theorem upO_e (p : Nat → Option Nat) (u v : Nat) : upO p u v u = some v := if_pos rfl
theorem upO_n {p : Nat → Option Nat} {u v j : Nat} (h : j ≠ u) : upO p u v j = p j := if_neg h
def pq (a : aS) (x y : Nat) (p q : Nat → Option Nat) : Prop := (∀ j k, p j = some k ↔ q k = some j) ∧ (∀ j k, p j = some k → j < sN a ∧ k < sN a) ∧ ∀ P, Pm a x y P → ∀ j k, p j = some k → P j k
theorem pq_add {a : aS} {x y : Nat} {p q : Nat → Option Nat} {u v : Nat} (h : pq a x y p q) (hu : u < sN a) (hv : v < sN a) (hf : ∀ P, Pm a x y P → P u v) (h1 : p u = none) (h2 : q v = none) : pq a x y (upO p u v) (upO q v u) := by
  obtain ⟨c1, c2, c3⟩ := h
  refine ⟨fun j k => ?_, fun j k hjk => ?_, fun P hP j k hjk => ?_⟩
  · by_cases e : j = u
    · by_cases e2 : k = v
      · rw [e, e2, upO_e, upO_e]; exact ⟨fun _ => rfl, fun _ => rfl⟩
      · rw [e, upO_e, upO_n e2]
        constructor
        · intro q3; exact absurd (Option.some.inj q3).symm e2
        · intro q3; rw [← c1, h1] at q3; cases q3
    · by_cases e2 : k = v
      · rw [e2, upO_n e, upO_e]
        constructor
        · intro q3; rw [c1, h2] at q3; cases q3
        · intro q3; exact absurd (Option.some.inj q3).symm e
      · rw [upO_n e, upO_n e2]; exact c1 j k
  · by_cases e : j = u
    · rw [e, upO_e] at hjk; rw [e, ← Option.some.inj hjk]; exact ⟨hu, hv⟩
    · rw [upO_n e] at hjk; exact c2 j k hjk
  · by_cases e : j = u
    · rw [e, upO_e] at hjk; rw [e, ← Option.some.inj hjk]; exact hf P hP
    · rw [upO_n e] at hjk; exact c3 P hP j k hjk
theorem pq_bad {a : aS} {x y : Nat} {p q : Nat → Option Nat} {u v : Nat} (h : pq a x y p q) (hf : ∀ P, Pm a x y P → P u v) (h1 : ¬ (p u = none ∧ q v = none)) (h2 : p u ≠ some v) : ¬ ∃ P, Pm a x y P := by
  rintro ⟨P, hP⟩
  obtain ⟨c1, c2, c3⟩ := h
  have hf := hf P hP
  cases e : p u with
  | some w =>
    have := hP.2.2.1 _ _ _ (c3 P hP u w e) hf
    exact h2 (by rw [e, this])
  | none =>
    cases e2 : q v with
    | none => exact h1 ⟨e, e2⟩
    | some j =>
      have e3 := (c1 j v).mpr e2
      have := hP.2.2.2.1 _ _ _ (c3 P hP j v e3) hf
      exact h2 (by rw [← this]; exact e3)
def ext (p p' : Nat → Option Nat) : Prop := ∀ j k, p j = some k → p' j = some k
theorem ext_r (p : Nat → Option Nat) : ext p p := fun _ _ h => h
theorem ext_t {p q r : Nat → Option Nat} (h : ext p q) (h2 : ext q r) : ext p r := fun j k q => h2 j k (h j k q)
theorem ext_up {p : Nat → Option Nat} {u v : Nat} (h : p u = none) : ext p (upO p u v) := fun j k q => by
  rw [upO_n (fun e => by rw [e, h] at q; cases q)]; exact q
/-- a slot of a pair seen to -/
def sOK (a : aS) (p : Nat → Option Nat) (j k i : Nat) : Prop := ∀ u v, tg a (4 * j + i) = some u → tg a (4 * k + i) = some v → p u = some v
def pr (a : aS) (p : Nat → Option Nat) (j : Nat) : Prop := ∀ k, p j = some k → lc a j k ∧ ∀ i, i < 4 → sOK a p j k i
theorem sOK_up {a : aS} {p p' : Nat → Option Nat} {j k i : Nat} (h : sOK a p j k i) (e : ext p p') : sOK a p' j k i := fun u v h1 h2 => e _ _ (h u v h1 h2)
theorem pr_up {a : aS} {p p' : Nat → Option Nat} {j k : Nat} (h : pr a p j) (hj : p j = some k) (e : ext p p') : pr a p' j := fun k' h' => by
  have h2 := e _ _ hj
  rw [h2] at h'
  rw [← Option.some.inj h']
  exact ⟨(h k hj).1, fun i hi => sOK_up ((h k hj).2 i hi) e⟩
theorem pq_good {a : aS} {x y : Nat} {p q : Nat → Option Nat} (h : pq a x y p q) (hx : p x = some y) (hp : ∀ j, pr a p j) : ∃ P, Pm a x y P := by
  refine ⟨fun j k => p j = some k, hx, fun j k h1 => (hp j k h1).1, fun j k k' h1 h2 => Option.some.inj (h1.symm.trans h2), fun j j' k h1 h2 => ?_, fun j k i u v h1 hi h2 h3 => (hp j k h1).2 i hi u v h2 h3⟩
  have e1 := (h.1 j k).mp h1
  have e2 := (h.1 j' k).mp h2
  exact Option.some.inj (e1.symm.trans e2)
/-- a slot beyond an object's size, or of a text, leads nowhere -/
theorem tg_out {a : aS} (ha : okA a) {j i : Nat} (hi : i < 4) (h : ¬ (sK a j ≠ 2 ∧ i < sZ a j)) : tg a (4 * j + i) = none := by
  cases e : tg a (4 * j + i) with
  | none => rfl
  | some u =>
    obtain ⟨q1, q2, q3, q4, q5, q6, q7⟩ := tg_some ha e
    rw [show (4 * j + i) / 4 = j by omega] at q2 q3
    rw [show (4 * j + i) % 4 = i by omega] at q3
    exact absurd ⟨q2, q3⟩ h
theorem tg_two {a : aS} (ha : okA a) {j i : Nat} (hj : j < sN a) (hi : i < 4) (hk : sK a j ≠ 2) (hz : i < sZ a j) (hc : sC a (4 * j + i) = 2) : ∃ u, tg a (4 * j + i) = some u ∧ u < sN a ∧ sV a (4 * j + i) = nI u := by
  cases e : tg a (4 * j + i) with
  | none => exact absurd hc (tg_none hi e hj hk hz)
  | some u =>
    obtain ⟨q1, q2, q3, q4, q5, q6, q7⟩ := tg_some ha e
    exact ⟨u, rfl, q7, q6⟩
theorem tg_not {a : aS} (ha : okA a) {j i : Nat} (hc : sC a (4 * j + i) ≠ 2) : tg a (4 * j + i) = none := by
  cases e : tg a (4 * j + i) with
  | none => rfl
  | some u => exact absurd (tg_some ha e).2.2.2.2.1 hc
/-! the class -/
def aI (a : aS) (x y : Nat) (σ : gS) (p q : Nat → Option Nat) (O : List Nat) : Prop := absC σ a ∧ (∀ j, j < 16 → σ.2 14 j = oI (p j)) ∧ (∀ j, j < 16 → σ.2 15 j = oI (q j)) ∧ σ.1 3 = nI O.length ∧ (∀ i, i < O.length → σ.2 16 i = nI (O.getD i 0)) ∧ O.Nodup ∧ (∀ j, j ∈ O ↔ p j ≠ none) ∧ pq a x y p q
theorem aI_lt {a : aS} {x y : Nat} {σ : gS} {p q : Nat → Option Nat} {O : List Nat} (h : aI a x y σ p q O) : ∀ j ∈ O, j < sN a := fun j hj => by
  have h1 := (h.2.2.2.2.2.2.1 j).mp hj
  cases e : p j with
  | none => exact absurd e h1
  | some k => exact (h.2.2.2.2.2.2.2.2.1 j k e).1
def mOut (a : aS) (x y : Nat) (p : Nat → Option Nat) (O : List Nat) (R : (Nat → Option Nat) → Prop) (f : Option (Int32 × gS)) : Prop := (∃ σ' p' q' O', f = some (1, σ') ∧ aI a x y σ' p' q' (O ++ O') ∧ ext p p' ∧ R p') ∨ (∃ σ', f = some (0, σ') ∧ absC σ' a ∧ ¬ ∃ P, Pm a x y P)
theorem c_match {a : aS} (ha : okA a) {x y : Nat} {σ : gS} {p q : Nat → Option Nat} {O : List Nat} (h : aI a x y σ p q O) {u v : Nat} (hu : u < sN a) (hv : v < sN a) (hf : ∀ P, Pm a x y P → P u v) : mOut a x y p O (fun p' => p' u = some v) (f_A_match σ (nI u) (nI v)) := by
  have h16 := ha.1
  have hlt := aI_lt h
  have h' := h
  obtain ⟨T, hT⟩ := gFx
  obtain ⟨h0, h1, h2, h3, h4, h5, h6, h7⟩ := h
  rw [fx_A_match hT]
  unfold B_A_match_0
  rw [gLd_n (by omega) (by decide), h1 u (by omega)]
  have last : ¬ (p u = none ∧ q v = none) → mOut a x y p O (fun p' => p' u = some v) (R_A_match (T + 49999) 1 [nI u, nI v] σ) := by
    intro hn
    rw [show T + 49999 = T + 49998 + 1 from rfl, st_A_match_1]
    unfold B_A_match_1
    rw [gLd_n (by omega) (by decide), h1 u (by omega)]
    by_cases e : p u = some v
    · rw [e, if_pos (show oI (some v) = nI v from rfl)]
      exact Or.inl ⟨σ, p, q, [], rfl, by rw [List.append_nil]; exact h', ext_r p, e⟩
    · refine Or.inr ⟨σ, ?_, h0, pq_bad h7 hf hn e⟩
      cases hp : p u with
      | none => rw [if_neg (show ¬ oI none = nI v from m1_n (by omega))]
      | some w =>
        have hw := (h7.2.1 u w hp).2
        rw [show oI (some w) = nI w from rfl, if_neg (show ¬ nI w = nI v by rw [n_eq (by omega) (by omega)]; intro q; exact e (by rw [hp, q]))]
  cases hp : p u with
  | some w =>
    have hw := (h7.2.1 u w hp).2
    rw [if_neg (show ¬ oI (some w) = -1 from n_m1 (by omega))]
    exact last (fun q => by rw [hp] at q; cases q.1)
  | none =>
    rw [if_pos (show oI none = -1 from rfl), gLd_n (by omega) (by decide), h2 v (by omega)]
    cases hq : q v with
    | some w =>
      have hw := (h7.2.1 w v ((h7.1 w v).mpr hq)).1
      rw [if_neg (show ¬ oI (some w) = -1 from n_m1 (by omega))]
      exact last (fun q => by rw [hq] at q; cases q.2)
    | none =>
      have hny : u ∉ O := fun q => (h6 u).mp q hp
      have hnd : (O ++ [u]).Nodup := List.nodup_append.mpr ⟨h5, by simp, fun i hi j hj => by simp at hj; subst hj; intro e; exact hny (e ▸ hi)⟩
      have hl2 : (O ++ [u]).length ≤ sN a := nd_len _ _ hnd (fun j hj => by
        rcases List.mem_append.mp hj with hj | hj
        · exact hlt j hj
        · simp at hj; omega)
      rw [List.length_append] at hl2
      simp only [List.length_singleton] at hl2
      rw [if_pos (show oI none = -1 from rfl), gSt_n (by omega) (by decide), gSt_n (by omega) (by decide), sA_1, sA_1, h3, gSt_n (by omega) (by decide), gPut_s, sA_1, sA_1, sA_1, h3, add_c1]
      refine Or.inl ⟨_, upO p u v, upO q v u, [u], rfl, ⟨absC_of h0 rfl rfl (fun k hk => ?_), fun j hj => ?_, fun j hj => ?_, ?_, fun i hi => ?_, hnd, fun j => ?_, pq_add h7 hu hv hf hp hq⟩, ext_up hp, upO_e p u v⟩
      · rw [sI_2, sA_ne (by omega), sA_ne (by omega), sA_ne (by omega)]
      · rw [sI_2, sA_ne (by decide), sA_ne (by decide), sA_eq]
        by_cases e : j = u
        · rw [e, up_eq, upO_e]; rfl
        · rw [up_ne e, upO_n e]; exact h1 j hj
      · rw [sI_2, sA_ne (by decide), sA_eq, sA_ne (by decide)]
        by_cases e : j = v
        · rw [e, up_eq, upO_e]; rfl
        · rw [up_ne e, upO_n e]; exact h2 j hj
      · rw [sI_eq, List.length_append]; rfl
      · rw [sI_2, sA_eq, sA_ne (by decide), sA_ne (by decide), app_getD]
        rw [List.length_append] at hi
        simp only [List.length_singleton] at hi
        by_cases e : i = O.length
        · rw [e, up_eq, if_pos rfl]
        · rw [up_ne e, if_neg e]; exact h4 i (by omega)
      · rw [List.mem_append, h6 j]
        by_cases e : j = u
        · rw [e, upO_e]; simp
        · rw [upO_n e]; simp [e]
theorem nr_b1 {β : Type} {K : Option β} : gNr .boolean 1 K = K := nr_1
theorem c_slot {a : aS} (ha : okA a) {x y : Nat} {σ : gS} {p q : Nat → Option Nat} {O : List Nat} (h : aI a x y σ p q O) {j k i : Nat} (hp : p j = some k) (hk : sK a j ≠ 2) (hk2 : sK a k ≠ 2) (hi : i < sZ a j) (hi2 : i < sZ a k) : mOut a x y p O (fun p' => lcs a j k i ∧ sOK a p' j k i) (f_A_haveSameSlot σ (nI j) (nI k) (nI i)) := by
  have h16 := ha.1
  have hj := (h.2.2.2.2.2.2.2.2.1 j k hp).1
  have hkk := (h.2.2.2.2.2.2.2.2.1 j k hp).2
  have hz := (okA_K ha hj).2.2 hk
  have ea := h.1.2.2.2.1 j i hj hk hi
  have eb := h.1.2.2.2.1 k i hkk hk2 hi2
  have ca := (ha.2.2.2.1 j i hj hk hi).1
  have cb := (ha.2.2.2.1 k i hkk hk2 hi2).1
  have bad : ¬ lcs a j k i → ¬ ∃ P, Pm a x y P := fun hn hP => by
    obtain ⟨P, hP⟩ := hP
    exact hn ((hP.2.1 j k (h.2.2.2.2.2.2.2.2.2 P hP j k hp)).2.2 i hi)
  unfold f_A_haveSameSlot
  rw [r_content (by omega) (by omega), gBd_s, r_content (by omega) (by omega), gBd_s, ea.1, eb.1]
  by_cases e : sC a (4 * j + i) = sC a (4 * k + i)
  · rw [if_pos (by rw [e]), r_content (by omega) (by omega), gBd_s, ea.1]
    by_cases e2 : sC a (4 * j + i) = 2
    · obtain ⟨u, t1, t2, t3⟩ := tg_two ha hj (by omega) hk hi e2
      obtain ⟨v, s1, s2, s3⟩ := tg_two ha hkk (by omega) hk2 hi2 (e ▸ e2)
      rw [if_pos (by rw [e2]; rfl), r_value (by omega) (by omega), gBd_s, r_value (by omega) (by omega), gBd_s, ea.2, eb.2, t3, s3]
      rcases c_match ha h t2 s2 (fun P hP => hP.2.2.2.2 j k i u v (h.2.2.2.2.2.2.2.2.2 P hP j k hp) (by omega) t1 s1) with ⟨σ', p', q', O', w1, w2, w3, w4⟩ | ⟨σ', w1, w2, w3⟩
      · rw [w1, gBd_s, nr_1]
        refine Or.inl ⟨σ', p', q', O', rfl, w2, w3, ⟨fun q => absurd q hk, fun _ => ⟨e, fun q => absurd e2 q⟩⟩, fun u' v' z1 z2 => ?_⟩
        rw [t1] at z1
        rw [s1] at z2
        rw [← Option.some.inj z1, ← Option.some.inj z2]
        exact w4
      · rw [w1, gBd_s, nr_0]
        exact Or.inr ⟨σ', rfl, w2, w3⟩
    · rw [if_neg (n2 ca e2), r_value (by omega) (by omega), gBd_s, r_value (by omega) (by omega), gBd_s, ea.2, eb.2]
      by_cases e3 : sV a (4 * j + i) = sV a (4 * k + i)
      · rw [if_pos e3]
        refine Or.inl ⟨σ, p, q, [], rfl, by rw [List.append_nil]; exact h, ext_r p, ⟨fun q => absurd q hk, fun _ => ⟨e, fun _ => e3⟩⟩, fun u' v' z1 z2 => ?_⟩
        rw [tg_not ha e2] at z1
        cases z1
      · rw [if_neg e3]
        exact Or.inr ⟨σ, rfl, h.1, bad (fun q => e3 ((q.2 hk).2 e2))⟩
  · rw [if_neg (by rw [n_eq (by omega) (by omega)]; exact e)]
    exact Or.inr ⟨σ, rfl, h.1, bad (fun q => e (q.2 hk).1)⟩
theorem c_slots {a : aS} (ha : okA a) {x y : Nat} {j k : Nat} (hk : sK a j ≠ 2) (hk2 : sK a k ≠ 2) (hz : sZ a j = sZ a k) : ∀ (d i : Nat) (σ : gS) (p q : Nat → Option Nat) (O : List Nat) (t : Nat), i + d = 4 → d + 1 ≤ t → aI a x y σ p q O → p j = some k → (∀ m, m < i → m < sZ a j → lcs a j k m ∧ sOK a p j k m) → mOut a x y p O (fun p' => ∀ m, m < sZ a j → lcs a j k m ∧ sOK a p' j k m) (R_A_haveSameSlots t 1 [nI j, nI k, nI i] σ) := by
  have h16 := ha.1
  intro d
  induction d with
  | zero =>
    intro i σ p q O t hi ht h hp hd
    obtain rfl : i = 4 := by omega
    obtain ⟨t, rfl⟩ : ∃ t', t = t' + 1 := ⟨t - 1, by omega⟩
    have hj := (h.2.2.2.2.2.2.2.2.1 j k hp).1
    have hzz := (okA_K ha hj).2.2 hk
    rw [st_A_haveSameSlots_1]
    unfold B_A_haveSameSlots_1
    rw [if_pos (by decide)]
    exact Or.inl ⟨σ, p, q, [], rfl, by rw [List.append_nil]; exact h, ext_r p, fun m hm => hd m (by omega) hm⟩
  | succ d ih =>
    intro i σ p q O t hi ht h hp hd
    obtain ⟨t, rfl⟩ : ∃ t', t = t' + 1 := ⟨t - 1, by omega⟩
    have hj := (h.2.2.2.2.2.2.2.2.1 j k hp).1
    have hzz := (okA_K ha hj).2.2 hk
    rw [st_A_haveSameSlots_1]
    unfold B_A_haveSameSlots_1
    rw [if_neg (by rw [c4_le (by omega)]; omega), gLd_n (by omega) (by decide), (h.1.2.2.1 j hj).2]
    by_cases e : sZ a j ≤ i
    · rw [if_pos (by rw [n_le (by omega) (by omega)]; exact e)]
      exact Or.inl ⟨σ, p, q, [], rfl, by rw [List.append_nil]; exact h, ext_r p, fun m hm => hd m (by omega) hm⟩
    · rw [if_neg (by rw [n_le (by omega) (by omega)]; exact e)]
      rcases c_slot ha h hp hk hk2 (i := i) (by omega) (by omega) with ⟨σ', p', q', O', w1, w2, w3, w4, w5⟩ | ⟨σ', w1, w2, w3⟩
      · rw [w1, gBd_s, if_neg i10, add_c1]
        rcases ih (i + 1) σ' p' q' (O ++ O') t (by omega) (by omega) w2 (w3 _ _ hp) (fun m hm hm2 => by
          by_cases e2 : m = i
          · rw [e2]; exact ⟨w4, w5⟩
          · have := hd m (by omega) hm2
            exact ⟨this.1, sOK_up this.2 w3⟩) with ⟨σ'', p'', q'', O'', v1, v2, v3, v4⟩ | h2
        · exact Or.inl ⟨σ'', p'', q'', O' ++ O'', v1, by rw [← List.append_assoc]; exact v2, ext_t w3 v3, v4⟩
        · exact Or.inr h2
      · rw [w1, gBd_s, if_pos rfl]
        exact Or.inr ⟨σ', rfl, w2, w3⟩
theorem okA_T {a : aS} (ha : okA a) {j i : Nat} (hj : j < sN a) (hk : sK a j = 2) (hi : i < sZ a j) : sT a (6 * j + i) < 127 := by
  have := (ha.2.2.2.2.1 j i hj hk hi).2
  omega
theorem c_chars {a : aS} (ha : okA a) {σ : gS} (hc : absC σ a) {j k : Nat} (hj : j < sN a) (hk : k < sN a) (hkj : sK a j = 2) (hkk : sK a k = 2) (hz : sZ a j = sZ a k) : ∀ (d i t : Nat), i + d = 6 → d + 1 ≤ t → ∃ b : Bool, R_A_haveSameCharacters t 1 [nI j, nI k, nI i] σ = some (bI b, σ) ∧ (b = true ↔ ∀ m, i ≤ m → m < sZ a j → sT a (6 * j + m) = sT a (6 * k + m)) := by
  have h16 := ha.1
  have hzz := (okA_K ha hj).2.1
  intro d
  induction d with
  | zero =>
    intro i t hi ht
    obtain rfl : i = 6 := by omega
    obtain ⟨t, rfl⟩ : ∃ t', t = t' + 1 := ⟨t - 1, by omega⟩
    refine ⟨true, ?_, fun _ m h1 h2 => by omega, fun _ => rfl⟩
    rw [st_A_haveSameCharacters_1]
    unfold B_A_haveSameCharacters_1
    rw [if_pos (by decide)]
    rfl
  | succ d ih =>
    intro i t hi ht
    obtain ⟨t, rfl⟩ : ∃ t', t = t' + 1 := ⟨t - 1, by omega⟩
    rw [st_A_haveSameCharacters_1]
    unfold B_A_haveSameCharacters_1
    rw [if_neg (by rw [c6_le (by omega)]; omega), gLd_n (by omega) (by decide), (hc.2.2.1 j hj).2]
    by_cases e : sZ a j ≤ i
    · rw [if_pos (by rw [n_le (by omega) (by omega)]; exact e)]
      exact ⟨true, rfl, fun _ m h1 h2 => by omega, fun _ => rfl⟩
    · have ca := okA_T ha hj hkj (i := i) (by omega)
      have cb := okA_T ha hk hkk (i := i) (by omega)
      rw [if_neg (by rw [n_le (by omega) (by omega)]; exact e), r_chr ha hc hj hkj (by omega), gBd_s, r_chr ha hc hk hkk (by omega), gBd_s]
      by_cases e2 : sT a (6 * j + i) = sT a (6 * k + i)
      · rw [if_pos (by rw [e2]), add_c1]
        obtain ⟨b, w1, w2⟩ := ih (i + 1) t (by omega) (by omega)
        refine ⟨b, w1, ?_⟩
        rw [w2]
        constructor
        · intro h m h1 h2
          by_cases e3 : m = i
          · rw [e3]; exact e2
          · exact h m (by omega) h2
        · intro h m h1 h2
          exact h m (by omega) h2
      · rw [if_neg (by rw [n_eq (by omega) (by omega)]; exact e2)]
        exact ⟨false, rfl, fun q => (by cases q), fun h => absurd (h i (by omega) (by omega)) e2⟩
theorem c_inside {a : aS} (ha : okA a) {x y : Nat} {σ : gS} {p q : Nat → Option Nat} {O : List Nat} (h : aI a x y σ p q O) {j k : Nat} (hp : p j = some k) : mOut a x y p O (fun p' => pr a p' j) (f_A_haveSameInside σ (nI j) (nI k)) := by
  have h16 := ha.1
  obtain ⟨T, hT⟩ := gFx
  have hj := (h.2.2.2.2.2.2.2.2.1 j k hp).1
  have hkk := (h.2.2.2.2.2.2.2.2.1 j k hp).2
  have kj := okA_K ha hj
  have kk := okA_K ha hkk
  have bad : ¬ lc a j k → ¬ ∃ P, Pm a x y P := fun hn hP => by
    obtain ⟨P, hP⟩ := hP
    exact hn (hP.2.1 j k (h.2.2.2.2.2.2.2.2.2 P hP j k hp))
  unfold f_A_haveSameInside
  rw [gLd_n (by omega) (by decide), gLd_n (by omega) (by decide), (h.1.2.2.1 j hj).1, (h.1.2.2.1 k hkk).1]
  by_cases e1 : sK a j = sK a k
  · rw [if_pos (by rw [e1]), gLd_n (by omega) (by decide), gLd_n (by omega) (by decide), (h.1.2.2.1 j hj).2, (h.1.2.2.1 k hkk).2]
    by_cases e2 : sZ a j = sZ a k
    · rw [if_pos (by rw [e2]), r_text ha h.1 hj, gBd_s]
      by_cases e3 : sK a j = 2
      · rw [decide_eq_true e3, bI_t, if_neg i10, fx_A_haveSameCharacters hT]
        unfold B_A_haveSameCharacters_0
        obtain ⟨b, w1, w2⟩ := c_chars ha h.1 hj hkk e3 (e1 ▸ e3) e2 6 0 (T + 49999) (by omega) (by omega)
        rw [nI_0] at w1
        rw [w1, gBd_s, nr_b]
        cases b with
        | true =>
          refine Or.inl ⟨σ, p, q, [], rfl, by rw [List.append_nil]; exact h, ext_r p, fun k' hk' => ?_⟩
          rw [hp] at hk'
          rw [← Option.some.inj hk']
          refine ⟨⟨e1, e2, fun i hi => ⟨fun _ => (w2.mp rfl) i (by omega) hi, fun q => absurd e3 q⟩⟩, fun i hi u v t1 t2 => ?_⟩
          rw [tg_out ha hi (fun q => q.1 e3)] at t1
          cases t1
        | false =>
          refine Or.inr ⟨σ, rfl, h.1, bad (fun q => ?_)⟩
          have := w2.mpr (fun m _ hm => (q.2.2 m hm).1 e3)
          cases this
      · rw [decide_eq_false e3, bI_f, if_pos rfl, fx_A_haveSameSlots hT]
        unfold B_A_haveSameSlots_0
        have w := c_slots ha (x := x) (y := y) (j := j) (k := k) e3 (e1 ▸ e3) e2 4 0 σ p q O (T + 49999) (by omega) (by omega) h hp (fun m hm => absurd hm (Nat.not_lt_zero m))
        rw [nI_0] at w
        rcases w with ⟨σ', p', q', O', w1, w2, w3, w4⟩ | ⟨σ', w1, w2, w3⟩
        · rw [w1, gBd_s, nr_1]
          refine Or.inl ⟨σ', p', q', O', rfl, w2, w3, fun k' hk' => ?_⟩
          rw [w3 _ _ hp] at hk'
          rw [← Option.some.inj hk']
          refine ⟨⟨e1, e2, fun i hi => (w4 i hi).1⟩, fun i hi => ?_⟩
          by_cases e4 : i < sZ a j
          · exact (w4 i e4).2
          · intro u v t1 t2
            rw [tg_out ha hi (fun q => e4 q.2)] at t1
            cases t1
        · rw [w1, gBd_s, nr_0]
          exact Or.inr ⟨σ', rfl, w2, w3⟩
    · rw [if_neg (by rw [n_eq (by omega) (by omega)]; exact e2)]
      exact Or.inr ⟨σ, rfl, h.1, bad (fun q => e2 q.2.1)⟩
  · rw [if_neg (by rw [n_eq (by omega) (by omega)]; exact e1)]
    exact Or.inr ⟨σ, rfl, h.1, bad (fun q => e1 q.1)⟩
def aOut (a : aS) (x y : Nat) (r : Int32) : Prop := (r = 1 ∧ ∃ P, Pm a x y P) ∨ (r = 0 ∧ ¬ ∃ P, Pm a x y P)
theorem c_ex0 (t i : Nat) (hi : i ≤ 16) (σ : gS) : R_A_exists (t + 1) 1 [0, nI i] σ = some (0, σ) := by
  rw [st_A_exists_1]
  unfold B_A_exists_1
  rw [if_pos rfl, nr_0]
  by_cases e : (16 : Int32) ≤ nI i
  · rw [if_pos e]
  · rw [if_neg e]
    by_cases e2 : σ.1 3 ≤ nI i
    · rw [if_pos e2]
    · rw [if_neg e2]
theorem c_ex {a : aS} (ha : okA a) {x y : Nat} : ∀ (d i : Nat) (σ : gS) (p q : Nat → Option Nat) (O : List Nat) (t : Nat), i + d = 16 → d + 2 ≤ t → i ≤ O.length → aI a x y σ p q O → p x = some y → (∀ m, m < i → pr a p (O.getD m 0)) → ∃ r σ', R_A_exists t 1 [1, nI i] σ = some (r, σ') ∧ absC σ' a ∧ aOut a x y r := by
  have h16 := ha.1
  have fin : ∀ (i : Nat) (σ : gS) (p q : Nat → Option Nat) (O : List Nat), aI a x y σ p q O → O.length ≤ i → p x = some y → (∀ m, m < i → pr a p (O.getD m 0)) → ∃ P, Pm a x y P := by
    intro i σ p q O h hl hx hd
    refine pq_good h.2.2.2.2.2.2.2 hx (fun j => ?_)
    by_cases e : j ∈ O
    · obtain ⟨m, hm, rfl⟩ := mem_gD e
      exact hd m (by omega)
    · intro k hk
      exact absurd ((h.2.2.2.2.2.2.1 j).mpr (by rw [hk]; simp)) e
  intro d
  induction d with
  | zero =>
    intro i σ p q O t hi ht hl h hx hd
    obtain rfl : i = 16 := by omega
    obtain ⟨t, rfl⟩ : ∃ t', t = t' + 1 := ⟨t - 1, by omega⟩
    have hlen := nd_len _ _ h.2.2.2.2.2.1 (aI_lt h)
    refine ⟨1, σ, ?_, h.1, Or.inl ⟨rfl, fin 16 σ p q O h (by omega) hx hd⟩⟩
    rw [st_A_exists_1]
    unfold B_A_exists_1
    rw [if_pos (by decide), nr_1]
  | succ d ih =>
    intro i σ p q O t hi ht hl h hx hd
    obtain ⟨t, rfl⟩ : ∃ t', t = t' + 2 := ⟨t - 2, by omega⟩
    have hlen := nd_len _ _ h.2.2.2.2.2.1 (aI_lt h)
    rw [show t + 2 = t + 1 + 1 from rfl, st_A_exists_1]
    unfold B_A_exists_1
    rw [if_neg (by rw [c16_le (by omega)]; omega), h.2.2.2.1]
    by_cases e : O.length ≤ i
    · rw [if_pos (by rw [n_le (by omega) (by omega)]; exact e), nr_1]
      exact ⟨1, σ, rfl, h.1, Or.inl ⟨rfl, fin i σ p q O h e hx hd⟩⟩
    · have hm := gD_mem (O := O) (i := i) (by omega)
      have hj := aI_lt h _ hm
      have hn := (h.2.2.2.2.2.2.1 _).mp hm
      cases hk : p (O.getD i 0) with
      | none => exact absurd hk hn
      | some k =>
        rw [if_neg (by rw [n_le (by omega) (by omega)]; exact e), if_neg i10, gLd_n (by omega) (by decide), gLd_n (by omega) (by decide), h.2.2.2.2.1 i (by omega), gLd_n (by omega) (by decide), h.2.1 _ (by omega), hk]
        rcases c_inside ha h hk with ⟨σ', p', q', O', w1, w2, w3, w4⟩ | ⟨σ', w1, w2, w3⟩
        · rw [show oI (some k) = nI k from rfl, w1, gBd_s, add_c1]
          refine ih (i + 1) σ' p' q' (O ++ O') (t + 1) (by omega) (by omega) (by rw [List.length_append]; omega) w2 (w3 _ _ hx) (fun m hm2 => ?_)
          have gl : (O ++ O').getD m 0 = O.getD m 0 := by rw [List.getD_eq_getElem?_getD, List.getD_eq_getElem?_getD, List.getElem?_append_left (by omega)]
          rw [gl]
          by_cases e2 : m = i
          · rw [e2]; exact w4
          · have hm3 := (h.2.2.2.2.2.2.1 _).mp (gD_mem (O := O) (i := m) (by omega))
            cases hk2 : p (O.getD m 0) with
            | none => exact absurd hk2 hm3
            | some k2 => exact pr_up (hd m (by omega)) hk2 w3
        · rw [show oI (some k) = nI k from rfl, w1, gBd_s, add_c1, c_ex0 t (i + 1) (by omega)]
          exact ⟨0, σ', rfl, w2, Or.inr ⟨rfl, w3⟩⟩
theorem c_fill14 : ∀ (d i : Nat) (σ : gS) (t : Nat) (v : Int32), i + d = 16 → d + 1 ≤ t → ∃ σ', R_J_fill_MP t 1 [v, nI i, 16] σ = some (0, σ') ∧ σ'.1 = σ.1 ∧ (∀ k, k ≠ 14 → σ'.2 k = σ.2 k) ∧ (∀ j, i ≤ j → j < 16 → σ'.2 14 j = v) ∧ ∀ j, j < i → σ'.2 14 j = σ.2 14 j := by
  intro d
  induction d with
  | zero =>
    intro i σ t v hi ht
    obtain rfl : i = 16 := by omega
    obtain ⟨t, rfl⟩ : ∃ t', t = t' + 1 := ⟨t - 1, by omega⟩
    refine ⟨σ, ?_, rfl, fun _ _ => rfl, fun j h1 h2 => by omega, fun _ _ => rfl⟩
    rw [st_J_fill_MP_1]
    unfold B_J_fill_MP_1
    rw [if_pos (by decide)]
  | succ d ih =>
    intro i σ t v hi ht
    obtain ⟨t, rfl⟩ : ∃ t', t = t' + 1 := ⟨t - 1, by omega⟩
    rw [st_J_fill_MP_1]
    unfold B_J_fill_MP_1
    rw [if_neg (show ¬ 16 ≤ nI i from by rw [c16_le (by omega)]; omega), gSt_n (by omega) (by decide), add_c1]
    obtain ⟨σ', q1, q2, q3, q4, q5⟩ := ih (i + 1) (sA σ 14 (upd (σ.2 14) i v)) t v (by omega) (by omega)
    refine ⟨σ', q1, q2, fun k hk => (q3 k hk).trans (sA_ne hk), fun j h1 h2 => ?_, fun j h1 => ?_⟩
    · by_cases e : j = i
      · rw [e, q5 i (by omega), sA_eq, up_eq]
      · exact q4 j (by omega) h2
    · rw [q5 j (by omega), sA_eq, up_ne (by omega)]
theorem c_fill15 : ∀ (d i : Nat) (σ : gS) (t : Nat) (v : Int32), i + d = 16 → d + 1 ≤ t → ∃ σ', R_J_fill_MB t 1 [v, nI i, 16] σ = some (0, σ') ∧ σ'.1 = σ.1 ∧ (∀ k, k ≠ 15 → σ'.2 k = σ.2 k) ∧ (∀ j, i ≤ j → j < 16 → σ'.2 15 j = v) ∧ ∀ j, j < i → σ'.2 15 j = σ.2 15 j := by
  intro d
  induction d with
  | zero =>
    intro i σ t v hi ht
    obtain rfl : i = 16 := by omega
    obtain ⟨t, rfl⟩ : ∃ t', t = t' + 1 := ⟨t - 1, by omega⟩
    refine ⟨σ, ?_, rfl, fun _ _ => rfl, fun j h1 h2 => by omega, fun _ _ => rfl⟩
    rw [st_J_fill_MB_1]
    unfold B_J_fill_MB_1
    rw [if_pos (by decide)]
  | succ d ih =>
    intro i σ t v hi ht
    obtain ⟨t, rfl⟩ : ∃ t', t = t' + 1 := ⟨t - 1, by omega⟩
    rw [st_J_fill_MB_1]
    unfold B_J_fill_MB_1
    rw [if_neg (show ¬ 16 ≤ nI i from by rw [c16_le (by omega)]; omega), gSt_n (by omega) (by decide), add_c1]
    obtain ⟨σ', q1, q2, q3, q4, q5⟩ := ih (i + 1) (sA σ 15 (upd (σ.2 15) i v)) t v (by omega) (by omega)
    refine ⟨σ', q1, q2, fun k hk => (q3 k hk).trans (sA_ne hk), fun j h1 h2 => ?_, fun j h1 => ?_⟩
    · by_cases e : j = i
      · rw [e, q5 i (by omega), sA_eq, up_eq]
      · exact q4 j (by omega) h2
    · rw [q5 j (by omega), sA_eq, up_ne (by omega)]
theorem c_exists {a : aS} (ha : okA a) {σ : gS} (hc : absC σ a) {x y : Nat} (hx : x < sN a) (hy : y < sN a) : ∃ r σ', f_A_exists σ (nI x) (nI y) = some (r, σ') ∧ absC σ' a ∧ aOut a x y r := by
  have h16 := ha.1
  obtain ⟨T, hT⟩ := gFx
  obtain ⟨σ1, a1, a2, a3, a4, a5⟩ := c_fill14 16 0 σ (T + 49999) (-1) (by omega) (by omega)
  obtain ⟨σ2, b1, b2, b3, b4, b5⟩ := c_fill15 16 0 σ1 (T + 49999) (-1) (by omega) (by omega)
  rw [nI_0] at a1 b1
  rw [fx_A_exists hT]
  unfold B_A_exists_0
  rw [fx_J_fill_MP hT]
  unfold B_J_fill_MP_0
  rw [a1, gBd_s, fx_J_fill_MB hT]
  unfold B_J_fill_MB_0
  rw [b1, gBd_s, gPut_s]
  have h : aI a x y (sI σ2 3 0) (fun _ => none) (fun _ => none) [] := by
    refine ⟨absC_of hc ?_ ?_ (fun k hk => ?_), fun j hj => ?_, fun j hj => ?_, ?_, fun i hi => absurd hi (Nat.not_lt_zero i), List.nodup_nil, fun j => ?_, fun j k => ?_, fun j k h => (by cases h), fun P hP j k h => (by cases h)⟩
    · rw [sI_ne (by decide), b2, a2]
    · rw [sI_ne (by decide), b2, a2]
    · rw [sI_2, b3 k (by omega), a3 k (by omega)]
    · rw [sI_2, b3 14 (by decide)]; exact a4 j (by omega) hj
    · rw [sI_2]; exact b4 j (by omega) hj
    · rw [sI_eq]; rfl
    · simp
    · simp
  rcases c_match ha h hx hy (fun P hP => hP.1) with ⟨σ', p', q', O', w1, w2, w3, w4⟩ | ⟨σ', w1, w2, w3⟩
  · rw [w1, gBd_s, ← nI_0]
    exact c_ex ha 16 0 σ' p' q' _ (T + 49999) (by omega) (by omega) (by omega) w2 w4 (fun m hm => absurd hm (Nat.not_lt_zero m))
  · rw [w1, gBd_s, show T + 49999 = T + 49998 + 1 from rfl]
    have := c_ex0 (T + 49998) 0 (by omega) σ'
    rw [nI_0] at this
    rw [this]
    exact ⟨0, σ', rfl, w2, Or.inr ⟨rfl, w3⟩⟩
