/-! alike: the reference -/
theorem m_outl {a : aS} (ha : okA a) {τ : gS} (hm : absM τ a) {j k : Nat} (hj : j < sN a) (hk : k < sN a) (hK : sK a j = sK a k) (hZ : sZ a j = sZ a k) : ∀ (d i t : Nat), i + d = sZ a j → 4 * d + 1 ≤ t → ∃ b : Bool, R_M_sameOutside t 1 [nI j, nI k, nI i] τ = some (bI b, τ) ∧ (b = true ↔ ∀ m, i ≤ m → m < sZ a j → lcs a j k m) := by
  have h16 := ha.1
  have kj := okA_K ha hj
  intro d
  induction d with
  | zero =>
    intro i t hi ht
    obtain ⟨t, rfl⟩ : ∃ t', t = t' + 1 := ⟨t - 1, by omega⟩
    refine ⟨true, ?_, fun _ m h1 h2 => by omega, fun _ => rfl⟩
    rw [st_M_sameOutside_1]
    unfold B_M_sameOutside_1
    rw [gLd_n (by omega) (by decide), (hm.2.2.1 j hj).2, if_pos (by rw [n_le (by omega) (by omega)]; omega)]
    rfl
  | succ d ih =>
    intro i t hi ht
    obtain ⟨t, rfl⟩ : ∃ t', t = t' + 1 + 1 + 1 + 1 := ⟨t - 4, by omega⟩
    obtain ⟨b, w1, w2⟩ := ih (i + 1) t (by omega) (by omega)
    have e4 : R_M_sameOutside (t + 1) 4 [nI j, nI k, nI i] τ = some (bI b, τ) := by
      rw [st_M_sameOutside_4]
      unfold B_M_sameOutside_4
      rw [add_c1]
      exact w1
    have go : lcs a j k i → (b = true ↔ ∀ m, i ≤ m → m < sZ a j → lcs a j k m) := fun hl => by
      rw [w2]
      exact ⟨fun h m h1 h2 => by
        by_cases e3 : m = i
        · rw [e3]; exact hl
        · exact h m (by omega) h2, fun h m h1 h2 => h m (by omega) h2⟩
    have no : ¬ lcs a j k i → (false = true ↔ ∀ m, i ≤ m → m < sZ a j → lcs a j k m) := fun hl => ⟨fun q => (by cases q), fun h => absurd (h i (by omega) (by omega)) hl⟩
    rw [st_M_sameOutside_1]
    unfold B_M_sameOutside_1
    rw [gLd_n (by omega) (by decide), (hm.2.2.1 j hj).2, if_neg (by rw [n_le (by omega) (by omega)]; omega), gLd_n (by omega) (by decide), (hm.2.2.1 j hj).1]
    by_cases e : sK a j = 2
    · have ct1 := hm.2.2.2.2.1 j i hj e (by omega)
      have ct2 := hm.2.2.2.2.1 k i hk (by rw [← hK]; exact e) (by omega)
      have ca := okA_T ha hj e (i := i) (by omega)
      have cb := okA_T ha hk (j := k) (by rw [← hK]; exact e) (i := i) (by omega)
      rw [if_pos (by rw [e]; rfl), gLd_ok (6 * j + i) (g_6x j i) (by omega) (by decide), gLd_ok (6 * k + i) (g_6x k i) (by omega) (by decide), ct1, ct2]
      by_cases e2 : sT a (6 * j + i) = sT a (6 * k + i)
      · refine ⟨b, ?_, go ⟨fun _ => e2, fun q => absurd e q⟩⟩
        rw [if_pos (by rw [e2]), st_M_sameOutside_2]
        unfold B_M_sameOutside_2
        rw [gLd_n (by omega) (by decide), (hm.2.2.1 j hj).1, if_pos (by rw [e]; rfl), st_M_sameOutside_3]
        unfold B_M_sameOutside_3
        rw [gLd_n (by omega) (by decide), (hm.2.2.1 j hj).1, if_pos (by rw [e]; rfl)]
        exact e4
      · refine ⟨false, ?_, no (fun q => e2 (q.1 e))⟩
        rw [if_neg (by rw [n_eq (by omega) (by omega)]; exact e2)]
        rfl
    · have ek : sK a k ≠ 2 := by rw [← hK]; exact e
      have z4 := kj.2.2 e
      have ct1 := hm.2.2.2.1 j i hj e (by omega)
      have ct2 := hm.2.2.2.1 k i hk ek (by omega)
      have oa := ha.2.2.2.1 j i hj e (by omega)
      have ob := ha.2.2.2.1 k i hk ek (by omega)
      have ca := oa.1
      have cb := ob.1
      rw [if_neg (n2 kj.1 e), st_M_sameOutside_2]
      unfold B_M_sameOutside_2
      rw [gLd_n (by omega) (by decide), (hm.2.2.1 j hj).1, if_neg (n2 kj.1 e), gLd_ok (4 * j + i) (g_4x j i) (by omega) (by decide), gLd_ok (4 * k + i) (g_4x k i) (by omega) (by decide), ct1.1, ct2.1]
      by_cases e2 : sC a (4 * j + i) = sC a (4 * k + i)
      · rw [if_pos (by rw [e2]), st_M_sameOutside_3]
        unfold B_M_sameOutside_3
        rw [gLd_n (by omega) (by decide), (hm.2.2.1 j hj).1, if_neg (n2 kj.1 e), gLd_ok (4 * j + i) (g_4x j i) (by omega) (by decide), ct1.1]
        by_cases e3 : sC a (4 * j + i) = 1
        · rw [if_pos (by rw [e3]; rfl), gLd_ok (4 * j + i) (g_4x j i) (by omega) (by decide), gLd_ok (4 * k + i) (g_4x k i) (by omega) (by decide), ct1.2 (by omega), ct2.2 (by omega)]
          by_cases e5 : sV a (4 * j + i) = sV a (4 * k + i)
          · exact ⟨b, by rw [if_pos e5]; exact e4, go ⟨fun q => absurd q e, fun _ => ⟨e2, fun _ => e5⟩⟩⟩
          · exact ⟨false, by rw [if_neg e5]; rfl, no (fun q => e5 ((q.2 e).2 (by omega)))⟩
        · rw [if_neg (show ¬ nI (sC a (4 * j + i)) = 1 by rw [eq_c1 (by omega)]; exact e3)]
          refine ⟨b, e4, go ⟨fun q => absurd q e, fun _ => ⟨e2, fun h2 => ?_⟩⟩⟩
          rw [oa.2.1 (by omega), ob.2.1 (by omega)]
      · refine ⟨false, ?_, no (fun q => e2 (q.2 e).1)⟩
        rw [if_neg (by rw [n_eq (by omega) (by omega)]; exact e2)]
        rfl
theorem m_out {a : aS} (ha : okA a) {τ : gS} (hm : absM τ a) {j k : Nat} (hj : j < sN a) (hk : k < sN a) : ∃ b : Bool, f_M_sameOutside τ (nI j) (nI k) = some (bI b, τ) ∧ (b = true ↔ lc a j k) := by
  have h16 := ha.1
  have kj := okA_K ha hj
  have kk := okA_K ha hk
  obtain ⟨T, hT⟩ := gFx
  rw [fx_M_sameOutside hT]
  unfold B_M_sameOutside_0
  rw [gLd_n (by omega) (by decide), gLd_n (by omega) (by decide), (hm.2.2.1 j hj).1, (hm.2.2.1 k hk).1]
  by_cases e1 : sK a j = sK a k
  · rw [if_pos (by rw [e1]), gLd_n (by omega) (by decide), gLd_n (by omega) (by decide), (hm.2.2.1 j hj).2, (hm.2.2.1 k hk).2]
    by_cases e2 : sZ a j = sZ a k
    · rw [if_pos (by rw [e2])]
      obtain ⟨b, w1, w2⟩ := m_outl ha hm hj hk e1 e2 (sZ a j) 0 (T + 49999) (by omega) (by omega)
      rw [nI_0] at w1
      exact ⟨b, w1, w2.trans ⟨fun h => ⟨e1, e2, fun i hi => h i (by omega) hi⟩, fun h m _ hm => h.2.2 m hm⟩⟩
    · rw [if_neg (by rw [n_eq (by omega) (by omega)]; exact e2)]
      exact ⟨false, rfl, fun q => (by cases q), fun q => absurd q.2.1 e2⟩
  · rw [if_neg (by rw [n_eq (by omega) (by omega)]; exact e1)]
    exact ⟨false, rfl, fun q => (by cases q), fun q => absurd q.1 e1⟩
def szP (a : aS) (p : Nat → Option Nat) : Nat := smN (fun j => if p j = none then 0 else 1) (sN a)
theorem smN_le {f : Nat → Nat} : ∀ n, (∀ i, f i ≤ 1) → smN f n ≤ n := by
  intro n
  induction n with
  | zero => intro _; exact Nat.le_refl 0
  | succ n ih => intro h; have h1 := ih h; have h2 := h n; rw [smN_s]; omega
theorem szP_le (a : aS) (p : Nat → Option Nat) : szP a p ≤ sN a := smN_le _ (fun i => by split <;> omega)
theorem szP_up {a : aS} {p : Nat → Option Nat} {u v : Nat} (h : p u = none) (hu : u < sN a) : szP a (upO p u v) = szP a p + 1 := by
  have h1 := smN_1 u (fun _ => 1) (sN a)
  rw [if_pos hu] at h1
  have h2 := smN_add (fun j => if p j = none then 0 else 1) (fun i => if i = u then 1 else 0) (sN a)
  rw [h1] at h2
  unfold szP
  rw [← h2]
  refine smN_c _ (fun i _ => ?_)
  by_cases e : i = u
  · rw [e, upO_e, h]; simp
  · rw [upO_n e, if_neg e]; rfl
def gr (a : aS) (p p' : Nat → Option Nat) : Prop := p' = p ∨ szP a p < szP a p'
theorem gr_t {a : aS} {p q r : Nat → Option Nat} (h : gr a p q) (h2 : gr a q r) : gr a p r := by
  rcases h with h | h
  · rw [← h]; exact h2
  · rcases h2 with h2 | h2
    · rw [h2]; exact Or.inr h
    · exact Or.inr (by omega)
def bM (a : aS) (x y : Nat) (τ : gS) (p q : Nat → Option Nat) : Prop := absM τ a ∧ (∀ j, j < 16 → τ.2 24 j = oI (p j)) ∧ (∀ j, j < 16 → τ.2 25 j = oI (q j)) ∧ pq a x y p q
def bBad (a : aS) (x y : Nat) (f : Option (Int32 × gS)) : Prop := ∃ τ', f = some (0, τ') ∧ absM τ' a ∧ ¬ ∃ P, Pm a x y P
def bSl (a : aS) (x y j k : Nat) (s : Int32) (p : Nat → Option Nat) (c t : Nat) (f : Option (Int32 × gS)) : Prop := (∃ t' τ' p' q', t ≤ t' + c ∧ f = R_M_alike t' 7 [s] τ' ∧ bM a x y τ' p' q' ∧ ext p p' ∧ gr a p p' ∧ ((∀ m, m < 4 → sOK a p j k m) → p' = p) ∧ ∀ m, m < 4 → sOK a p' j k m) ∨ bBad a x y f
theorem m_slots {a : aS} (ha : okA a) {x y : Nat} {j k : Nat} (s : Int32) (hl : lc a j k) : ∀ (d i : Nat) (τ : gS) (p q : Nat → Option Nat) (t : Nat), i + d = 4 → 3 * d + 1 ≤ t → bM a x y τ p q → p j = some k → (∀ m, m < i → sOK a p j k m) → bSl a x y j k s p (3 * d + 1) t (R_M_alike t 4 [s, nI j, nI k, nI i] τ) := by
  have h16 := ha.1
  intro d
  induction d with
  | zero =>
    intro i τ p q t hi ht h hp hd
    obtain rfl : i = 4 := by omega
    obtain ⟨t, rfl⟩ : ∃ t', t = t' + 1 := ⟨t - 1, by omega⟩
    obtain ⟨hj, hkk⟩ := h.2.2.2.2.1 j k hp
    have kj := okA_K ha hj
    refine Or.inl ⟨t, τ, p, q, by omega, ?_, h, ext_r p, Or.inl rfl, fun _ => rfl, hd⟩
    rw [st_M_alike_4]
    unfold B_M_alike_4
    rw [if_neg (nI_pos (by omega)), gLd_n (by omega) (by decide), (h.1.2.2.1 j hj).1]
    by_cases e : sK a j = 2
    · rw [if_pos (by rw [e]; rfl)]
    · have z4 := kj.2.2 e
      rw [if_neg (n2 kj.1 e), gLd_n (by omega) (by decide), (h.1.2.2.1 j hj).2, if_pos (by rw [n_le (by omega) (by omega)]; omega)]
  | succ d ih =>
    intro i τ p q t hi ht h hp hd
    obtain ⟨t, rfl⟩ : ∃ t', t = t' + 1 + 1 + 1 := ⟨t - 3, by omega⟩
    obtain ⟨hj, hkk⟩ := h.2.2.2.2.1 j k hp
    have kj := okA_K ha hj
    have fin : (∀ m, i ≤ m → m < 4 → ¬ (sK a j ≠ 2 ∧ m < sZ a j)) → ∀ m, m < 4 → sOK a p j k m := fun hn m hm => by
      by_cases e : m < i
      · exact hd m e
      · intro u v t1 t2
        rw [tg_out ha hm (hn m (by omega) hm)] at t1
        cases t1
    rw [st_M_alike_4]
    unfold B_M_alike_4
    rw [if_neg (nI_pos (by omega)), gLd_n (by omega) (by decide), (h.1.2.2.1 j hj).1]
    by_cases e : sK a j = 2
    · rw [if_pos (by rw [e]; rfl)]
      exact Or.inl ⟨t + 1 + 1, τ, p, q, by omega, rfl, h, ext_r p, Or.inl rfl, fun _ => rfl, fin (fun m _ _ q => q.1 e)⟩
    · have z4 := kj.2.2 e
      rw [if_neg (n2 kj.1 e), gLd_n (by omega) (by decide), (h.1.2.2.1 j hj).2]
      by_cases e2 : sZ a j ≤ i
      · rw [if_pos (by rw [n_le (by omega) (by omega)]; exact e2)]
        exact Or.inl ⟨t + 1 + 1, τ, p, q, by omega, rfl, h, ext_r p, Or.inl rfl, fun _ => rfl, fin (fun m h1 _ q => by omega)⟩
      · have ek : sK a k ≠ 2 := by rw [← hl.1]; exact e
        have zk := hl.2.1
        have lci := (hl.2.2 i (by omega)).2 e
        have ct1 := h.1.2.2.2.1 j i hj e (by omega)
        have ct2 := h.1.2.2.2.1 k i hkk ek (by omega)
        have ca := (ha.2.2.2.1 j i hj e (by omega)).1
        have next : ∀ (t0 : Nat) (τ' : gS) (p' q' : Nat → Option Nat), t ≤ t0 → t0 ≤ t + 1 → bM a x y τ' p' q' → ext p p' → gr a p p' → (sOK a p j k i → p' = p) → sOK a p' j k i → bSl a x y j k s p (3 * (d + 1) + 1) (t + 1 + 1 + 1) (R_M_alike (t0 + 1) 6 [s, nI j, nI k, nI i] τ') := by
          intro t0 τ' p' q' ht1 ht2 hb he hg hs hs2
          rw [st_M_alike_6]
          unfold B_M_alike_6
          rw [add_c1]
          rcases ih (i + 1) τ' p' q' t0 (by omega) (by omega) hb (he _ _ hp) (fun m hm => by
            by_cases e3 : m = i
            · rw [e3]; exact hs2
            · exact sOK_up (hd m (by omega)) he) with ⟨t', τ'', p'', q'', v1, v2, v3, v4, v5, v6, v7⟩ | hb2
          · refine Or.inl ⟨t', τ'', p'', q'', by omega, v2, v3, ext_t he v4, gr_t hg v5, fun ho => ?_, v7⟩
            have e5 := hs (ho i (by omega))
            subst e5
            exact v6 ho
          · exact Or.inr hb2
        rw [if_neg (by rw [n_le (by omega) (by omega)]; exact e2), gLd_ok (4 * j + i) (g_4x j i) (by omega) (by decide), ct1.1]
        by_cases e3 : sC a (4 * j + i) = 2
        · have e3k : sC a (4 * k + i) = 2 := by rw [← lci.1]; exact e3
          obtain ⟨u, t1, t2, t3⟩ := tg_two ha hj (by omega) e (by omega) e3
          obtain ⟨v, s1, s2, s3⟩ := tg_two ha hkk (by omega) ek (by omega) e3k
          have hf : ∀ P, Pm a x y P → P u v := fun P hP => hP.2.2.2.2 j k i u v (h.2.2.2.2.2 P hP j k hp) (by omega) t1 s1
          have sok : ∀ p' : Nat → Option Nat, p' u = some v → sOK a p' j k i := fun p' hp' u' v' z1 z2 => by
            rw [t1] at z1
            rw [s1] at z2
            rw [← Option.some.inj z1, ← Option.some.inj z2]
            exact hp'
          rw [if_pos (by rw [e3]; rfl), gLd_ok (4 * j + i) (g_4x j i) (by omega) (by decide), gLd_ok (4 * k + i) (g_4x k i) (by omega) (by decide), ct1.2 (by omega), ct2.2 (by omega), t3, s3, gLd_n (by omega) (by decide), h.2.1 u (by omega)]
          cases hpu : p u with
          | some w =>
            have hw := (h.2.2.2.2.1 u w hpu).2
            rw [if_pos (show 0 ≤ oI (some w) from nI_pos' (by omega)), st_M_alike_5]
            unfold B_M_alike_5
            rw [gLd_n (by omega) (by decide), h.2.1 u (by omega), hpu]
            by_cases e5 : w = v
            · have hq : q v = some u := (h.2.2.2.1 u v).mp (by rw [hpu, e5])
              rw [if_pos (show oI (some w) = nI v by rw [e5]; rfl), gLd_n (by omega) (by decide), h.2.2.1 v (by omega), hq, if_pos (show oI (some u) = nI u from rfl)]
              exact next t τ p q (by omega) (by omega) h (ext_r p) (Or.inl rfl) (fun _ => rfl) (sok p (by rw [hpu, e5]))
            · rw [show oI (some w) = nI w from rfl, if_neg (show ¬ nI w = nI v by rw [n_eq (by omega) (by omega)]; exact e5)]
              exact Or.inr ⟨τ, rfl, h.1, pq_bad h.2.2.2 hf (fun q => by rw [hpu] at q; cases q.1) (fun q => e5 (by rw [hpu] at q; exact Option.some.inj q))⟩
          | none =>
            rw [if_neg (show ¬ 0 ≤ oI none by decide), gLd_n (by omega) (by decide), h.2.2.1 v (by omega)]
            cases hqv : q v with
            | some w =>
              have hw := (h.2.2.2.2.1 w v ((h.2.2.2.1 w v).mpr hqv)).1
              rw [if_pos (show 0 ≤ oI (some w) from nI_pos' (by omega)), st_M_alike_5]
              unfold B_M_alike_5
              rw [gLd_n (by omega) (by decide), h.2.1 u (by omega), hpu, if_neg (show ¬ oI none = nI v from m1_n (by omega))]
              exact Or.inr ⟨τ, rfl, h.1, pq_bad h.2.2.2 hf (fun q => by rw [hqv] at q; cases q.2) (fun q => by rw [hpu] at q; cases q)⟩
            | none =>
              rw [if_neg (show ¬ 0 ≤ oI none by decide), gSt_n (by omega) (by decide), gSt_n (by omega) (by decide), st_M_alike_5]
              unfold B_M_alike_5
              rw [gLd_n (by omega) (by decide), sA_ne (by decide), sA_eq, up_eq, if_pos rfl, gLd_n (by omega) (by decide), sA_eq, up_eq, if_pos rfl]
              refine next t _ (upO p u v) (upO q v u) (by omega) (by omega) ⟨absM_of h.1 rfl rfl (fun k hk => ?_), fun j hj => ?_, fun j hj => ?_, pq_add h.2.2.2 t2 s2 hf hpu hqv⟩ (ext_up hpu) (Or.inr (by rw [szP_up hpu t2]; omega)) (fun ho => ?_) (sok _ (upO_e p u v))
              · rw [sA_ne (by omega), sA_ne (by omega)]
              · rw [sA_ne (by decide), sA_eq]
                by_cases e : j = u
                · rw [e, up_eq, upO_e]; rfl
                · rw [up_ne e, upO_n e]; exact h.2.1 j hj
              · rw [sA_eq, sA_ne (by decide)]
                by_cases e : j = v
                · rw [e, up_eq, upO_e]; rfl
                · rw [up_ne e, upO_n e]; exact h.2.2.1 j hj
              · have := ho u v t1 s1
                rw [hpu] at this
                cases this
        · rw [if_neg (n2 ca e3)]
          refine next (t + 1) τ p q (by omega) (by omega) h (ext_r p) (Or.inl rfl) (fun _ => rfl) (fun u v t1 t2 => ?_)
          rw [tg_not ha e3] at t1
          cases t1
theorem gNe_ok {β : Type} {y : Int32} {K : Option β} (h : ¬ y = 0) : gNe y K = K := if_neg h
theorem m_step {a : aS} (ha : okA a) {x y : Nat} {τ : gS} {p q : Nat → Option Nat} (h : bM a x y τ p q) {s j : Nat} (hj : j < sN a) (hs : s % sN a = j) (hs2 : s < 17 * sN a) (t : Nat) : (∃ t' τ' p' q', t + 20 ≤ t' + 20 ∧ R_M_alike (t + 20) 2 [nI s] τ = R_M_alike t' 2 [nI (s + 1)] τ' ∧ bM a x y τ' p' q' ∧ ext p p' ∧ gr a p p' ∧ (pr a p j → p' = p) ∧ pr a p' j) ∨ bBad a x y (R_M_alike (t + 20) 2 [nI s] τ) := by
  have h16 := ha.1
  rw [show t + 20 = t + 19 + 1 from rfl, st_M_alike_2]
  unfold B_M_alike_2
  rw [h.1.1, show (17 : Int32) * nI (sN a) = nI (17 * sN a) from pk_mul 17 _, if_neg (by rw [n_le (by omega) (by omega)]; omega), gNe_ok (nI_ne0 (by omega) (by omega)), pk_rem (by omega) (by omega) (by omega), hs, gLd_n (by omega) (by decide), h.2.1 j (by omega)]
  have e7 : ∀ (t' : Nat) (τ' : gS), R_M_alike (t' + 1) 7 [nI s] τ' = R_M_alike t' 2 [nI (s + 1)] τ' := fun t' τ' => by
    rw [st_M_alike_7]
    unfold B_M_alike_7
    rw [add_c1]
  cases hp : p j with
  | none =>
    refine Or.inl ⟨t + 16, τ, p, q, by omega, ?_, h, ext_r p, Or.inl rfl, fun _ => rfl, fun k hk => by rw [hp] at hk; cases hk⟩
    rw [if_pos (show oI none < 0 by decide), show t + 19 = t + 18 + 1 from rfl, st_M_alike_3]
    unfold B_M_alike_3
    rw [show t + 18 = t + 17 + 1 from rfl, st_M_alike_4]
    unfold B_M_alike_4
    rw [if_pos (show oI none < 0 by decide), show t + 17 = t + 16 + 1 from rfl, e7]
  | some k =>
    have hk := (h.2.2.2.2.1 j k hp).2
    obtain ⟨b, w1, w2⟩ := m_out ha h.1 hj hk
    rw [show oI (some k) = nI k from rfl, if_neg (nI_pos (by omega)), w1, gBd_s]
    cases b with
    | false =>
      rw [bI_f, if_pos rfl]
      refine Or.inr ⟨τ, rfl, h.1, fun hP => ?_⟩
      obtain ⟨P, hP⟩ := hP
      have := w2.mpr (hP.2.1 j k (h.2.2.2.2.2 P hP j k hp))
      cases this
    | true =>
      have hl := w2.mp rfl
      have v := m_slots ha (x := x) (y := y) (nI s) hl 4 0 τ p q (t + 18) (by omega) (by omega) h hp (fun m hm => absurd hm (Nat.not_lt_zero m))
      rw [nI_0] at v
      rw [bI_t, if_neg i10, show t + 19 = t + 18 + 1 from rfl, st_M_alike_3]
      unfold B_M_alike_3
      rcases v with ⟨t', τ', p', q', v1, v2, v3, v4, v5, v6, v7⟩ | v
      · obtain ⟨t', rfl⟩ : ∃ t'', t' = t'' + 1 := ⟨t' - 1, by omega⟩
        refine Or.inl ⟨t', τ', p', q', by omega, by rw [v2, e7], v3, v4, v5, fun ho => v6 (ho k hp).2, fun k' hk' => ?_⟩
        rw [v4 _ _ hp] at hk'
        rw [← Option.some.inj hk']
        exact ⟨hl, v7⟩
      · exact Or.inr v
theorem m_sweep {a : aS} (ha : okA a) {x y r : Nat} (hr : r < 17) : ∀ (d j : Nat) (τ : gS) (p q : Nat → Option Nat) (t : Nat), j + d = sN a → 20 * d ≤ t → bM a x y τ p q → ((∀ m, pr a p m) ∨ r + 2 ≤ szP a p ∨ (r + 1 ≤ szP a p ∧ ∀ m, m < j → pr a p m)) → (∃ t' τ' p' q', t ≤ t' + 20 * d ∧ R_M_alike t 2 [nI (sN a * r + j)] τ = R_M_alike t' 2 [nI (sN a * (r + 1))] τ' ∧ bM a x y τ' p' q' ∧ ext p p' ∧ ((∀ m, pr a p' m) ∨ r + 2 ≤ szP a p')) ∨ bBad a x y (R_M_alike t 2 [nI (sN a * r + j)] τ) := by
  have h16 := ha.1
  have hrn : sN a * (r + 1) ≤ sN a * 17 := Nat.mul_le_mul_left _ (by omega)
  rw [Nat.mul_succ] at hrn
  intro d
  induction d with
  | zero =>
    intro j τ p q t hj ht h hD
    obtain rfl : j = sN a := by omega
    refine Or.inl ⟨t, τ, p, q, by omega, by rw [Nat.mul_succ], h, ext_r p, ?_⟩
    rcases hD with hD | hD | hD
    · exact Or.inl hD
    · exact Or.inr hD
    · refine Or.inl (fun m k hk => ?_)
      exact hD.2 m (h.2.2.2.2.1 m k hk).1 k hk
  | succ d ih =>
    intro j τ p q t hj ht h hD
    obtain ⟨t, rfl⟩ : ∃ t', t = t' + 20 := ⟨t - 20, by omega⟩
    rcases m_step ha h (s := sN a * r + j) (j := j) (by omega) (by rw [Nat.mul_add_mod]; exact Nat.mod_eq_of_lt (by omega)) (by omega) t with ⟨t', τ', p', q', v1, v2, v3, v4, v5, v6, v7⟩ | v
    · rw [v2, Nat.add_assoc]
      have hD' : (∀ m, pr a p' m) ∨ r + 2 ≤ szP a p' ∨ (r + 1 ≤ szP a p' ∧ ∀ m, m < j + 1 → pr a p' m) := by
        rcases hD with hD | hD | hD
        · rw [v6 (hD j)]; exact Or.inl hD
        · rcases v5 with v5 | v5
          · rw [v5]; exact Or.inr (Or.inl hD)
          · exact Or.inr (Or.inl (by omega))
        · rcases v5 with v5 | v5
          · refine Or.inr (Or.inr ⟨by rw [v5]; exact hD.1, fun m hm => ?_⟩)
            by_cases e : m = j
            · rw [e]; exact v7
            · rw [v5]; exact hD.2 m (by omega)
          · exact Or.inr (Or.inl (by omega))
      rcases ih (j + 1) τ' p' q' t' (by omega) (by omega) v3 hD' with ⟨t'', τ'', p'', q'', z1, z2, z3, z4, z5⟩ | z
      · exact Or.inl ⟨t'', τ'', p'', q'', by omega, z2, z3, ext_t v4 z4, z5⟩
      · exact Or.inr z
    · exact Or.inr v
theorem m_all {a : aS} (ha : okA a) {x y : Nat} : ∀ (d r : Nat) (τ : gS) (p q : Nat → Option Nat) (t : Nat), r + d = 17 → 320 * d + 1 ≤ t → bM a x y τ p q → p x = some y → ((∀ m, pr a p m) ∨ r + 1 ≤ szP a p) → ∃ b τ', R_M_alike t 2 [nI (sN a * r)] τ = some (b, τ') ∧ absM τ' a ∧ aOut a x y b := by
  have h16 := ha.1
  intro d
  induction d with
  | zero =>
    intro r τ p q t hr ht h hx hD
    obtain rfl : r = 17 := by omega
    obtain ⟨t, rfl⟩ : ∃ t', t = t' + 1 := ⟨t - 1, by omega⟩
    have hsz := szP_le a p
    refine ⟨1, τ, ?_, h.1, Or.inl ⟨rfl, pq_good h.2.2.2 hx (hD.resolve_right (by omega))⟩⟩
    rw [st_M_alike_2]
    unfold B_M_alike_2
    rw [h.1.1, show (17 : Int32) * nI (sN a) = nI (17 * sN a) from pk_mul 17 _, if_pos (by rw [n_le (by omega) (by omega)]; omega)]
  | succ d ih =>
    intro r τ p q t hr ht h hx hD
    have hD' : (∀ m, pr a p m) ∨ r + 2 ≤ szP a p ∨ (r + 1 ≤ szP a p ∧ ∀ m, m < 0 → pr a p m) := by
      rcases hD with hD | hD
      · exact Or.inl hD
      · exact Or.inr (Or.inr ⟨hD, fun m hm => absurd hm (Nat.not_lt_zero m)⟩)
    rcases m_sweep ha (x := x) (y := y) (r := r) (by omega) (sN a) 0 τ p q t (by omega) (by omega) h hD' with ⟨t', τ', p', q', z1, z2, z3, z4, z5⟩ | ⟨τ', z1, z2, z3⟩
    · rw [Nat.add_zero] at z2
      rw [z2]
      exact ih (r + 1) τ' p' q' t' (by omega) (by omega) z3 (z4 _ _ hx) z5
    · rw [Nat.add_zero] at z1
      exact ⟨0, τ', z1, z2, Or.inr ⟨rfl, z3⟩⟩
theorem m_al1 {x y : Nat} (hx : x < 16) (hy : y < 16) : ∀ (d i : Nat) (τ : gS) (t : Nat), i + d = 16 → ∃ τ', R_M_alike (t + (d + 1)) 1 [nI x, nI y, nI i] τ = R_M_alike t 2 [0] τ' ∧ τ'.1 = τ.1 ∧ (∀ k, k ≠ 24 → k ≠ 25 → τ'.2 k = τ.2 k) ∧ (∀ j, j < 16 → (i ≤ j ∨ τ.2 24 j = -1) → τ'.2 24 j = oI (upO (fun _ => none) x y j)) ∧ ∀ j, j < 16 → (i ≤ j ∨ τ.2 25 j = -1) → τ'.2 25 j = oI (upO (fun _ => none) y x j) := by
  intro d
  induction d with
  | zero =>
    intro i τ t hi
    obtain rfl : i = 16 := by omega
    refine ⟨sA (sA τ 24 (upd (τ.2 24) x (nI y))) 25 (upd (τ.2 25) y (nI x)), ?_, rfl, fun k h1 h2 => by rw [sA_ne h2, sA_ne h1], fun j hj h => ?_, fun j hj h => ?_⟩
    · rw [show t + (0 + 1) = t + 1 from rfl, st_M_alike_1]
      unfold B_M_alike_1
      rw [if_pos (by decide), gSt_n hx (by decide), gSt_n hy (by decide), sA_ne (by decide)]
    · rw [sA_ne (by decide), sA_eq]
      by_cases e : j = x
      · rw [e, up_eq, upO_e]; rfl
      · rw [up_ne e, upO_n e]; exact h.resolve_left (by omega)
    · rw [sA_eq]
      by_cases e : j = y
      · rw [e, up_eq, upO_e]; rfl
      · rw [up_ne e, upO_n e]; exact h.resolve_left (by omega)
  | succ d ih =>
    intro i τ t hi
    rw [show t + (d + 1 + 1) = t + (d + 1) + 1 from rfl, st_M_alike_1]
    unfold B_M_alike_1
    rw [if_neg (by rw [c16_le (by omega)]; omega), gSt_n (by omega) (by decide), gSt_n (by omega) (by decide), add_c1, sA_ne (by decide)]
    obtain ⟨τ', w1, w2, w3, w4, w5⟩ := ih (i + 1) (sA (sA τ 24 (upd (τ.2 24) i (-1))) 25 (upd (τ.2 25) i (-1))) t (by omega)
    refine ⟨τ', w1, w2, fun k h1 h2 => by rw [w3 k h1 h2, sA_ne h2, sA_ne h1], fun j hj h => w4 j hj ?_, fun j hj h => w5 j hj ?_⟩
    · rw [sA_ne (by decide), sA_eq]
      by_cases e : j = i
      · rw [e, up_eq]; exact Or.inr rfl
      · rw [up_ne e]
        rcases h with h | h
        · exact Or.inl (by omega)
        · exact Or.inr h
    · rw [sA_eq]
      by_cases e : j = i
      · rw [e, up_eq]; exact Or.inr rfl
      · rw [up_ne e]
        rcases h with h | h
        · exact Or.inl (by omega)
        · exact Or.inr h
theorem u_alike {σ τ : gS} {a : aS} (ha : okA a) (hc : absC σ a) (hm : absM τ a) (x y : Int32) : sameR a (f_O_alike σ x y) (f_M_alike τ x y) := by
  have h16 := ha.1
  obtain ⟨T, hT⟩ := gFx
  rw [fx_M_alike hT]
  unfold f_O_alike B_M_alike_0
  rcases isJ_or (sN a) (by omega) x with ⟨j, hj, rfl⟩ | h
  · rw [r_has hc.1 h16 hj, gBd_s, if_neg i10, r_obj hm.1 h16 hj, gBd_s, if_neg i10]
    rcases isJ_or (sN a) (by omega) y with ⟨k, hk, rfl⟩ | h
    · rw [r_has hc.1 h16 hk, gBd_s, if_neg i10, r_obj hm.1 h16 hk, gBd_s, if_neg i10]
      obtain ⟨r, σ', w1, w2, w3⟩ := c_exists ha hc hj hk
      obtain ⟨τ1, a1, a2, a3, a4, a5⟩ := m_al1 (x := j) (y := k) (by omega) (by omega) 16 0 τ (T + 49982) (by omega)
      have hb : bM a j k τ1 (upO (fun _ => none) j k) (upO (fun _ => none) k j) := by
        refine ⟨absM_of hm (by rw [a2]) (by rw [a2]) (fun k hk => a3 k (by omega) (by omega)), fun i hi => a4 i hi (Or.inl (by omega)), fun i hi => a5 i hi (Or.inl (by omega)), pq_add ⟨fun _ _ => ⟨fun q => (by cases q), fun q => (by cases q)⟩, fun _ _ q => (by cases q), fun _ _ _ _ q => (by cases q)⟩ hj hk (fun P hP => hP.1) rfl rfl⟩
      obtain ⟨b, τ', v1, v2, v3⟩ := m_all ha 17 0 τ1 _ _ (T + 49982) (by omega) (by omega) hb (upO_e _ _ _) (Or.inr (by rw [szP_up rfl hj]; omega))
      rw [Nat.mul_zero, nI_0] at v1
      rw [nI_0, show T + 49982 + (16 + 1) = T + 49999 from rfl] at a1
      rw [w1, gBd_s, a1, v1]
      refine ⟨b, σ', τ', ?_, rfl, w2, v2⟩
      rcases w3 with ⟨rfl, w3⟩ | ⟨rfl, w3⟩
      · rcases v3 with ⟨rfl, v3⟩ | ⟨rfl, v3⟩
        · rw [if_neg i10]
        · exact absurd w3 v3
      · rcases v3 with ⟨rfl, v3⟩ | ⟨rfl, v3⟩
        · exact absurd v3 w3
        · rw [if_pos rfl]
    · exact ⟨0, σ, τ, by rw [r_hasN hc.1 h, gBd_s, if_pos rfl], by rw [r_objN hm.1 h, gBd_s, if_pos rfl], hc, hm⟩
  · exact ⟨0, σ, τ, by rw [r_hasN hc.1 h, gBd_s, if_pos rfl], by rw [r_objN hm.1 h, gBd_s, if_pos rfl], hc, hm⟩
