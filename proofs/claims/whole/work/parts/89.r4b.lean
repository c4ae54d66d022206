/-! decode: the class reads the graph -/
theorem c_fill35 : ∀ (d i : Nat) (σ : gS) (t : Nat) (v : Int32), i + d = 100 → d + 1 ≤ t → ∃ σ', R_J_fill_GI t 1 [v, nI i, 100] σ = some (0, σ') ∧ σ'.1 = σ.1 ∧ (∀ k, k ≠ 35 → σ'.2 k = σ.2 k) ∧ (∀ j, i ≤ j → j < 100 → σ'.2 35 j = v) ∧ ∀ j, j < i → σ'.2 35 j = σ.2 35 j := by
  intro d
  induction d with
  | zero =>
    intro i σ t v hi ht
    obtain rfl : i = 100 := by omega
    obtain ⟨t, rfl⟩ : ∃ t', t = t' + 1 := ⟨t - 1, by omega⟩
    refine ⟨σ, ?_, rfl, fun _ _ => rfl, fun j h1 h2 => by omega, fun _ _ => rfl⟩
    rw [st_J_fill_GI_1]
    unfold B_J_fill_GI_1
    rw [if_pos (by decide)]
  | succ d ih =>
    intro i σ t v hi ht
    obtain ⟨t, rfl⟩ : ∃ t', t = t' + 1 := ⟨t - 1, by omega⟩
    rw [st_J_fill_GI_1]
    unfold B_J_fill_GI_1
    rw [if_neg (show ¬ 100 ≤ nI i from by rw [c100_le (by omega)]; omega), gSt_n (by omega) (by decide), add_c1]
    obtain ⟨σ', q1, q2, q3, q4, q5⟩ := ih (i + 1) (sA σ 35 (upd (σ.2 35) i v)) t v (by omega) (by omega)
    refine ⟨σ', q1, q2, fun k hk => (q3 k hk).trans (sA_ne hk), fun j h1 h2 => ?_, fun j h1 => ?_⟩
    · by_cases e : j = i
      · rw [e, q5 i (by omega), sA_eq, up_eq]
      · exact q4 j (by omega) h2
    · rw [q5 j (by omega), sA_eq, up_ne (by omega)]
theorem wI_0 {a : aS} {D : dS} {b v : Nat} : ∀ m, m ≤ b + 1 → wI a D b v m = none := by
  intro m
  induction m with
  | zero => intro _; rfl
  | succ m ih => intro h; rw [wI_n (ih (by omega)), if_neg (fun q => by omega)]
theorem CC_k {a : aS} {D : dS} {b : Nat} : CC a D b ↔ ((∀ c, b < c → c < zN D → cE a D b c) ∧ sN a + oc D b (zN D) ≤ 16) ∧ ∀ c, b < c → c < zN D → p2 a D b c := by
  constructor
  · rintro ⟨C1, C2, C3, C4, C5⟩
    exact ⟨⟨fun c h1 h2 => ⟨C1 c h1 h2, fun v ho hv => C2 c v h1 h2 ho hv⟩, C3⟩, fun c h1 h2 => ⟨fun hp => C4 c h1 h2 hp, fun q hp hq => C5 c q h1 h2 hp hq⟩⟩
  · rintro ⟨⟨E, C3⟩, P⟩
    exact ⟨fun c h1 h2 => (E c h1 h2).1, fun c v h1 h2 ho hv => (E c h1 h2).2 v ho hv, C3, fun c h1 h2 hp => (P c h1 h2).1 hp, fun c q h1 h2 hp hq => (P c h1 h2).2 q hp hq⟩
