/-- the premises on the String constants, word by word -/
def gPrem (q : String × Nat × String × Nat) : List Cond := [Cond.exactly (Term.string q.1 q.2.1) "java/lang/String", Cond.eq (.field (Term.string q.1 q.2.1) "java/lang/String" "coder" "B") (.int 0), Cond.arrayOf (.field (Term.string q.1 q.2.1) "java/lang/String" "value" "[B") .byte, Cond.eq (.length (.field (Term.string q.1 q.2.1) "java/lang/String" "value" "[B")) (.int (Int32.ofNat (gTx.getD q.2.2.2 []).length))] ++ (List.range (gTx.getD q.2.2.2 []).length).map (fun j => Cond.eq (.elem (.field (Term.string q.1 q.2.1) "java/lang/String" "value" "[B") (.int (Int32.ofNat j))) (.int (((gTx.getD q.2.2.2 []).map nI).getD j 0)))
theorem gPrem_in : ∀ q ∈ gLs, ∀ w ∈ gPrem q, w ∈ flatC (Jvm.Cond.and given_1 narrow_1) := by decide +kernel
theorem gRef_in : ∀ q ∈ gLs, Cond.stringRef q.1 q.2.1 q.2.2.1 ∈ lw_tbl := by decide +kernel
theorem gE_of {s : State} {A : Nat → Prop} {sb : Nat} (hN : gN s) (hts0 : ∀ w ∈ lw_tbl, w.before #[Value.ref sb] s = true) (hgv : (Jvm.Cond.and given_1 narrow_1).before #[Value.ref sb] s = true) (hA : ∀ a : Nat, a < s.heap.size → ¬ A a) : ∃ aK aV : Nat → Nat, gE aK aV A s s.heap := by
  have hs := flat_of_before _ hgv
  have h1 : ∀ q, ∃ kv : Nat × Nat, q ∈ gLs → vk_R q.1 q.2.1 q.2.2.1 kv.1 s ∧ vk_S 1 [(gTx.getD q.2.2.2 []).length] [(gTx.getD q.2.2.2 []).map nI] (fun _ => kv.1) (fun _ => kv.2) A s s.heap := by
    intro q
    by_cases hq : q ∈ gLs
    · have hp : ∀ w ∈ gPrem q, w.before #[Value.ref sb] s = true := fun w h => hs w (gPrem_in q hq w h)
      have e0 : ∀ i : Nat, i < 1 → i = 0 := fun i h => by omega
      obtain ⟨adK, adV, hS, hev⟩ := vk_Sof (args := #[Value.ref sb]) (s := s) (A := A) (N := 1) (tm := fun _ => Term.string q.1 q.2.1) (len := [(gTx.getD q.2.2.2 []).length]) (byt := [(gTx.getD q.2.2.2 []).map nI])
        (fun i hi => by rw [e0 i hi]; exact Nat.lt_of_lt_of_le (gTn_lt q hq) (by decide))
        (fun i hi => hp _ (List.mem_append_left _ (by simp)))
        (fun i hi => hp _ (List.mem_append_left _ (by simp)))
        (fun i hi => hp _ (List.mem_append_left _ (by simp)))
        (fun i hi => by rw [e0 i hi]; exact hp _ (List.mem_append_left _ (by simp)))
        (fun i hi j hj => by
          rw [e0 i hi] at hj ⊢
          exact hp _ (List.mem_append_right _ (List.mem_map.mpr ⟨j, List.mem_range.mpr hj, rfl⟩)))
        (fun i j hi hj hne => absurd ((e0 i hi).trans (e0 j hj).symm) hne) hA
      refine ⟨(adK 0, adV 0), fun _ => ⟨vk_R.of (hts0 _ (gRef_in q hq)) (hev 0 (by decide)), fun i hi => ?_, fun i j hi hj _ => (e0 i hi).trans (e0 j hj).symm⟩⟩
      rw [e0 i hi]
      exact hS.1 0 (by decide)
    · exact ⟨(0, 0), fun h => absurd h hq⟩
  have hix : ∀ q ∈ gLs, gLs.getD q.2.2.2 ("", 0, "", 0) = q := by decide +kernel
  refine ⟨fun i => (Classical.choose (h1 (gLs.getD i ("", 0, "", 0)))).1, fun i => (Classical.choose (h1 (gLs.getD i ("", 0, "", 0)))).2, hN, fun q hq => ?_, ?_, ?_⟩
  · have h := Classical.choose_spec (h1 q) hq
    show vk_R q.1 q.2.1 q.2.2.1 (Classical.choose (h1 (gLs.getD q.2.2.2 ("", 0, "", 0)))).1 s ∧ vk_S 1 _ _ (fun _ => (Classical.choose (h1 (gLs.getD q.2.2.2 ("", 0, "", 0)))).1) (fun _ => (Classical.choose (h1 (gLs.getD q.2.2.2 ("", 0, "", 0)))).2) A s s.heap
    rw [hix q hq]
    exact h
  · exact va_Zof (hts0 (.laysStatic "java/lang/String" "COMPACT_STRINGS" "Z") (by decide +kernel)) (hts0 (.initialized "java/lang/String") (by decide +kernel)) (va_eqi (hs (Cond.eq (.static "java/lang/String" "COMPACT_STRINGS" "Z") (.int 1)) (by decide +kernel))) hA
  · exact va_Zqof (hts0 (.laysStatic "jdk/internal/util/Preconditions" "SIOOBE_FORMATTER" "Ljava/util/function/BiFunction;") (by decide +kernel)) (hts0 (.initialized "jdk/internal/util/Preconditions") (by decide +kernel)) (hs (Cond.isRef (.static "jdk/internal/util/Preconditions" "SIOOBE_FORMATTER" "Ljava/util/function/BiFunction;")) (by decide +kernel)) hA
