theorem gLd_n {β : Type} {σ : gS} {k n i : Nat} {K : Int32 → Option β} (hi : i < n) (hn : n < 2147483648) : gLd σ k n (nI i) K = K (σ.2 k i) := gLd_ok i rfl hi hn
theorem gSt_n {β : Type} {σ : gS} {k n i : Nat} {v : Int32} {K : gS → Option β} (hi : i < n) (hn : n < 2147483648) : gSt σ k n (nI i) v K = K (sA σ k (upd (σ.2 k) i v)) := gSt_ok i rfl hi hn
theorem gLd_0 {β : Type} {σ : gS} {k n : Nat} {K : Int32 → Option β} (hi : 0 < n) (hn : n < 2147483648) : gLd σ k n 0 K = K (σ.2 k 0) := gLd_ok 0 rfl hi hn
theorem gSt_0 {β : Type} {σ : gS} {k n : Nat} {v : Int32} {K : gS → Option β} (hi : 0 < n) (hn : n < 2147483648) : gSt σ k n 0 v K = K (sA σ k (upd (σ.2 k) 0 v)) := gSt_ok 0 rfl hi hn
theorem sA_eq (σ : gS) (k : Nat) (f : Nat → Int32) : (sA σ k f).2 k = f := if_pos rfl
theorem sA_ne {σ : gS} {k j : Nat} {f : Nat → Int32} (h : j ≠ k) : (sA σ k f).2 j = σ.2 j := if_neg h
theorem sA_1 (σ : gS) (k : Nat) (f : Nat → Int32) : (sA σ k f).1 = σ.1 := rfl
theorem sI_2 (σ : gS) (k : Nat) (x : Int32) : (sI σ k x).2 = σ.2 := rfl
theorem sI_eq (σ : gS) (k : Nat) (x : Int32) : (sI σ k x).1 k = x := if_pos rfl
theorem sI_ne {σ : gS} {k j : Nat} {x : Int32} (h : j ≠ k) : (sI σ k x).1 j = σ.1 j := if_neg h
theorem up_eq (f : Nat → Int32) (i : Nat) (v : Int32) : upd f i v i = v := if_pos rfl
theorem up_ne {f : Nat → Int32} {i p : Nat} {v : Int32} (h : p ≠ i) : upd f i v p = f p := if_neg h
theorem n_le {a b : Nat} (ha : a < 2147483648) (hb : b < 2147483648) : nI a ≤ nI b ↔ a ≤ b := nI_leI ha hb
theorem n_lt {a b : Nat} (ha : a < 2147483648) (hb : b < 2147483648) : nI a < nI b ↔ a < b := nI_ltI ha hb
theorem n_eq {a b : Nat} (ha : a < 2147483648) (hb : b < 2147483648) : nI a = nI b ↔ a = b := nI_eq ha hb
theorem n_m1 {a : Nat} (ha : a < 2147483648) : ¬ nI a = -1 := fun q => nI_pos ha (by rw [q]; decide)
theorem m1_n {a : Nat} (ha : a < 2147483648) : ¬ -1 = nI a := fun q => nI_pos ha (by rw [← q]; decide)
theorem bI_t : bI true = 1 := rfl
theorem bI_f : bI false = 0 := rfl
theorem i10 : ¬ (1 : Int32) = 0 := by decide
theorem i20 : ¬ (2 : Int32) = 0 := by decide
theorem i01 : ¬ (0 : Int32) = 1 := by decide
theorem im0 : ¬ (-1 : Int32) = 0 := by decide
theorem im1 : ¬ (-1 : Int32) = 1 := by decide
theorem im2 : ¬ (-1 : Int32) = 2 := by decide
theorem iml : (-1 : Int32) < 0 := by decide
theorem nar_1 : vp_nar .boolean 1 = 1 := rfl
theorem nar_0 : vp_nar .boolean 0 = 0 := rfl
theorem nr_1 {β : Type} {K : Option β} : gNr .boolean 1 K = K := if_pos rfl
theorem nr_0 {β : Type} {K : Option β} : gNr .boolean 0 K = K := if_pos rfl
theorem nr_b {β : Type} {b : Bool} {K : Option β} : gNr .boolean (bI b) K = K := if_pos (bI_nz b)
theorem nr_c {β : Type} {c : Nat} {K : Option β} (h : c < 65536) : gNr .char (nI c) K = K := if_pos (pk_charN h).1
theorem b_0 {b : Bool} : bI b = 0 ↔ b = false := by cases b <;> decide
theorem b_1 {b : Bool} : bI b = 1 ↔ b = true := by cases b <;> decide
theorem n_div4 {s : Nat} (h : s < 2147483648) : nI s / 4 = nI (s / 4) := pk_div (d := 4) h (by decide) (by decide)
theorem n_rem4 {s : Nat} (h : s < 2147483648) : nI s - nI (s / 4) * 4 = nI (s % 4) := by
  rw [← n_div4 h]
  exact pk_rem (d := 4) h (by decide) (by decide)
theorem gFx : ∃ t, gFuel = t + 50000 := ⟨50000, rfl⟩
theorem c0_le {i : Nat} (h : i < 2147483648) : (0 : Int32) ≤ nI i ↔ 0 ≤ i := nI_leI (a := 0) (by decide) h
theorem le_c0 {i : Nat} (h : i < 2147483648) : nI i ≤ (0 : Int32) ↔ i ≤ 0 := nI_leI (b := 0) h (by decide)
theorem c0_lt {i : Nat} (h : i < 2147483648) : (0 : Int32) < nI i ↔ 0 < i := nI_ltI (a := 0) (by decide) h
theorem lt_c0 {i : Nat} (h : i < 2147483648) : nI i < (0 : Int32) ↔ i < 0 := nI_ltI (b := 0) h (by decide)
theorem eq_c0 {i : Nat} (h : i < 2147483648) : nI i = (0 : Int32) ↔ i = 0 := nI_eq (b := 0) h (by decide)
theorem c1_le {i : Nat} (h : i < 2147483648) : (1 : Int32) ≤ nI i ↔ 1 ≤ i := nI_leI (a := 1) (by decide) h
theorem le_c1 {i : Nat} (h : i < 2147483648) : nI i ≤ (1 : Int32) ↔ i ≤ 1 := nI_leI (b := 1) h (by decide)
theorem c1_lt {i : Nat} (h : i < 2147483648) : (1 : Int32) < nI i ↔ 1 < i := nI_ltI (a := 1) (by decide) h
theorem lt_c1 {i : Nat} (h : i < 2147483648) : nI i < (1 : Int32) ↔ i < 1 := nI_ltI (b := 1) h (by decide)
theorem eq_c1 {i : Nat} (h : i < 2147483648) : nI i = (1 : Int32) ↔ i = 1 := nI_eq (b := 1) h (by decide)
theorem add_c1 (i : Nat) : nI i + (1 : Int32) = nI (i + 1) := nI_add i 1
theorem c2_le {i : Nat} (h : i < 2147483648) : (2 : Int32) ≤ nI i ↔ 2 ≤ i := nI_leI (a := 2) (by decide) h
theorem le_c2 {i : Nat} (h : i < 2147483648) : nI i ≤ (2 : Int32) ↔ i ≤ 2 := nI_leI (b := 2) h (by decide)
theorem c2_lt {i : Nat} (h : i < 2147483648) : (2 : Int32) < nI i ↔ 2 < i := nI_ltI (a := 2) (by decide) h
theorem lt_c2 {i : Nat} (h : i < 2147483648) : nI i < (2 : Int32) ↔ i < 2 := nI_ltI (b := 2) h (by decide)
theorem eq_c2 {i : Nat} (h : i < 2147483648) : nI i = (2 : Int32) ↔ i = 2 := nI_eq (b := 2) h (by decide)
theorem add_c2 (i : Nat) : nI i + (2 : Int32) = nI (i + 2) := nI_add i 2
theorem c3_le {i : Nat} (h : i < 2147483648) : (3 : Int32) ≤ nI i ↔ 3 ≤ i := nI_leI (a := 3) (by decide) h
theorem le_c3 {i : Nat} (h : i < 2147483648) : nI i ≤ (3 : Int32) ↔ i ≤ 3 := nI_leI (b := 3) h (by decide)
theorem c3_lt {i : Nat} (h : i < 2147483648) : (3 : Int32) < nI i ↔ 3 < i := nI_ltI (a := 3) (by decide) h
theorem lt_c3 {i : Nat} (h : i < 2147483648) : nI i < (3 : Int32) ↔ i < 3 := nI_ltI (b := 3) h (by decide)
theorem eq_c3 {i : Nat} (h : i < 2147483648) : nI i = (3 : Int32) ↔ i = 3 := nI_eq (b := 3) h (by decide)
theorem add_c3 (i : Nat) : nI i + (3 : Int32) = nI (i + 3) := nI_add i 3
theorem c4_le {i : Nat} (h : i < 2147483648) : (4 : Int32) ≤ nI i ↔ 4 ≤ i := nI_leI (a := 4) (by decide) h
theorem le_c4 {i : Nat} (h : i < 2147483648) : nI i ≤ (4 : Int32) ↔ i ≤ 4 := nI_leI (b := 4) h (by decide)
theorem c4_lt {i : Nat} (h : i < 2147483648) : (4 : Int32) < nI i ↔ 4 < i := nI_ltI (a := 4) (by decide) h
theorem lt_c4 {i : Nat} (h : i < 2147483648) : nI i < (4 : Int32) ↔ i < 4 := nI_ltI (b := 4) h (by decide)
theorem eq_c4 {i : Nat} (h : i < 2147483648) : nI i = (4 : Int32) ↔ i = 4 := nI_eq (b := 4) h (by decide)
theorem add_c4 (i : Nat) : nI i + (4 : Int32) = nI (i + 4) := nI_add i 4
theorem c5_le {i : Nat} (h : i < 2147483648) : (5 : Int32) ≤ nI i ↔ 5 ≤ i := nI_leI (a := 5) (by decide) h
theorem le_c5 {i : Nat} (h : i < 2147483648) : nI i ≤ (5 : Int32) ↔ i ≤ 5 := nI_leI (b := 5) h (by decide)
theorem c5_lt {i : Nat} (h : i < 2147483648) : (5 : Int32) < nI i ↔ 5 < i := nI_ltI (a := 5) (by decide) h
theorem lt_c5 {i : Nat} (h : i < 2147483648) : nI i < (5 : Int32) ↔ i < 5 := nI_ltI (b := 5) h (by decide)
theorem eq_c5 {i : Nat} (h : i < 2147483648) : nI i = (5 : Int32) ↔ i = 5 := nI_eq (b := 5) h (by decide)
theorem add_c5 (i : Nat) : nI i + (5 : Int32) = nI (i + 5) := nI_add i 5
theorem c6_le {i : Nat} (h : i < 2147483648) : (6 : Int32) ≤ nI i ↔ 6 ≤ i := nI_leI (a := 6) (by decide) h
theorem le_c6 {i : Nat} (h : i < 2147483648) : nI i ≤ (6 : Int32) ↔ i ≤ 6 := nI_leI (b := 6) h (by decide)
theorem c6_lt {i : Nat} (h : i < 2147483648) : (6 : Int32) < nI i ↔ 6 < i := nI_ltI (a := 6) (by decide) h
theorem lt_c6 {i : Nat} (h : i < 2147483648) : nI i < (6 : Int32) ↔ i < 6 := nI_ltI (b := 6) h (by decide)
theorem eq_c6 {i : Nat} (h : i < 2147483648) : nI i = (6 : Int32) ↔ i = 6 := nI_eq (b := 6) h (by decide)
theorem add_c6 (i : Nat) : nI i + (6 : Int32) = nI (i + 6) := nI_add i 6
theorem c7_le {i : Nat} (h : i < 2147483648) : (7 : Int32) ≤ nI i ↔ 7 ≤ i := nI_leI (a := 7) (by decide) h
theorem le_c7 {i : Nat} (h : i < 2147483648) : nI i ≤ (7 : Int32) ↔ i ≤ 7 := nI_leI (b := 7) h (by decide)
theorem c7_lt {i : Nat} (h : i < 2147483648) : (7 : Int32) < nI i ↔ 7 < i := nI_ltI (a := 7) (by decide) h
theorem lt_c7 {i : Nat} (h : i < 2147483648) : nI i < (7 : Int32) ↔ i < 7 := nI_ltI (b := 7) h (by decide)
theorem eq_c7 {i : Nat} (h : i < 2147483648) : nI i = (7 : Int32) ↔ i = 7 := nI_eq (b := 7) h (by decide)
theorem add_c7 (i : Nat) : nI i + (7 : Int32) = nI (i + 7) := nI_add i 7
theorem c8_le {i : Nat} (h : i < 2147483648) : (8 : Int32) ≤ nI i ↔ 8 ≤ i := nI_leI (a := 8) (by decide) h
theorem le_c8 {i : Nat} (h : i < 2147483648) : nI i ≤ (8 : Int32) ↔ i ≤ 8 := nI_leI (b := 8) h (by decide)
theorem c8_lt {i : Nat} (h : i < 2147483648) : (8 : Int32) < nI i ↔ 8 < i := nI_ltI (a := 8) (by decide) h
theorem lt_c8 {i : Nat} (h : i < 2147483648) : nI i < (8 : Int32) ↔ i < 8 := nI_ltI (b := 8) h (by decide)
theorem eq_c8 {i : Nat} (h : i < 2147483648) : nI i = (8 : Int32) ↔ i = 8 := nI_eq (b := 8) h (by decide)
theorem add_c8 (i : Nat) : nI i + (8 : Int32) = nI (i + 8) := nI_add i 8
theorem c9_le {i : Nat} (h : i < 2147483648) : (9 : Int32) ≤ nI i ↔ 9 ≤ i := nI_leI (a := 9) (by decide) h
theorem le_c9 {i : Nat} (h : i < 2147483648) : nI i ≤ (9 : Int32) ↔ i ≤ 9 := nI_leI (b := 9) h (by decide)
theorem c9_lt {i : Nat} (h : i < 2147483648) : (9 : Int32) < nI i ↔ 9 < i := nI_ltI (a := 9) (by decide) h
theorem lt_c9 {i : Nat} (h : i < 2147483648) : nI i < (9 : Int32) ↔ i < 9 := nI_ltI (b := 9) h (by decide)
theorem eq_c9 {i : Nat} (h : i < 2147483648) : nI i = (9 : Int32) ↔ i = 9 := nI_eq (b := 9) h (by decide)
theorem add_c9 (i : Nat) : nI i + (9 : Int32) = nI (i + 9) := nI_add i 9
theorem c10_le {i : Nat} (h : i < 2147483648) : (10 : Int32) ≤ nI i ↔ 10 ≤ i := nI_leI (a := 10) (by decide) h
theorem le_c10 {i : Nat} (h : i < 2147483648) : nI i ≤ (10 : Int32) ↔ i ≤ 10 := nI_leI (b := 10) h (by decide)
theorem c10_lt {i : Nat} (h : i < 2147483648) : (10 : Int32) < nI i ↔ 10 < i := nI_ltI (a := 10) (by decide) h
theorem lt_c10 {i : Nat} (h : i < 2147483648) : nI i < (10 : Int32) ↔ i < 10 := nI_ltI (b := 10) h (by decide)
theorem eq_c10 {i : Nat} (h : i < 2147483648) : nI i = (10 : Int32) ↔ i = 10 := nI_eq (b := 10) h (by decide)
theorem add_c10 (i : Nat) : nI i + (10 : Int32) = nI (i + 10) := nI_add i 10
theorem c11_le {i : Nat} (h : i < 2147483648) : (11 : Int32) ≤ nI i ↔ 11 ≤ i := nI_leI (a := 11) (by decide) h
theorem le_c11 {i : Nat} (h : i < 2147483648) : nI i ≤ (11 : Int32) ↔ i ≤ 11 := nI_leI (b := 11) h (by decide)
theorem c11_lt {i : Nat} (h : i < 2147483648) : (11 : Int32) < nI i ↔ 11 < i := nI_ltI (a := 11) (by decide) h
theorem lt_c11 {i : Nat} (h : i < 2147483648) : nI i < (11 : Int32) ↔ i < 11 := nI_ltI (b := 11) h (by decide)
theorem eq_c11 {i : Nat} (h : i < 2147483648) : nI i = (11 : Int32) ↔ i = 11 := nI_eq (b := 11) h (by decide)
theorem add_c11 (i : Nat) : nI i + (11 : Int32) = nI (i + 11) := nI_add i 11
theorem c12_le {i : Nat} (h : i < 2147483648) : (12 : Int32) ≤ nI i ↔ 12 ≤ i := nI_leI (a := 12) (by decide) h
theorem le_c12 {i : Nat} (h : i < 2147483648) : nI i ≤ (12 : Int32) ↔ i ≤ 12 := nI_leI (b := 12) h (by decide)
theorem c12_lt {i : Nat} (h : i < 2147483648) : (12 : Int32) < nI i ↔ 12 < i := nI_ltI (a := 12) (by decide) h
theorem lt_c12 {i : Nat} (h : i < 2147483648) : nI i < (12 : Int32) ↔ i < 12 := nI_ltI (b := 12) h (by decide)
theorem eq_c12 {i : Nat} (h : i < 2147483648) : nI i = (12 : Int32) ↔ i = 12 := nI_eq (b := 12) h (by decide)
theorem add_c12 (i : Nat) : nI i + (12 : Int32) = nI (i + 12) := nI_add i 12
theorem c13_le {i : Nat} (h : i < 2147483648) : (13 : Int32) ≤ nI i ↔ 13 ≤ i := nI_leI (a := 13) (by decide) h
theorem le_c13 {i : Nat} (h : i < 2147483648) : nI i ≤ (13 : Int32) ↔ i ≤ 13 := nI_leI (b := 13) h (by decide)
theorem c13_lt {i : Nat} (h : i < 2147483648) : (13 : Int32) < nI i ↔ 13 < i := nI_ltI (a := 13) (by decide) h
theorem lt_c13 {i : Nat} (h : i < 2147483648) : nI i < (13 : Int32) ↔ i < 13 := nI_ltI (b := 13) h (by decide)
theorem eq_c13 {i : Nat} (h : i < 2147483648) : nI i = (13 : Int32) ↔ i = 13 := nI_eq (b := 13) h (by decide)
theorem add_c13 (i : Nat) : nI i + (13 : Int32) = nI (i + 13) := nI_add i 13
theorem c14_le {i : Nat} (h : i < 2147483648) : (14 : Int32) ≤ nI i ↔ 14 ≤ i := nI_leI (a := 14) (by decide) h
theorem le_c14 {i : Nat} (h : i < 2147483648) : nI i ≤ (14 : Int32) ↔ i ≤ 14 := nI_leI (b := 14) h (by decide)
theorem c14_lt {i : Nat} (h : i < 2147483648) : (14 : Int32) < nI i ↔ 14 < i := nI_ltI (a := 14) (by decide) h
theorem lt_c14 {i : Nat} (h : i < 2147483648) : nI i < (14 : Int32) ↔ i < 14 := nI_ltI (b := 14) h (by decide)
theorem eq_c14 {i : Nat} (h : i < 2147483648) : nI i = (14 : Int32) ↔ i = 14 := nI_eq (b := 14) h (by decide)
theorem add_c14 (i : Nat) : nI i + (14 : Int32) = nI (i + 14) := nI_add i 14
theorem c15_le {i : Nat} (h : i < 2147483648) : (15 : Int32) ≤ nI i ↔ 15 ≤ i := nI_leI (a := 15) (by decide) h
theorem le_c15 {i : Nat} (h : i < 2147483648) : nI i ≤ (15 : Int32) ↔ i ≤ 15 := nI_leI (b := 15) h (by decide)
theorem c15_lt {i : Nat} (h : i < 2147483648) : (15 : Int32) < nI i ↔ 15 < i := nI_ltI (a := 15) (by decide) h
theorem lt_c15 {i : Nat} (h : i < 2147483648) : nI i < (15 : Int32) ↔ i < 15 := nI_ltI (b := 15) h (by decide)
theorem eq_c15 {i : Nat} (h : i < 2147483648) : nI i = (15 : Int32) ↔ i = 15 := nI_eq (b := 15) h (by decide)
theorem add_c15 (i : Nat) : nI i + (15 : Int32) = nI (i + 15) := nI_add i 15
theorem c16_le {i : Nat} (h : i < 2147483648) : (16 : Int32) ≤ nI i ↔ 16 ≤ i := nI_leI (a := 16) (by decide) h
theorem le_c16 {i : Nat} (h : i < 2147483648) : nI i ≤ (16 : Int32) ↔ i ≤ 16 := nI_leI (b := 16) h (by decide)
theorem c16_lt {i : Nat} (h : i < 2147483648) : (16 : Int32) < nI i ↔ 16 < i := nI_ltI (a := 16) (by decide) h
theorem lt_c16 {i : Nat} (h : i < 2147483648) : nI i < (16 : Int32) ↔ i < 16 := nI_ltI (b := 16) h (by decide)
theorem eq_c16 {i : Nat} (h : i < 2147483648) : nI i = (16 : Int32) ↔ i = 16 := nI_eq (b := 16) h (by decide)
theorem add_c16 (i : Nat) : nI i + (16 : Int32) = nI (i + 16) := nI_add i 16
theorem c17_le {i : Nat} (h : i < 2147483648) : (17 : Int32) ≤ nI i ↔ 17 ≤ i := nI_leI (a := 17) (by decide) h
theorem le_c17 {i : Nat} (h : i < 2147483648) : nI i ≤ (17 : Int32) ↔ i ≤ 17 := nI_leI (b := 17) h (by decide)
theorem c17_lt {i : Nat} (h : i < 2147483648) : (17 : Int32) < nI i ↔ 17 < i := nI_ltI (a := 17) (by decide) h
theorem lt_c17 {i : Nat} (h : i < 2147483648) : nI i < (17 : Int32) ↔ i < 17 := nI_ltI (b := 17) h (by decide)
theorem eq_c17 {i : Nat} (h : i < 2147483648) : nI i = (17 : Int32) ↔ i = 17 := nI_eq (b := 17) h (by decide)
theorem add_c17 (i : Nat) : nI i + (17 : Int32) = nI (i + 17) := nI_add i 17
theorem c18_le {i : Nat} (h : i < 2147483648) : (18 : Int32) ≤ nI i ↔ 18 ≤ i := nI_leI (a := 18) (by decide) h
theorem le_c18 {i : Nat} (h : i < 2147483648) : nI i ≤ (18 : Int32) ↔ i ≤ 18 := nI_leI (b := 18) h (by decide)
theorem c18_lt {i : Nat} (h : i < 2147483648) : (18 : Int32) < nI i ↔ 18 < i := nI_ltI (a := 18) (by decide) h
theorem lt_c18 {i : Nat} (h : i < 2147483648) : nI i < (18 : Int32) ↔ i < 18 := nI_ltI (b := 18) h (by decide)
theorem eq_c18 {i : Nat} (h : i < 2147483648) : nI i = (18 : Int32) ↔ i = 18 := nI_eq (b := 18) h (by decide)
theorem add_c18 (i : Nat) : nI i + (18 : Int32) = nI (i + 18) := nI_add i 18
theorem c19_le {i : Nat} (h : i < 2147483648) : (19 : Int32) ≤ nI i ↔ 19 ≤ i := nI_leI (a := 19) (by decide) h
theorem le_c19 {i : Nat} (h : i < 2147483648) : nI i ≤ (19 : Int32) ↔ i ≤ 19 := nI_leI (b := 19) h (by decide)
theorem c19_lt {i : Nat} (h : i < 2147483648) : (19 : Int32) < nI i ↔ 19 < i := nI_ltI (a := 19) (by decide) h
theorem lt_c19 {i : Nat} (h : i < 2147483648) : nI i < (19 : Int32) ↔ i < 19 := nI_ltI (b := 19) h (by decide)
theorem eq_c19 {i : Nat} (h : i < 2147483648) : nI i = (19 : Int32) ↔ i = 19 := nI_eq (b := 19) h (by decide)
theorem add_c19 (i : Nat) : nI i + (19 : Int32) = nI (i + 19) := nI_add i 19
theorem c20_le {i : Nat} (h : i < 2147483648) : (20 : Int32) ≤ nI i ↔ 20 ≤ i := nI_leI (a := 20) (by decide) h
theorem le_c20 {i : Nat} (h : i < 2147483648) : nI i ≤ (20 : Int32) ↔ i ≤ 20 := nI_leI (b := 20) h (by decide)
theorem c20_lt {i : Nat} (h : i < 2147483648) : (20 : Int32) < nI i ↔ 20 < i := nI_ltI (a := 20) (by decide) h
theorem lt_c20 {i : Nat} (h : i < 2147483648) : nI i < (20 : Int32) ↔ i < 20 := nI_ltI (b := 20) h (by decide)
theorem eq_c20 {i : Nat} (h : i < 2147483648) : nI i = (20 : Int32) ↔ i = 20 := nI_eq (b := 20) h (by decide)
theorem add_c20 (i : Nat) : nI i + (20 : Int32) = nI (i + 20) := nI_add i 20
theorem c22_le {i : Nat} (h : i < 2147483648) : (22 : Int32) ≤ nI i ↔ 22 ≤ i := nI_leI (a := 22) (by decide) h
theorem le_c22 {i : Nat} (h : i < 2147483648) : nI i ≤ (22 : Int32) ↔ i ≤ 22 := nI_leI (b := 22) h (by decide)
theorem c22_lt {i : Nat} (h : i < 2147483648) : (22 : Int32) < nI i ↔ 22 < i := nI_ltI (a := 22) (by decide) h
theorem lt_c22 {i : Nat} (h : i < 2147483648) : nI i < (22 : Int32) ↔ i < 22 := nI_ltI (b := 22) h (by decide)
theorem eq_c22 {i : Nat} (h : i < 2147483648) : nI i = (22 : Int32) ↔ i = 22 := nI_eq (b := 22) h (by decide)
theorem add_c22 (i : Nat) : nI i + (22 : Int32) = nI (i + 22) := nI_add i 22
theorem c31_le {i : Nat} (h : i < 2147483648) : (31 : Int32) ≤ nI i ↔ 31 ≤ i := nI_leI (a := 31) (by decide) h
theorem le_c31 {i : Nat} (h : i < 2147483648) : nI i ≤ (31 : Int32) ↔ i ≤ 31 := nI_leI (b := 31) h (by decide)
theorem c31_lt {i : Nat} (h : i < 2147483648) : (31 : Int32) < nI i ↔ 31 < i := nI_ltI (a := 31) (by decide) h
theorem lt_c31 {i : Nat} (h : i < 2147483648) : nI i < (31 : Int32) ↔ i < 31 := nI_ltI (b := 31) h (by decide)
theorem eq_c31 {i : Nat} (h : i < 2147483648) : nI i = (31 : Int32) ↔ i = 31 := nI_eq (b := 31) h (by decide)
theorem add_c31 (i : Nat) : nI i + (31 : Int32) = nI (i + 31) := nI_add i 31
theorem c32_le {i : Nat} (h : i < 2147483648) : (32 : Int32) ≤ nI i ↔ 32 ≤ i := nI_leI (a := 32) (by decide) h
theorem le_c32 {i : Nat} (h : i < 2147483648) : nI i ≤ (32 : Int32) ↔ i ≤ 32 := nI_leI (b := 32) h (by decide)
theorem c32_lt {i : Nat} (h : i < 2147483648) : (32 : Int32) < nI i ↔ 32 < i := nI_ltI (a := 32) (by decide) h
theorem lt_c32 {i : Nat} (h : i < 2147483648) : nI i < (32 : Int32) ↔ i < 32 := nI_ltI (b := 32) h (by decide)
theorem eq_c32 {i : Nat} (h : i < 2147483648) : nI i = (32 : Int32) ↔ i = 32 := nI_eq (b := 32) h (by decide)
theorem add_c32 (i : Nat) : nI i + (32 : Int32) = nI (i + 32) := nI_add i 32
theorem c34_le {i : Nat} (h : i < 2147483648) : (34 : Int32) ≤ nI i ↔ 34 ≤ i := nI_leI (a := 34) (by decide) h
theorem le_c34 {i : Nat} (h : i < 2147483648) : nI i ≤ (34 : Int32) ↔ i ≤ 34 := nI_leI (b := 34) h (by decide)
theorem c34_lt {i : Nat} (h : i < 2147483648) : (34 : Int32) < nI i ↔ 34 < i := nI_ltI (a := 34) (by decide) h
theorem lt_c34 {i : Nat} (h : i < 2147483648) : nI i < (34 : Int32) ↔ i < 34 := nI_ltI (b := 34) h (by decide)
theorem eq_c34 {i : Nat} (h : i < 2147483648) : nI i = (34 : Int32) ↔ i = 34 := nI_eq (b := 34) h (by decide)
theorem add_c34 (i : Nat) : nI i + (34 : Int32) = nI (i + 34) := nI_add i 34
theorem c35_le {i : Nat} (h : i < 2147483648) : (35 : Int32) ≤ nI i ↔ 35 ≤ i := nI_leI (a := 35) (by decide) h
theorem le_c35 {i : Nat} (h : i < 2147483648) : nI i ≤ (35 : Int32) ↔ i ≤ 35 := nI_leI (b := 35) h (by decide)
theorem c35_lt {i : Nat} (h : i < 2147483648) : (35 : Int32) < nI i ↔ 35 < i := nI_ltI (a := 35) (by decide) h
theorem lt_c35 {i : Nat} (h : i < 2147483648) : nI i < (35 : Int32) ↔ i < 35 := nI_ltI (b := 35) h (by decide)
theorem eq_c35 {i : Nat} (h : i < 2147483648) : nI i = (35 : Int32) ↔ i = 35 := nI_eq (b := 35) h (by decide)
theorem add_c35 (i : Nat) : nI i + (35 : Int32) = nI (i + 35) := nI_add i 35
theorem c38_le {i : Nat} (h : i < 2147483648) : (38 : Int32) ≤ nI i ↔ 38 ≤ i := nI_leI (a := 38) (by decide) h
theorem le_c38 {i : Nat} (h : i < 2147483648) : nI i ≤ (38 : Int32) ↔ i ≤ 38 := nI_leI (b := 38) h (by decide)
theorem c38_lt {i : Nat} (h : i < 2147483648) : (38 : Int32) < nI i ↔ 38 < i := nI_ltI (a := 38) (by decide) h
theorem lt_c38 {i : Nat} (h : i < 2147483648) : nI i < (38 : Int32) ↔ i < 38 := nI_ltI (b := 38) h (by decide)
theorem eq_c38 {i : Nat} (h : i < 2147483648) : nI i = (38 : Int32) ↔ i = 38 := nI_eq (b := 38) h (by decide)
theorem add_c38 (i : Nat) : nI i + (38 : Int32) = nI (i + 38) := nI_add i 38
theorem c39_le {i : Nat} (h : i < 2147483648) : (39 : Int32) ≤ nI i ↔ 39 ≤ i := nI_leI (a := 39) (by decide) h
theorem le_c39 {i : Nat} (h : i < 2147483648) : nI i ≤ (39 : Int32) ↔ i ≤ 39 := nI_leI (b := 39) h (by decide)
theorem c39_lt {i : Nat} (h : i < 2147483648) : (39 : Int32) < nI i ↔ 39 < i := nI_ltI (a := 39) (by decide) h
theorem lt_c39 {i : Nat} (h : i < 2147483648) : nI i < (39 : Int32) ↔ i < 39 := nI_ltI (b := 39) h (by decide)
theorem eq_c39 {i : Nat} (h : i < 2147483648) : nI i = (39 : Int32) ↔ i = 39 := nI_eq (b := 39) h (by decide)
theorem add_c39 (i : Nat) : nI i + (39 : Int32) = nI (i + 39) := nI_add i 39
theorem c45_le {i : Nat} (h : i < 2147483648) : (45 : Int32) ≤ nI i ↔ 45 ≤ i := nI_leI (a := 45) (by decide) h
theorem le_c45 {i : Nat} (h : i < 2147483648) : nI i ≤ (45 : Int32) ↔ i ≤ 45 := nI_leI (b := 45) h (by decide)
theorem c45_lt {i : Nat} (h : i < 2147483648) : (45 : Int32) < nI i ↔ 45 < i := nI_ltI (a := 45) (by decide) h
theorem lt_c45 {i : Nat} (h : i < 2147483648) : nI i < (45 : Int32) ↔ i < 45 := nI_ltI (b := 45) h (by decide)
theorem eq_c45 {i : Nat} (h : i < 2147483648) : nI i = (45 : Int32) ↔ i = 45 := nI_eq (b := 45) h (by decide)
theorem add_c45 (i : Nat) : nI i + (45 : Int32) = nI (i + 45) := nI_add i 45
theorem c47_le {i : Nat} (h : i < 2147483648) : (47 : Int32) ≤ nI i ↔ 47 ≤ i := nI_leI (a := 47) (by decide) h
theorem le_c47 {i : Nat} (h : i < 2147483648) : nI i ≤ (47 : Int32) ↔ i ≤ 47 := nI_leI (b := 47) h (by decide)
theorem c47_lt {i : Nat} (h : i < 2147483648) : (47 : Int32) < nI i ↔ 47 < i := nI_ltI (a := 47) (by decide) h
theorem lt_c47 {i : Nat} (h : i < 2147483648) : nI i < (47 : Int32) ↔ i < 47 := nI_ltI (b := 47) h (by decide)
theorem eq_c47 {i : Nat} (h : i < 2147483648) : nI i = (47 : Int32) ↔ i = 47 := nI_eq (b := 47) h (by decide)
theorem add_c47 (i : Nat) : nI i + (47 : Int32) = nI (i + 47) := nI_add i 47
theorem c48_le {i : Nat} (h : i < 2147483648) : (48 : Int32) ≤ nI i ↔ 48 ≤ i := nI_leI (a := 48) (by decide) h
theorem le_c48 {i : Nat} (h : i < 2147483648) : nI i ≤ (48 : Int32) ↔ i ≤ 48 := nI_leI (b := 48) h (by decide)
theorem c48_lt {i : Nat} (h : i < 2147483648) : (48 : Int32) < nI i ↔ 48 < i := nI_ltI (a := 48) (by decide) h
theorem lt_c48 {i : Nat} (h : i < 2147483648) : nI i < (48 : Int32) ↔ i < 48 := nI_ltI (b := 48) h (by decide)
theorem eq_c48 {i : Nat} (h : i < 2147483648) : nI i = (48 : Int32) ↔ i = 48 := nI_eq (b := 48) h (by decide)
theorem add_c48 (i : Nat) : nI i + (48 : Int32) = nI (i + 48) := nI_add i 48
theorem c57_le {i : Nat} (h : i < 2147483648) : (57 : Int32) ≤ nI i ↔ 57 ≤ i := nI_leI (a := 57) (by decide) h
theorem le_c57 {i : Nat} (h : i < 2147483648) : nI i ≤ (57 : Int32) ↔ i ≤ 57 := nI_leI (b := 57) h (by decide)
theorem c57_lt {i : Nat} (h : i < 2147483648) : (57 : Int32) < nI i ↔ 57 < i := nI_ltI (a := 57) (by decide) h
theorem lt_c57 {i : Nat} (h : i < 2147483648) : nI i < (57 : Int32) ↔ i < 57 := nI_ltI (b := 57) h (by decide)
theorem eq_c57 {i : Nat} (h : i < 2147483648) : nI i = (57 : Int32) ↔ i = 57 := nI_eq (b := 57) h (by decide)
theorem add_c57 (i : Nat) : nI i + (57 : Int32) = nI (i + 57) := nI_add i 57
theorem c59_le {i : Nat} (h : i < 2147483648) : (59 : Int32) ≤ nI i ↔ 59 ≤ i := nI_leI (a := 59) (by decide) h
theorem le_c59 {i : Nat} (h : i < 2147483648) : nI i ≤ (59 : Int32) ↔ i ≤ 59 := nI_leI (b := 59) h (by decide)
theorem c59_lt {i : Nat} (h : i < 2147483648) : (59 : Int32) < nI i ↔ 59 < i := nI_ltI (a := 59) (by decide) h
theorem lt_c59 {i : Nat} (h : i < 2147483648) : nI i < (59 : Int32) ↔ i < 59 := nI_ltI (b := 59) h (by decide)
theorem eq_c59 {i : Nat} (h : i < 2147483648) : nI i = (59 : Int32) ↔ i = 59 := nI_eq (b := 59) h (by decide)
theorem add_c59 (i : Nat) : nI i + (59 : Int32) = nI (i + 59) := nI_add i 59
theorem c60_le {i : Nat} (h : i < 2147483648) : (60 : Int32) ≤ nI i ↔ 60 ≤ i := nI_leI (a := 60) (by decide) h
theorem le_c60 {i : Nat} (h : i < 2147483648) : nI i ≤ (60 : Int32) ↔ i ≤ 60 := nI_leI (b := 60) h (by decide)
theorem c60_lt {i : Nat} (h : i < 2147483648) : (60 : Int32) < nI i ↔ 60 < i := nI_ltI (a := 60) (by decide) h
theorem lt_c60 {i : Nat} (h : i < 2147483648) : nI i < (60 : Int32) ↔ i < 60 := nI_ltI (b := 60) h (by decide)
theorem eq_c60 {i : Nat} (h : i < 2147483648) : nI i = (60 : Int32) ↔ i = 60 := nI_eq (b := 60) h (by decide)
theorem add_c60 (i : Nat) : nI i + (60 : Int32) = nI (i + 60) := nI_add i 60
theorem c61_le {i : Nat} (h : i < 2147483648) : (61 : Int32) ≤ nI i ↔ 61 ≤ i := nI_leI (a := 61) (by decide) h
theorem le_c61 {i : Nat} (h : i < 2147483648) : nI i ≤ (61 : Int32) ↔ i ≤ 61 := nI_leI (b := 61) h (by decide)
theorem c61_lt {i : Nat} (h : i < 2147483648) : (61 : Int32) < nI i ↔ 61 < i := nI_ltI (a := 61) (by decide) h
theorem lt_c61 {i : Nat} (h : i < 2147483648) : nI i < (61 : Int32) ↔ i < 61 := nI_ltI (b := 61) h (by decide)
theorem eq_c61 {i : Nat} (h : i < 2147483648) : nI i = (61 : Int32) ↔ i = 61 := nI_eq (b := 61) h (by decide)
theorem add_c61 (i : Nat) : nI i + (61 : Int32) = nI (i + 61) := nI_add i 61
theorem c62_le {i : Nat} (h : i < 2147483648) : (62 : Int32) ≤ nI i ↔ 62 ≤ i := nI_leI (a := 62) (by decide) h
theorem le_c62 {i : Nat} (h : i < 2147483648) : nI i ≤ (62 : Int32) ↔ i ≤ 62 := nI_leI (b := 62) h (by decide)
theorem c62_lt {i : Nat} (h : i < 2147483648) : (62 : Int32) < nI i ↔ 62 < i := nI_ltI (a := 62) (by decide) h
theorem lt_c62 {i : Nat} (h : i < 2147483648) : nI i < (62 : Int32) ↔ i < 62 := nI_ltI (b := 62) h (by decide)
theorem eq_c62 {i : Nat} (h : i < 2147483648) : nI i = (62 : Int32) ↔ i = 62 := nI_eq (b := 62) h (by decide)
theorem add_c62 (i : Nat) : nI i + (62 : Int32) = nI (i + 62) := nI_add i 62
theorem c65_le {i : Nat} (h : i < 2147483648) : (65 : Int32) ≤ nI i ↔ 65 ≤ i := nI_leI (a := 65) (by decide) h
theorem le_c65 {i : Nat} (h : i < 2147483648) : nI i ≤ (65 : Int32) ↔ i ≤ 65 := nI_leI (b := 65) h (by decide)
theorem c65_lt {i : Nat} (h : i < 2147483648) : (65 : Int32) < nI i ↔ 65 < i := nI_ltI (a := 65) (by decide) h
theorem lt_c65 {i : Nat} (h : i < 2147483648) : nI i < (65 : Int32) ↔ i < 65 := nI_ltI (b := 65) h (by decide)
theorem eq_c65 {i : Nat} (h : i < 2147483648) : nI i = (65 : Int32) ↔ i = 65 := nI_eq (b := 65) h (by decide)
theorem add_c65 (i : Nat) : nI i + (65 : Int32) = nI (i + 65) := nI_add i 65
theorem c97_le {i : Nat} (h : i < 2147483648) : (97 : Int32) ≤ nI i ↔ 97 ≤ i := nI_leI (a := 97) (by decide) h
theorem le_c97 {i : Nat} (h : i < 2147483648) : nI i ≤ (97 : Int32) ↔ i ≤ 97 := nI_leI (b := 97) h (by decide)
theorem c97_lt {i : Nat} (h : i < 2147483648) : (97 : Int32) < nI i ↔ 97 < i := nI_ltI (a := 97) (by decide) h
theorem lt_c97 {i : Nat} (h : i < 2147483648) : nI i < (97 : Int32) ↔ i < 97 := nI_ltI (b := 97) h (by decide)
theorem eq_c97 {i : Nat} (h : i < 2147483648) : nI i = (97 : Int32) ↔ i = 97 := nI_eq (b := 97) h (by decide)
theorem add_c97 (i : Nat) : nI i + (97 : Int32) = nI (i + 97) := nI_add i 97
theorem c99_le {i : Nat} (h : i < 2147483648) : (99 : Int32) ≤ nI i ↔ 99 ≤ i := nI_leI (a := 99) (by decide) h
theorem le_c99 {i : Nat} (h : i < 2147483648) : nI i ≤ (99 : Int32) ↔ i ≤ 99 := nI_leI (b := 99) h (by decide)
theorem c99_lt {i : Nat} (h : i < 2147483648) : (99 : Int32) < nI i ↔ 99 < i := nI_ltI (a := 99) (by decide) h
theorem lt_c99 {i : Nat} (h : i < 2147483648) : nI i < (99 : Int32) ↔ i < 99 := nI_ltI (b := 99) h (by decide)
theorem eq_c99 {i : Nat} (h : i < 2147483648) : nI i = (99 : Int32) ↔ i = 99 := nI_eq (b := 99) h (by decide)
theorem add_c99 (i : Nat) : nI i + (99 : Int32) = nI (i + 99) := nI_add i 99
theorem c100_le {i : Nat} (h : i < 2147483648) : (100 : Int32) ≤ nI i ↔ 100 ≤ i := nI_leI (a := 100) (by decide) h
theorem le_c100 {i : Nat} (h : i < 2147483648) : nI i ≤ (100 : Int32) ↔ i ≤ 100 := nI_leI (b := 100) h (by decide)
theorem c100_lt {i : Nat} (h : i < 2147483648) : (100 : Int32) < nI i ↔ 100 < i := nI_ltI (a := 100) (by decide) h
theorem lt_c100 {i : Nat} (h : i < 2147483648) : nI i < (100 : Int32) ↔ i < 100 := nI_ltI (b := 100) h (by decide)
theorem eq_c100 {i : Nat} (h : i < 2147483648) : nI i = (100 : Int32) ↔ i = 100 := nI_eq (b := 100) h (by decide)
theorem add_c100 (i : Nat) : nI i + (100 : Int32) = nI (i + 100) := nI_add i 100
theorem c110_le {i : Nat} (h : i < 2147483648) : (110 : Int32) ≤ nI i ↔ 110 ≤ i := nI_leI (a := 110) (by decide) h
theorem le_c110 {i : Nat} (h : i < 2147483648) : nI i ≤ (110 : Int32) ↔ i ≤ 110 := nI_leI (b := 110) h (by decide)
theorem c110_lt {i : Nat} (h : i < 2147483648) : (110 : Int32) < nI i ↔ 110 < i := nI_ltI (a := 110) (by decide) h
theorem lt_c110 {i : Nat} (h : i < 2147483648) : nI i < (110 : Int32) ↔ i < 110 := nI_ltI (b := 110) h (by decide)
theorem eq_c110 {i : Nat} (h : i < 2147483648) : nI i = (110 : Int32) ↔ i = 110 := nI_eq (b := 110) h (by decide)
theorem add_c110 (i : Nat) : nI i + (110 : Int32) = nI (i + 110) := nI_add i 110
theorem c111_le {i : Nat} (h : i < 2147483648) : (111 : Int32) ≤ nI i ↔ 111 ≤ i := nI_leI (a := 111) (by decide) h
theorem le_c111 {i : Nat} (h : i < 2147483648) : nI i ≤ (111 : Int32) ↔ i ≤ 111 := nI_leI (b := 111) h (by decide)
theorem c111_lt {i : Nat} (h : i < 2147483648) : (111 : Int32) < nI i ↔ 111 < i := nI_ltI (a := 111) (by decide) h
theorem lt_c111 {i : Nat} (h : i < 2147483648) : nI i < (111 : Int32) ↔ i < 111 := nI_ltI (b := 111) h (by decide)
theorem eq_c111 {i : Nat} (h : i < 2147483648) : nI i = (111 : Int32) ↔ i = 111 := nI_eq (b := 111) h (by decide)
theorem add_c111 (i : Nat) : nI i + (111 : Int32) = nI (i + 111) := nI_add i 111
theorem c112_le {i : Nat} (h : i < 2147483648) : (112 : Int32) ≤ nI i ↔ 112 ≤ i := nI_leI (a := 112) (by decide) h
theorem le_c112 {i : Nat} (h : i < 2147483648) : nI i ≤ (112 : Int32) ↔ i ≤ 112 := nI_leI (b := 112) h (by decide)
theorem c112_lt {i : Nat} (h : i < 2147483648) : (112 : Int32) < nI i ↔ 112 < i := nI_ltI (a := 112) (by decide) h
theorem lt_c112 {i : Nat} (h : i < 2147483648) : nI i < (112 : Int32) ↔ i < 112 := nI_ltI (b := 112) h (by decide)
theorem eq_c112 {i : Nat} (h : i < 2147483648) : nI i = (112 : Int32) ↔ i = 112 := nI_eq (b := 112) h (by decide)
theorem add_c112 (i : Nat) : nI i + (112 : Int32) = nI (i + 112) := nI_add i 112
theorem c113_le {i : Nat} (h : i < 2147483648) : (113 : Int32) ≤ nI i ↔ 113 ≤ i := nI_leI (a := 113) (by decide) h
theorem le_c113 {i : Nat} (h : i < 2147483648) : nI i ≤ (113 : Int32) ↔ i ≤ 113 := nI_leI (b := 113) h (by decide)
theorem c113_lt {i : Nat} (h : i < 2147483648) : (113 : Int32) < nI i ↔ 113 < i := nI_ltI (a := 113) (by decide) h
theorem lt_c113 {i : Nat} (h : i < 2147483648) : nI i < (113 : Int32) ↔ i < 113 := nI_ltI (b := 113) h (by decide)
theorem eq_c113 {i : Nat} (h : i < 2147483648) : nI i = (113 : Int32) ↔ i = 113 := nI_eq (b := 113) h (by decide)
theorem add_c113 (i : Nat) : nI i + (113 : Int32) = nI (i + 113) := nI_add i 113
theorem c114_le {i : Nat} (h : i < 2147483648) : (114 : Int32) ≤ nI i ↔ 114 ≤ i := nI_leI (a := 114) (by decide) h
theorem le_c114 {i : Nat} (h : i < 2147483648) : nI i ≤ (114 : Int32) ↔ i ≤ 114 := nI_leI (b := 114) h (by decide)
theorem c114_lt {i : Nat} (h : i < 2147483648) : (114 : Int32) < nI i ↔ 114 < i := nI_ltI (a := 114) (by decide) h
theorem lt_c114 {i : Nat} (h : i < 2147483648) : nI i < (114 : Int32) ↔ i < 114 := nI_ltI (b := 114) h (by decide)
theorem eq_c114 {i : Nat} (h : i < 2147483648) : nI i = (114 : Int32) ↔ i = 114 := nI_eq (b := 114) h (by decide)
theorem add_c114 (i : Nat) : nI i + (114 : Int32) = nI (i + 114) := nI_add i 114
theorem c115_le {i : Nat} (h : i < 2147483648) : (115 : Int32) ≤ nI i ↔ 115 ≤ i := nI_leI (a := 115) (by decide) h
theorem le_c115 {i : Nat} (h : i < 2147483648) : nI i ≤ (115 : Int32) ↔ i ≤ 115 := nI_leI (b := 115) h (by decide)
theorem c115_lt {i : Nat} (h : i < 2147483648) : (115 : Int32) < nI i ↔ 115 < i := nI_ltI (a := 115) (by decide) h
theorem lt_c115 {i : Nat} (h : i < 2147483648) : nI i < (115 : Int32) ↔ i < 115 := nI_ltI (b := 115) h (by decide)
theorem eq_c115 {i : Nat} (h : i < 2147483648) : nI i = (115 : Int32) ↔ i = 115 := nI_eq (b := 115) h (by decide)
theorem add_c115 (i : Nat) : nI i + (115 : Int32) = nI (i + 115) := nI_add i 115
theorem c116_le {i : Nat} (h : i < 2147483648) : (116 : Int32) ≤ nI i ↔ 116 ≤ i := nI_leI (a := 116) (by decide) h
theorem le_c116 {i : Nat} (h : i < 2147483648) : nI i ≤ (116 : Int32) ↔ i ≤ 116 := nI_leI (b := 116) h (by decide)
theorem c116_lt {i : Nat} (h : i < 2147483648) : (116 : Int32) < nI i ↔ 116 < i := nI_ltI (a := 116) (by decide) h
theorem lt_c116 {i : Nat} (h : i < 2147483648) : nI i < (116 : Int32) ↔ i < 116 := nI_ltI (b := 116) h (by decide)
theorem eq_c116 {i : Nat} (h : i < 2147483648) : nI i = (116 : Int32) ↔ i = 116 := nI_eq (b := 116) h (by decide)
theorem add_c116 (i : Nat) : nI i + (116 : Int32) = nI (i + 116) := nI_add i 116
theorem c117_le {i : Nat} (h : i < 2147483648) : (117 : Int32) ≤ nI i ↔ 117 ≤ i := nI_leI (a := 117) (by decide) h
theorem le_c117 {i : Nat} (h : i < 2147483648) : nI i ≤ (117 : Int32) ↔ i ≤ 117 := nI_leI (b := 117) h (by decide)
theorem c117_lt {i : Nat} (h : i < 2147483648) : (117 : Int32) < nI i ↔ 117 < i := nI_ltI (a := 117) (by decide) h
theorem lt_c117 {i : Nat} (h : i < 2147483648) : nI i < (117 : Int32) ↔ i < 117 := nI_ltI (b := 117) h (by decide)
theorem eq_c117 {i : Nat} (h : i < 2147483648) : nI i = (117 : Int32) ↔ i = 117 := nI_eq (b := 117) h (by decide)
theorem add_c117 (i : Nat) : nI i + (117 : Int32) = nI (i + 117) := nI_add i 117
theorem c122_le {i : Nat} (h : i < 2147483648) : (122 : Int32) ≤ nI i ↔ 122 ≤ i := nI_leI (a := 122) (by decide) h
theorem le_c122 {i : Nat} (h : i < 2147483648) : nI i ≤ (122 : Int32) ↔ i ≤ 122 := nI_leI (b := 122) h (by decide)
theorem c122_lt {i : Nat} (h : i < 2147483648) : (122 : Int32) < nI i ↔ 122 < i := nI_ltI (a := 122) (by decide) h
theorem lt_c122 {i : Nat} (h : i < 2147483648) : nI i < (122 : Int32) ↔ i < 122 := nI_ltI (b := 122) h (by decide)
theorem eq_c122 {i : Nat} (h : i < 2147483648) : nI i = (122 : Int32) ↔ i = 122 := nI_eq (b := 122) h (by decide)
theorem add_c122 (i : Nat) : nI i + (122 : Int32) = nI (i + 122) := nI_add i 122
theorem c126_le {i : Nat} (h : i < 2147483648) : (126 : Int32) ≤ nI i ↔ 126 ≤ i := nI_leI (a := 126) (by decide) h
theorem le_c126 {i : Nat} (h : i < 2147483648) : nI i ≤ (126 : Int32) ↔ i ≤ 126 := nI_leI (b := 126) h (by decide)
theorem c126_lt {i : Nat} (h : i < 2147483648) : (126 : Int32) < nI i ↔ 126 < i := nI_ltI (a := 126) (by decide) h
theorem lt_c126 {i : Nat} (h : i < 2147483648) : nI i < (126 : Int32) ↔ i < 126 := nI_ltI (b := 126) h (by decide)
theorem eq_c126 {i : Nat} (h : i < 2147483648) : nI i = (126 : Int32) ↔ i = 126 := nI_eq (b := 126) h (by decide)
theorem add_c126 (i : Nat) : nI i + (126 : Int32) = nI (i + 126) := nI_add i 126
theorem c247_le {i : Nat} (h : i < 2147483648) : (247 : Int32) ≤ nI i ↔ 247 ≤ i := nI_leI (a := 247) (by decide) h
theorem le_c247 {i : Nat} (h : i < 2147483648) : nI i ≤ (247 : Int32) ↔ i ≤ 247 := nI_leI (b := 247) h (by decide)
theorem c247_lt {i : Nat} (h : i < 2147483648) : (247 : Int32) < nI i ↔ 247 < i := nI_ltI (a := 247) (by decide) h
theorem lt_c247 {i : Nat} (h : i < 2147483648) : nI i < (247 : Int32) ↔ i < 247 := nI_ltI (b := 247) h (by decide)
theorem eq_c247 {i : Nat} (h : i < 2147483648) : nI i = (247 : Int32) ↔ i = 247 := nI_eq (b := 247) h (by decide)
theorem add_c247 (i : Nat) : nI i + (247 : Int32) = nI (i + 247) := nI_add i 247
theorem c320_le {i : Nat} (h : i < 2147483648) : (320 : Int32) ≤ nI i ↔ 320 ≤ i := nI_leI (a := 320) (by decide) h
theorem le_c320 {i : Nat} (h : i < 2147483648) : nI i ≤ (320 : Int32) ↔ i ≤ 320 := nI_leI (b := 320) h (by decide)
theorem c320_lt {i : Nat} (h : i < 2147483648) : (320 : Int32) < nI i ↔ 320 < i := nI_ltI (a := 320) (by decide) h
theorem lt_c320 {i : Nat} (h : i < 2147483648) : nI i < (320 : Int32) ↔ i < 320 := nI_ltI (b := 320) h (by decide)
theorem eq_c320 {i : Nat} (h : i < 2147483648) : nI i = (320 : Int32) ↔ i = 320 := nI_eq (b := 320) h (by decide)
theorem add_c320 (i : Nat) : nI i + (320 : Int32) = nI (i + 320) := nI_add i 320
theorem c533_le {i : Nat} (h : i < 2147483648) : (533 : Int32) ≤ nI i ↔ 533 ≤ i := nI_leI (a := 533) (by decide) h
theorem le_c533 {i : Nat} (h : i < 2147483648) : nI i ≤ (533 : Int32) ↔ i ≤ 533 := nI_leI (b := 533) h (by decide)
theorem c533_lt {i : Nat} (h : i < 2147483648) : (533 : Int32) < nI i ↔ 533 < i := nI_ltI (a := 533) (by decide) h
theorem lt_c533 {i : Nat} (h : i < 2147483648) : nI i < (533 : Int32) ↔ i < 533 := nI_ltI (b := 533) h (by decide)
theorem eq_c533 {i : Nat} (h : i < 2147483648) : nI i = (533 : Int32) ↔ i = 533 := nI_eq (b := 533) h (by decide)
theorem add_c533 (i : Nat) : nI i + (533 : Int32) = nI (i + 533) := nI_add i 533
theorem c1600_le {i : Nat} (h : i < 2147483648) : (1600 : Int32) ≤ nI i ↔ 1600 ≤ i := nI_leI (a := 1600) (by decide) h
theorem le_c1600 {i : Nat} (h : i < 2147483648) : nI i ≤ (1600 : Int32) ↔ i ≤ 1600 := nI_leI (b := 1600) h (by decide)
theorem c1600_lt {i : Nat} (h : i < 2147483648) : (1600 : Int32) < nI i ↔ 1600 < i := nI_ltI (a := 1600) (by decide) h
theorem lt_c1600 {i : Nat} (h : i < 2147483648) : nI i < (1600 : Int32) ↔ i < 1600 := nI_ltI (b := 1600) h (by decide)
theorem eq_c1600 {i : Nat} (h : i < 2147483648) : nI i = (1600 : Int32) ↔ i = 1600 := nI_eq (b := 1600) h (by decide)
theorem add_c1600 (i : Nat) : nI i + (1600 : Int32) = nI (i + 1600) := nI_add i 1600
