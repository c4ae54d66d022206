/-! THE CLAIM OUT OF ONE WALK OF THE LAW'S BODY. Your part is whole_start (and what it stands on); all else here is the same for every law, but numbers. -/
def R_law : String := "GraphPagesLaw"
def lw_P (b : Addr) (xs : List Int32) (args : Array Value) (s : State) : Prop := args = #[.ref b] ∧ s.IntsAt b xs ∧ xs.length ≤ 2048 ∧ (Jvm.Cond.and given_1 narrow_1).before args s = true
def lw_Q (_ : Array Value) (s : State) (o : Outcome) (t : State) : Prop := o = .returned (some (.int 1)) ∧ Framed s o t [] 600000 7302250
def lw_Z (below : List Frame) (a : Array Value) (s : State) : State → Prop := fun t => ∃ o, t.status = .running ∧ Ended t below o ∧ lw_Q a s o t
/-- the law's own end, with 1 on the stack, nothing written that was there before, its room as the claim has it -/
theorem lw_ret {p : Program} {l : Launch} {e : Env} {s : State} {m : MethodId} {below : List Frame} {meth : Method} {c : Code} {b : Nat} (hx : p.tables.exec = Jvm.exec) (hb : c.code = code) (hr : meth.sig.returnType = ret) (hlocks : meth.locks = false) {pc : Nat} {H : Heap} {ls : Array Slot} (hdg : decode code pc = .ok (.ireturn, 1)) : W p l e room_1 s m #[Value.ref b] below meth c H [] 600000 7302250 (lw_Z below #[Value.ref b] s) (F0 m pc ls [.int 1]) := by
  intro T hT X
  obtain ⟨fs, hret, hrun, hended, hW, hframe⟩ := X.leave (v := some (.int 1)) (hlocks := hlocks) (fun h => by rw [hr] at h; cases h)
  have hmeth' : T.vm.method? m = some meth := X.method'
  refine ⟨T.setFrames fs, ?_, .returned (some (.int 1)), hrun, hended, rfl, ⟨_, rfl⟩, hW, hframe⟩
  jvm_step X.here [X.here.top, hx, hb, hdg, hmeth', hr, ret, narrow_b1]
  (try refine ⟨rfl, ?_⟩); (try refine ⟨rfl, ?_⟩)
  first | (intro acts; rw [hret _ acts rfl rfl rfl]) | rw [hret _ _ rfl rfl rfl]
  exact Steps.refl _
/-- what holds at the law's entry: the machine, the code, the tables' words (any of lw_tbl by 'hts w (by decide +kernel)'), the script of L ints xs at the cell b, what the Statement gives of the start (any of its parts by flat_of_before) -/
def lw_At (p : Program) (s : State) (m : MethodId) (meth : Method) (c : Code) (b L : Nat) (xs : Nat → Int32) : Prop :=
  p.tables.exec = Jvm.exec ∧ c.code = code ∧ meth.sig.returnType = ret ∧ c.maxLocals = 4 ∧ s.vm.findClass R_law = some m.cls ∧ (∀ w ∈ lw_tbl, w.before #[Value.ref b] s = true) ∧ va_X b L xs s s.heap ∧ b < s.heap.size ∧ meth.locks = false ∧ (Jvm.Cond.and given_1 narrow_1).before #[Value.ref b] s = true
set_option maxHeartbeats 40000000 in
set_option maxRecDepth 100000 in
theorem law_run {p : Program} {e : Env} {s : State} {m : MethodId} {below : List Frame} {meth : Method} {c : Code} (l : Launch) {sb L : Nat} {xs : Nat → Int32} {t0 : Nat} (hf : Rl_ xs L t0 1 0 z0 z0 = some 1) (C0 : lw_At p s m meth c sb L xs) : W p l e room_1 s m #[Value.ref sb] below meth c s.heap [] 0 0 (lw_Z below #[Value.ref sb] s) (entryFrame m ([Value.ref sb] : List Value).toArray 4) := by
  obtain ⟨hx, hb, hr, hml, hown, hts0, hX, hbl, hlocks, hgv⟩ := C0
  have hts : ∀ w ∈ gTb, w.before #[Value.ref sb] s = true := fun w h => hts0 w (List.mem_filter.mp h).1
  have hN : gN s := fun q hq => va_Nw.of rfl (hts0 _ (gNs_in q hq))
  obtain ⟨X, hKn⟩ := g_known hts vwCl gCl_in
  obtain ⟨cI, hI⟩ := g_arr (ty := .int) (hts (.arrayClass .int) tb_539) (fun _ h => by cases h)
  obtain ⟨cC, hC⟩ := g_arr (ty := .char) (hts (.arrayClass .char) tb_540) (fun _ h => by cases h)
  obtain ⟨cZ, hZ⟩ := g_arr (ty := .boolean) (hts (.arrayClass .boolean) tb_556) (fun _ h => by cases h)
  have hK : va_K X vwCl (gT cI cC cZ) s := ⟨hKn, fun k q hq => by
    match k, hq with
    | 0, hq => cases hq; exact hI
    | 1, hq => cases hq; exact hC
    | 2, hq => cases hq; exact hZ
    | k + 3, hq => cases hq⟩
  obtain ⟨A, hAd⟩ : ∃ A : Nat → Prop, A = fun q => s.heap.size ≤ q := ⟨_, rfl⟩
  have hA : ∀ q : Nat, s.heap.size ≤ q → A q := fun q h => by rw [hAd]; exact h
  have hbA : ¬ A sb := by rw [hAd]; exact Nat.not_le.mpr hbl
  have hP : va_P X vwCl [] s.heap := fun k q h => by simp at h
  have hD : va_D A [] := ⟨fun i j p q h => by simp at h, fun k q h => by simp at h⟩
  have hS : va_S A s.heap s.heap [] := va_S.rf
  obtain ⟨aK, aV, hE⟩ : ∃ aK aV : Nat → Nat, gE aK aV A s s.heap := gE_of hN hts0 hgv (fun a h => by rw [hAd]; exact Nat.not_le.mpr h)
  have hl := lv_entry ([Value.ref sb]) (n := 4) (Nat.le_of_ble_eq_true rfl)
  rw [lg_entry_eq]
  generalize (lg_sl ([Value.ref sb]) ++ List.replicate (4 - (lg_sl ([Value.ref sb])).length) Slot.unset).toArray = ls at hl ⊢
  have hl : lv_has ls 4 [(0, .ref sb)] := hl
  have hown : s.vm.findClass R_L = some m.cls := hown
  have u_0 : ∀ w ∈ u_ws R_O T_O 8, w ∈ gTb := tu_O
  have u_1 : ∀ w ∈ u_ws R_M T_M 35, w ∈ gTb := tu_M
  have k_0 := hts (.classLink R_L 7 R_O) tb_690
  have k_1 := hts (.instantiable R_O 8) tb_691
  have k_2 := hts (.initialized R_O) tb_39
  have k_3 := hts (.methodLink R_L 9 y_O_init) tb_692
  have k_4 := hts (.instanceMethod y_O_init) tb_693
  have k_5 := hts (.classLink R_L 10 R_M) tb_694
  have k_6 := hts (.instantiable R_M 35) tb_695
  have k_7 := hts (.initialized R_M) tb_392
  have k_8 := hts (.methodLink R_L 12 y_M_init) tb_696
  have k_9 := hts (.instanceMethod y_M_init) tb_697
  refine va_new (ci := 8) (fs := [.null, .null, .null, .null, .null, .null, .null, .null]) (C := R_O) (T := T_O) (N := 8) hx hb hts u_0 t_O t_O_ok hown k_0 k_1 k_2 hK hP hD hS hA rfl (by decide +kernel) (Nat.le_of_ble_eq_true rfl) (Nat.le_of_ble_eq_true rfl) d_L_law_0 (fun q_o H hP hD hS => ?_)
  have hP : va_P X vwCl [(q_o, .inr (8, [.null, .null, .null, .null, .null, .null, .null, .null]))] H := hP
  have hD : va_D A [(q_o, .inr (8, [.null, .null, .null, .null, .null, .null, .null, .null]))] := hD
  refine lv_dup hx hb d_L_law_3 rfl ?_
  refine g_gon (wr := []) (va_runI (As := []) ⟨hx, hb, hml, hown, hts⟩ (i_o (h := q_o)) (cwI 0 hts (gG (fun _ h => h) tc_O_init) rfl rfl rfl k_2 k_3 k_4 rfl (by decide +kernel) ⟨Nat.le_of_ble_eq_true rfl, Nat.le_of_ble_eq_true rfl⟩) (g_preS (av := [.ref q_o]) hE hK hP hD hS hA [0] rfl (by decide)) rfl rfl hl.1 rfl (lv_room (Nat.le_of_ble_eq_true rfl)) d_L_law_4 ⟨Nat.le_of_ble_eq_true rfl, Nat.le_of_ble_eq_true rfl⟩) hP hD hS hA [0] [] rfl rfl (by decide) (by decide) (fun u_o H locs hu hPn hDn hS => ?_)
  subst hu
  have hP := hPn
  have hD := hDn
  have hP : va_P X vwCl (cW cI cC cZ u_o z0) H := hP
  have hD : va_D A (cW cI cC cZ u_o z0) := hD
  refine lv_astore_n hx hb d_L_law_7 rfl hl (by decide) rfl (fun ls hl => ?_)
  refine va_new (ci := 9) (fs := [.int 0, .null, .null, .null, .null, .null, .null, .int 0, .null, .int 0, .null, .null, .null, .null, .null, .null, .null, .null, .int 0, .null, .null, .null, .int 0, .int 0, .int 0, .int 0, .null, .null, .null, .null, .int 0, .null, .int 0, .null, .null]) (C := R_M) (T := T_M) (N := 35) hx hb hts u_1 t_M t_M_ok hown k_5 k_6 k_7 hK hP hD hS hA rfl (by decide +kernel) (Nat.le_of_ble_eq_true rfl) (Nat.le_of_ble_eq_true rfl) d_L_law_8 (fun q_M H hP hD hS => ?_)
  have hP : va_P X vwCl (cW cI cC cZ u_o z0 ++ [(q_M, .inr (9, [.int 0, .null, .null, .null, .null, .null, .null, .int 0, .null, .int 0, .null, .null, .null, .null, .null, .null, .null, .null, .int 0, .null, .null, .null, .int 0, .int 0, .int 0, .int 0, .null, .null, .null, .null, .int 0, .null, .int 0, .null, .null]))]) H := hP
  have hD : va_D A (cW cI cC cZ u_o z0 ++ [(q_M, .inr (9, [.int 0, .null, .null, .null, .null, .null, .null, .int 0, .null, .int 0, .null, .null, .null, .null, .null, .null, .null, .null, .int 0, .null, .null, .null, .int 0, .int 0, .int 0, .int 0, .null, .null, .null, .null, .int 0, .null, .int 0, .null, .null]))]) := hD
  refine lv_dup hx hb d_L_law_11 rfl ?_
  refine g_gon (wr := (cW cI cC cZ u_o z0)) (va_runI (As := []) ⟨hx, hb, hml, hown, hts⟩ (i_M (h := q_M)) (cwI 0 hts (gG (fun _ h => h) tc_M_init) rfl rfl rfl k_7 k_8 k_9 rfl (by decide +kernel) ⟨Nat.le_of_ble_eq_true rfl, Nat.le_of_ble_eq_true rfl⟩) (g_preS (av := [.ref q_M]) hE hK hP hD hS hA [38] rfl (by decide)) rfl rfl hl.1 rfl (lv_room (Nat.le_of_ble_eq_true rfl)) d_L_law_12 ⟨Nat.le_of_ble_eq_true rfl, Nat.le_of_ble_eq_true rfl⟩) hP hD hS hA [38] [0, 1, 2, 3, 4, 5, 6, 7, 8, 9, 10, 11, 12, 13, 14, 15, 16, 17, 18, 19, 20, 21, 22, 23, 24, 25, 26, 27, 28, 29, 30, 31, 32, 33, 34, 35, 36, 37] rfl rfl (by decide) (by decide) (fun u_M H locs hu hPn hDn hS => ?_)
  subst hu
  have hP := hPn
  have hD := hDn
  have hP : va_P X vwCl (cW cI cC cZ u_o z0 ++ mW cI cC cZ u_M z0) H := hP
  have hD : va_D A (cW cI cC cZ u_o z0 ++ mW cI cC cZ u_M z0) := hD
  refine lv_astore_n hx hb d_L_law_15 rfl hl (by decide) rfl (fun ls hl => ?_)
  refine lv_iconst (v := 0) hx hb d_L_law_16 (by decide) ?_
  refine lv_istore_n hx hb d_L_law_17 rfl hl (by decide) rfl (fun ls hl => ?_)
  have key : ∀ t : Nat, (∀ (x3 : Int32) (σ0 τ0 : gS) (H : Heap) (locs : List Loc) (ls : Array Slot), Rl_ xs L t 1 x3 σ0 τ0 = some 1 → va_P X vwCl (cW cI cC cZ u_o σ0 ++ mW cI cC cZ u_M τ0) H → va_D A (cW cI cC cZ u_o σ0 ++ mW cI cC cZ u_M τ0) → va_S A s.heap H locs → lv_has ls 4 [(0, .ref sb), (1, .ref (u_o 0)), (2, .ref (u_M 0)), (3, .int x3)] → W p l e room_1 s m #[Value.ref sb] below meth c H locs 600000 7302250 (lw_Z below #[Value.ref sb] s) (F0 m 18 ls [])) ∧ (∀ (x3 : Int32) (σ0 τ0 : gS) (H : Heap) (locs : List Loc) (ls : Array Slot), Rl_ xs L t 2 x3 σ0 τ0 = some 1 → va_P X vwCl (cW cI cC cZ u_o σ0 ++ mW cI cC cZ u_M τ0) H → va_D A (cW cI cC cZ u_o σ0 ++ mW cI cC cZ u_M τ0) → va_S A s.heap H locs → lv_has ls 4 [(0, .ref sb), (1, .ref (u_o 0)), (2, .ref (u_M 0)), (3, .int x3)] → W p l e room_1 s m #[Value.ref sb] below meth c H locs 600000 7302250 (lw_Z below #[Value.ref sb] s) (F0 m 678 ls [])) := by
    intro t
    induction t with
    | zero => exact ⟨fun _ _ _ _ _ _ hf => (by have hf : (none : Option Int32) = some 1 := hf; cases hf), fun _ _ _ _ _ _ hf => (by have hf : (none : Option Int32) = some 1 := hf; cases hf)⟩
    | succ t ih =>
      obtain ⟨ih1, ih2⟩ := ih
      refine ⟨?_, ?_⟩
      · intro x3 σ0 τ0 H locs ls hf hP hD hS hl
        have hf : Bl_1 xs L (Rl_ xs L t) x3 σ0 τ0 = some 1 := hf
        unfold Bl_1 at hf
        refine lv_iload_n hx hb d_L_law_18 rfl (lv_at hl 3 rfl) ?_
        refine lv_aload_n hx hb d_L_law_19 rfl (lv_at hl 0 rfl) ?_
        refine va_slen hx hb hX hbl hbA hS d_L_law_20 ?_
        refine lv_iconst (v := 4) hx hb d_L_law_21 (by decide) ?_
        refine lv_isub hx hb d_L_law_22 ?_
        refine lv_icmp_gt (tgt := 684) hx hb d_L_law_23 rfl (fun c1 => ?_) (fun c1 => ?_)
        · skip
          rw [if_pos c1] at hf
          refine lv_iconst (v := 1) hx hb d_L_law_684 (by decide) ?_
          refine va_forget (fun q hq => by have h9 := hS.2.2 q hq; rw [hAd] at h9; exact h9) ?_
          refine W.widen (k := 600000) (n := 7302250) (Nat.le_of_ble_eq_true rfl) (Nat.le_of_ble_eq_true rfl) ?_
          exact lw_ret hx hb hr hlocks d_L_law_685
        rw [if_neg c1] at hf
        refine lv_aload_n hx hb d_L_law_26 rfl (lv_at hl 0 rfl) ?_
        refine lv_iload_n hx hb d_L_law_27 rfl (lv_at hl 3 rfl) ?_
        obtain ⟨y2, h3, e4, hf⟩ := gLx_e hf
        refine va_sld hx hb hX hbl hbA hS h3 d_L_law_28 ?_
        rw [← e4]
        refine lv_bipush (v := 31) hx hb d_L_law_29 (by decide) ?_
        refine lv_iand hx hb d_L_law_31 ?_
        by_cases c5 : (y2 &&& 31) = 0
        · skip
          rw [if_pos c5] at hf
          refine lv_tableIn (tgt := 128) hx hb d_L_law_32 (by rw [c5]; decide) (by rw [c5]; decide) (by rw [c5]; rfl) rfl ?_
          refine lv_aload_n hx hb d_L_law_128 rfl (lv_at hl 1 rfl) ?_
          refine lv_aload_n hx hb d_L_law_129 rfl (lv_at hl 0 rfl) ?_
          refine lv_iload_n hx hb d_L_law_130 rfl (lv_at hl 3 rfl) ?_
          refine lv_iconst (v := 1) hx hb d_L_law_131 (by decide) ?_
          refine lv_iadd hx hb d_L_law_132 ?_
          obtain ⟨y6, h7, e8, hf⟩ := gLx_e hf
          refine va_sld hx hb hX hbl hbA hS h7 d_L_law_133 ?_
          rw [← e8]
          refine lv_aload_n hx hb d_L_law_134 rfl (lv_at hl 0 rfl) ?_
          refine lv_iload_n hx hb d_L_law_135 rfl (lv_at hl 3 rfl) ?_
          refine lv_iconst (v := 2) hx hb d_L_law_136 (by decide) ?_
          refine lv_iadd hx hb d_L_law_137 ?_
          obtain ⟨y9, h10, e11, hf⟩ := gLx_e hf
          refine va_sld hx hb hX hbl hbA hS h10 d_L_law_138 ?_
          rw [← e11]
          obtain ⟨y12, σ13, e14, hf⟩ := gBd_e hf
          refine g_goi (va_runV ⟨hx, hb, hml, hown, hts⟩ (m_O_make e14) (cwV 2 hts (gG4 (fun _ h => h) tb_580 tb_581 tb_582 tb_39 tc_O_make) rfl rfl rfl (by decide +kernel) ⟨Nat.le_of_ble_eq_true rfl, Nat.le_of_ble_eq_true rfl⟩) (g_preV (q0 := 0) hE hK hP hD hS hA ((List.range 38).map (fun i => 0 + i)) lwc (by decide +kernel) lw0c rfl) rfl rfl hl.1 rfl (lv_room (Nat.le_of_ble_eq_true rfl)) d_L_law_139 ⟨Nat.le_of_ble_eq_true rfl, Nat.le_of_ble_eq_true rfl⟩) hP hD hS hA ((List.range 38).map (fun i => 0 + i)) lwc (fun _ => lwcf) (fun _ => rfl) (fun y12 _ H locs hu hP hD hS => ?_)
          subst hu
          rw [lwcs] at hP hD
          refine lv_aload_n hx hb d_L_law_142 rfl (lv_at hl 2 rfl) ?_
          refine lv_aload_n hx hb d_L_law_143 rfl (lv_at hl 0 rfl) ?_
          refine lv_iload_n hx hb d_L_law_144 rfl (lv_at hl 3 rfl) ?_
          refine lv_iconst (v := 1) hx hb d_L_law_145 (by decide) ?_
          refine lv_iadd hx hb d_L_law_146 ?_
          obtain ⟨y15, h16, e17, hf⟩ := gLx_e hf
          refine va_sld hx hb hX hbl hbA hS h16 d_L_law_147 ?_
          rw [← e17]
          refine lv_aload_n hx hb d_L_law_148 rfl (lv_at hl 0 rfl) ?_
          refine lv_iload_n hx hb d_L_law_149 rfl (lv_at hl 3 rfl) ?_
          refine lv_iconst (v := 2) hx hb d_L_law_150 (by decide) ?_
          refine lv_iadd hx hb d_L_law_151 ?_
          obtain ⟨y18, h19, e20, hf⟩ := gLx_e hf
          refine va_sld hx hb hX hbl hbA hS h19 d_L_law_152 ?_
          rw [← e20]
          obtain ⟨y21, τ22, e23, hf⟩ := gBd_e hf
          refine g_goi (va_runV ⟨hx, hb, hml, hown, hts⟩ (m_M_make e23) (cwV 2 hts (gG4 (fun _ h => h) tb_583 tb_522 tb_523 tb_392 tc_M_make) rfl rfl rfl (by decide +kernel) ⟨Nat.le_of_ble_eq_true rfl, Nat.le_of_ble_eq_true rfl⟩) (g_preV (q0 := 38) hE hK hP hD hS hA ((List.range 26).map (fun i => 38 + i)) lwm (by decide +kernel) lw0m rfl) rfl rfl hl.1 rfl (lv_room (Nat.le_of_ble_eq_true rfl)) d_L_law_153 ⟨Nat.le_of_ble_eq_true rfl, Nat.le_of_ble_eq_true rfl⟩) hP hD hS hA ((List.range 26).map (fun i => 38 + i)) lwm (fun _ => lwmf) (fun _ => rfl) (fun y21 _ H locs hu hP hD hS => ?_)
          subst hu
          rw [lwms] at hP hD
          refine lv_icmp_eq (tgt := 678) hx hb d_L_law_156 rfl (fun c24 => ?_) (fun c24 => ?_)
          · skip
            rw [if_pos c24] at hf
            exact ih2 (x3) σ13 τ22 _ _ _ hf hP hD hS (lv_sub hl [0, 1, 2, 3] rfl)
          rw [if_neg c24] at hf
          refine lv_iconst (v := 0) hx hb d_L_law_159 (by decide) ?_
          exact absurd hf (by decide)
        rw [if_neg c5] at hf
        by_cases c25 : (y2 &&& 31) = 1
        · skip
          rw [if_pos c25] at hf
          refine lv_tableIn (tgt := 161) hx hb d_L_law_32 (by rw [c25]; decide) (by rw [c25]; decide) (by rw [c25]; rfl) rfl ?_
          refine lv_aload_n hx hb d_L_law_161 rfl (lv_at hl 1 rfl) ?_
          refine lv_aload_n hx hb d_L_law_162 rfl (lv_at hl 0 rfl) ?_
          refine lv_iload_n hx hb d_L_law_163 rfl (lv_at hl 3 rfl) ?_
          refine lv_iconst (v := 1) hx hb d_L_law_164 (by decide) ?_
          refine lv_iadd hx hb d_L_law_165 ?_
          obtain ⟨y26, h27, e28, hf⟩ := gLx_e hf
          refine va_sld hx hb hX hbl hbA hS h27 d_L_law_166 ?_
          rw [← e28]
          refine lv_aload_n hx hb d_L_law_167 rfl (lv_at hl 0 rfl) ?_
          refine lv_iload_n hx hb d_L_law_168 rfl (lv_at hl 3 rfl) ?_
          refine lv_iconst (v := 2) hx hb d_L_law_169 (by decide) ?_
          refine lv_iadd hx hb d_L_law_170 ?_
          obtain ⟨y29, h30, e31, hf⟩ := gLx_e hf
          refine va_sld hx hb hX hbl hbA hS h30 d_L_law_171 ?_
          rw [← e31]
          refine lv_i2c hx hb d_L_law_172 rfl ?_
          obtain ⟨y32, σ33, e34, hf⟩ := gBd_e hf
          refine g_goi (va_runV ⟨hx, hb, hml, hown, hts⟩ (m_O_type e34) (cwV 2 hts (gG4 (fun _ h => h) tb_584 tb_585 tb_586 tb_39 tc_O_type) rfl rfl rfl (by decide +kernel) ⟨Nat.le_of_ble_eq_true rfl, Nat.le_of_ble_eq_true rfl⟩) (g_preV (q0 := 0) hE hK hP hD hS hA ((List.range 38).map (fun i => 0 + i)) lwc (by decide +kernel) lw0c rfl) rfl rfl hl.1 rfl (lv_room (Nat.le_of_ble_eq_true rfl)) d_L_law_173 ⟨Nat.le_of_ble_eq_true rfl, Nat.le_of_ble_eq_true rfl⟩) hP hD hS hA ((List.range 38).map (fun i => 0 + i)) lwc (fun _ => lwcf) (fun _ => rfl) (fun y32 _ H locs hu hP hD hS => ?_)
          subst hu
          rw [lwcs] at hP hD
          refine lv_aload_n hx hb d_L_law_176 rfl (lv_at hl 2 rfl) ?_
          refine lv_aload_n hx hb d_L_law_177 rfl (lv_at hl 0 rfl) ?_
          refine lv_iload_n hx hb d_L_law_178 rfl (lv_at hl 3 rfl) ?_
          refine lv_iconst (v := 1) hx hb d_L_law_179 (by decide) ?_
          refine lv_iadd hx hb d_L_law_180 ?_
          obtain ⟨y35, h36, e37, hf⟩ := gLx_e hf
          refine va_sld hx hb hX hbl hbA hS h36 d_L_law_181 ?_
          rw [← e37]
          refine lv_aload_n hx hb d_L_law_182 rfl (lv_at hl 0 rfl) ?_
          refine lv_iload_n hx hb d_L_law_183 rfl (lv_at hl 3 rfl) ?_
          refine lv_iconst (v := 2) hx hb d_L_law_184 (by decide) ?_
          refine lv_iadd hx hb d_L_law_185 ?_
          obtain ⟨y38, h39, e40, hf⟩ := gLx_e hf
          refine va_sld hx hb hX hbl hbA hS h39 d_L_law_186 ?_
          rw [← e40]
          refine lv_i2c hx hb d_L_law_187 rfl ?_
          obtain ⟨y41, τ42, e43, hf⟩ := gBd_e hf
          refine g_goi (va_runV ⟨hx, hb, hml, hown, hts⟩ (m_M_type e43) (cwV 2 hts (gG4 (fun _ h => h) tb_587 tb_525 tb_526 tb_392 tc_M_type) rfl rfl rfl (by decide +kernel) ⟨Nat.le_of_ble_eq_true rfl, Nat.le_of_ble_eq_true rfl⟩) (g_preV (q0 := 38) hE hK hP hD hS hA ((List.range 26).map (fun i => 38 + i)) lwm (by decide +kernel) lw0m rfl) rfl rfl hl.1 rfl (lv_room (Nat.le_of_ble_eq_true rfl)) d_L_law_188 ⟨Nat.le_of_ble_eq_true rfl, Nat.le_of_ble_eq_true rfl⟩) hP hD hS hA ((List.range 26).map (fun i => 38 + i)) lwm (fun _ => lwmf) (fun _ => rfl) (fun y41 _ H locs hu hP hD hS => ?_)
          subst hu
          rw [lwms] at hP hD
          refine lv_icmp_eq (tgt := 678) hx hb d_L_law_191 rfl (fun c44 => ?_) (fun c44 => ?_)
          · skip
            rw [if_pos c44] at hf
            exact ih2 (x3) σ33 τ42 _ _ _ hf hP hD hS (lv_sub hl [0, 1, 2, 3] rfl)
          rw [if_neg c44] at hf
          refine lv_iconst (v := 0) hx hb d_L_law_194 (by decide) ?_
          exact absurd hf (by decide)
        rw [if_neg c25] at hf
        by_cases c45 : (y2 &&& 31) = 2
        · skip
          rw [if_pos c45] at hf
          refine lv_tableIn (tgt := 196) hx hb d_L_law_32 (by rw [c45]; decide) (by rw [c45]; decide) (by rw [c45]; rfl) rfl ?_
          refine lv_aload_n hx hb d_L_law_196 rfl (lv_at hl 1 rfl) ?_
          refine lv_aload_n hx hb d_L_law_197 rfl (lv_at hl 0 rfl) ?_
          refine lv_iload_n hx hb d_L_law_198 rfl (lv_at hl 3 rfl) ?_
          refine lv_iconst (v := 1) hx hb d_L_law_199 (by decide) ?_
          refine lv_iadd hx hb d_L_law_200 ?_
          obtain ⟨y46, h47, e48, hf⟩ := gLx_e hf
          refine va_sld hx hb hX hbl hbA hS h47 d_L_law_201 ?_
          rw [← e48]
          refine lv_aload_n hx hb d_L_law_202 rfl (lv_at hl 0 rfl) ?_
          refine lv_iload_n hx hb d_L_law_203 rfl (lv_at hl 3 rfl) ?_
          refine lv_iconst (v := 2) hx hb d_L_law_204 (by decide) ?_
          refine lv_iadd hx hb d_L_law_205 ?_
          obtain ⟨y49, h50, e51, hf⟩ := gLx_e hf
          refine va_sld hx hb hX hbl hbA hS h50 d_L_law_206 ?_
          rw [← e51]
          refine lv_aload_n hx hb d_L_law_207 rfl (lv_at hl 0 rfl) ?_
          refine lv_iload_n hx hb d_L_law_208 rfl (lv_at hl 3 rfl) ?_
          refine lv_iconst (v := 3) hx hb d_L_law_209 (by decide) ?_
          refine lv_iadd hx hb d_L_law_210 ?_
          obtain ⟨y52, h53, e54, hf⟩ := gLx_e hf
          refine va_sld hx hb hX hbl hbA hS h53 d_L_law_211 ?_
          rw [← e54]
          obtain ⟨y55, σ56, e57, hf⟩ := gBd_e hf
          refine g_goi (va_runV ⟨hx, hb, hml, hown, hts⟩ (m_O_put e57) (cwV 3 hts (gG4 (fun _ h => h) tb_588 tb_589 tb_590 tb_39 tc_O_put) rfl rfl rfl (by decide +kernel) ⟨Nat.le_of_ble_eq_true rfl, Nat.le_of_ble_eq_true rfl⟩) (g_preV (q0 := 0) hE hK hP hD hS hA ((List.range 38).map (fun i => 0 + i)) lwc (by decide +kernel) lw0c rfl) rfl rfl hl.1 rfl (lv_room (Nat.le_of_ble_eq_true rfl)) d_L_law_212 ⟨Nat.le_of_ble_eq_true rfl, Nat.le_of_ble_eq_true rfl⟩) hP hD hS hA ((List.range 38).map (fun i => 0 + i)) lwc (fun _ => lwcf) (fun _ => rfl) (fun y55 _ H locs hu hP hD hS => ?_)
          subst hu
          rw [lwcs] at hP hD
          refine lv_aload_n hx hb d_L_law_215 rfl (lv_at hl 2 rfl) ?_
          refine lv_aload_n hx hb d_L_law_216 rfl (lv_at hl 0 rfl) ?_
          refine lv_iload_n hx hb d_L_law_217 rfl (lv_at hl 3 rfl) ?_
          refine lv_iconst (v := 1) hx hb d_L_law_218 (by decide) ?_
          refine lv_iadd hx hb d_L_law_219 ?_
          obtain ⟨y58, h59, e60, hf⟩ := gLx_e hf
          refine va_sld hx hb hX hbl hbA hS h59 d_L_law_220 ?_
          rw [← e60]
          refine lv_aload_n hx hb d_L_law_221 rfl (lv_at hl 0 rfl) ?_
          refine lv_iload_n hx hb d_L_law_222 rfl (lv_at hl 3 rfl) ?_
          refine lv_iconst (v := 2) hx hb d_L_law_223 (by decide) ?_
          refine lv_iadd hx hb d_L_law_224 ?_
          obtain ⟨y61, h62, e63, hf⟩ := gLx_e hf
          refine va_sld hx hb hX hbl hbA hS h62 d_L_law_225 ?_
          rw [← e63]
          refine lv_aload_n hx hb d_L_law_226 rfl (lv_at hl 0 rfl) ?_
          refine lv_iload_n hx hb d_L_law_227 rfl (lv_at hl 3 rfl) ?_
          refine lv_iconst (v := 3) hx hb d_L_law_228 (by decide) ?_
          refine lv_iadd hx hb d_L_law_229 ?_
          obtain ⟨y64, h65, e66, hf⟩ := gLx_e hf
          refine va_sld hx hb hX hbl hbA hS h65 d_L_law_230 ?_
          rw [← e66]
          obtain ⟨y67, τ68, e69, hf⟩ := gBd_e hf
          refine g_goi (va_runV ⟨hx, hb, hml, hown, hts⟩ (m_M_put e69) (cwV 3 hts (gG4 (fun _ h => h) tb_591 tb_534 tb_535 tb_392 tc_M_put) rfl rfl rfl (by decide +kernel) ⟨Nat.le_of_ble_eq_true rfl, Nat.le_of_ble_eq_true rfl⟩) (g_preV (q0 := 38) hE hK hP hD hS hA ((List.range 26).map (fun i => 38 + i)) lwm (by decide +kernel) lw0m rfl) rfl rfl hl.1 rfl (lv_room (Nat.le_of_ble_eq_true rfl)) d_L_law_231 ⟨Nat.le_of_ble_eq_true rfl, Nat.le_of_ble_eq_true rfl⟩) hP hD hS hA ((List.range 26).map (fun i => 38 + i)) lwm (fun _ => lwmf) (fun _ => rfl) (fun y67 _ H locs hu hP hD hS => ?_)
          subst hu
          rw [lwms] at hP hD
          refine lv_icmp_eq (tgt := 678) hx hb d_L_law_234 rfl (fun c70 => ?_) (fun c70 => ?_)
          · skip
            rw [if_pos c70] at hf
            exact ih2 (x3) σ56 τ68 _ _ _ hf hP hD hS (lv_sub hl [0, 1, 2, 3] rfl)
          rw [if_neg c70] at hf
          refine lv_iconst (v := 0) hx hb d_L_law_237 (by decide) ?_
          exact absurd hf (by decide)
        rw [if_neg c45] at hf
        by_cases c71 : (y2 &&& 31) = 3
        · skip
          rw [if_pos c71] at hf
          refine lv_tableIn (tgt := 239) hx hb d_L_law_32 (by rw [c71]; decide) (by rw [c71]; decide) (by rw [c71]; rfl) rfl ?_
          refine lv_aload_n hx hb d_L_law_239 rfl (lv_at hl 1 rfl) ?_
          refine lv_aload_n hx hb d_L_law_240 rfl (lv_at hl 0 rfl) ?_
          refine lv_iload_n hx hb d_L_law_241 rfl (lv_at hl 3 rfl) ?_
          refine lv_iconst (v := 1) hx hb d_L_law_242 (by decide) ?_
          refine lv_iadd hx hb d_L_law_243 ?_
          obtain ⟨y72, h73, e74, hf⟩ := gLx_e hf
          refine va_sld hx hb hX hbl hbA hS h73 d_L_law_244 ?_
          rw [← e74]
          refine lv_aload_n hx hb d_L_law_245 rfl (lv_at hl 0 rfl) ?_
          refine lv_iload_n hx hb d_L_law_246 rfl (lv_at hl 3 rfl) ?_
          refine lv_iconst (v := 2) hx hb d_L_law_247 (by decide) ?_
          refine lv_iadd hx hb d_L_law_248 ?_
          obtain ⟨y75, h76, e77, hf⟩ := gLx_e hf
          refine va_sld hx hb hX hbl hbA hS h76 d_L_law_249 ?_
          rw [← e77]
          refine lv_aload_n hx hb d_L_law_250 rfl (lv_at hl 0 rfl) ?_
          refine lv_iload_n hx hb d_L_law_251 rfl (lv_at hl 3 rfl) ?_
          refine lv_iconst (v := 3) hx hb d_L_law_252 (by decide) ?_
          refine lv_iadd hx hb d_L_law_253 ?_
          obtain ⟨y78, h79, e80, hf⟩ := gLx_e hf
          refine va_sld hx hb hX hbl hbA hS h79 d_L_law_254 ?_
          rw [← e80]
          obtain ⟨y81, σ82, e83, hf⟩ := gBd_e hf
          refine g_goi (va_runV ⟨hx, hb, hml, hown, hts⟩ (m_O_link e83) (cwV 3 hts (gG4 (fun _ h => h) tb_592 tb_593 tb_594 tb_39 tc_O_link) rfl rfl rfl (by decide +kernel) ⟨Nat.le_of_ble_eq_true rfl, Nat.le_of_ble_eq_true rfl⟩) (g_preV (q0 := 0) hE hK hP hD hS hA ((List.range 38).map (fun i => 0 + i)) lwc (by decide +kernel) lw0c rfl) rfl rfl hl.1 rfl (lv_room (Nat.le_of_ble_eq_true rfl)) d_L_law_255 ⟨Nat.le_of_ble_eq_true rfl, Nat.le_of_ble_eq_true rfl⟩) hP hD hS hA ((List.range 38).map (fun i => 0 + i)) lwc (fun _ => lwcf) (fun _ => rfl) (fun y81 _ H locs hu hP hD hS => ?_)
          subst hu
          rw [lwcs] at hP hD
          refine lv_aload_n hx hb d_L_law_258 rfl (lv_at hl 2 rfl) ?_
          refine lv_aload_n hx hb d_L_law_259 rfl (lv_at hl 0 rfl) ?_
          refine lv_iload_n hx hb d_L_law_260 rfl (lv_at hl 3 rfl) ?_
          refine lv_iconst (v := 1) hx hb d_L_law_261 (by decide) ?_
          refine lv_iadd hx hb d_L_law_262 ?_
          obtain ⟨y84, h85, e86, hf⟩ := gLx_e hf
          refine va_sld hx hb hX hbl hbA hS h85 d_L_law_263 ?_
          rw [← e86]
          refine lv_aload_n hx hb d_L_law_264 rfl (lv_at hl 0 rfl) ?_
          refine lv_iload_n hx hb d_L_law_265 rfl (lv_at hl 3 rfl) ?_
          refine lv_iconst (v := 2) hx hb d_L_law_266 (by decide) ?_
          refine lv_iadd hx hb d_L_law_267 ?_
          obtain ⟨y87, h88, e89, hf⟩ := gLx_e hf
          refine va_sld hx hb hX hbl hbA hS h88 d_L_law_268 ?_
          rw [← e89]
          refine lv_aload_n hx hb d_L_law_269 rfl (lv_at hl 0 rfl) ?_
          refine lv_iload_n hx hb d_L_law_270 rfl (lv_at hl 3 rfl) ?_
          refine lv_iconst (v := 3) hx hb d_L_law_271 (by decide) ?_
          refine lv_iadd hx hb d_L_law_272 ?_
          obtain ⟨y90, h91, e92, hf⟩ := gLx_e hf
          refine va_sld hx hb hX hbl hbA hS h91 d_L_law_273 ?_
          rw [← e92]
          obtain ⟨y93, τ94, e95, hf⟩ := gBd_e hf
          refine g_goi (va_runV ⟨hx, hb, hml, hown, hts⟩ (m_M_link e95) (cwV 3 hts (gG4 (fun _ h => h) tb_595 tb_531 tb_532 tb_392 tc_M_link) rfl rfl rfl (by decide +kernel) ⟨Nat.le_of_ble_eq_true rfl, Nat.le_of_ble_eq_true rfl⟩) (g_preV (q0 := 38) hE hK hP hD hS hA ((List.range 26).map (fun i => 38 + i)) lwm (by decide +kernel) lw0m rfl) rfl rfl hl.1 rfl (lv_room (Nat.le_of_ble_eq_true rfl)) d_L_law_274 ⟨Nat.le_of_ble_eq_true rfl, Nat.le_of_ble_eq_true rfl⟩) hP hD hS hA ((List.range 26).map (fun i => 38 + i)) lwm (fun _ => lwmf) (fun _ => rfl) (fun y93 _ H locs hu hP hD hS => ?_)
          subst hu
          rw [lwms] at hP hD
          refine lv_icmp_eq (tgt := 678) hx hb d_L_law_277 rfl (fun c96 => ?_) (fun c96 => ?_)
          · skip
            rw [if_pos c96] at hf
            exact ih2 (x3) σ82 τ94 _ _ _ hf hP hD hS (lv_sub hl [0, 1, 2, 3] rfl)
          rw [if_neg c96] at hf
          refine lv_iconst (v := 0) hx hb d_L_law_280 (by decide) ?_
          exact absurd hf (by decide)
        rw [if_neg c71] at hf
        by_cases c97 : (y2 &&& 31) = 4
        · skip
          rw [if_pos c97] at hf
          refine lv_tableIn (tgt := 282) hx hb d_L_law_32 (by rw [c97]; decide) (by rw [c97]; decide) (by rw [c97]; rfl) rfl ?_
          refine lv_aload_n hx hb d_L_law_282 rfl (lv_at hl 1 rfl) ?_
          obtain ⟨y98, σ99, e100, hf⟩ := gBd_e hf
          refine g_goi (va_runV ⟨hx, hb, hml, hown, hts⟩ (m_O_objects e100) (cwV 0 hts (gG4 (fun _ h => h) tb_596 tb_597 tb_598 tb_39 tc_O_objects) rfl rfl rfl (by decide +kernel) ⟨Nat.le_of_ble_eq_true rfl, Nat.le_of_ble_eq_true rfl⟩) (g_preV (q0 := 0) hE hK hP hD hS hA ((List.range 38).map (fun i => 0 + i)) lwc (by decide +kernel) lw0c rfl) rfl rfl hl.1 rfl (lv_room (Nat.le_of_ble_eq_true rfl)) d_L_law_283 ⟨Nat.le_of_ble_eq_true rfl, Nat.le_of_ble_eq_true rfl⟩) hP hD hS hA ((List.range 38).map (fun i => 0 + i)) lwc (fun _ => lwcf) (fun _ => rfl) (fun y98 _ H locs hu hP hD hS => ?_)
          subst hu
          rw [lwcs] at hP hD
          refine lv_aload_n hx hb d_L_law_286 rfl (lv_at hl 2 rfl) ?_
          obtain ⟨y101, τ102, e103, hf⟩ := gBd_e hf
          refine g_goi (va_runV ⟨hx, hb, hml, hown, hts⟩ (m_M_objects e103) (cwV 0 hts (gG4 (fun _ h => h) tb_599 tb_600 tb_601 tb_392 tc_M_objects) rfl rfl rfl (by decide +kernel) ⟨Nat.le_of_ble_eq_true rfl, Nat.le_of_ble_eq_true rfl⟩) (g_preV (q0 := 38) hE hK hP hD hS hA ((List.range 26).map (fun i => 38 + i)) lwm (by decide +kernel) lw0m rfl) rfl rfl hl.1 rfl (lv_room (Nat.le_of_ble_eq_true rfl)) d_L_law_287 ⟨Nat.le_of_ble_eq_true rfl, Nat.le_of_ble_eq_true rfl⟩) hP hD hS hA ((List.range 26).map (fun i => 38 + i)) lwm (fun _ => lwmf) (fun _ => rfl) (fun y101 _ H locs hu hP hD hS => ?_)
          subst hu
          rw [lwms] at hP hD
          refine lv_icmp_eq (tgt := 678) hx hb d_L_law_290 rfl (fun c104 => ?_) (fun c104 => ?_)
          · skip
            rw [if_pos c104] at hf
            exact ih2 (x3) σ99 τ102 _ _ _ hf hP hD hS (lv_sub hl [0, 1, 2, 3] rfl)
          rw [if_neg c104] at hf
          refine lv_iconst (v := 0) hx hb d_L_law_293 (by decide) ?_
          exact absurd hf (by decide)
        rw [if_neg c97] at hf
        by_cases c105 : (y2 &&& 31) = 5
        · skip
          rw [if_pos c105] at hf
          refine lv_tableIn (tgt := 295) hx hb d_L_law_32 (by rw [c105]; decide) (by rw [c105]; decide) (by rw [c105]; rfl) rfl ?_
          refine lv_aload_n hx hb d_L_law_295 rfl (lv_at hl 1 rfl) ?_
          refine lv_aload_n hx hb d_L_law_296 rfl (lv_at hl 0 rfl) ?_
          refine lv_iload_n hx hb d_L_law_297 rfl (lv_at hl 3 rfl) ?_
          refine lv_iconst (v := 1) hx hb d_L_law_298 (by decide) ?_
          refine lv_iadd hx hb d_L_law_299 ?_
          obtain ⟨y106, h107, e108, hf⟩ := gLx_e hf
          refine va_sld hx hb hX hbl hbA hS h107 d_L_law_300 ?_
          rw [← e108]
          obtain ⟨y109, σ110, e111, hf⟩ := gBd_e hf
          refine g_goi (va_runV ⟨hx, hb, hml, hown, hts⟩ (m_O_kind e111) (cwV 1 hts (gG4 (fun _ h => h) tb_602 tb_603 tb_604 tb_39 tc_O_kind) rfl rfl rfl (by decide +kernel) ⟨Nat.le_of_ble_eq_true rfl, Nat.le_of_ble_eq_true rfl⟩) (g_preV (q0 := 0) hE hK hP hD hS hA ((List.range 38).map (fun i => 0 + i)) lwc (by decide +kernel) lw0c rfl) rfl rfl hl.1 rfl (lv_room (Nat.le_of_ble_eq_true rfl)) d_L_law_301 ⟨Nat.le_of_ble_eq_true rfl, Nat.le_of_ble_eq_true rfl⟩) hP hD hS hA ((List.range 38).map (fun i => 0 + i)) lwc (fun _ => lwcf) (fun _ => rfl) (fun y109 _ H locs hu hP hD hS => ?_)
          subst hu
          rw [lwcs] at hP hD
          refine lv_aload_n hx hb d_L_law_304 rfl (lv_at hl 2 rfl) ?_
          refine lv_aload_n hx hb d_L_law_305 rfl (lv_at hl 0 rfl) ?_
          refine lv_iload_n hx hb d_L_law_306 rfl (lv_at hl 3 rfl) ?_
          refine lv_iconst (v := 1) hx hb d_L_law_307 (by decide) ?_
          refine lv_iadd hx hb d_L_law_308 ?_
          obtain ⟨y112, h113, e114, hf⟩ := gLx_e hf
          refine va_sld hx hb hX hbl hbA hS h113 d_L_law_309 ?_
          rw [← e114]
          obtain ⟨y115, τ116, e117, hf⟩ := gBd_e hf
          refine g_goi (va_runV ⟨hx, hb, hml, hown, hts⟩ (m_M_kind e117) (cwV 1 hts (gG4 (fun _ h => h) tb_605 tb_606 tb_607 tb_392 tc_M_kind) rfl rfl rfl (by decide +kernel) ⟨Nat.le_of_ble_eq_true rfl, Nat.le_of_ble_eq_true rfl⟩) (g_preV (q0 := 38) hE hK hP hD hS hA ((List.range 26).map (fun i => 38 + i)) lwm (by decide +kernel) lw0m rfl) rfl rfl hl.1 rfl (lv_room (Nat.le_of_ble_eq_true rfl)) d_L_law_310 ⟨Nat.le_of_ble_eq_true rfl, Nat.le_of_ble_eq_true rfl⟩) hP hD hS hA ((List.range 26).map (fun i => 38 + i)) lwm (fun _ => lwmf) (fun _ => rfl) (fun y115 _ H locs hu hP hD hS => ?_)
          subst hu
          rw [lwms] at hP hD
          refine lv_icmp_eq (tgt := 678) hx hb d_L_law_313 rfl (fun c118 => ?_) (fun c118 => ?_)
          · skip
            rw [if_pos c118] at hf
            exact ih2 (x3) σ110 τ116 _ _ _ hf hP hD hS (lv_sub hl [0, 1, 2, 3] rfl)
          rw [if_neg c118] at hf
          refine lv_iconst (v := 0) hx hb d_L_law_316 (by decide) ?_
          exact absurd hf (by decide)
        rw [if_neg c105] at hf
        by_cases c119 : (y2 &&& 31) = 6
        · skip
          rw [if_pos c119] at hf
          refine lv_tableIn (tgt := 318) hx hb d_L_law_32 (by rw [c119]; decide) (by rw [c119]; decide) (by rw [c119]; rfl) rfl ?_
          refine lv_aload_n hx hb d_L_law_318 rfl (lv_at hl 1 rfl) ?_
          refine lv_aload_n hx hb d_L_law_319 rfl (lv_at hl 0 rfl) ?_
          refine lv_iload_n hx hb d_L_law_320 rfl (lv_at hl 3 rfl) ?_
          refine lv_iconst (v := 1) hx hb d_L_law_321 (by decide) ?_
          refine lv_iadd hx hb d_L_law_322 ?_
          obtain ⟨y120, h121, e122, hf⟩ := gLx_e hf
          refine va_sld hx hb hX hbl hbA hS h121 d_L_law_323 ?_
          rw [← e122]
          obtain ⟨y123, σ124, e125, hf⟩ := gBd_e hf
          refine g_goi (va_runV ⟨hx, hb, hml, hown, hts⟩ (m_O_size e125) (cwV 1 hts (gG4 (fun _ h => h) tb_608 tb_609 tb_610 tb_39 tc_O_size) rfl rfl rfl (by decide +kernel) ⟨Nat.le_of_ble_eq_true rfl, Nat.le_of_ble_eq_true rfl⟩) (g_preV (q0 := 0) hE hK hP hD hS hA ((List.range 38).map (fun i => 0 + i)) lwc (by decide +kernel) lw0c rfl) rfl rfl hl.1 rfl (lv_room (Nat.le_of_ble_eq_true rfl)) d_L_law_324 ⟨Nat.le_of_ble_eq_true rfl, Nat.le_of_ble_eq_true rfl⟩) hP hD hS hA ((List.range 38).map (fun i => 0 + i)) lwc (fun _ => lwcf) (fun _ => rfl) (fun y123 _ H locs hu hP hD hS => ?_)
          subst hu
          rw [lwcs] at hP hD
          refine lv_aload_n hx hb d_L_law_327 rfl (lv_at hl 2 rfl) ?_
          refine lv_aload_n hx hb d_L_law_328 rfl (lv_at hl 0 rfl) ?_
          refine lv_iload_n hx hb d_L_law_329 rfl (lv_at hl 3 rfl) ?_
          refine lv_iconst (v := 1) hx hb d_L_law_330 (by decide) ?_
          refine lv_iadd hx hb d_L_law_331 ?_
          obtain ⟨y126, h127, e128, hf⟩ := gLx_e hf
          refine va_sld hx hb hX hbl hbA hS h127 d_L_law_332 ?_
          rw [← e128]
          obtain ⟨y129, τ130, e131, hf⟩ := gBd_e hf
          refine g_goi (va_runV ⟨hx, hb, hml, hown, hts⟩ (m_M_size e131) (cwV 1 hts (gG4 (fun _ h => h) tb_611 tb_612 tb_613 tb_392 tc_M_size) rfl rfl rfl (by decide +kernel) ⟨Nat.le_of_ble_eq_true rfl, Nat.le_of_ble_eq_true rfl⟩) (g_preV (q0 := 38) hE hK hP hD hS hA ((List.range 26).map (fun i => 38 + i)) lwm (by decide +kernel) lw0m rfl) rfl rfl hl.1 rfl (lv_room (Nat.le_of_ble_eq_true rfl)) d_L_law_333 ⟨Nat.le_of_ble_eq_true rfl, Nat.le_of_ble_eq_true rfl⟩) hP hD hS hA ((List.range 26).map (fun i => 38 + i)) lwm (fun _ => lwmf) (fun _ => rfl) (fun y129 _ H locs hu hP hD hS => ?_)
          subst hu
          rw [lwms] at hP hD
          refine lv_icmp_eq (tgt := 678) hx hb d_L_law_336 rfl (fun c132 => ?_) (fun c132 => ?_)
          · skip
            rw [if_pos c132] at hf
            exact ih2 (x3) σ124 τ130 _ _ _ hf hP hD hS (lv_sub hl [0, 1, 2, 3] rfl)
          rw [if_neg c132] at hf
          refine lv_iconst (v := 0) hx hb d_L_law_339 (by decide) ?_
          exact absurd hf (by decide)
        rw [if_neg c119] at hf
        by_cases c133 : (y2 &&& 31) = 7
        · skip
          rw [if_pos c133] at hf
          refine lv_tableIn (tgt := 341) hx hb d_L_law_32 (by rw [c133]; decide) (by rw [c133]; decide) (by rw [c133]; rfl) rfl ?_
          refine lv_aload_n hx hb d_L_law_341 rfl (lv_at hl 1 rfl) ?_
          refine lv_aload_n hx hb d_L_law_342 rfl (lv_at hl 0 rfl) ?_
          refine lv_iload_n hx hb d_L_law_343 rfl (lv_at hl 3 rfl) ?_
          refine lv_iconst (v := 1) hx hb d_L_law_344 (by decide) ?_
          refine lv_iadd hx hb d_L_law_345 ?_
          obtain ⟨y134, h135, e136, hf⟩ := gLx_e hf
          refine va_sld hx hb hX hbl hbA hS h135 d_L_law_346 ?_
          rw [← e136]
          refine lv_aload_n hx hb d_L_law_347 rfl (lv_at hl 0 rfl) ?_
          refine lv_iload_n hx hb d_L_law_348 rfl (lv_at hl 3 rfl) ?_
          refine lv_iconst (v := 2) hx hb d_L_law_349 (by decide) ?_
          refine lv_iadd hx hb d_L_law_350 ?_
          obtain ⟨y137, h138, e139, hf⟩ := gLx_e hf
          refine va_sld hx hb hX hbl hbA hS h138 d_L_law_351 ?_
          rw [← e139]
          obtain ⟨y140, σ141, e142, hf⟩ := gBd_e hf
          refine g_goi (va_runV ⟨hx, hb, hml, hown, hts⟩ (m_O_holds e142) (cwV 2 hts (gG4 (fun _ h => h) tb_614 tb_615 tb_616 tb_39 tc_O_holds) rfl rfl rfl (by decide +kernel) ⟨Nat.le_of_ble_eq_true rfl, Nat.le_of_ble_eq_true rfl⟩) (g_preV (q0 := 0) hE hK hP hD hS hA ((List.range 38).map (fun i => 0 + i)) lwc (by decide +kernel) lw0c rfl) rfl rfl hl.1 rfl (lv_room (Nat.le_of_ble_eq_true rfl)) d_L_law_352 ⟨Nat.le_of_ble_eq_true rfl, Nat.le_of_ble_eq_true rfl⟩) hP hD hS hA ((List.range 38).map (fun i => 0 + i)) lwc (fun _ => lwcf) (fun _ => rfl) (fun y140 _ H locs hu hP hD hS => ?_)
          subst hu
          rw [lwcs] at hP hD
          refine lv_aload_n hx hb d_L_law_355 rfl (lv_at hl 2 rfl) ?_
          refine lv_aload_n hx hb d_L_law_356 rfl (lv_at hl 0 rfl) ?_
          refine lv_iload_n hx hb d_L_law_357 rfl (lv_at hl 3 rfl) ?_
          refine lv_iconst (v := 1) hx hb d_L_law_358 (by decide) ?_
          refine lv_iadd hx hb d_L_law_359 ?_
          obtain ⟨y143, h144, e145, hf⟩ := gLx_e hf
          refine va_sld hx hb hX hbl hbA hS h144 d_L_law_360 ?_
          rw [← e145]
          refine lv_aload_n hx hb d_L_law_361 rfl (lv_at hl 0 rfl) ?_
          refine lv_iload_n hx hb d_L_law_362 rfl (lv_at hl 3 rfl) ?_
          refine lv_iconst (v := 2) hx hb d_L_law_363 (by decide) ?_
          refine lv_iadd hx hb d_L_law_364 ?_
          obtain ⟨y146, h147, e148, hf⟩ := gLx_e hf
          refine va_sld hx hb hX hbl hbA hS h147 d_L_law_365 ?_
          rw [← e148]
          obtain ⟨y149, τ150, e151, hf⟩ := gBd_e hf
          refine g_goi (va_runV ⟨hx, hb, hml, hown, hts⟩ (m_M_holds e151) (cwV 2 hts (gG4 (fun _ h => h) tb_617 tb_404 tb_405 tb_392 tc_M_holds) rfl rfl rfl (by decide +kernel) ⟨Nat.le_of_ble_eq_true rfl, Nat.le_of_ble_eq_true rfl⟩) (g_preV (q0 := 38) hE hK hP hD hS hA ((List.range 26).map (fun i => 38 + i)) lwm (by decide +kernel) lw0m rfl) rfl rfl hl.1 rfl (lv_room (Nat.le_of_ble_eq_true rfl)) d_L_law_366 ⟨Nat.le_of_ble_eq_true rfl, Nat.le_of_ble_eq_true rfl⟩) hP hD hS hA ((List.range 26).map (fun i => 38 + i)) lwm (fun _ => lwmf) (fun _ => rfl) (fun y149 _ H locs hu hP hD hS => ?_)
          subst hu
          rw [lwms] at hP hD
          refine lv_icmp_eq (tgt := 678) hx hb d_L_law_369 rfl (fun c152 => ?_) (fun c152 => ?_)
          · skip
            rw [if_pos c152] at hf
            exact ih2 (x3) σ141 τ150 _ _ _ hf hP hD hS (lv_sub hl [0, 1, 2, 3] rfl)
          rw [if_neg c152] at hf
          refine lv_iconst (v := 0) hx hb d_L_law_372 (by decide) ?_
          exact absurd hf (by decide)
        rw [if_neg c133] at hf
        by_cases c153 : (y2 &&& 31) = 8
        · skip
          rw [if_pos c153] at hf
          refine lv_tableIn (tgt := 374) hx hb d_L_law_32 (by rw [c153]; decide) (by rw [c153]; decide) (by rw [c153]; rfl) rfl ?_
          refine lv_aload_n hx hb d_L_law_374 rfl (lv_at hl 1 rfl) ?_
          refine lv_aload_n hx hb d_L_law_375 rfl (lv_at hl 0 rfl) ?_
          refine lv_iload_n hx hb d_L_law_376 rfl (lv_at hl 3 rfl) ?_
          refine lv_iconst (v := 1) hx hb d_L_law_377 (by decide) ?_
          refine lv_iadd hx hb d_L_law_378 ?_
          obtain ⟨y154, h155, e156, hf⟩ := gLx_e hf
          refine va_sld hx hb hX hbl hbA hS h155 d_L_law_379 ?_
          rw [← e156]
          refine lv_aload_n hx hb d_L_law_380 rfl (lv_at hl 0 rfl) ?_
          refine lv_iload_n hx hb d_L_law_381 rfl (lv_at hl 3 rfl) ?_
          refine lv_iconst (v := 2) hx hb d_L_law_382 (by decide) ?_
          refine lv_iadd hx hb d_L_law_383 ?_
          obtain ⟨y157, h158, e159, hf⟩ := gLx_e hf
          refine va_sld hx hb hX hbl hbA hS h158 d_L_law_384 ?_
          rw [← e159]
          obtain ⟨y160, σ161, e162, hf⟩ := gBd_e hf
          refine g_goi (va_runV ⟨hx, hb, hml, hown, hts⟩ (m_O_value e162) (cwV 2 hts (gG4 (fun _ h => h) tb_618 tb_619 tb_620 tb_39 tc_O_value) rfl rfl rfl (by decide +kernel) ⟨Nat.le_of_ble_eq_true rfl, Nat.le_of_ble_eq_true rfl⟩) (g_preV (q0 := 0) hE hK hP hD hS hA ((List.range 38).map (fun i => 0 + i)) lwc (by decide +kernel) lw0c rfl) rfl rfl hl.1 rfl (lv_room (Nat.le_of_ble_eq_true rfl)) d_L_law_385 ⟨Nat.le_of_ble_eq_true rfl, Nat.le_of_ble_eq_true rfl⟩) hP hD hS hA ((List.range 38).map (fun i => 0 + i)) lwc (fun _ => lwcf) (fun _ => rfl) (fun y160 _ H locs hu hP hD hS => ?_)
          subst hu
          rw [lwcs] at hP hD
          refine lv_aload_n hx hb d_L_law_388 rfl (lv_at hl 2 rfl) ?_
          refine lv_aload_n hx hb d_L_law_389 rfl (lv_at hl 0 rfl) ?_
          refine lv_iload_n hx hb d_L_law_390 rfl (lv_at hl 3 rfl) ?_
          refine lv_iconst (v := 1) hx hb d_L_law_391 (by decide) ?_
          refine lv_iadd hx hb d_L_law_392 ?_
          obtain ⟨y163, h164, e165, hf⟩ := gLx_e hf
          refine va_sld hx hb hX hbl hbA hS h164 d_L_law_393 ?_
          rw [← e165]
          refine lv_aload_n hx hb d_L_law_394 rfl (lv_at hl 0 rfl) ?_
          refine lv_iload_n hx hb d_L_law_395 rfl (lv_at hl 3 rfl) ?_
          refine lv_iconst (v := 2) hx hb d_L_law_396 (by decide) ?_
          refine lv_iadd hx hb d_L_law_397 ?_
          obtain ⟨y166, h167, e168, hf⟩ := gLx_e hf
          refine va_sld hx hb hX hbl hbA hS h167 d_L_law_398 ?_
          rw [← e168]
          obtain ⟨y169, τ170, e171, hf⟩ := gBd_e hf
          refine g_goi (va_runV ⟨hx, hb, hml, hown, hts⟩ (m_M_value e171) (cwV 2 hts (gG4 (fun _ h => h) tb_621 tb_622 tb_623 tb_392 tc_M_value) rfl rfl rfl (by decide +kernel) ⟨Nat.le_of_ble_eq_true rfl, Nat.le_of_ble_eq_true rfl⟩) (g_preV (q0 := 38) hE hK hP hD hS hA ((List.range 26).map (fun i => 38 + i)) lwm (by decide +kernel) lw0m rfl) rfl rfl hl.1 rfl (lv_room (Nat.le_of_ble_eq_true rfl)) d_L_law_399 ⟨Nat.le_of_ble_eq_true rfl, Nat.le_of_ble_eq_true rfl⟩) hP hD hS hA ((List.range 26).map (fun i => 38 + i)) lwm (fun _ => lwmf) (fun _ => rfl) (fun y169 _ H locs hu hP hD hS => ?_)
          subst hu
          rw [lwms] at hP hD
          refine lv_icmp_eq (tgt := 678) hx hb d_L_law_402 rfl (fun c172 => ?_) (fun c172 => ?_)
          · skip
            rw [if_pos c172] at hf
            exact ih2 (x3) σ161 τ170 _ _ _ hf hP hD hS (lv_sub hl [0, 1, 2, 3] rfl)
          rw [if_neg c172] at hf
          refine lv_iconst (v := 0) hx hb d_L_law_405 (by decide) ?_
          exact absurd hf (by decide)
        rw [if_neg c153] at hf
        by_cases c173 : (y2 &&& 31) = 9
        · skip
          rw [if_pos c173] at hf
          refine lv_tableIn (tgt := 407) hx hb d_L_law_32 (by rw [c173]; decide) (by rw [c173]; decide) (by rw [c173]; rfl) rfl ?_
          refine lv_aload_n hx hb d_L_law_407 rfl (lv_at hl 1 rfl) ?_
          refine lv_aload_n hx hb d_L_law_408 rfl (lv_at hl 0 rfl) ?_
          refine lv_iload_n hx hb d_L_law_409 rfl (lv_at hl 3 rfl) ?_
          refine lv_iconst (v := 1) hx hb d_L_law_410 (by decide) ?_
          refine lv_iadd hx hb d_L_law_411 ?_
          obtain ⟨y174, h175, e176, hf⟩ := gLx_e hf
          refine va_sld hx hb hX hbl hbA hS h175 d_L_law_412 ?_
          rw [← e176]
          refine lv_aload_n hx hb d_L_law_413 rfl (lv_at hl 0 rfl) ?_
          refine lv_iload_n hx hb d_L_law_414 rfl (lv_at hl 3 rfl) ?_
          refine lv_iconst (v := 2) hx hb d_L_law_415 (by decide) ?_
          refine lv_iadd hx hb d_L_law_416 ?_
          obtain ⟨y177, h178, e179, hf⟩ := gLx_e hf
          refine va_sld hx hb hX hbl hbA hS h178 d_L_law_417 ?_
          rw [← e179]
          obtain ⟨y180, σ181, e182, hf⟩ := gBd_e hf
          refine g_goi (va_runV ⟨hx, hb, hml, hown, hts⟩ (m_O_alike e182) (cwV 2 hts (gG4 (fun _ h => h) tb_624 tb_625 tb_626 tb_39 tc_O_alike) rfl rfl rfl (by decide +kernel) ⟨Nat.le_of_ble_eq_true rfl, Nat.le_of_ble_eq_true rfl⟩) (g_preV (q0 := 0) hE hK hP hD hS hA ((List.range 38).map (fun i => 0 + i)) lwc (by decide +kernel) lw0c rfl) rfl rfl hl.1 rfl (lv_room (Nat.le_of_ble_eq_true rfl)) d_L_law_418 ⟨Nat.le_of_ble_eq_true rfl, Nat.le_of_ble_eq_true rfl⟩) hP hD hS hA ((List.range 38).map (fun i => 0 + i)) lwc (fun _ => lwcf) (fun _ => rfl) (fun y180 _ H locs hu hP hD hS => ?_)
          subst hu
          rw [lwcs] at hP hD
          refine lv_aload_n hx hb d_L_law_421 rfl (lv_at hl 2 rfl) ?_
          refine lv_aload_n hx hb d_L_law_422 rfl (lv_at hl 0 rfl) ?_
          refine lv_iload_n hx hb d_L_law_423 rfl (lv_at hl 3 rfl) ?_
          refine lv_iconst (v := 1) hx hb d_L_law_424 (by decide) ?_
          refine lv_iadd hx hb d_L_law_425 ?_
          obtain ⟨y183, h184, e185, hf⟩ := gLx_e hf
          refine va_sld hx hb hX hbl hbA hS h184 d_L_law_426 ?_
          rw [← e185]
          refine lv_aload_n hx hb d_L_law_427 rfl (lv_at hl 0 rfl) ?_
          refine lv_iload_n hx hb d_L_law_428 rfl (lv_at hl 3 rfl) ?_
          refine lv_iconst (v := 2) hx hb d_L_law_429 (by decide) ?_
          refine lv_iadd hx hb d_L_law_430 ?_
          obtain ⟨y186, h187, e188, hf⟩ := gLx_e hf
          refine va_sld hx hb hX hbl hbA hS h187 d_L_law_431 ?_
          rw [← e188]
          obtain ⟨y189, τ190, e191, hf⟩ := gBd_e hf
          refine g_goi (va_runV ⟨hx, hb, hml, hown, hts⟩ (m_M_alike e191) (cwV 2 hts (gG4 (fun _ h => h) tb_627 tb_628 tb_629 tb_392 tc_M_alike) rfl rfl rfl (by decide +kernel) ⟨Nat.le_of_ble_eq_true rfl, Nat.le_of_ble_eq_true rfl⟩) (g_preV (q0 := 38) hE hK hP hD hS hA ((List.range 26).map (fun i => 38 + i)) lwm (by decide +kernel) lw0m rfl) rfl rfl hl.1 rfl (lv_room (Nat.le_of_ble_eq_true rfl)) d_L_law_432 ⟨Nat.le_of_ble_eq_true rfl, Nat.le_of_ble_eq_true rfl⟩) hP hD hS hA ((List.range 26).map (fun i => 38 + i)) lwm (fun _ => lwmf) (fun _ => rfl) (fun y189 _ H locs hu hP hD hS => ?_)
          subst hu
          rw [lwms] at hP hD
          refine lv_icmp_eq (tgt := 678) hx hb d_L_law_435 rfl (fun c192 => ?_) (fun c192 => ?_)
          · skip
            rw [if_pos c192] at hf
            exact ih2 (x3) σ181 τ190 _ _ _ hf hP hD hS (lv_sub hl [0, 1, 2, 3] rfl)
          rw [if_neg c192] at hf
          refine lv_iconst (v := 0) hx hb d_L_law_438 (by decide) ?_
          exact absurd hf (by decide)
        rw [if_neg c173] at hf
        by_cases c193 : (y2 &&& 31) = 10
        · skip
          rw [if_pos c193] at hf
          refine lv_tableIn (tgt := 440) hx hb d_L_law_32 (by rw [c193]; decide) (by rw [c193]; decide) (by rw [c193]; rfl) rfl ?_
          refine lv_aload_n hx hb d_L_law_440 rfl (lv_at hl 1 rfl) ?_
          refine lv_aload_n hx hb d_L_law_441 rfl (lv_at hl 0 rfl) ?_
          refine lv_iload_n hx hb d_L_law_442 rfl (lv_at hl 3 rfl) ?_
          refine lv_iconst (v := 1) hx hb d_L_law_443 (by decide) ?_
          refine lv_iadd hx hb d_L_law_444 ?_
          obtain ⟨y194, h195, e196, hf⟩ := gLx_e hf
          refine va_sld hx hb hX hbl hbA hS h195 d_L_law_445 ?_
          rw [← e196]
          obtain ⟨y197, σ198, e199, hf⟩ := gBd_e hf
          refine g_goi (va_runV ⟨hx, hb, hml, hown, hts⟩ (m_O_shared e199) (cwV 1 hts (gG4 (fun _ h => h) tb_630 tb_631 tb_632 tb_39 tc_O_shared) rfl rfl rfl (by decide +kernel) ⟨Nat.le_of_ble_eq_true rfl, Nat.le_of_ble_eq_true rfl⟩) (g_preV (q0 := 0) hE hK hP hD hS hA ((List.range 38).map (fun i => 0 + i)) lwc (by decide +kernel) lw0c rfl) rfl rfl hl.1 rfl (lv_room (Nat.le_of_ble_eq_true rfl)) d_L_law_446 ⟨Nat.le_of_ble_eq_true rfl, Nat.le_of_ble_eq_true rfl⟩) hP hD hS hA ((List.range 38).map (fun i => 0 + i)) lwc (fun _ => lwcf) (fun _ => rfl) (fun y197 _ H locs hu hP hD hS => ?_)
          subst hu
          rw [lwcs] at hP hD
          refine lv_aload_n hx hb d_L_law_449 rfl (lv_at hl 2 rfl) ?_
          refine lv_aload_n hx hb d_L_law_450 rfl (lv_at hl 0 rfl) ?_
          refine lv_iload_n hx hb d_L_law_451 rfl (lv_at hl 3 rfl) ?_
          refine lv_iconst (v := 1) hx hb d_L_law_452 (by decide) ?_
          refine lv_iadd hx hb d_L_law_453 ?_
          obtain ⟨y200, h201, e202, hf⟩ := gLx_e hf
          refine va_sld hx hb hX hbl hbA hS h201 d_L_law_454 ?_
          rw [← e202]
          obtain ⟨y203, τ204, e205, hf⟩ := gBd_e hf
          refine g_goi (va_runV ⟨hx, hb, hml, hown, hts⟩ (m_M_shared e205) (cwV 1 hts (gG4 (fun _ h => h) tb_633 tb_634 tb_635 tb_392 tc_M_shared) rfl rfl rfl (by decide +kernel) ⟨Nat.le_of_ble_eq_true rfl, Nat.le_of_ble_eq_true rfl⟩) (g_preV (q0 := 38) hE hK hP hD hS hA ((List.range 26).map (fun i => 38 + i)) lwm (by decide +kernel) lw0m rfl) rfl rfl hl.1 rfl (lv_room (Nat.le_of_ble_eq_true rfl)) d_L_law_455 ⟨Nat.le_of_ble_eq_true rfl, Nat.le_of_ble_eq_true rfl⟩) hP hD hS hA ((List.range 26).map (fun i => 38 + i)) lwm (fun _ => lwmf) (fun _ => rfl) (fun y203 _ H locs hu hP hD hS => ?_)
          subst hu
          rw [lwms] at hP hD
          refine lv_icmp_eq (tgt := 678) hx hb d_L_law_458 rfl (fun c206 => ?_) (fun c206 => ?_)
          · skip
            rw [if_pos c206] at hf
            exact ih2 (x3) σ198 τ204 _ _ _ hf hP hD hS (lv_sub hl [0, 1, 2, 3] rfl)
          rw [if_neg c206] at hf
          refine lv_iconst (v := 0) hx hb d_L_law_461 (by decide) ?_
          exact absurd hf (by decide)
        rw [if_neg c193] at hf
        by_cases c207 : (y2 &&& 31) = 11
        · skip
          rw [if_pos c207] at hf
          refine lv_tableIn (tgt := 463) hx hb d_L_law_32 (by rw [c207]; decide) (by rw [c207]; decide) (by rw [c207]; rfl) rfl ?_
          refine lv_aload_n hx hb d_L_law_463 rfl (lv_at hl 1 rfl) ?_
          refine lv_aload_n hx hb d_L_law_464 rfl (lv_at hl 0 rfl) ?_
          refine lv_iload_n hx hb d_L_law_465 rfl (lv_at hl 3 rfl) ?_
          refine lv_iconst (v := 1) hx hb d_L_law_466 (by decide) ?_
          refine lv_iadd hx hb d_L_law_467 ?_
          obtain ⟨y208, h209, e210, hf⟩ := gLx_e hf
          refine va_sld hx hb hX hbl hbA hS h209 d_L_law_468 ?_
          rw [← e210]
          obtain ⟨y211, σ212, e213, hf⟩ := gBd_e hf
          refine g_goi (va_runV ⟨hx, hb, hml, hown, hts⟩ (m_O_encode e213) (cwV 1 hts (gG4 (fun _ h => h) tb_636 tb_637 tb_638 tb_39 tc_O_encode) rfl rfl rfl (by decide +kernel) ⟨Nat.le_of_ble_eq_true rfl, Nat.le_of_ble_eq_true rfl⟩) (g_preV (q0 := 0) hE hK hP hD hS hA ((List.range 38).map (fun i => 0 + i)) lwc (by decide +kernel) lw0c rfl) rfl rfl hl.1 rfl (lv_room (Nat.le_of_ble_eq_true rfl)) d_L_law_469 ⟨Nat.le_of_ble_eq_true rfl, Nat.le_of_ble_eq_true rfl⟩) hP hD hS hA ((List.range 38).map (fun i => 0 + i)) lwc (fun _ => lwcf) (fun _ => rfl) (fun y211 _ H locs hu hP hD hS => ?_)
          subst hu
          rw [lwcs] at hP hD
          refine lv_aload_n hx hb d_L_law_472 rfl (lv_at hl 2 rfl) ?_
          refine lv_aload_n hx hb d_L_law_473 rfl (lv_at hl 0 rfl) ?_
          refine lv_iload_n hx hb d_L_law_474 rfl (lv_at hl 3 rfl) ?_
          refine lv_iconst (v := 1) hx hb d_L_law_475 (by decide) ?_
          refine lv_iadd hx hb d_L_law_476 ?_
          obtain ⟨y214, h215, e216, hf⟩ := gLx_e hf
          refine va_sld hx hb hX hbl hbA hS h215 d_L_law_477 ?_
          rw [← e216]
          obtain ⟨y217, τ218, e219, hf⟩ := gBd_e hf
          refine g_goi (va_runV ⟨hx, hb, hml, hown, hts⟩ (m_M_encode e219) (cwV 1 hts (gG4 (fun _ h => h) tb_639 tb_640 tb_641 tb_392 tc_M_encode) rfl rfl rfl (by decide +kernel) ⟨Nat.le_of_ble_eq_true rfl, Nat.le_of_ble_eq_true rfl⟩) (g_preV (q0 := 38) hE hK hP hD hS hA ((List.range 26).map (fun i => 38 + i)) lwm (by decide +kernel) lw0m rfl) rfl rfl hl.1 rfl (lv_room (Nat.le_of_ble_eq_true rfl)) d_L_law_478 ⟨Nat.le_of_ble_eq_true rfl, Nat.le_of_ble_eq_true rfl⟩) hP hD hS hA ((List.range 26).map (fun i => 38 + i)) lwm (fun _ => lwmf) (fun _ => rfl) (fun y217 _ H locs hu hP hD hS => ?_)
          subst hu
          rw [lwms] at hP hD
          refine lv_icmp_eq (tgt := 678) hx hb d_L_law_481 rfl (fun c220 => ?_) (fun c220 => ?_)
          · skip
            rw [if_pos c220] at hf
            exact ih2 (x3) σ212 τ218 _ _ _ hf hP hD hS (lv_sub hl [0, 1, 2, 3] rfl)
          rw [if_neg c220] at hf
          refine lv_iconst (v := 0) hx hb d_L_law_484 (by decide) ?_
          exact absurd hf (by decide)
        rw [if_neg c207] at hf
        by_cases c221 : (y2 &&& 31) = 12
        · skip
          rw [if_pos c221] at hf
          refine lv_tableIn (tgt := 486) hx hb d_L_law_32 (by rw [c221]; decide) (by rw [c221]; decide) (by rw [c221]; rfl) rfl ?_
          refine lv_aload_n hx hb d_L_law_486 rfl (lv_at hl 1 rfl) ?_
          obtain ⟨y222, σ223, e224, hf⟩ := gBd_e hf
          refine g_goi (va_runV ⟨hx, hb, hml, hown, hts⟩ (m_O_decode e224) (cwV 0 hts (gG4 (fun _ h => h) tb_642 tb_643 tb_644 tb_39 tc_O_decode) rfl rfl rfl (by decide +kernel) ⟨Nat.le_of_ble_eq_true rfl, Nat.le_of_ble_eq_true rfl⟩) (g_preV (q0 := 0) hE hK hP hD hS hA ((List.range 38).map (fun i => 0 + i)) lwc (by decide +kernel) lw0c rfl) rfl rfl hl.1 rfl (lv_room (Nat.le_of_ble_eq_true rfl)) d_L_law_487 ⟨Nat.le_of_ble_eq_true rfl, Nat.le_of_ble_eq_true rfl⟩) hP hD hS hA ((List.range 38).map (fun i => 0 + i)) lwc (fun _ => lwcf) (fun _ => rfl) (fun y222 _ H locs hu hP hD hS => ?_)
          subst hu
          rw [lwcs] at hP hD
          refine lv_aload_n hx hb d_L_law_490 rfl (lv_at hl 2 rfl) ?_
          obtain ⟨y225, τ226, e227, hf⟩ := gBd_e hf
          refine g_goi (va_runV ⟨hx, hb, hml, hown, hts⟩ (m_M_decode e227) (cwV 0 hts (gG4 (fun _ h => h) tb_645 tb_646 tb_647 tb_392 tc_M_decode) rfl rfl rfl (by decide +kernel) ⟨Nat.le_of_ble_eq_true rfl, Nat.le_of_ble_eq_true rfl⟩) (g_preV (q0 := 38) hE hK hP hD hS hA ((List.range 26).map (fun i => 38 + i)) lwm (by decide +kernel) lw0m rfl) rfl rfl hl.1 rfl (lv_room (Nat.le_of_ble_eq_true rfl)) d_L_law_491 ⟨Nat.le_of_ble_eq_true rfl, Nat.le_of_ble_eq_true rfl⟩) hP hD hS hA ((List.range 26).map (fun i => 38 + i)) lwm (fun _ => lwmf) (fun _ => rfl) (fun y225 _ H locs hu hP hD hS => ?_)
          subst hu
          rw [lwms] at hP hD
          refine lv_icmp_eq (tgt := 678) hx hb d_L_law_494 rfl (fun c228 => ?_) (fun c228 => ?_)
          · skip
            rw [if_pos c228] at hf
            exact ih2 (x3) σ223 τ226 _ _ _ hf hP hD hS (lv_sub hl [0, 1, 2, 3] rfl)
          rw [if_neg c228] at hf
          refine lv_iconst (v := 0) hx hb d_L_law_497 (by decide) ?_
          exact absurd hf (by decide)
        rw [if_neg c221] at hf
        by_cases c229 : (y2 &&& 31) = 13
        · skip
          rw [if_pos c229] at hf
          refine lv_tableIn (tgt := 499) hx hb d_L_law_32 (by rw [c229]; decide) (by rw [c229]; decide) (by rw [c229]; rfl) rfl ?_
          refine lv_aload_n hx hb d_L_law_499 rfl (lv_at hl 1 rfl) ?_
          obtain ⟨y230, σ231, e232, hf⟩ := gBd_e hf
          refine g_gov (va_runV ⟨hx, hb, hml, hown, hts⟩ (m_O_clear e232) (cwV 0 hts (gG4 (fun _ h => h) tb_648 tb_649 tb_650 tb_39 tc_O_clear) rfl rfl rfl (by decide +kernel) ⟨Nat.le_of_ble_eq_true rfl, Nat.le_of_ble_eq_true rfl⟩) (g_preV (q0 := 0) hE hK hP hD hS hA ((List.range 38).map (fun i => 0 + i)) lwc (by decide +kernel) lw0c rfl) rfl rfl hl.1 rfl (lv_room (Nat.le_of_ble_eq_true rfl)) d_L_law_500 ⟨Nat.le_of_ble_eq_true rfl, Nat.le_of_ble_eq_true rfl⟩) hP hD hS hA ((List.range 38).map (fun i => 0 + i)) lwc (fun _ => lwcf) (fun _ => rfl) (fun _ H locs _ hP hD hS => ?_)
          rw [lwcs] at hP hD
          refine lv_aload_n hx hb d_L_law_503 rfl (lv_at hl 2 rfl) ?_
          obtain ⟨y233, τ234, e235, hf⟩ := gBd_e hf
          refine g_gov (va_runV ⟨hx, hb, hml, hown, hts⟩ (m_M_clear e235) (cwV 0 hts (gG4 (fun _ h => h) tb_651 tb_652 tb_653 tb_392 tc_M_clear) rfl rfl rfl (by decide +kernel) ⟨Nat.le_of_ble_eq_true rfl, Nat.le_of_ble_eq_true rfl⟩) (g_preV (q0 := 38) hE hK hP hD hS hA ((List.range 26).map (fun i => 38 + i)) lwm (by decide +kernel) lw0m rfl) rfl rfl hl.1 rfl (lv_room (Nat.le_of_ble_eq_true rfl)) d_L_law_504 ⟨Nat.le_of_ble_eq_true rfl, Nat.le_of_ble_eq_true rfl⟩) hP hD hS hA ((List.range 26).map (fun i => 38 + i)) lwm (fun _ => lwmf) (fun _ => rfl) (fun _ H locs _ hP hD hS => ?_)
          rw [lwms] at hP hD
          refine lv_goto (tgt := 678) hx hb d_L_law_507 rfl ?_
          exact ih2 (x3) σ231 τ234 _ _ _ hf hP hD hS (lv_sub hl [0, 1, 2, 3] rfl)
        rw [if_neg c229] at hf
        by_cases c236 : (y2 &&& 31) = 14
        · skip
          rw [if_pos c236] at hf
          refine lv_tableIn (tgt := 510) hx hb d_L_law_32 (by rw [c236]; decide) (by rw [c236]; decide) (by rw [c236]; rfl) rfl ?_
          refine lv_aload_n hx hb d_L_law_510 rfl (lv_at hl 1 rfl) ?_
          refine lv_aload_n hx hb d_L_law_511 rfl (lv_at hl 0 rfl) ?_
          refine lv_iload_n hx hb d_L_law_512 rfl (lv_at hl 3 rfl) ?_
          refine lv_iconst (v := 1) hx hb d_L_law_513 (by decide) ?_
          refine lv_iadd hx hb d_L_law_514 ?_
          obtain ⟨y237, h238, e239, hf⟩ := gLx_e hf
          refine va_sld hx hb hX hbl hbA hS h238 d_L_law_515 ?_
          rw [← e239]
          refine lv_aload_n hx hb d_L_law_516 rfl (lv_at hl 0 rfl) ?_
          refine lv_iload_n hx hb d_L_law_517 rfl (lv_at hl 3 rfl) ?_
          refine lv_iconst (v := 2) hx hb d_L_law_518 (by decide) ?_
          refine lv_iadd hx hb d_L_law_519 ?_
          obtain ⟨y240, h241, e242, hf⟩ := gLx_e hf
          refine va_sld hx hb hX hbl hbA hS h241 d_L_law_520 ?_
          rw [← e242]
          refine lv_if_eq (tgt := 528) hx hb d_L_law_521 rfl (fun c243 => ?_) (fun c243 => ?_)
          · skip
            rw [if_pos c243] at hf
            refine lv_iconst (v := 0) hx hb d_L_law_528 (by decide) ?_
            obtain ⟨y244, σ245, e246, hf⟩ := gBd_e hf
            refine g_goi (va_runV ⟨hx, hb, hml, hown, hts⟩ (m_O_understand e246) (cwV 2 hts (gG4 (fun _ h => h) tb_654 tb_655 tb_656 tb_39 tc_O_understand) rfl rfl rfl (by decide +kernel) ⟨Nat.le_of_ble_eq_true rfl, Nat.le_of_ble_eq_true rfl⟩) (g_preV (q0 := 0) hE hK hP hD hS hA ((List.range 38).map (fun i => 0 + i)) lwc (by decide +kernel) lw0c rfl) rfl rfl hl.1 rfl (lv_room (Nat.le_of_ble_eq_true rfl)) d_L_law_529 ⟨Nat.le_of_ble_eq_true rfl, Nat.le_of_ble_eq_true rfl⟩) hP hD hS hA ((List.range 38).map (fun i => 0 + i)) lwc (fun _ => lwcf) (fun _ => rfl) (fun y244 _ H locs hu hP hD hS => ?_)
            subst hu
            rw [lwcs] at hP hD
            refine lv_aload_n hx hb d_L_law_532 rfl (lv_at hl 2 rfl) ?_
            refine lv_aload_n hx hb d_L_law_533 rfl (lv_at hl 0 rfl) ?_
            refine lv_iload_n hx hb d_L_law_534 rfl (lv_at hl 3 rfl) ?_
            refine lv_iconst (v := 1) hx hb d_L_law_535 (by decide) ?_
            refine lv_iadd hx hb d_L_law_536 ?_
            obtain ⟨y247, h248, e249, hf⟩ := gLx_e hf
            refine va_sld hx hb hX hbl hbA hS h248 d_L_law_537 ?_
            rw [← e249]
            refine lv_aload_n hx hb d_L_law_538 rfl (lv_at hl 0 rfl) ?_
            refine lv_iload_n hx hb d_L_law_539 rfl (lv_at hl 3 rfl) ?_
            refine lv_iconst (v := 2) hx hb d_L_law_540 (by decide) ?_
            refine lv_iadd hx hb d_L_law_541 ?_
            obtain ⟨y250, h251, e252, hf⟩ := gLx_e hf
            refine va_sld hx hb hX hbl hbA hS h251 d_L_law_542 ?_
            rw [← e252]
            refine lv_if_eq (tgt := 550) hx hb d_L_law_543 rfl (fun c253 => ?_) (fun c253 => ?_)
            · skip
              rw [if_pos c253] at hf
              refine lv_iconst (v := 0) hx hb d_L_law_550 (by decide) ?_
              obtain ⟨y254, τ255, e256, hf⟩ := gBd_e hf
              refine g_goi (va_runV ⟨hx, hb, hml, hown, hts⟩ (m_M_understand e256) (cwV 2 hts (gG4 (fun _ h => h) tb_657 tb_658 tb_659 tb_392 tc_M_understand) rfl rfl rfl (by decide +kernel) ⟨Nat.le_of_ble_eq_true rfl, Nat.le_of_ble_eq_true rfl⟩) (g_preV (q0 := 38) hE hK hP hD hS hA ((List.range 26).map (fun i => 38 + i)) lwm (by decide +kernel) lw0m rfl) rfl rfl hl.1 rfl (lv_room (Nat.le_of_ble_eq_true rfl)) d_L_law_551 ⟨Nat.le_of_ble_eq_true rfl, Nat.le_of_ble_eq_true rfl⟩) hP hD hS hA ((List.range 26).map (fun i => 38 + i)) lwm (fun _ => lwmf) (fun _ => rfl) (fun y254 _ H locs hu hP hD hS => ?_)
              subst hu
              rw [lwms] at hP hD
              refine lv_icmp_eq (tgt := 678) hx hb d_L_law_554 rfl (fun c257 => ?_) (fun c257 => ?_)
              · skip
                rw [if_pos c257] at hf
                exact ih2 (x3) σ245 τ255 _ _ _ hf hP hD hS (lv_sub hl [0, 1, 2, 3] rfl)
              rw [if_neg c257] at hf
              refine lv_iconst (v := 0) hx hb d_L_law_557 (by decide) ?_
              exact absurd hf (by decide)
            rw [if_neg c253] at hf
            refine lv_iconst (v := 1) hx hb d_L_law_546 (by decide) ?_
            refine lv_goto (tgt := 551) hx hb d_L_law_547 rfl ?_
            obtain ⟨y258, τ259, e260, hf⟩ := gBd_e hf
            refine g_goi (va_runV ⟨hx, hb, hml, hown, hts⟩ (m_M_understand e260) (cwV 2 hts (gG4 (fun _ h => h) tb_657 tb_658 tb_659 tb_392 tc_M_understand) rfl rfl rfl (by decide +kernel) ⟨Nat.le_of_ble_eq_true rfl, Nat.le_of_ble_eq_true rfl⟩) (g_preV (q0 := 38) hE hK hP hD hS hA ((List.range 26).map (fun i => 38 + i)) lwm (by decide +kernel) lw0m rfl) rfl rfl hl.1 rfl (lv_room (Nat.le_of_ble_eq_true rfl)) d_L_law_551 ⟨Nat.le_of_ble_eq_true rfl, Nat.le_of_ble_eq_true rfl⟩) hP hD hS hA ((List.range 26).map (fun i => 38 + i)) lwm (fun _ => lwmf) (fun _ => rfl) (fun y258 _ H locs hu hP hD hS => ?_)
            subst hu
            rw [lwms] at hP hD
            refine lv_icmp_eq (tgt := 678) hx hb d_L_law_554 rfl (fun c261 => ?_) (fun c261 => ?_)
            · skip
              rw [if_pos c261] at hf
              exact ih2 (x3) σ245 τ259 _ _ _ hf hP hD hS (lv_sub hl [0, 1, 2, 3] rfl)
            rw [if_neg c261] at hf
            refine lv_iconst (v := 0) hx hb d_L_law_557 (by decide) ?_
            exact absurd hf (by decide)
          rw [if_neg c243] at hf
          refine lv_iconst (v := 1) hx hb d_L_law_524 (by decide) ?_
          refine lv_goto (tgt := 529) hx hb d_L_law_525 rfl ?_
          obtain ⟨y262, σ263, e264, hf⟩ := gBd_e hf
          refine g_goi (va_runV ⟨hx, hb, hml, hown, hts⟩ (m_O_understand e264) (cwV 2 hts (gG4 (fun _ h => h) tb_654 tb_655 tb_656 tb_39 tc_O_understand) rfl rfl rfl (by decide +kernel) ⟨Nat.le_of_ble_eq_true rfl, Nat.le_of_ble_eq_true rfl⟩) (g_preV (q0 := 0) hE hK hP hD hS hA ((List.range 38).map (fun i => 0 + i)) lwc (by decide +kernel) lw0c rfl) rfl rfl hl.1 rfl (lv_room (Nat.le_of_ble_eq_true rfl)) d_L_law_529 ⟨Nat.le_of_ble_eq_true rfl, Nat.le_of_ble_eq_true rfl⟩) hP hD hS hA ((List.range 38).map (fun i => 0 + i)) lwc (fun _ => lwcf) (fun _ => rfl) (fun y262 _ H locs hu hP hD hS => ?_)
          subst hu
          rw [lwcs] at hP hD
          refine lv_aload_n hx hb d_L_law_532 rfl (lv_at hl 2 rfl) ?_
          refine lv_aload_n hx hb d_L_law_533 rfl (lv_at hl 0 rfl) ?_
          refine lv_iload_n hx hb d_L_law_534 rfl (lv_at hl 3 rfl) ?_
          refine lv_iconst (v := 1) hx hb d_L_law_535 (by decide) ?_
          refine lv_iadd hx hb d_L_law_536 ?_
          obtain ⟨y265, h266, e267, hf⟩ := gLx_e hf
          refine va_sld hx hb hX hbl hbA hS h266 d_L_law_537 ?_
          rw [← e267]
          refine lv_aload_n hx hb d_L_law_538 rfl (lv_at hl 0 rfl) ?_
          refine lv_iload_n hx hb d_L_law_539 rfl (lv_at hl 3 rfl) ?_
          refine lv_iconst (v := 2) hx hb d_L_law_540 (by decide) ?_
          refine lv_iadd hx hb d_L_law_541 ?_
          obtain ⟨y268, h269, e270, hf⟩ := gLx_e hf
          refine va_sld hx hb hX hbl hbA hS h269 d_L_law_542 ?_
          rw [← e270]
          refine lv_if_eq (tgt := 550) hx hb d_L_law_543 rfl (fun c271 => ?_) (fun c271 => ?_)
          · skip
            rw [if_pos c271] at hf
            refine lv_iconst (v := 0) hx hb d_L_law_550 (by decide) ?_
            obtain ⟨y272, τ273, e274, hf⟩ := gBd_e hf
            refine g_goi (va_runV ⟨hx, hb, hml, hown, hts⟩ (m_M_understand e274) (cwV 2 hts (gG4 (fun _ h => h) tb_657 tb_658 tb_659 tb_392 tc_M_understand) rfl rfl rfl (by decide +kernel) ⟨Nat.le_of_ble_eq_true rfl, Nat.le_of_ble_eq_true rfl⟩) (g_preV (q0 := 38) hE hK hP hD hS hA ((List.range 26).map (fun i => 38 + i)) lwm (by decide +kernel) lw0m rfl) rfl rfl hl.1 rfl (lv_room (Nat.le_of_ble_eq_true rfl)) d_L_law_551 ⟨Nat.le_of_ble_eq_true rfl, Nat.le_of_ble_eq_true rfl⟩) hP hD hS hA ((List.range 26).map (fun i => 38 + i)) lwm (fun _ => lwmf) (fun _ => rfl) (fun y272 _ H locs hu hP hD hS => ?_)
            subst hu
            rw [lwms] at hP hD
            refine lv_icmp_eq (tgt := 678) hx hb d_L_law_554 rfl (fun c275 => ?_) (fun c275 => ?_)
            · skip
              rw [if_pos c275] at hf
              exact ih2 (x3) σ263 τ273 _ _ _ hf hP hD hS (lv_sub hl [0, 1, 2, 3] rfl)
            rw [if_neg c275] at hf
            refine lv_iconst (v := 0) hx hb d_L_law_557 (by decide) ?_
            exact absurd hf (by decide)
          rw [if_neg c271] at hf
          refine lv_iconst (v := 1) hx hb d_L_law_546 (by decide) ?_
          refine lv_goto (tgt := 551) hx hb d_L_law_547 rfl ?_
          obtain ⟨y276, τ277, e278, hf⟩ := gBd_e hf
          refine g_goi (va_runV ⟨hx, hb, hml, hown, hts⟩ (m_M_understand e278) (cwV 2 hts (gG4 (fun _ h => h) tb_657 tb_658 tb_659 tb_392 tc_M_understand) rfl rfl rfl (by decide +kernel) ⟨Nat.le_of_ble_eq_true rfl, Nat.le_of_ble_eq_true rfl⟩) (g_preV (q0 := 38) hE hK hP hD hS hA ((List.range 26).map (fun i => 38 + i)) lwm (by decide +kernel) lw0m rfl) rfl rfl hl.1 rfl (lv_room (Nat.le_of_ble_eq_true rfl)) d_L_law_551 ⟨Nat.le_of_ble_eq_true rfl, Nat.le_of_ble_eq_true rfl⟩) hP hD hS hA ((List.range 26).map (fun i => 38 + i)) lwm (fun _ => lwmf) (fun _ => rfl) (fun y276 _ H locs hu hP hD hS => ?_)
          subst hu
          rw [lwms] at hP hD
          refine lv_icmp_eq (tgt := 678) hx hb d_L_law_554 rfl (fun c279 => ?_) (fun c279 => ?_)
          · skip
            rw [if_pos c279] at hf
            exact ih2 (x3) σ263 τ277 _ _ _ hf hP hD hS (lv_sub hl [0, 1, 2, 3] rfl)
          rw [if_neg c279] at hf
          refine lv_iconst (v := 0) hx hb d_L_law_557 (by decide) ?_
          exact absurd hf (by decide)
        rw [if_neg c236] at hf
        by_cases c280 : (y2 &&& 31) = 15
        · skip
          rw [if_pos c280] at hf
          refine lv_tableIn (tgt := 559) hx hb d_L_law_32 (by rw [c280]; decide) (by rw [c280]; decide) (by rw [c280]; rfl) rfl ?_
          refine lv_aload_n hx hb d_L_law_559 rfl (lv_at hl 1 rfl) ?_
          obtain ⟨y281, σ282, e283, hf⟩ := gBd_e hf
          refine g_goi (va_runV ⟨hx, hb, hml, hown, hts⟩ (m_O_length e283) (cwV 0 hts (gG4 (fun _ h => h) tb_660 tb_661 tb_662 tb_39 tc_O_length) rfl rfl rfl (by decide +kernel) ⟨Nat.le_of_ble_eq_true rfl, Nat.le_of_ble_eq_true rfl⟩) (g_preV (q0 := 0) hE hK hP hD hS hA ((List.range 38).map (fun i => 0 + i)) lwc (by decide +kernel) lw0c rfl) rfl rfl hl.1 rfl (lv_room (Nat.le_of_ble_eq_true rfl)) d_L_law_560 ⟨Nat.le_of_ble_eq_true rfl, Nat.le_of_ble_eq_true rfl⟩) hP hD hS hA ((List.range 38).map (fun i => 0 + i)) lwc (fun _ => lwcf) (fun _ => rfl) (fun y281 _ H locs hu hP hD hS => ?_)
          subst hu
          rw [lwcs] at hP hD
          refine lv_aload_n hx hb d_L_law_563 rfl (lv_at hl 2 rfl) ?_
          obtain ⟨y284, τ285, e286, hf⟩ := gBd_e hf
          refine g_goi (va_runV ⟨hx, hb, hml, hown, hts⟩ (m_M_length e286) (cwV 0 hts (gG4 (fun _ h => h) tb_663 tb_664 tb_665 tb_392 tc_M_length) rfl rfl rfl (by decide +kernel) ⟨Nat.le_of_ble_eq_true rfl, Nat.le_of_ble_eq_true rfl⟩) (g_preV (q0 := 38) hE hK hP hD hS hA ((List.range 26).map (fun i => 38 + i)) lwm (by decide +kernel) lw0m rfl) rfl rfl hl.1 rfl (lv_room (Nat.le_of_ble_eq_true rfl)) d_L_law_564 ⟨Nat.le_of_ble_eq_true rfl, Nat.le_of_ble_eq_true rfl⟩) hP hD hS hA ((List.range 26).map (fun i => 38 + i)) lwm (fun _ => lwmf) (fun _ => rfl) (fun y284 _ H locs hu hP hD hS => ?_)
          subst hu
          rw [lwms] at hP hD
          refine lv_icmp_eq (tgt := 678) hx hb d_L_law_567 rfl (fun c287 => ?_) (fun c287 => ?_)
          · skip
            rw [if_pos c287] at hf
            exact ih2 (x3) σ282 τ285 _ _ _ hf hP hD hS (lv_sub hl [0, 1, 2, 3] rfl)
          rw [if_neg c287] at hf
          refine lv_iconst (v := 0) hx hb d_L_law_570 (by decide) ?_
          exact absurd hf (by decide)
        rw [if_neg c280] at hf
        by_cases c288 : (y2 &&& 31) = 16
        · skip
          rw [if_pos c288] at hf
          refine lv_tableIn (tgt := 572) hx hb d_L_law_32 (by rw [c288]; decide) (by rw [c288]; decide) (by rw [c288]; rfl) rfl ?_
          refine lv_aload_n hx hb d_L_law_572 rfl (lv_at hl 1 rfl) ?_
          refine lv_aload_n hx hb d_L_law_573 rfl (lv_at hl 0 rfl) ?_
          refine lv_iload_n hx hb d_L_law_574 rfl (lv_at hl 3 rfl) ?_
          refine lv_iconst (v := 1) hx hb d_L_law_575 (by decide) ?_
          refine lv_iadd hx hb d_L_law_576 ?_
          obtain ⟨y289, h290, e291, hf⟩ := gLx_e hf
          refine va_sld hx hb hX hbl hbA hS h290 d_L_law_577 ?_
          rw [← e291]
          obtain ⟨y292, σ293, e294, hf⟩ := gBd_e hf
          refine g_goi (va_runV ⟨hx, hb, hml, hown, hts⟩ (m_O_charAt e294) (cwV 1 hts (gG4 (fun _ h => h) tb_666 tb_667 tb_668 tb_39 tc_O_charAt) rfl rfl rfl (by decide +kernel) ⟨Nat.le_of_ble_eq_true rfl, Nat.le_of_ble_eq_true rfl⟩) (g_preV (q0 := 0) hE hK hP hD hS hA ((List.range 38).map (fun i => 0 + i)) lwc (by decide +kernel) lw0c rfl) rfl rfl hl.1 rfl (lv_room (Nat.le_of_ble_eq_true rfl)) d_L_law_578 ⟨Nat.le_of_ble_eq_true rfl, Nat.le_of_ble_eq_true rfl⟩) hP hD hS hA ((List.range 38).map (fun i => 0 + i)) lwc (fun _ => lwcf) (fun _ => rfl) (fun y292 _ H locs hu hP hD hS => ?_)
          subst hu
          rw [lwcs] at hP hD
          refine lv_aload_n hx hb d_L_law_581 rfl (lv_at hl 2 rfl) ?_
          refine lv_aload_n hx hb d_L_law_582 rfl (lv_at hl 0 rfl) ?_
          refine lv_iload_n hx hb d_L_law_583 rfl (lv_at hl 3 rfl) ?_
          refine lv_iconst (v := 1) hx hb d_L_law_584 (by decide) ?_
          refine lv_iadd hx hb d_L_law_585 ?_
          obtain ⟨y295, h296, e297, hf⟩ := gLx_e hf
          refine va_sld hx hb hX hbl hbA hS h296 d_L_law_586 ?_
          rw [← e297]
          obtain ⟨y298, τ299, e300, hf⟩ := gBd_e hf
          refine g_goi (va_runV ⟨hx, hb, hml, hown, hts⟩ (m_M_charAt e300) (cwV 1 hts (gG4 (fun _ h => h) tb_669 tb_670 tb_671 tb_392 tc_M_charAt) rfl rfl rfl (by decide +kernel) ⟨Nat.le_of_ble_eq_true rfl, Nat.le_of_ble_eq_true rfl⟩) (g_preV (q0 := 38) hE hK hP hD hS hA ((List.range 26).map (fun i => 38 + i)) lwm (by decide +kernel) lw0m rfl) rfl rfl hl.1 rfl (lv_room (Nat.le_of_ble_eq_true rfl)) d_L_law_587 ⟨Nat.le_of_ble_eq_true rfl, Nat.le_of_ble_eq_true rfl⟩) hP hD hS hA ((List.range 26).map (fun i => 38 + i)) lwm (fun _ => lwmf) (fun _ => rfl) (fun y298 _ H locs hu hP hD hS => ?_)
          subst hu
          rw [lwms] at hP hD
          refine lv_icmp_eq (tgt := 678) hx hb d_L_law_590 rfl (fun c301 => ?_) (fun c301 => ?_)
          · skip
            rw [if_pos c301] at hf
            exact ih2 (x3) σ293 τ299 _ _ _ hf hP hD hS (lv_sub hl [0, 1, 2, 3] rfl)
          rw [if_neg c301] at hf
          refine lv_iconst (v := 0) hx hb d_L_law_593 (by decide) ?_
          exact absurd hf (by decide)
        rw [if_neg c288] at hf
        by_cases c302 : (y2 &&& 31) = 17
        · skip
          rw [if_pos c302] at hf
          refine lv_tableIn (tgt := 595) hx hb d_L_law_32 (by rw [c302]; decide) (by rw [c302]; decide) (by rw [c302]; rfl) rfl ?_
          refine lv_aload_n hx hb d_L_law_595 rfl (lv_at hl 1 rfl) ?_
          refine lv_aload_n hx hb d_L_law_596 rfl (lv_at hl 0 rfl) ?_
          refine lv_iload_n hx hb d_L_law_597 rfl (lv_at hl 3 rfl) ?_
          refine lv_iconst (v := 1) hx hb d_L_law_598 (by decide) ?_
          refine lv_iadd hx hb d_L_law_599 ?_
          obtain ⟨y303, h304, e305, hf⟩ := gLx_e hf
          refine va_sld hx hb hX hbl hbA hS h304 d_L_law_600 ?_
          rw [← e305]
          refine lv_i2c hx hb d_L_law_601 rfl ?_
          obtain ⟨y306, σ307, e308, hf⟩ := gBd_e hf
          refine g_goi (va_runV ⟨hx, hb, hml, hown, hts⟩ (m_O_feed e308) (cwV 1 hts (gG4 (fun _ h => h) tb_672 tb_673 tb_674 tb_39 tc_O_feed) rfl rfl rfl (by decide +kernel) ⟨Nat.le_of_ble_eq_true rfl, Nat.le_of_ble_eq_true rfl⟩) (g_preV (q0 := 0) hE hK hP hD hS hA ((List.range 38).map (fun i => 0 + i)) lwc (by decide +kernel) lw0c rfl) rfl rfl hl.1 rfl (lv_room (Nat.le_of_ble_eq_true rfl)) d_L_law_602 ⟨Nat.le_of_ble_eq_true rfl, Nat.le_of_ble_eq_true rfl⟩) hP hD hS hA ((List.range 38).map (fun i => 0 + i)) lwc (fun _ => lwcf) (fun _ => rfl) (fun y306 _ H locs hu hP hD hS => ?_)
          subst hu
          rw [lwcs] at hP hD
          refine lv_aload_n hx hb d_L_law_605 rfl (lv_at hl 2 rfl) ?_
          refine lv_aload_n hx hb d_L_law_606 rfl (lv_at hl 0 rfl) ?_
          refine lv_iload_n hx hb d_L_law_607 rfl (lv_at hl 3 rfl) ?_
          refine lv_iconst (v := 1) hx hb d_L_law_608 (by decide) ?_
          refine lv_iadd hx hb d_L_law_609 ?_
          obtain ⟨y309, h310, e311, hf⟩ := gLx_e hf
          refine va_sld hx hb hX hbl hbA hS h310 d_L_law_610 ?_
          rw [← e311]
          refine lv_i2c hx hb d_L_law_611 rfl ?_
          obtain ⟨y312, τ313, e314, hf⟩ := gBd_e hf
          refine g_goi (va_runV ⟨hx, hb, hml, hown, hts⟩ (m_M_feed e314) (cwV 1 hts (gG4 (fun _ h => h) tb_675 tb_676 tb_677 tb_392 tc_M_feed) rfl rfl rfl (by decide +kernel) ⟨Nat.le_of_ble_eq_true rfl, Nat.le_of_ble_eq_true rfl⟩) (g_preV (q0 := 38) hE hK hP hD hS hA ((List.range 26).map (fun i => 38 + i)) lwm (by decide +kernel) lw0m rfl) rfl rfl hl.1 rfl (lv_room (Nat.le_of_ble_eq_true rfl)) d_L_law_612 ⟨Nat.le_of_ble_eq_true rfl, Nat.le_of_ble_eq_true rfl⟩) hP hD hS hA ((List.range 26).map (fun i => 38 + i)) lwm (fun _ => lwmf) (fun _ => rfl) (fun y312 _ H locs hu hP hD hS => ?_)
          subst hu
          rw [lwms] at hP hD
          refine lv_icmp_eq (tgt := 678) hx hb d_L_law_615 rfl (fun c315 => ?_) (fun c315 => ?_)
          · skip
            rw [if_pos c315] at hf
            exact ih2 (x3) σ307 τ313 _ _ _ hf hP hD hS (lv_sub hl [0, 1, 2, 3] rfl)
          rw [if_neg c315] at hf
          refine lv_iconst (v := 0) hx hb d_L_law_618 (by decide) ?_
          exact absurd hf (by decide)
        rw [if_neg c302] at hf
        by_cases c316 : (y2 &&& 31) = 18
        · skip
          rw [if_pos c316] at hf
          refine lv_tableIn (tgt := 620) hx hb d_L_law_32 (by rw [c316]; decide) (by rw [c316]; decide) (by rw [c316]; rfl) rfl ?_
          refine lv_aload_n hx hb d_L_law_620 rfl (lv_at hl 1 rfl) ?_
          refine lv_aload_n hx hb d_L_law_621 rfl (lv_at hl 0 rfl) ?_
          refine lv_iload_n hx hb d_L_law_622 rfl (lv_at hl 3 rfl) ?_
          refine lv_iconst (v := 1) hx hb d_L_law_623 (by decide) ?_
          refine lv_iadd hx hb d_L_law_624 ?_
          obtain ⟨y317, h318, e319, hf⟩ := gLx_e hf
          refine va_sld hx hb hX hbl hbA hS h318 d_L_law_625 ?_
          rw [← e319]
          refine lv_aload_n hx hb d_L_law_626 rfl (lv_at hl 0 rfl) ?_
          refine lv_iload_n hx hb d_L_law_627 rfl (lv_at hl 3 rfl) ?_
          refine lv_iconst (v := 2) hx hb d_L_law_628 (by decide) ?_
          refine lv_iadd hx hb d_L_law_629 ?_
          obtain ⟨y320, h321, e322, hf⟩ := gLx_e hf
          refine va_sld hx hb hX hbl hbA hS h321 d_L_law_630 ?_
          rw [← e322]
          refine lv_i2c hx hb d_L_law_631 rfl ?_
          obtain ⟨y323, σ324, e325, hf⟩ := gBd_e hf
          refine g_goi (va_runV ⟨hx, hb, hml, hown, hts⟩ (m_O_alter e325) (cwV 2 hts (gG4 (fun _ h => h) tb_678 tb_679 tb_680 tb_39 tc_O_alter) rfl rfl rfl (by decide +kernel) ⟨Nat.le_of_ble_eq_true rfl, Nat.le_of_ble_eq_true rfl⟩) (g_preV (q0 := 0) hE hK hP hD hS hA ((List.range 38).map (fun i => 0 + i)) lwc (by decide +kernel) lw0c rfl) rfl rfl hl.1 rfl (lv_room (Nat.le_of_ble_eq_true rfl)) d_L_law_632 ⟨Nat.le_of_ble_eq_true rfl, Nat.le_of_ble_eq_true rfl⟩) hP hD hS hA ((List.range 38).map (fun i => 0 + i)) lwc (fun _ => lwcf) (fun _ => rfl) (fun y323 _ H locs hu hP hD hS => ?_)
          subst hu
          rw [lwcs] at hP hD
          refine lv_aload_n hx hb d_L_law_635 rfl (lv_at hl 2 rfl) ?_
          refine lv_aload_n hx hb d_L_law_636 rfl (lv_at hl 0 rfl) ?_
          refine lv_iload_n hx hb d_L_law_637 rfl (lv_at hl 3 rfl) ?_
          refine lv_iconst (v := 1) hx hb d_L_law_638 (by decide) ?_
          refine lv_iadd hx hb d_L_law_639 ?_
          obtain ⟨y326, h327, e328, hf⟩ := gLx_e hf
          refine va_sld hx hb hX hbl hbA hS h327 d_L_law_640 ?_
          rw [← e328]
          refine lv_aload_n hx hb d_L_law_641 rfl (lv_at hl 0 rfl) ?_
          refine lv_iload_n hx hb d_L_law_642 rfl (lv_at hl 3 rfl) ?_
          refine lv_iconst (v := 2) hx hb d_L_law_643 (by decide) ?_
          refine lv_iadd hx hb d_L_law_644 ?_
          obtain ⟨y329, h330, e331, hf⟩ := gLx_e hf
          refine va_sld hx hb hX hbl hbA hS h330 d_L_law_645 ?_
          rw [← e331]
          refine lv_i2c hx hb d_L_law_646 rfl ?_
          obtain ⟨y332, τ333, e334, hf⟩ := gBd_e hf
          refine g_goi (va_runV ⟨hx, hb, hml, hown, hts⟩ (m_M_alter e334) (cwV 2 hts (gG4 (fun _ h => h) tb_681 tb_682 tb_683 tb_392 tc_M_alter) rfl rfl rfl (by decide +kernel) ⟨Nat.le_of_ble_eq_true rfl, Nat.le_of_ble_eq_true rfl⟩) (g_preV (q0 := 38) hE hK hP hD hS hA ((List.range 26).map (fun i => 38 + i)) lwm (by decide +kernel) lw0m rfl) rfl rfl hl.1 rfl (lv_room (Nat.le_of_ble_eq_true rfl)) d_L_law_647 ⟨Nat.le_of_ble_eq_true rfl, Nat.le_of_ble_eq_true rfl⟩) hP hD hS hA ((List.range 26).map (fun i => 38 + i)) lwm (fun _ => lwmf) (fun _ => rfl) (fun y332 _ H locs hu hP hD hS => ?_)
          subst hu
          rw [lwms] at hP hD
          refine lv_icmp_eq (tgt := 678) hx hb d_L_law_650 rfl (fun c335 => ?_) (fun c335 => ?_)
          · skip
            rw [if_pos c335] at hf
            exact ih2 (x3) σ324 τ333 _ _ _ hf hP hD hS (lv_sub hl [0, 1, 2, 3] rfl)
          rw [if_neg c335] at hf
          refine lv_iconst (v := 0) hx hb d_L_law_653 (by decide) ?_
          exact absurd hf (by decide)
        rw [if_neg c316] at hf
        by_cases c336 : (y2 &&& 31) = 19
        · skip
          rw [if_pos c336] at hf
          refine lv_tableIn (tgt := 655) hx hb d_L_law_32 (by rw [c336]; decide) (by rw [c336]; decide) (by rw [c336]; rfl) rfl ?_
          refine lv_aload_n hx hb d_L_law_655 rfl (lv_at hl 1 rfl) ?_
          refine lv_aload_n hx hb d_L_law_656 rfl (lv_at hl 0 rfl) ?_
          refine lv_iload_n hx hb d_L_law_657 rfl (lv_at hl 3 rfl) ?_
          refine lv_iconst (v := 1) hx hb d_L_law_658 (by decide) ?_
          refine lv_iadd hx hb d_L_law_659 ?_
          obtain ⟨y337, h338, e339, hf⟩ := gLx_e hf
          refine va_sld hx hb hX hbl hbA hS h338 d_L_law_660 ?_
          rw [← e339]
          obtain ⟨y340, σ341, e342, hf⟩ := gBd_e hf
          refine g_goi (va_runV ⟨hx, hb, hml, hown, hts⟩ (m_O_cut e342) (cwV 1 hts (gG4 (fun _ h => h) tb_684 tb_685 tb_686 tb_39 tc_O_cut) rfl rfl rfl (by decide +kernel) ⟨Nat.le_of_ble_eq_true rfl, Nat.le_of_ble_eq_true rfl⟩) (g_preV (q0 := 0) hE hK hP hD hS hA ((List.range 38).map (fun i => 0 + i)) lwc (by decide +kernel) lw0c rfl) rfl rfl hl.1 rfl (lv_room (Nat.le_of_ble_eq_true rfl)) d_L_law_661 ⟨Nat.le_of_ble_eq_true rfl, Nat.le_of_ble_eq_true rfl⟩) hP hD hS hA ((List.range 38).map (fun i => 0 + i)) lwc (fun _ => lwcf) (fun _ => rfl) (fun y340 _ H locs hu hP hD hS => ?_)
          subst hu
          rw [lwcs] at hP hD
          refine lv_aload_n hx hb d_L_law_664 rfl (lv_at hl 2 rfl) ?_
          refine lv_aload_n hx hb d_L_law_665 rfl (lv_at hl 0 rfl) ?_
          refine lv_iload_n hx hb d_L_law_666 rfl (lv_at hl 3 rfl) ?_
          refine lv_iconst (v := 1) hx hb d_L_law_667 (by decide) ?_
          refine lv_iadd hx hb d_L_law_668 ?_
          obtain ⟨y343, h344, e345, hf⟩ := gLx_e hf
          refine va_sld hx hb hX hbl hbA hS h344 d_L_law_669 ?_
          rw [← e345]
          obtain ⟨y346, τ347, e348, hf⟩ := gBd_e hf
          refine g_goi (va_runV ⟨hx, hb, hml, hown, hts⟩ (m_M_cut e348) (cwV 1 hts (gG4 (fun _ h => h) tb_687 tb_688 tb_689 tb_392 tc_M_cut) rfl rfl rfl (by decide +kernel) ⟨Nat.le_of_ble_eq_true rfl, Nat.le_of_ble_eq_true rfl⟩) (g_preV (q0 := 38) hE hK hP hD hS hA ((List.range 26).map (fun i => 38 + i)) lwm (by decide +kernel) lw0m rfl) rfl rfl hl.1 rfl (lv_room (Nat.le_of_ble_eq_true rfl)) d_L_law_670 ⟨Nat.le_of_ble_eq_true rfl, Nat.le_of_ble_eq_true rfl⟩) hP hD hS hA ((List.range 26).map (fun i => 38 + i)) lwm (fun _ => lwmf) (fun _ => rfl) (fun y346 _ H locs hu hP hD hS => ?_)
          subst hu
          rw [lwms] at hP hD
          refine lv_icmp_eq (tgt := 678) hx hb d_L_law_673 rfl (fun c349 => ?_) (fun c349 => ?_)
          · skip
            rw [if_pos c349] at hf
            exact ih2 (x3) σ341 τ347 _ _ _ hf hP hD hS (lv_sub hl [0, 1, 2, 3] rfl)
          rw [if_neg c349] at hf
          refine lv_iconst (v := 0) hx hb d_L_law_676 (by decide) ?_
          exact absurd hf (by decide)
        rw [if_neg c336] at hf
        have hro := pk_andE y2 (m := 31) 5 (by decide)
        refine lv_tableOut (tgt := 678) hx hb d_L_law_32 (by
            obtain ⟨j, hj, ej⟩ := hro
            have zc5 := lv_neT (a := 0) c5 rfl
            have zc25 := lv_neT (a := 1) c25 rfl
            have zc45 := lv_neT (a := 2) c45 rfl
            have zc71 := lv_neT (a := 3) c71 rfl
            have zc97 := lv_neT (a := 4) c97 rfl
            have zc105 := lv_neT (a := 5) c105 rfl
            have zc119 := lv_neT (a := 6) c119 rfl
            have zc133 := lv_neT (a := 7) c133 rfl
            have zc153 := lv_neT (a := 8) c153 rfl
            have zc173 := lv_neT (a := 9) c173 rfl
            have zc193 := lv_neT (a := 10) c193 rfl
            have zc207 := lv_neT (a := 11) c207 rfl
            have zc221 := lv_neT (a := 12) c221 rfl
            have zc229 := lv_neT (a := 13) c229 rfl
            have zc236 := lv_neT (a := 14) c236 rfl
            have zc280 := lv_neT (a := 15) c280 rfl
            have zc288 := lv_neT (a := 16) c288 rfl
            have zc302 := lv_neT (a := 17) c302 rfl
            have zc316 := lv_neT (a := 18) c316 rfl
            have zc336 := lv_neT (a := 19) c336 rfl
            rw [ej, nI_toInt (by omega)] at *
            omega) rfl ?_
        exact ih2 (x3) σ0 τ0 _ _ _ hf hP hD hS (lv_sub hl [0, 1, 2, 3] rfl)
      · intro x3 σ0 τ0 H locs ls hf hP hD hS hl
        have hf : Bl_2 (Rl_ xs L t) x3 σ0 τ0 = some 1 := hf
        unfold Bl_2 at hf
        refine lv_iinc (k := 3) (v := (x3 + 4)) hx hb d_L_law_678 hl rfl (by rw [show Int32.ofInt (4) = (4 : Int32) by decide]) (by decide) rfl (fun ls hl => ?_)
        refine lv_goto (tgt := 18) hx hb d_L_law_681 rfl ?_
        exact ih1 ((x3 + 4)) σ0 τ0 _ _ _ hf hP hD hS (lv_sub hl [1, 2, 3, 0] rfl)
  refine W.widen (k := 600000) (n := 7302250) (Nat.le_of_ble_eq_true rfl) (Nat.le_of_ble_eq_true rfl) ?_
  exact (key t0).1 0 z0 z0 _ _ _ hf hP hD hS (lv_sub hl [3, 2, 1, 0] rfl)
