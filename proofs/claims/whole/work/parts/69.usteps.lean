theorem st_J_fill_RR_0 (t : Nat) (x1 : Int32) (σ : gS) : R_J_fill_RR (t + 1) 0 [x1] σ = B_J_fill_RR_0 (R_J_fill_RR t) x1 σ := rfl
theorem st_J_fill_RR_1 (t : Nat) (x1 : Int32) (x2 : Int32) (x3 : Int32) (σ : gS) : R_J_fill_RR (t + 1) 1 [x1, x2, x3] σ = B_J_fill_RR_1 (R_J_fill_RR t) x1 x2 x3 σ := rfl
theorem st_J_fill_MP_0 (t : Nat) (x1 : Int32) (σ : gS) : R_J_fill_MP (t + 1) 0 [x1] σ = B_J_fill_MP_0 (R_J_fill_MP t) x1 σ := rfl
theorem st_J_fill_MP_1 (t : Nat) (x1 : Int32) (x2 : Int32) (x3 : Int32) (σ : gS) : R_J_fill_MP (t + 1) 1 [x1, x2, x3] σ = B_J_fill_MP_1 (R_J_fill_MP t) x1 x2 x3 σ := rfl
theorem st_J_fill_MB_0 (t : Nat) (x1 : Int32) (σ : gS) : R_J_fill_MB (t + 1) 0 [x1] σ = B_J_fill_MB_0 (R_J_fill_MB t) x1 σ := rfl
theorem st_J_fill_MB_1 (t : Nat) (x1 : Int32) (x2 : Int32) (x3 : Int32) (σ : gS) : R_J_fill_MB (t + 1) 1 [x1, x2, x3] σ = B_J_fill_MB_1 (R_J_fill_MB t) x1 x2 x3 σ := rfl
theorem st_J_fill_WI_0 (t : Nat) (x1 : Int32) (σ : gS) : R_J_fill_WI (t + 1) 0 [x1] σ = B_J_fill_WI_0 (R_J_fill_WI t) x1 σ := rfl
theorem st_J_fill_WI_1 (t : Nat) (x1 : Int32) (x2 : Int32) (x3 : Int32) (σ : gS) : R_J_fill_WI (t + 1) 1 [x1, x2, x3] σ = B_J_fill_WI_1 (R_J_fill_WI t) x1 x2 x3 σ := rfl
theorem st_J_fill_GI_0 (t : Nat) (x1 : Int32) (σ : gS) : R_J_fill_GI (t + 1) 0 [x1] σ = B_J_fill_GI_0 (R_J_fill_GI t) x1 σ := rfl
theorem st_J_fill_GI_1 (t : Nat) (x1 : Int32) (x2 : Int32) (x3 : Int32) (σ : gS) : R_J_fill_GI (t + 1) 1 [x1, x2, x3] σ = B_J_fill_GI_1 (R_J_fill_GI t) x1 x2 x3 σ := rfl
theorem st_G_lay_0 (t : Nat) (x1 : Int32) (x2 : Int32) (x3 : Int32) (σ : gS) : R_G_lay (t + 1) 0 [x1, x2, x3] σ = B_G_lay_0 (R_G_lay t) x1 x2 x3 σ := rfl
theorem st_G_lay_1 (t : Nat) (x1 : Int32) (x4 : Int32) (σ : gS) : R_G_lay (t + 1) 1 [x1, x4] σ = B_G_lay_1 (R_G_lay t) x1 x4 σ := rfl
theorem st_P_showsAt_S21_0 (t : Nat) (x1 : Int32) (σ : gS) : R_P_showsAt_S21 (t + 1) 0 [x1] σ = B_P_showsAt_S21_0 (R_P_showsAt_S21 t) x1 σ := rfl
theorem st_P_showsAt_S21_1 (t : Nat) (x1 : Int32) (x3 : Int32) (σ : gS) : R_P_showsAt_S21 (t + 1) 1 [x1, x3] σ = B_P_showsAt_S21_1 (R_P_showsAt_S21 t) x1 x3 σ := rfl
theorem st_P_showsAt_S22_0 (t : Nat) (x1 : Int32) (σ : gS) : R_P_showsAt_S22 (t + 1) 0 [x1] σ = B_P_showsAt_S22_0 (R_P_showsAt_S22 t) x1 σ := rfl
theorem st_P_showsAt_S22_1 (t : Nat) (x1 : Int32) (x3 : Int32) (σ : gS) : R_P_showsAt_S22 (t + 1) 1 [x1, x3] σ = B_P_showsAt_S22_1 (R_P_showsAt_S22 t) x1 x3 σ := rfl
theorem st_P_showsAt_S23_0 (t : Nat) (x1 : Int32) (σ : gS) : R_P_showsAt_S23 (t + 1) 0 [x1] σ = B_P_showsAt_S23_0 (R_P_showsAt_S23 t) x1 σ := rfl
theorem st_P_showsAt_S23_1 (t : Nat) (x1 : Int32) (x3 : Int32) (σ : gS) : R_P_showsAt_S23 (t + 1) 1 [x1, x3] σ = B_P_showsAt_S23_1 (R_P_showsAt_S23 t) x1 x3 σ := rfl
theorem st_P_showsAt_S24_0 (t : Nat) (x1 : Int32) (σ : gS) : R_P_showsAt_S24 (t + 1) 0 [x1] σ = B_P_showsAt_S24_0 (R_P_showsAt_S24 t) x1 σ := rfl
theorem st_P_showsAt_S24_1 (t : Nat) (x1 : Int32) (x3 : Int32) (σ : gS) : R_P_showsAt_S24 (t + 1) 1 [x1, x3] σ = B_P_showsAt_S24_1 (R_P_showsAt_S24 t) x1 x3 σ := rfl
theorem st_E_addElement_0 (t : Nat) (x1 : Int32) (x2 : Int32) (σ : gS) : R_E_addElement (t + 1) 0 [x1, x2] σ = B_E_addElement_0 (R_E_addElement t) x1 x2 σ := rfl
theorem st_E_addElement_1 (t : Nat) (σ : gS) : R_E_addElement (t + 1) 1 [] σ = B_E_addElement_1 (R_E_addElement t) σ := rfl
theorem st_E_findAttribute_0 (t : Nat) (x1 : Int32) (x2 : Int32) (σ : gS) : R_E_findAttribute (t + 1) 0 [x1, x2] σ = B_E_findAttribute_0 (R_E_findAttribute t) x1 x2 σ := rfl
theorem st_E_findAttribute_1 (t : Nat) (x2 : Int32) (x3 : Int32) (x4 : Int32) (σ : gS) : R_E_findAttribute (t + 1) 1 [x2, x3, x4] σ = B_E_findAttribute_1 (R_E_findAttribute t) x2 x3 x4 σ := rfl
theorem st_R_followSlots_0 (t : Nat) (x1 : Int32) (σ : gS) : R_R_followSlots (t + 1) 0 [x1] σ = B_R_followSlots_0 (R_R_followSlots t) x1 σ := rfl
theorem st_R_followSlots_1 (t : Nat) (x1 : Int32) (x2 : Int32) (σ : gS) : R_R_followSlots (t + 1) 1 [x1, x2] σ = B_R_followSlots_1 (R_R_followSlots t) x1 x2 σ := rfl
theorem st_R_followSlots_2 (t : Nat) (x1 : Int32) (x2 : Int32) (σ : gS) : R_R_followSlots (t + 1) 2 [x1, x2] σ = B_R_followSlots_2 (R_R_followSlots t) x1 x2 σ := rfl
theorem st_R_startFrom_0 (t : Nat) (x1 : Int32) (σ : gS) : R_R_startFrom (t + 1) 0 [x1] σ = B_R_startFrom_0 (R_R_startFrom t) x1 σ := rfl
theorem st_R_startFrom_1 (t : Nat) (x2 : Int32) (σ : gS) : R_R_startFrom (t + 1) 1 [x2] σ = B_R_startFrom_1 (R_R_startFrom t) x2 σ := rfl
theorem st_R_countShared_0 (t : Nat) (σ : gS) : R_R_countShared (t + 1) 0 [] σ = B_R_countShared_0 (R_R_countShared t) σ := rfl
theorem st_R_countShared_1 (t : Nat) (x1 : Int32) (x2 : Int32) (σ : gS) : R_R_countShared (t + 1) 1 [x1, x2] σ = B_R_countShared_1 (R_R_countShared t) x1 x2 σ := rfl
theorem st_R_countShared_2 (t : Nat) (x1 : Int32) (x2 : Int32) (σ : gS) : R_R_countShared (t + 1) 2 [x1, x2] σ = B_R_countShared_2 (R_R_countShared t) x1 x2 σ := rfl
theorem st_A_match_0 (t : Nat) (x1 : Int32) (x2 : Int32) (σ : gS) : R_A_match (t + 1) 0 [x1, x2] σ = B_A_match_0 (R_A_match t) x1 x2 σ := rfl
theorem st_A_match_1 (t : Nat) (x1 : Int32) (x2 : Int32) (σ : gS) : R_A_match (t + 1) 1 [x1, x2] σ = B_A_match_1 (R_A_match t) x1 x2 σ := rfl
theorem st_A_haveSameCharacters_0 (t : Nat) (x1 : Int32) (x2 : Int32) (σ : gS) : R_A_haveSameCharacters (t + 1) 0 [x1, x2] σ = B_A_haveSameCharacters_0 (R_A_haveSameCharacters t) x1 x2 σ := rfl
theorem st_A_haveSameCharacters_1 (t : Nat) (x1 : Int32) (x2 : Int32) (x3 : Int32) (σ : gS) : R_A_haveSameCharacters (t + 1) 1 [x1, x2, x3] σ = B_A_haveSameCharacters_1 (R_A_haveSameCharacters t) x1 x2 x3 σ := rfl
theorem st_A_haveSameSlots_0 (t : Nat) (x1 : Int32) (x2 : Int32) (σ : gS) : R_A_haveSameSlots (t + 1) 0 [x1, x2] σ = B_A_haveSameSlots_0 (R_A_haveSameSlots t) x1 x2 σ := rfl
theorem st_A_haveSameSlots_1 (t : Nat) (x1 : Int32) (x2 : Int32) (x3 : Int32) (σ : gS) : R_A_haveSameSlots (t + 1) 1 [x1, x2, x3] σ = B_A_haveSameSlots_1 (R_A_haveSameSlots t) x1 x2 x3 σ := rfl
theorem st_A_exists_0 (t : Nat) (x1 : Int32) (x2 : Int32) (σ : gS) : R_A_exists (t + 1) 0 [x1, x2] σ = B_A_exists_0 (R_A_exists t) x1 x2 σ := rfl
theorem st_A_exists_1 (t : Nat) (x3 : Int32) (x4 : Int32) (σ : gS) : R_A_exists (t + 1) 1 [x3, x4] σ = B_A_exists_1 (R_A_exists t) x3 x4 σ := rfl
theorem st_W_writeRow_S0_0 (t : Nat) (σ : gS) : R_W_writeRow_S0 (t + 1) 0 [] σ = B_W_writeRow_S0_0 (R_W_writeRow_S0 t) σ := rfl
theorem st_W_writeRow_S0_1 (t : Nat) (x2 : Int32) (σ : gS) : R_W_writeRow_S0 (t + 1) 1 [x2] σ = B_W_writeRow_S0_1 (R_W_writeRow_S0 t) x2 σ := rfl
theorem st_W_writeRow_S1_0 (t : Nat) (σ : gS) : R_W_writeRow_S1 (t + 1) 0 [] σ = B_W_writeRow_S1_0 (R_W_writeRow_S1 t) σ := rfl
theorem st_W_writeRow_S1_1 (t : Nat) (x2 : Int32) (σ : gS) : R_W_writeRow_S1 (t + 1) 1 [x2] σ = B_W_writeRow_S1_1 (R_W_writeRow_S1 t) x2 σ := rfl
theorem st_W_writeRow_S2_0 (t : Nat) (σ : gS) : R_W_writeRow_S2 (t + 1) 0 [] σ = B_W_writeRow_S2_0 (R_W_writeRow_S2 t) σ := rfl
theorem st_W_writeRow_S2_1 (t : Nat) (x2 : Int32) (σ : gS) : R_W_writeRow_S2 (t + 1) 1 [x2] σ = B_W_writeRow_S2_1 (R_W_writeRow_S2 t) x2 σ := rfl
theorem st_W_writeRow_S3_0 (t : Nat) (σ : gS) : R_W_writeRow_S3 (t + 1) 0 [] σ = B_W_writeRow_S3_0 (R_W_writeRow_S3 t) σ := rfl
theorem st_W_writeRow_S3_1 (t : Nat) (x2 : Int32) (σ : gS) : R_W_writeRow_S3 (t + 1) 1 [x2] σ = B_W_writeRow_S3_1 (R_W_writeRow_S3 t) x2 σ := rfl
theorem st_W_writeRow_S4_0 (t : Nat) (σ : gS) : R_W_writeRow_S4 (t + 1) 0 [] σ = B_W_writeRow_S4_0 (R_W_writeRow_S4 t) σ := rfl
theorem st_W_writeRow_S4_1 (t : Nat) (x2 : Int32) (σ : gS) : R_W_writeRow_S4 (t + 1) 1 [x2] σ = B_W_writeRow_S4_1 (R_W_writeRow_S4 t) x2 σ := rfl
theorem st_W_writeRow_S5_0 (t : Nat) (σ : gS) : R_W_writeRow_S5 (t + 1) 0 [] σ = B_W_writeRow_S5_0 (R_W_writeRow_S5 t) σ := rfl
theorem st_W_writeRow_S5_1 (t : Nat) (x2 : Int32) (σ : gS) : R_W_writeRow_S5 (t + 1) 1 [x2] σ = B_W_writeRow_S5_1 (R_W_writeRow_S5 t) x2 σ := rfl
theorem st_W_writeRow_S6_0 (t : Nat) (σ : gS) : R_W_writeRow_S6 (t + 1) 0 [] σ = B_W_writeRow_S6_0 (R_W_writeRow_S6 t) σ := rfl
theorem st_W_writeRow_S6_1 (t : Nat) (x2 : Int32) (σ : gS) : R_W_writeRow_S6 (t + 1) 1 [x2] σ = B_W_writeRow_S6_1 (R_W_writeRow_S6 t) x2 σ := rfl
theorem st_W_writeRow_S7_0 (t : Nat) (σ : gS) : R_W_writeRow_S7 (t + 1) 0 [] σ = B_W_writeRow_S7_0 (R_W_writeRow_S7 t) σ := rfl
theorem st_W_writeRow_S7_1 (t : Nat) (x2 : Int32) (σ : gS) : R_W_writeRow_S7 (t + 1) 1 [x2] σ = B_W_writeRow_S7_1 (R_W_writeRow_S7 t) x2 σ := rfl
theorem st_W_writeRow_S8_0 (t : Nat) (σ : gS) : R_W_writeRow_S8 (t + 1) 0 [] σ = B_W_writeRow_S8_0 (R_W_writeRow_S8 t) σ := rfl
theorem st_W_writeRow_S8_1 (t : Nat) (x2 : Int32) (σ : gS) : R_W_writeRow_S8 (t + 1) 1 [x2] σ = B_W_writeRow_S8_1 (R_W_writeRow_S8 t) x2 σ := rfl
theorem st_W_writeRow_S9_0 (t : Nat) (σ : gS) : R_W_writeRow_S9 (t + 1) 0 [] σ = B_W_writeRow_S9_0 (R_W_writeRow_S9 t) σ := rfl
theorem st_W_writeRow_S9_1 (t : Nat) (x2 : Int32) (σ : gS) : R_W_writeRow_S9 (t + 1) 1 [x2] σ = B_W_writeRow_S9_1 (R_W_writeRow_S9 t) x2 σ := rfl
theorem st_W_writeRow_S10_0 (t : Nat) (σ : gS) : R_W_writeRow_S10 (t + 1) 0 [] σ = B_W_writeRow_S10_0 (R_W_writeRow_S10 t) σ := rfl
theorem st_W_writeRow_S10_1 (t : Nat) (x2 : Int32) (σ : gS) : R_W_writeRow_S10 (t + 1) 1 [x2] σ = B_W_writeRow_S10_1 (R_W_writeRow_S10 t) x2 σ := rfl
theorem st_W_writeRow_S11_0 (t : Nat) (σ : gS) : R_W_writeRow_S11 (t + 1) 0 [] σ = B_W_writeRow_S11_0 (R_W_writeRow_S11 t) σ := rfl
theorem st_W_writeRow_S11_1 (t : Nat) (x2 : Int32) (σ : gS) : R_W_writeRow_S11 (t + 1) 1 [x2] σ = B_W_writeRow_S11_1 (R_W_writeRow_S11 t) x2 σ := rfl
theorem st_W_writeRow_S12_0 (t : Nat) (σ : gS) : R_W_writeRow_S12 (t + 1) 0 [] σ = B_W_writeRow_S12_0 (R_W_writeRow_S12 t) σ := rfl
theorem st_W_writeRow_S12_1 (t : Nat) (x2 : Int32) (σ : gS) : R_W_writeRow_S12 (t + 1) 1 [x2] σ = B_W_writeRow_S12_1 (R_W_writeRow_S12 t) x2 σ := rfl
theorem st_W_writeRow_S13_0 (t : Nat) (σ : gS) : R_W_writeRow_S13 (t + 1) 0 [] σ = B_W_writeRow_S13_0 (R_W_writeRow_S13 t) σ := rfl
theorem st_W_writeRow_S13_1 (t : Nat) (x2 : Int32) (σ : gS) : R_W_writeRow_S13 (t + 1) 1 [x2] σ = B_W_writeRow_S13_1 (R_W_writeRow_S13 t) x2 σ := rfl
theorem st_W_writeRow_S14_0 (t : Nat) (σ : gS) : R_W_writeRow_S14 (t + 1) 0 [] σ = B_W_writeRow_S14_0 (R_W_writeRow_S14 t) σ := rfl
theorem st_W_writeRow_S14_1 (t : Nat) (x2 : Int32) (σ : gS) : R_W_writeRow_S14 (t + 1) 1 [x2] σ = B_W_writeRow_S14_1 (R_W_writeRow_S14 t) x2 σ := rfl
theorem st_W_writeRow_S15_0 (t : Nat) (σ : gS) : R_W_writeRow_S15 (t + 1) 0 [] σ = B_W_writeRow_S15_0 (R_W_writeRow_S15 t) σ := rfl
theorem st_W_writeRow_S15_1 (t : Nat) (x2 : Int32) (σ : gS) : R_W_writeRow_S15 (t + 1) 1 [x2] σ = B_W_writeRow_S15_1 (R_W_writeRow_S15 t) x2 σ := rfl
theorem st_W_writeRow_S16_0 (t : Nat) (σ : gS) : R_W_writeRow_S16 (t + 1) 0 [] σ = B_W_writeRow_S16_0 (R_W_writeRow_S16 t) σ := rfl
theorem st_W_writeRow_S16_1 (t : Nat) (x2 : Int32) (σ : gS) : R_W_writeRow_S16 (t + 1) 1 [x2] σ = B_W_writeRow_S16_1 (R_W_writeRow_S16 t) x2 σ := rfl
theorem st_W_writeRow_S17_0 (t : Nat) (σ : gS) : R_W_writeRow_S17 (t + 1) 0 [] σ = B_W_writeRow_S17_0 (R_W_writeRow_S17 t) σ := rfl
theorem st_W_writeRow_S17_1 (t : Nat) (x2 : Int32) (σ : gS) : R_W_writeRow_S17 (t + 1) 1 [x2] σ = B_W_writeRow_S17_1 (R_W_writeRow_S17 t) x2 σ := rfl
theorem st_W_writeRow_S18_0 (t : Nat) (σ : gS) : R_W_writeRow_S18 (t + 1) 0 [] σ = B_W_writeRow_S18_0 (R_W_writeRow_S18 t) σ := rfl
theorem st_W_writeRow_S18_1 (t : Nat) (x2 : Int32) (σ : gS) : R_W_writeRow_S18 (t + 1) 1 [x2] σ = B_W_writeRow_S18_1 (R_W_writeRow_S18 t) x2 σ := rfl
theorem st_W_writeRow_S19_0 (t : Nat) (σ : gS) : R_W_writeRow_S19 (t + 1) 0 [] σ = B_W_writeRow_S19_0 (R_W_writeRow_S19 t) σ := rfl
theorem st_W_writeRow_S19_1 (t : Nat) (x2 : Int32) (σ : gS) : R_W_writeRow_S19 (t + 1) 1 [x2] σ = B_W_writeRow_S19_1 (R_W_writeRow_S19 t) x2 σ := rfl
theorem st_W_writeRow_S20_0 (t : Nat) (σ : gS) : R_W_writeRow_S20 (t + 1) 0 [] σ = B_W_writeRow_S20_0 (R_W_writeRow_S20 t) σ := rfl
theorem st_W_writeRow_S20_1 (t : Nat) (x2 : Int32) (σ : gS) : R_W_writeRow_S20 (t + 1) 1 [x2] σ = B_W_writeRow_S20_1 (R_W_writeRow_S20 t) x2 σ := rfl
theorem st_W_writeNumber_0 (t : Nat) (x1 : Int32) (σ : gS) : R_W_writeNumber (t + 1) 0 [x1] [] σ = B_W_writeNumber_0 (R_W_writeNumber t) x1 σ := rfl
theorem st_W_writeNumber_1 (t : Nat) (x2 : Int64) (σ : gS) : R_W_writeNumber (t + 1) 1 [] [x2] σ = B_W_writeNumber_1 (R_W_writeNumber t) x2 σ := rfl
theorem st_W_writeNumber_2 (t : Nat) (x6 : Int32) (x2 : Int64) (x4 : Int64) (σ : gS) : R_W_writeNumber (t + 1) 2 [x6] [x2, x4] σ = B_W_writeNumber_2 (R_W_writeNumber t) x6 x2 x4 σ := rfl
theorem st_W_writeNumber_3 (t : Nat) (x2 : Int64) (x4 : Int64) (σ : gS) : R_W_writeNumber (t + 1) 3 [] [x2, x4] σ = B_W_writeNumber_3 (R_W_writeNumber t) x2 x4 σ := rfl
theorem st_W_firstWrittenSlot_0 (t : Nat) (x1 : Int32) (σ : gS) : R_W_firstWrittenSlot (t + 1) 0 [x1] σ = B_W_firstWrittenSlot_0 (R_W_firstWrittenSlot t) x1 σ := rfl
theorem st_W_firstWrittenSlot_1 (t : Nat) (x1 : Int32) (x2 : Int32) (σ : gS) : R_W_firstWrittenSlot (t + 1) 1 [x1, x2] σ = B_W_firstWrittenSlot_1 (R_W_firstWrittenSlot t) x1 x2 σ := rfl
theorem st_W_writeCharacters_0 (t : Nat) (x1 : Int32) (σ : gS) : R_W_writeCharacters (t + 1) 0 [x1] σ = B_W_writeCharacters_0 (R_W_writeCharacters t) x1 σ := rfl
theorem st_W_writeCharacters_1 (t : Nat) (x1 : Int32) (x2 : Int32) (σ : gS) : R_W_writeCharacters (t + 1) 1 [x1, x2] σ = B_W_writeCharacters_1 (R_W_writeCharacters t) x1 x2 σ := rfl
theorem st_W_writeCharacters_2 (t : Nat) (x1 : Int32) (x2 : Int32) (σ : gS) : R_W_writeCharacters (t + 1) 2 [x1, x2] σ = B_W_writeCharacters_2 (R_W_writeCharacters t) x1 x2 σ := rfl
theorem st_W_behindLastWrittenSlot_0 (t : Nat) (x1 : Int32) (σ : gS) : R_W_behindLastWrittenSlot (t + 1) 0 [x1] σ = B_W_behindLastWrittenSlot_0 (R_W_behindLastWrittenSlot t) x1 σ := rfl
theorem st_W_behindLastWrittenSlot_1 (t : Nat) (x1 : Int32) (x2 : Int32) (σ : gS) : R_W_behindLastWrittenSlot (t + 1) 1 [x1, x2] σ = B_W_behindLastWrittenSlot_1 (R_W_behindLastWrittenSlot t) x1 x2 σ := rfl
theorem st_W_writeFrom_0 (t : Nat) (x1 : Int32) (σ : gS) : R_W_writeFrom (t + 1) 0 [x1] σ = B_W_writeFrom_0 (R_W_writeFrom t) x1 σ := rfl
theorem st_W_writeFrom_1 (t : Nat) (x2 : Int32) (σ : gS) : R_W_writeFrom (t + 1) 1 [x2] σ = B_W_writeFrom_1 (R_W_writeFrom t) x2 σ := rfl
theorem st_W_writeFrom_2 (t : Nat) (σ : gS) : R_W_writeFrom (t + 1) 2 [] σ = B_W_writeFrom_2 (R_W_writeFrom t) σ := rfl
theorem st_F_readName_0 (t : Nat) (σ : gS) : R_F_readName (t + 1) 0 [] σ = B_F_readName_0 (R_F_readName t) σ := rfl
theorem st_F_readName_1 (t : Nat) (x1 : Int32) (x2 : Int32) (σ : gS) : R_F_readName (t + 1) 1 [x1, x2] σ = B_F_readName_1 (R_F_readName t) x1 x2 σ := rfl
theorem st_F_skipSpaces_0 (t : Nat) (σ : gS) : R_F_skipSpaces (t + 1) 0 [] σ = B_F_skipSpaces_0 (R_F_skipSpaces t) σ := rfl
theorem st_F_skipSpaces_1 (t : Nat) (x1 : Int32) (σ : gS) : R_F_skipSpaces (t + 1) 1 [x1] σ = B_F_skipSpaces_1 (R_F_skipSpaces t) x1 σ := rfl
theorem st_F_skipSpaces_2 (t : Nat) (x1 : Int32) (σ : gS) : R_F_skipSpaces (t + 1) 2 [x1] σ = B_F_skipSpaces_2 (R_F_skipSpaces t) x1 σ := rfl
theorem st_F_readAttribute_0 (t : Nat) (x1 : Int32) (σ : gS) : R_F_readAttribute (t + 1) 0 [x1] σ = B_F_readAttribute_0 (R_F_readAttribute t) x1 σ := rfl
theorem st_F_readAttribute_1 (t : Nat) (x2 : Int32) (x3 : Int32) (σ : gS) : R_F_readAttribute (t + 1) 1 [x2, x3] σ = B_F_readAttribute_1 (R_F_readAttribute t) x2 x3 σ := rfl
theorem st_F_readAttribute_2 (t : Nat) (x2 : Int32) (x3 : Int32) (σ : gS) : R_F_readAttribute (t + 1) 2 [x2, x3] σ = B_F_readAttribute_2 (R_F_readAttribute t) x2 x3 σ := rfl
theorem st_F_readStart_0 (t : Nat) (σ : gS) : R_F_readStart (t + 1) 0 [] σ = B_F_readStart_0 (R_F_readStart t) σ := rfl
theorem st_F_readStart_1 (t : Nat) (x2 : Int32) (x3 : Int32) (x4 : Int32) (σ : gS) : R_F_readStart (t + 1) 1 [x2, x3, x4] σ = B_F_readStart_1 (R_F_readStart t) x2 x3 x4 σ := rfl
theorem st_F_readStart_2 (t : Nat) (x2 : Int32) (σ : gS) : R_F_readStart (t + 1) 2 [x2] σ = B_F_readStart_2 (R_F_readStart t) x2 σ := rfl
theorem st_F_readCode_0 (t : Nat) (σ : gS) : R_F_readCode (t + 1) 0 [] σ = B_F_readCode_0 (R_F_readCode t) σ := rfl
theorem st_F_readCode_1 (t : Nat) (x1 : Int32) (x2 : Int32) (σ : gS) : R_F_readCode (t + 1) 1 [x1, x2] σ = B_F_readCode_1 (R_F_readCode t) x1 x2 σ := rfl
theorem st_F_readCode_2 (t : Nat) (x1 : Int32) (σ : gS) : R_F_readCode (t + 1) 2 [x1] σ = B_F_readCode_2 (R_F_readCode t) x1 σ := rfl
theorem st_F_isWellFormed_0 (t : Nat) (σ : gS) : R_F_isWellFormed (t + 1) 0 [] σ = B_F_isWellFormed_0 (R_F_isWellFormed t) σ := rfl
theorem st_F_isWellFormed_1 (t : Nat) (x1 : Int32) (σ : gS) : R_F_isWellFormed (t + 1) 1 [x1] σ = B_F_isWellFormed_1 (R_F_isWellFormed t) x1 σ := rfl
theorem st_F_isWellFormed_2 (t : Nat) (σ : gS) : R_F_isWellFormed (t + 1) 2 [] σ = B_F_isWellFormed_2 (R_F_isWellFormed t) σ := rfl
theorem st_H_countOf_0 (t : Nat) (x1 : Int32) (σ : gS) : R_H_countOf (t + 1) 0 [x1] σ = B_H_countOf_0 (R_H_countOf t) x1 σ := rfl
theorem st_H_countOf_1 (t : Nat) (x1 : Int32) (x2 : Int32) (σ : gS) : R_H_countOf (t + 1) 1 [x1, x2] σ = B_H_countOf_1 (R_H_countOf t) x1 x2 σ := rfl
theorem st_H_countOf_2 (t : Nat) (x1 : Int32) (x2 : Int32) (x3 : Int32) (x4 : Int32) (σ : gS) : R_H_countOf (t + 1) 2 [x1, x2, x3, x4] σ = B_H_countOf_2 (R_H_countOf t) x1 x2 x3 x4 σ := rfl
theorem st_H_understandsHeaders_0 (t : Nat) (σ : gS) : R_H_understandsHeaders (t + 1) 0 [] σ = B_H_understandsHeaders_0 (R_H_understandsHeaders t) σ := rfl
theorem st_H_understandsHeaders_1 (t : Nat) (x2 : Int32) (σ : gS) : R_H_understandsHeaders (t + 1) 1 [x2] σ = B_H_understandsHeaders_1 (R_H_understandsHeaders t) x2 σ := rfl
theorem st_H_understandsHeaders_2 (t : Nat) (x2 : Int32) (σ : gS) : R_H_understandsHeaders (t + 1) 2 [x2] σ = B_H_understandsHeaders_2 (R_H_understandsHeaders t) x2 σ := rfl
theorem st_H_understandsHeaders_3 (t : Nat) (x2 : Int32) (z0 : Int32) (σ : gS) : R_H_understandsHeaders (t + 1) 3 [x2, z0] σ = B_H_understandsHeaders_3 (R_H_understandsHeaders t) x2 z0 σ := rfl
theorem st_H_understandsHeaders_4 (t : Nat) (x2 : Int32) (σ : gS) : R_H_understandsHeaders (t + 1) 4 [x2] σ = B_H_understandsHeaders_4 (R_H_understandsHeaders t) x2 σ := rfl
theorem st_H_findBody_0 (t : Nat) (σ : gS) : R_H_findBody (t + 1) 0 [] σ = B_H_findBody_0 (R_H_findBody t) σ := rfl
theorem st_H_findBody_1 (t : Nat) (x1 : Int32) (x2 : Int32) (σ : gS) : R_H_findBody (t + 1) 1 [x1, x2] σ = B_H_findBody_1 (R_H_findBody t) x1 x2 σ := rfl
theorem st_H_findBody_2 (t : Nat) (x1 : Int32) (x2 : Int32) (σ : gS) : R_H_findBody (t + 1) 2 [x1, x2] σ = B_H_findBody_2 (R_H_findBody t) x1 x2 σ := rfl
theorem st_H_mayBear_0 (t : Nat) (x1 : Int32) (x2 : Int32) (σ : gS) : R_H_mayBear (t + 1) 0 [x1, x2] σ = B_H_mayBear_0 (R_H_mayBear t) x1 x2 σ := rfl
theorem st_H_mayBear_1 (t : Nat) (x3 : Int32) (σ : gS) : R_H_mayBear (t + 1) 1 [x3] σ = B_H_mayBear_1 (R_H_mayBear t) x3 σ := rfl
theorem st_H_hasSoundAttributes_0 (t : Nat) (x1 : Int32) (σ : gS) : R_H_hasSoundAttributes (t + 1) 0 [x1] σ = B_H_hasSoundAttributes_0 (R_H_hasSoundAttributes t) x1 σ := rfl
theorem st_H_hasSoundAttributes_1 (t : Nat) (x1 : Int32) (x2 : Int32) (x3 : Int32) (σ : gS) : R_H_hasSoundAttributes (t + 1) 1 [x1, x2, x3] σ = B_H_hasSoundAttributes_1 (R_H_hasSoundAttributes t) x1 x2 x3 σ := rfl
theorem st_H_numberIn_0 (t : Nat) (x1 : Int32) (σ : gS) : R_H_numberIn (t + 1) 0 [x1] [] σ = B_H_numberIn_0 (R_H_numberIn t) x1 σ := rfl
theorem st_H_numberIn_1 (t : Nat) (x2 : Int32) (x3 : Int32) (σ : gS) : R_H_numberIn (t + 1) 1 [x2, x3] [] σ = B_H_numberIn_1 (R_H_numberIn t) x2 x3 σ := rfl
theorem st_H_numberIn_2 (t : Nat) (x2 : Int32) (x3 : Int32) (z0 : Int32) (σ : gS) : R_H_numberIn (t + 1) 2 [x2, x3, z0] [] σ = B_H_numberIn_2 (R_H_numberIn t) x2 x3 z0 σ := rfl
theorem st_H_numberIn_3 (t : Nat) (x2 : Int32) (x3 : Int32) (x4 : Int32) (σ : gS) : R_H_numberIn (t + 1) 3 [x2, x3, x4] [] σ = B_H_numberIn_3 (R_H_numberIn t) x2 x3 x4 σ := rfl
theorem st_H_numberIn_4 (t : Nat) (x3 : Int32) (x4 : Int32) (x7 : Int32) (x5 : Int64) (σ : gS) : R_H_numberIn (t + 1) 4 [x3, x4, x7] [x5] σ = B_H_numberIn_4 (R_H_numberIn t) x3 x4 x7 x5 σ := rfl
theorem st_H_numberIn_5 (t : Nat) (z0 : Int64) (σ : gS) : R_H_numberIn (t + 1) 5 [] [z0] σ = B_H_numberIn_5 (R_H_numberIn t) z0 σ := rfl
theorem st_H_layObject_0 (t : Nat) (x1 : Int32) (x2 : Int32) (σ : gS) : R_H_layObject (t + 1) 0 [x1, x2] σ = B_H_layObject_0 (R_H_layObject t) x1 x2 σ := rfl
theorem st_H_layObject_1 (t : Nat) (x1 : Int32) (x2 : Int32) (x3 : Int32) (σ : gS) : R_H_layObject (t + 1) 1 [x1, x2, x3] σ = B_H_layObject_1 (R_H_layObject t) x1 x2 x3 σ := rfl
theorem st_H_fillSlot_0 (t : Nat) (x1 : Int32) (σ : gS) : R_H_fillSlot (t + 1) 0 [x1] σ = B_H_fillSlot_0 (R_H_fillSlot t) x1 σ := rfl
theorem st_H_fillSlot_1 (t : Nat) (x1 : Int32) (x2 : Int32) (z0 : Int32) (σ : gS) : R_H_fillSlot (t + 1) 1 [x1, x2, z0] σ = B_H_fillSlot_1 (R_H_fillSlot t) x1 x2 z0 σ := rfl
theorem st_H_readGraph_0 (t : Nat) (σ : gS) : R_H_readGraph (t + 1) 0 [] σ = B_H_readGraph_0 (R_H_readGraph t) σ := rfl
theorem st_H_readGraph_1 (t : Nat) (x1 : Int32) (x2 : Int32) (σ : gS) : R_H_readGraph (t + 1) 1 [x1, x2] σ = B_H_readGraph_1 (R_H_readGraph t) x1 x2 σ := rfl
theorem st_H_readGraph_2 (t : Nat) (x1 : Int32) (x2 : Int32) (σ : gS) : R_H_readGraph (t + 1) 2 [x1, x2] σ = B_H_readGraph_2 (R_H_readGraph t) x1 x2 σ := rfl
theorem st_H_readGraph_3 (t : Nat) (x1 : Int32) (x2 : Int32) (z0 : Int32) (σ : gS) : R_H_readGraph (t + 1) 3 [x1, x2, z0] σ = B_H_readGraph_3 (R_H_readGraph t) x1 x2 z0 σ := rfl
theorem st_O_make_0 (t : Nat) (x1 : Int32) (x2 : Int32) (σ : gS) : R_O_make (t + 1) 0 [x1, x2] σ = B_O_make_0 (R_O_make t) x1 x2 σ := rfl
theorem st_O_make_1 (t : Nat) (x1 : Int32) (σ : gS) : R_O_make (t + 1) 1 [x1] σ = B_O_make_1 (R_O_make t) x1 σ := rfl
theorem st_M_make_0 (t : Nat) (x1 : Int32) (x2 : Int32) (σ : gS) : R_M_make (t + 1) 0 [x1, x2] σ = B_M_make_0 (R_M_make t) x1 x2 σ := rfl
theorem st_M_make_1 (t : Nat) (x1 : Int32) (x2 : Int32) (σ : gS) : R_M_make (t + 1) 1 [x1, x2] σ = B_M_make_1 (R_M_make t) x1 x2 σ := rfl
theorem st_M_make_2 (t : Nat) (z1 : Int32) (z2 : Int32) (σ : gS) : R_M_make (t + 1) 2 [z1, z2] σ = B_M_make_2 (R_M_make t) z1 z2 σ := rfl
theorem st_M_make_3 (t : Nat) (x3 : Int32) (σ : gS) : R_M_make (t + 1) 3 [x3] σ = B_M_make_3 (R_M_make t) x3 σ := rfl
theorem st_M_link_0 (t : Nat) (x1 : Int32) (x2 : Int32) (x3 : Int32) (σ : gS) : R_M_link (t + 1) 0 [x1, x2, x3] σ = B_M_link_0 (R_M_link t) x1 x2 x3 σ := rfl
theorem st_M_link_1 (t : Nat) (x1 : Int32) (x2 : Int32) (x3 : Int32) (σ : gS) : R_M_link (t + 1) 1 [x1, x2, x3] σ = B_M_link_1 (R_M_link t) x1 x2 x3 σ := rfl
theorem st_M_link_2 (t : Nat) (x1 : Int32) (x2 : Int32) (x3 : Int32) (z1 : Int32) (z2 : Int32) (σ : gS) : R_M_link (t + 1) 2 [x1, x2, x3, z1, z2] σ = B_M_link_2 (R_M_link t) x1 x2 x3 z1 z2 σ := rfl
theorem st_M_value_0 (t : Nat) (x1 : Int32) (x2 : Int32) (σ : gS) : R_M_value (t + 1) 0 [x1, x2] σ = B_M_value_0 (R_M_value t) x1 x2 σ := rfl
theorem st_M_value_1 (t : Nat) (x1 : Int32) (x2 : Int32) (σ : gS) : R_M_value (t + 1) 1 [x1, x2] σ = B_M_value_1 (R_M_value t) x1 x2 σ := rfl
theorem st_M_sameOutside_0 (t : Nat) (x1 : Int32) (x2 : Int32) (σ : gS) : R_M_sameOutside (t + 1) 0 [x1, x2] σ = B_M_sameOutside_0 (R_M_sameOutside t) x1 x2 σ := rfl
theorem st_M_sameOutside_1 (t : Nat) (x1 : Int32) (x2 : Int32) (x3 : Int32) (σ : gS) : R_M_sameOutside (t + 1) 1 [x1, x2, x3] σ = B_M_sameOutside_1 (R_M_sameOutside t) x1 x2 x3 σ := rfl
theorem st_M_sameOutside_2 (t : Nat) (x1 : Int32) (x2 : Int32) (x3 : Int32) (σ : gS) : R_M_sameOutside (t + 1) 2 [x1, x2, x3] σ = B_M_sameOutside_2 (R_M_sameOutside t) x1 x2 x3 σ := rfl
theorem st_M_sameOutside_3 (t : Nat) (x1 : Int32) (x2 : Int32) (x3 : Int32) (σ : gS) : R_M_sameOutside (t + 1) 3 [x1, x2, x3] σ = B_M_sameOutside_3 (R_M_sameOutside t) x1 x2 x3 σ := rfl
theorem st_M_sameOutside_4 (t : Nat) (x1 : Int32) (x2 : Int32) (x3 : Int32) (σ : gS) : R_M_sameOutside (t + 1) 4 [x1, x2, x3] σ = B_M_sameOutside_4 (R_M_sameOutside t) x1 x2 x3 σ := rfl
theorem st_M_alike_0 (t : Nat) (x1 : Int32) (x2 : Int32) (σ : gS) : R_M_alike (t + 1) 0 [x1, x2] σ = B_M_alike_0 (R_M_alike t) x1 x2 σ := rfl
theorem st_M_alike_1 (t : Nat) (x1 : Int32) (x2 : Int32) (x3 : Int32) (σ : gS) : R_M_alike (t + 1) 1 [x1, x2, x3] σ = B_M_alike_1 (R_M_alike t) x1 x2 x3 σ := rfl
theorem st_M_alike_2 (t : Nat) (x3 : Int32) (σ : gS) : R_M_alike (t + 1) 2 [x3] σ = B_M_alike_2 (R_M_alike t) x3 σ := rfl
theorem st_M_alike_3 (t : Nat) (x3 : Int32) (x4 : Int32) (x5 : Int32) (σ : gS) : R_M_alike (t + 1) 3 [x3, x4, x5] σ = B_M_alike_3 (R_M_alike t) x3 x4 x5 σ := rfl
theorem st_M_alike_4 (t : Nat) (x3 : Int32) (x4 : Int32) (x5 : Int32) (x6 : Int32) (σ : gS) : R_M_alike (t + 1) 4 [x3, x4, x5, x6] σ = B_M_alike_4 (R_M_alike t) x3 x4 x5 x6 σ := rfl
theorem st_M_alike_5 (t : Nat) (x3 : Int32) (x4 : Int32) (x5 : Int32) (x6 : Int32) (x7 : Int32) (x8 : Int32) (σ : gS) : R_M_alike (t + 1) 5 [x3, x4, x5, x6, x7, x8] σ = B_M_alike_5 (R_M_alike t) x3 x4 x5 x6 x7 x8 σ := rfl
theorem st_M_alike_6 (t : Nat) (x3 : Int32) (x4 : Int32) (x5 : Int32) (x6 : Int32) (σ : gS) : R_M_alike (t + 1) 6 [x3, x4, x5, x6] σ = B_M_alike_6 (R_M_alike t) x3 x4 x5 x6 σ := rfl
theorem st_M_alike_7 (t : Nat) (x3 : Int32) (σ : gS) : R_M_alike (t + 1) 7 [x3] σ = B_M_alike_7 (R_M_alike t) x3 σ := rfl
theorem st_M_mark_0 (t : Nat) (x1 : Int32) (σ : gS) : R_M_mark (t + 1) 0 [x1] σ = B_M_mark_0 (R_M_mark t) x1 σ := rfl
theorem st_M_mark_1 (t : Nat) (x1 : Int32) (x2 : Int32) (σ : gS) : R_M_mark (t + 1) 1 [x1, x2] σ = B_M_mark_1 (R_M_mark t) x1 x2 σ := rfl
theorem st_M_mark_2 (t : Nat) (x1 : Int32) (x2 : Int32) (z1 : Int32) (z2 : Int32) (σ : gS) : R_M_mark (t + 1) 2 [x1, x2, z1, z2] σ = B_M_mark_2 (R_M_mark t) x1 x2 z1 z2 σ := rfl
theorem st_M_mark_3 (t : Nat) (x1 : Int32) (x2 : Int32) (z1 : Int32) (z2 : Int32) (σ : gS) : R_M_mark (t + 1) 3 [x1, x2, z1, z2] σ = B_M_mark_3 (R_M_mark t) x1 x2 z1 z2 σ := rfl
theorem st_M_mark_4 (t : Nat) (x2 : Int32) (σ : gS) : R_M_mark (t + 1) 4 [x2] σ = B_M_mark_4 (R_M_mark t) x2 σ := rfl
theorem st_M_mark_5 (t : Nat) (x2 : Int32) (x3 : Int32) (σ : gS) : R_M_mark (t + 1) 5 [x2, x3] σ = B_M_mark_5 (R_M_mark t) x2 x3 σ := rfl
theorem st_M_mark_6 (t : Nat) (x2 : Int32) (x3 : Int32) (σ : gS) : R_M_mark (t + 1) 6 [x2, x3] σ = B_M_mark_6 (R_M_mark t) x2 x3 σ := rfl
theorem st_M_mark_7 (t : Nat) (x2 : Int32) (σ : gS) : R_M_mark (t + 1) 7 [x2] σ = B_M_mark_7 (R_M_mark t) x2 σ := rfl
theorem st_M_mark_8 (t : Nat) (x2 : Int32) (σ : gS) : R_M_mark (t + 1) 8 [x2] σ = B_M_mark_8 (R_M_mark t) x2 σ := rfl
theorem st_M_shared_0 (t : Nat) (x1 : Int32) (σ : gS) : R_M_shared (t + 1) 0 [x1] σ = B_M_shared_0 (R_M_shared t) x1 σ := rfl
theorem st_M_shared_1 (t : Nat) (x2 : Int32) (x3 : Int32) (σ : gS) : R_M_shared (t + 1) 1 [x2, x3] σ = B_M_shared_1 (R_M_shared t) x2 x3 σ := rfl
theorem st_M_shared_2 (t : Nat) (x2 : Int32) (x3 : Int32) (σ : gS) : R_M_shared (t + 1) 2 [x2, x3] σ = B_M_shared_2 (R_M_shared t) x2 x3 σ := rfl
theorem st_M_out_0 (t : Nat) (x1 : Int32) (x2 : Int32) (x3 : Int32) (x4 : Int32) (σ : gS) : R_M_out (t + 1) 0 [x1, x2, x3, x4] σ = B_M_out_0 (R_M_out t) x1 x2 x3 x4 σ := rfl
theorem st_M_out_1 (t : Nat) (x1 : Int32) (x2 : Int32) (x3 : Int32) (x4 : Int32) (x5 : Int32) (σ : gS) : R_M_out (t + 1) 1 [x1, x2, x3, x4, x5] σ = B_M_out_1 (R_M_out t) x1 x2 x3 x4 x5 σ := rfl
theorem st_M_out_2 (t : Nat) (x1 : Int32) (x2 : Int32) (x3 : Int32) (x4 : Int32) (x5 : Int32) (z0 : Int32) (σ : gS) : R_M_out (t + 1) 2 [x1, x2, x3, x4, x5, z0] σ = B_M_out_2 (R_M_out t) x1 x2 x3 x4 x5 z0 σ := rfl
theorem st_M_out_3 (t : Nat) (x1 : Int32) (x2 : Int32) (x3 : Int32) (x4 : Int32) (x5 : Int32) (σ : gS) : R_M_out (t + 1) 3 [x1, x2, x3, x4, x5] σ = B_M_out_3 (R_M_out t) x1 x2 x3 x4 x5 σ := rfl
theorem st_M_number_0 (t : Nat) (x1 : Int64) (σ : gS) : R_M_number (t + 1) 0 [] [x1] σ = B_M_number_0 (R_M_number t) x1 σ := rfl
theorem st_M_number_1 (t : Nat) (x1 : Int64) (z0 : Int64) (σ : gS) : R_M_number (t + 1) 1 [] [x1, z0] σ = B_M_number_1 (R_M_number t) x1 z0 σ := rfl
theorem st_M_number_2 (t : Nat) (z1 : Int32) (x3 : Int64) (σ : gS) : R_M_number (t + 1) 2 [z1] [x3] σ = B_M_number_2 (R_M_number t) z1 x3 σ := rfl
theorem st_M_number_3 (t : Nat) (x3 : Int64) (x5 : Int64) (σ : gS) : R_M_number (t + 1) 3 [] [x3, x5] σ = B_M_number_3 (R_M_number t) x3 x5 σ := rfl
theorem st_M_number_4 (t : Nat) (x3 : Int64) (x5 : Int64) (σ : gS) : R_M_number (t + 1) 4 [] [x3, x5] σ = B_M_number_4 (R_M_number t) x3 x5 σ := rfl
theorem st_M_element_0 (t : Nat) (x1 : Int32) (σ : gS) : R_M_element (t + 1) 0 [x1] σ = B_M_element_0 (R_M_element t) x1 σ := rfl
theorem st_M_element_1 (t : Nat) (x1 : Int32) (z0 : Int32) (σ : gS) : R_M_element (t + 1) 1 [x1, z0] σ = B_M_element_1 (R_M_element t) x1 z0 σ := rfl
theorem st_M_element_2 (t : Nat) (x1 : Int32) (x2 : Int32) (σ : gS) : R_M_element (t + 1) 2 [x1, x2] σ = B_M_element_2 (R_M_element t) x1 x2 σ := rfl
theorem st_M_element_3 (t : Nat) (x1 : Int32) (x2 : Int32) (x3 : Int32) (x4 : Int32) (σ : gS) : R_M_element (t + 1) 3 [x1, x2, x3, x4] σ = B_M_element_3 (R_M_element t) x1 x2 x3 x4 σ := rfl
theorem st_M_element_4 (t : Nat) (x1 : Int32) (x2 : Int32) (x3 : Int32) (x4 : Int32) (σ : gS) : R_M_element (t + 1) 4 [x1, x2, x3, x4] σ = B_M_element_4 (R_M_element t) x1 x2 x3 x4 σ := rfl
theorem st_M_element_5 (t : Nat) (x1 : Int32) (x2 : Int32) (x3 : Int32) (x4 : Int32) (σ : gS) : R_M_element (t + 1) 5 [x1, x2, x3, x4] σ = B_M_element_5 (R_M_element t) x1 x2 x3 x4 σ := rfl
theorem st_M_element_6 (t : Nat) (x1 : Int32) (x2 : Int32) (x3 : Int32) (x4 : Int32) (σ : gS) : R_M_element (t + 1) 6 [x1, x2, x3, x4] σ = B_M_element_6 (R_M_element t) x1 x2 x3 x4 σ := rfl
theorem st_M_element_7 (t : Nat) (x1 : Int32) (x5 : Int32) (σ : gS) : R_M_element (t + 1) 7 [x1, x5] σ = B_M_element_7 (R_M_element t) x1 x5 σ := rfl
theorem st_M_element_8 (t : Nat) (x1 : Int32) (x3 : Int32) (x5 : Int32) (σ : gS) : R_M_element (t + 1) 8 [x1, x3, x5] σ = B_M_element_8 (R_M_element t) x1 x3 x5 σ := rfl
theorem st_M_reference_0 (t : Nat) (x1 : Int32) (σ : gS) : R_M_reference (t + 1) 0 [x1] σ = B_M_reference_0 (R_M_reference t) x1 σ := rfl
theorem st_M_reference_1 (t : Nat) (x1 : Int32) (σ : gS) : R_M_reference (t + 1) 1 [x1] σ = B_M_reference_1 (R_M_reference t) x1 σ := rfl
theorem st_M_work_0 (t : Nat) (σ : gS) : R_M_work (t + 1) 0 [] σ = B_M_work_0 (R_M_work t) σ := rfl
theorem st_M_work_1 (t : Nat) (σ : gS) : R_M_work (t + 1) 1 [] σ = B_M_work_1 (R_M_work t) σ := rfl
theorem st_M_work_2 (t : Nat) (σ : gS) : R_M_work (t + 1) 2 [] σ = B_M_work_2 (R_M_work t) σ := rfl
theorem st_M_encode_0 (t : Nat) (x1 : Int32) (σ : gS) : R_M_encode (t + 1) 0 [x1] σ = B_M_encode_0 (R_M_encode t) x1 σ := rfl
theorem st_M_encode_1 (t : Nat) (x2 : Int32) (σ : gS) : R_M_encode (t + 1) 1 [x2] σ = B_M_encode_1 (R_M_encode t) x2 σ := rfl
theorem st_M_nameAt_0 (t : Nat) (x1 : Int32) (σ : gS) : R_M_nameAt (t + 1) 0 [x1] σ = B_M_nameAt_0 (R_M_nameAt t) x1 σ := rfl
theorem st_M_nameAt_1 (t : Nat) (x1 : Int32) (x2 : Int32) (x3 : Int32) (σ : gS) : R_M_nameAt (t + 1) 1 [x1, x2, x3] σ = B_M_nameAt_1 (R_M_nameAt t) x1 x2 x3 σ := rfl
theorem st_M_nameAt_2 (t : Nat) (x1 : Int32) (x3 : Int32) (z0 : Int32) (σ : gS) : R_M_nameAt (t + 1) 2 [x1, x3, z0] σ = B_M_nameAt_2 (R_M_nameAt t) x1 x3 z0 σ := rfl
theorem st_M_nameAt_3 (t : Nat) (x1 : Int32) (x2 : Int32) (x3 : Int32) (σ : gS) : R_M_nameAt (t + 1) 3 [x1, x2, x3] σ = B_M_nameAt_3 (R_M_nameAt t) x1 x2 x3 σ := rfl
theorem st_M_attr_0 (t : Nat) (x1 : Int32) (x2 : Int32) (σ : gS) : R_M_attr (t + 1) 0 [x1, x2] σ = B_M_attr_0 (R_M_attr t) x1 x2 σ := rfl
theorem st_M_attr_1 (t : Nat) (x1 : Int32) (x2 : Int32) (x3 : Int32) (σ : gS) : R_M_attr (t + 1) 1 [x1, x2, x3] σ = B_M_attr_1 (R_M_attr t) x1 x2 x3 σ := rfl
theorem st_M_attributeAt_0 (t : Nat) (x1 : Int32) (x2 : Int32) (σ : gS) : R_M_attributeAt (t + 1) 0 [x1, x2] σ = B_M_attributeAt_0 (R_M_attributeAt t) x1 x2 σ := rfl
theorem st_M_attributeAt_1 (t : Nat) (x1 : Int32) (x3 : Int32) (x4 : Int32) (x5 : Int32) (σ : gS) : R_M_attributeAt (t + 1) 1 [x1, x3, x4, x5] σ = B_M_attributeAt_1 (R_M_attributeAt t) x1 x3 x4 x5 σ := rfl
theorem st_M_attributeAt_2 (t : Nat) (x1 : Int32) (x3 : Int32) (x4 : Int32) (x5 : Int32) (σ : gS) : R_M_attributeAt (t + 1) 2 [x1, x3, x4, x5] σ = B_M_attributeAt_2 (R_M_attributeAt t) x1 x3 x4 x5 σ := rfl
theorem st_M_start_0 (t : Nat) (σ : gS) : R_M_start (t + 1) 0 [] σ = B_M_start_0 (R_M_start t) σ := rfl
theorem st_M_start_1 (t : Nat) (x2 : Int32) (x3 : Int32) (x4 : Int32) (σ : gS) : R_M_start (t + 1) 1 [x2, x3, x4] σ = B_M_start_1 (R_M_start t) x2 x3 x4 σ := rfl
theorem st_M_start_2 (t : Nat) (x2 : Int32) (x3 : Int32) (x4 : Int32) (x5 : Int32) (σ : gS) : R_M_start (t + 1) 2 [x2, x3, x4, x5] σ = B_M_start_2 (R_M_start t) x2 x3 x4 x5 σ := rfl
theorem st_M_start_3 (t : Nat) (x2 : Int32) (x3 : Int32) (x4 : Int32) (x5 : Int32) (σ : gS) : R_M_start (t + 1) 3 [x2, x3, x4, x5] σ = B_M_start_3 (R_M_start t) x2 x3 x4 x5 σ := rfl
theorem st_M_start_4 (t : Nat) (x2 : Int32) (x3 : Int32) (x4 : Int32) (x5 : Int32) (z0 : Int32) (σ : gS) : R_M_start (t + 1) 4 [x2, x3, x4, x5, z0] σ = B_M_start_4 (R_M_start t) x2 x3 x4 x5 z0 σ := rfl
theorem st_M_start_5 (t : Nat) (x2 : Int32) (x3 : Int32) (x6 : Int32) (σ : gS) : R_M_start (t + 1) 5 [x2, x3, x6] σ = B_M_start_5 (R_M_start t) x2 x3 x6 σ := rfl
theorem st_M_start_6 (t : Nat) (x2 : Int32) (x6 : Int32) (z1 : Int32) (σ : gS) : R_M_start (t + 1) 6 [x2, x6, z1] σ = B_M_start_6 (R_M_start t) x2 x6 z1 σ := rfl
theorem st_M_start_7 (t : Nat) (x2 : Int32) (x6 : Int32) (z1 : Int32) (σ : gS) : R_M_start (t + 1) 7 [x2, x6, z1] σ = B_M_start_7 (R_M_start t) x2 x6 z1 σ := rfl
theorem st_M_start_8 (t : Nat) (x2 : Int32) (z1 : Int32) (σ : gS) : R_M_start (t + 1) 8 [x2, z1] σ = B_M_start_8 (R_M_start t) x2 z1 σ := rfl
theorem st_M_start_9 (t : Nat) (x2 : Int32) (x4 : Int32) (σ : gS) : R_M_start (t + 1) 9 [x2, x4] σ = B_M_start_9 (R_M_start t) x2 x4 σ := rfl
theorem st_M_start_10 (t : Nat) (x2 : Int32) (x4 : Int32) (z0 : Int32) (σ : gS) : R_M_start (t + 1) 10 [x2, x4, z0] σ = B_M_start_10 (R_M_start t) x2 x4 z0 σ := rfl
theorem st_M_content_0 (t : Nat) (σ : gS) : R_M_content (t + 1) 0 [] σ = B_M_content_0 (R_M_content t) σ := rfl
theorem st_M_content_1 (t : Nat) (x1 : Int32) (x2 : Int32) (σ : gS) : R_M_content (t + 1) 1 [x1, x2] σ = B_M_content_1 (R_M_content t) x1 x2 σ := rfl
theorem st_M_content_2 (t : Nat) (x1 : Int32) (x2 : Int32) (σ : gS) : R_M_content (t + 1) 2 [x1, x2] σ = B_M_content_2 (R_M_content t) x1 x2 σ := rfl
theorem st_M_content_3 (t : Nat) (x2 : Int32) (σ : gS) : R_M_content (t + 1) 3 [x2] σ = B_M_content_3 (R_M_content t) x2 σ := rfl
theorem st_M_content_4 (t : Nat) (x2 : Int32) (z0 : Int32) (σ : gS) : R_M_content (t + 1) 4 [x2, z0] σ = B_M_content_4 (R_M_content t) x2 z0 σ := rfl
theorem st_M_content_5 (t : Nat) (x1 : Int32) (x2 : Int32) (x3 : Int32) (σ : gS) : R_M_content (t + 1) 5 [x1, x2, x3] σ = B_M_content_5 (R_M_content t) x1 x2 x3 σ := rfl
theorem st_M_content_6 (t : Nat) (x2 : Int32) (σ : gS) : R_M_content (t + 1) 6 [x2] σ = B_M_content_6 (R_M_content t) x2 σ := rfl
theorem st_M_content_7 (t : Nat) (x2 : Int32) (z0 : Int32) (σ : gS) : R_M_content (t + 1) 7 [x2, z0] σ = B_M_content_7 (R_M_content t) x2 z0 σ := rfl
theorem st_M_content_8 (t : Nat) (x1 : Int32) (x2 : Int32) (x3 : Int32) (σ : gS) : R_M_content (t + 1) 8 [x1, x2, x3] σ = B_M_content_8 (R_M_content t) x1 x2 x3 σ := rfl
theorem st_M_content_9 (t : Nat) (x1 : Int32) (x2 : Int32) (x3 : Int32) (σ : gS) : R_M_content (t + 1) 9 [x1, x2, x3] σ = B_M_content_9 (R_M_content t) x1 x2 x3 σ := rfl
theorem st_M_content_10 (t : Nat) (x1 : Int32) (x2 : Int32) (σ : gS) : R_M_content (t + 1) 10 [x1, x2] σ = B_M_content_10 (R_M_content t) x1 x2 σ := rfl
theorem st_M_content_11 (t : Nat) (x1 : Int32) (x2 : Int32) (σ : gS) : R_M_content (t + 1) 11 [x1, x2] σ = B_M_content_11 (R_M_content t) x1 x2 σ := rfl
theorem st_M_content_12 (t : Nat) (x2 : Int32) (σ : gS) : R_M_content (t + 1) 12 [x2] σ = B_M_content_12 (R_M_content t) x2 σ := rfl
theorem st_M_wellFormed_0 (t : Nat) (σ : gS) : R_M_wellFormed (t + 1) 0 [] σ = B_M_wellFormed_0 (R_M_wellFormed t) σ := rfl
theorem st_M_wellFormed_1 (t : Nat) (σ : gS) : R_M_wellFormed (t + 1) 1 [] σ = B_M_wellFormed_1 (R_M_wellFormed t) σ := rfl
theorem st_M_wellFormed_2 (t : Nat) (σ : gS) : R_M_wellFormed (t + 1) 2 [] σ = B_M_wellFormed_2 (R_M_wellFormed t) σ := rfl
theorem st_M_wellFormed_3 (t : Nat) (z0 : Int32) (σ : gS) : R_M_wellFormed (t + 1) 3 [z0] σ = B_M_wellFormed_3 (R_M_wellFormed t) z0 σ := rfl
theorem st_M_wellFormed_4 (t : Nat) (x1 : Int32) (σ : gS) : R_M_wellFormed (t + 1) 4 [x1] σ = B_M_wellFormed_4 (R_M_wellFormed t) x1 σ := rfl
theorem st_M_wellFormed_5 (t : Nat) (σ : gS) : R_M_wellFormed (t + 1) 5 [] σ = B_M_wellFormed_5 (R_M_wellFormed t) σ := rfl
theorem st_M_wellFormed_6 (t : Nat) (z0 : Int32) (σ : gS) : R_M_wellFormed (t + 1) 6 [z0] σ = B_M_wellFormed_6 (R_M_wellFormed t) z0 σ := rfl
theorem st_M_countOf_0 (t : Nat) (x1 : Int32) (σ : gS) : R_M_countOf (t + 1) 0 [x1] σ = B_M_countOf_0 (R_M_countOf t) x1 σ := rfl
theorem st_M_countOf_1 (t : Nat) (x1 : Int32) (x3 : Int32) (x4 : Int32) (σ : gS) : R_M_countOf (t + 1) 1 [x1, x3, x4] σ = B_M_countOf_1 (R_M_countOf t) x1 x3 x4 σ := rfl
theorem st_M_must_0 (t : Nat) (σ : gS) : R_M_must (t + 1) 0 [] σ = B_M_must_0 (R_M_must t) σ := rfl
theorem st_M_must_1 (t : Nat) (x1 : Int32) (σ : gS) : R_M_must (t + 1) 1 [x1] σ = B_M_must_1 (R_M_must t) x1 σ := rfl
theorem st_M_must_2 (t : Nat) (x1 : Int32) (σ : gS) : R_M_must (t + 1) 2 [x1] σ = B_M_must_2 (R_M_must t) x1 σ := rfl
theorem st_M_body_0 (t : Nat) (σ : gS) : R_M_body (t + 1) 0 [] σ = B_M_body_0 (R_M_body t) σ := rfl
theorem st_M_body_1 (t : Nat) (x1 : Int32) (x2 : Int32) (σ : gS) : R_M_body (t + 1) 1 [x1, x2] σ = B_M_body_1 (R_M_body t) x1 x2 σ := rfl
theorem st_M_body_2 (t : Nat) (x2 : Int32) (σ : gS) : R_M_body (t + 1) 2 [x2] σ = B_M_body_2 (R_M_body t) x2 σ := rfl
theorem st_M_body_3 (t : Nat) (x2 : Int32) (z0 : Int32) (σ : gS) : R_M_body (t + 1) 3 [x2, z0] σ = B_M_body_3 (R_M_body t) x2 z0 σ := rfl
theorem st_M_body_4 (t : Nat) (x1 : Int32) (x2 : Int32) (σ : gS) : R_M_body (t + 1) 4 [x1, x2] σ = B_M_body_4 (R_M_body t) x1 x2 σ := rfl
theorem st_M_body_5 (t : Nat) (x1 : Int32) (x2 : Int32) (σ : gS) : R_M_body (t + 1) 5 [x1, x2] σ = B_M_body_5 (R_M_body t) x1 x2 σ := rfl
theorem st_M_body_6 (t : Nat) (x1 : Int32) (x2 : Int32) (σ : gS) : R_M_body (t + 1) 6 [x1, x2] σ = B_M_body_6 (R_M_body t) x1 x2 σ := rfl
theorem st_M_body_7 (t : Nat) (x1 : Int32) (x2 : Int32) (σ : gS) : R_M_body (t + 1) 7 [x1, x2] σ = B_M_body_7 (R_M_body t) x1 x2 σ := rfl
theorem st_M_body_8 (t : Nat) (x1 : Int32) (x2 : Int32) (σ : gS) : R_M_body (t + 1) 8 [x1, x2] σ = B_M_body_8 (R_M_body t) x1 x2 σ := rfl
theorem st_M_body_9 (t : Nat) (x1 : Int32) (x2 : Int32) (z0 : Int32) (σ : gS) : R_M_body (t + 1) 9 [x1, x2, z0] σ = B_M_body_9 (R_M_body t) x1 x2 z0 σ := rfl
theorem st_M_body_10 (t : Nat) (x1 : Int32) (x2 : Int32) (σ : gS) : R_M_body (t + 1) 10 [x1, x2] σ = B_M_body_10 (R_M_body t) x1 x2 σ := rfl
theorem st_M_mayStand_0 (t : Nat) (x1 : Int32) (x2 : Int32) (σ : gS) : R_M_mayStand (t + 1) 0 [x1, x2] σ = B_M_mayStand_0 (R_M_mayStand t) x1 x2 σ := rfl
theorem st_M_mayStand_1 (t : Nat) (x1 : Int32) (x2 : Int32) (σ : gS) : R_M_mayStand (t + 1) 1 [x1, x2] σ = B_M_mayStand_1 (R_M_mayStand t) x1 x2 σ := rfl
theorem st_M_mayStand_2 (t : Nat) (x1 : Int32) (x2 : Int32) (σ : gS) : R_M_mayStand (t + 1) 2 [x1, x2] σ = B_M_mayStand_2 (R_M_mayStand t) x1 x2 σ := rfl
theorem st_M_mayStand_3 (t : Nat) (x1 : Int32) (x2 : Int32) (σ : gS) : R_M_mayStand (t + 1) 3 [x1, x2] σ = B_M_mayStand_3 (R_M_mayStand t) x1 x2 σ := rfl
theorem st_M_mayStand_4 (t : Nat) (x1 : Int32) (σ : gS) : R_M_mayStand (t + 1) 4 [x1] σ = B_M_mayStand_4 (R_M_mayStand t) x1 σ := rfl
theorem st_M_numberOf_0 (t : Nat) (x1 : Int32) (σ : gS) : R_M_numberOf (t + 1) 0 [x1] [] σ = B_M_numberOf_0 (R_M_numberOf t) x1 σ := rfl
theorem st_M_numberOf_1 (t : Nat) (x1 : Int32) (x2 : Int32) (σ : gS) : R_M_numberOf (t + 1) 1 [x1, x2] [] σ = B_M_numberOf_1 (R_M_numberOf t) x1 x2 σ := rfl
theorem st_M_numberOf_2 (t : Nat) (x1 : Int32) (x2 : Int32) (z0 : Int32) (σ : gS) : R_M_numberOf (t + 1) 2 [x1, x2, z0] [] σ = B_M_numberOf_2 (R_M_numberOf t) x1 x2 z0 σ := rfl
theorem st_M_numberOf_3 (t : Nat) (x1 : Int32) (x2 : Int32) (x3 : Int32) (z0 : Int32) (σ : gS) : R_M_numberOf (t + 1) 3 [x1, x2, x3, z0] [] σ = B_M_numberOf_3 (R_M_numberOf t) x1 x2 x3 z0 σ := rfl
theorem st_M_numberOf_4 (t : Nat) (x1 : Int32) (x2 : Int32) (x3 : Int32) (x4 : Int32) (x5 : Int64) (σ : gS) : R_M_numberOf (t + 1) 4 [x1, x2, x3, x4] [x5] σ = B_M_numberOf_4 (R_M_numberOf t) x1 x2 x3 x4 x5 σ := rfl
theorem st_M_numberOf_5 (t : Nat) (z0 : Int64) (σ : gS) : R_M_numberOf (t + 1) 5 [] [z0] σ = B_M_numberOf_5 (R_M_numberOf t) z0 σ := rfl
theorem st_M_fits_0 (t : Nat) (x1 : Int32) (x2 : Int32) (σ : gS) : R_M_fits (t + 1) 0 [x1, x2] σ = B_M_fits_0 (R_M_fits t) x1 x2 σ := rfl
theorem st_M_fits_1 (t : Nat) (x1 : Int32) (σ : gS) : R_M_fits (t + 1) 1 [x1] σ = B_M_fits_1 (R_M_fits t) x1 σ := rfl
theorem st_M_fits_2 (t : Nat) (x1 : Int32) (σ : gS) : R_M_fits (t + 1) 2 [x1] σ = B_M_fits_2 (R_M_fits t) x1 σ := rfl
theorem st_M_fits_3 (t : Nat) (x1 : Int32) (x4 : Int32) (σ : gS) : R_M_fits (t + 1) 3 [x1, x4] σ = B_M_fits_3 (R_M_fits t) x1 x4 σ := rfl
theorem st_M_fits_4 (t : Nat) (x1 : Int32) (σ : gS) : R_M_fits (t + 1) 4 [x1] σ = B_M_fits_4 (R_M_fits t) x1 σ := rfl
theorem st_M_fits_5 (t : Nat) (z0 : Int32) (z1 : Int32) (σ : gS) : R_M_fits (t + 1) 5 [z0, z1] σ = B_M_fits_5 (R_M_fits t) z0 z1 σ := rfl
theorem st_M_slots_0 (t : Nat) (x1 : Int32) (σ : gS) : R_M_slots (t + 1) 0 [x1] σ = B_M_slots_0 (R_M_slots t) x1 σ := rfl
theorem st_M_slots_1 (t : Nat) (x1 : Int32) (z0 : Int32) (σ : gS) : R_M_slots (t + 1) 1 [x1, z0] σ = B_M_slots_1 (R_M_slots t) x1 z0 σ := rfl
theorem st_M_slots_2 (t : Nat) (x1 : Int32) (x2 : Int32) (z0 : Int32) (σ : gS) : R_M_slots (t + 1) 2 [x1, x2, z0] σ = B_M_slots_2 (R_M_slots t) x1 x2 z0 σ := rfl
theorem st_M_slots_3 (t : Nat) (x1 : Int32) (x2 : Int32) (z0 : Int32) (σ : gS) : R_M_slots (t + 1) 3 [x1, x2, z0] σ = B_M_slots_3 (R_M_slots t) x1 x2 z0 σ := rfl
theorem st_M_slots_4 (t : Nat) (x1 : Int32) (x2 : Int32) (x3 : Int32) (x4 : Int32) (x5 : Int32) (σ : gS) : R_M_slots (t + 1) 4 [x1, x2, x3, x4, x5] σ = B_M_slots_4 (R_M_slots t) x1 x2 x3 x4 x5 σ := rfl
theorem st_M_slots_5 (t : Nat) (x1 : Int32) (x2 : Int32) (x4 : Int32) (x5 : Int32) (z0 : Int32) (σ : gS) : R_M_slots (t + 1) 5 [x1, x2, x4, x5, z0] σ = B_M_slots_5 (R_M_slots t) x1 x2 x4 x5 z0 σ := rfl
theorem st_M_slots_6 (t : Nat) (x1 : Int32) (x2 : Int32) (x3 : Int32) (x4 : Int32) (x5 : Int32) (σ : gS) : R_M_slots (t + 1) 6 [x1, x2, x3, x4, x5] σ = B_M_slots_6 (R_M_slots t) x1 x2 x3 x4 x5 σ := rfl
theorem st_M_withId_0 (t : Nat) (x1 : Int32) (x2 : Int32) (x3 : Int32) (σ : gS) : R_M_withId (t + 1) 0 [x1, x2, x3] σ = B_M_withId_0 (R_M_withId t) x1 x2 x3 σ := rfl
theorem st_M_withId_1 (t : Nat) (x2 : Int32) (x3 : Int32) (x4 : Int32) (σ : gS) : R_M_withId (t + 1) 1 [x2, x3, x4] σ = B_M_withId_1 (R_M_withId t) x2 x3 x4 σ := rfl
theorem st_M_withId_2 (t : Nat) (x2 : Int32) (x3 : Int32) (x4 : Int32) (σ : gS) : R_M_withId (t + 1) 2 [x2, x3, x4] σ = B_M_withId_2 (R_M_withId t) x2 x3 x4 σ := rfl
theorem st_M_lawful_0 (t : Nat) (x1 : Int32) (σ : gS) : R_M_lawful (t + 1) 0 [x1] σ = B_M_lawful_0 (R_M_lawful t) x1 σ := rfl
theorem st_M_lawful_1 (t : Nat) (x1 : Int32) (x2 : Int32) (x3 : Int32) (σ : gS) : R_M_lawful (t + 1) 1 [x1, x2, x3] σ = B_M_lawful_1 (R_M_lawful t) x1 x2 x3 σ := rfl
theorem st_M_lawful_2 (t : Nat) (x1 : Int32) (x2 : Int32) (x3 : Int32) (σ : gS) : R_M_lawful (t + 1) 2 [x1, x2, x3] σ = B_M_lawful_2 (R_M_lawful t) x1 x2 x3 σ := rfl
theorem st_M_lawful_3 (t : Nat) (x1 : Int32) (x2 : Int32) (x3 : Int32) (σ : gS) : R_M_lawful (t + 1) 3 [x1, x2, x3] σ = B_M_lawful_3 (R_M_lawful t) x1 x2 x3 σ := rfl
theorem st_M_lawful_4 (t : Nat) (x1 : Int32) (x3 : Int32) (z0 : Int32) (σ : gS) : R_M_lawful (t + 1) 4 [x1, x3, z0] σ = B_M_lawful_4 (R_M_lawful t) x1 x3 z0 σ := rfl
theorem st_M_lawful_5 (t : Nat) (x1 : Int32) (x2 : Int32) (x3 : Int32) (z0 : Int32) (σ : gS) : R_M_lawful (t + 1) 5 [x1, x2, x3, z0] σ = B_M_lawful_5 (R_M_lawful t) x1 x2 x3 z0 σ := rfl
theorem st_M_lawful_6 (t : Nat) (x1 : Int32) (x2 : Int32) (x3 : Int32) (σ : gS) : R_M_lawful (t + 1) 6 [x1, x2, x3] σ = B_M_lawful_6 (R_M_lawful t) x1 x2 x3 σ := rfl
theorem st_M_lawful_7 (t : Nat) (x1 : Int32) (x2 : Int32) (x3 : Int32) (σ : gS) : R_M_lawful (t + 1) 7 [x1, x2, x3] σ = B_M_lawful_7 (R_M_lawful t) x1 x2 x3 σ := rfl
theorem st_M_decode_0 (t : Nat) (σ : gS) : R_M_decode (t + 1) 0 [] σ = B_M_decode_0 (R_M_decode t) σ := rfl
theorem st_M_decode_1 (t : Nat) (x1 : Int32) (x2 : Int32) (σ : gS) : R_M_decode (t + 1) 1 [x1, x2] σ = B_M_decode_1 (R_M_decode t) x1 x2 σ := rfl
theorem st_M_decode_2 (t : Nat) (x1 : Int32) (x2 : Int32) (z1 : Int32) (z3 : Int32) (σ : gS) : R_M_decode (t + 1) 2 [x1, x2, z1, z3] σ = B_M_decode_2 (R_M_decode t) x1 x2 z1 z3 σ := rfl
theorem st_M_decode_3 (t : Nat) (x1 : Int32) (x2 : Int32) (z1 : Int32) (z3 : Int32) (z4 : Int32) (σ : gS) : R_M_decode (t + 1) 3 [x1, x2, z1, z3, z4] σ = B_M_decode_3 (R_M_decode t) x1 x2 z1 z3 z4 σ := rfl
theorem st_M_decode_4 (t : Nat) (x1 : Int32) (x2 : Int32) (x3 : Int32) (σ : gS) : R_M_decode (t + 1) 4 [x1, x2, x3] σ = B_M_decode_4 (R_M_decode t) x1 x2 x3 σ := rfl
theorem st_M_decode_5 (t : Nat) (x1 : Int32) (x2 : Int32) (σ : gS) : R_M_decode (t + 1) 5 [x1, x2] σ = B_M_decode_5 (R_M_decode t) x1 x2 σ := rfl
theorem st_M_decode_6 (t : Nat) (x1 : Int32) (x2 : Int32) (σ : gS) : R_M_decode (t + 1) 6 [x1, x2] σ = B_M_decode_6 (R_M_decode t) x1 x2 σ := rfl
theorem st_M_decode_7 (t : Nat) (x1 : Int32) (x2 : Int32) (σ : gS) : R_M_decode (t + 1) 7 [x1, x2] σ = B_M_decode_7 (R_M_decode t) x1 x2 σ := rfl
