def R_Z : String := "jdk/internal/util/Preconditions"
abbrev b_Q_checkIndex : ByteArray := prog_13_method_155_code
def y_Q_checkIndex : MethodName := ⟨R_Q, "checkIndex", "(II)V"⟩
abbrev w_Q_checkIndex : List Cond := Cond.code y_Q_checkIndex b_Q_checkIndex 2 none :: gTb
theorem tc_Q_checkIndex : Cond.code y_Q_checkIndex b_Q_checkIndex 2 none ∈ gTb := gm2 (List.mem_of_getElem? (i := 229) rfl) rfl
abbrev b_Z_checkIndex : ByteArray := prog_17_method_11_code
def y_Z_checkIndex : MethodName := ⟨R_Z, "checkIndex", "(IILjava/util/function/BiFunction;)I"⟩
abbrev w_Z_checkIndex : List Cond := Cond.code y_Z_checkIndex b_Z_checkIndex 3 (some .int) :: gTb
theorem tc_Z_checkIndex : Cond.code y_Z_checkIndex b_Z_checkIndex 3 (some .int) ∈ gTb := gm2 (List.mem_of_getElem? (i := 234) rfl) rfl
theorem d_N_max_0 : decode b_N_max 0 = .ok (.iload_n 0, 1) := by decide +kernel
theorem d_N_max_1 : decode b_N_max 1 = .ok (.iload_n 1, 1) := by decide +kernel
theorem d_N_max_2 : decode b_N_max 2 = .ok (.if_icmp .lt 7, 3) := by decide +kernel
theorem d_N_max_5 : decode b_N_max 5 = .ok (.iload_n 0, 1) := by decide +kernel
theorem d_N_max_6 : decode b_N_max 6 = .ok (.goto 4, 3) := by decide +kernel
theorem d_N_max_9 : decode b_N_max 9 = .ok (.iload_n 1, 1) := by decide +kernel
theorem d_N_max_10 : decode b_N_max 10 = .ok (.ireturn, 1) := by decide +kernel
theorem d_J_fill_0 : decode b_J_fill 0 = .ok (.iconst 0, 1) := by decide +kernel
theorem d_J_fill_1 : decode b_J_fill 1 = .ok (.istore_n 2, 1) := by decide +kernel
theorem d_J_fill_2 : decode b_J_fill 2 = .ok (.aload_n 0, 1) := by decide +kernel
theorem d_J_fill_3 : decode b_J_fill 3 = .ok (.arraylength, 1) := by decide +kernel
theorem d_J_fill_4 : decode b_J_fill 4 = .ok (.istore_n 3, 1) := by decide +kernel
theorem d_J_fill_5 : decode b_J_fill 5 = .ok (.iload_n 2, 1) := by decide +kernel
theorem d_J_fill_6 : decode b_J_fill 6 = .ok (.iload_n 3, 1) := by decide +kernel
theorem d_J_fill_7 : decode b_J_fill 7 = .ok (.if_icmp .ge 13, 3) := by decide +kernel
theorem d_J_fill_10 : decode b_J_fill 10 = .ok (.aload_n 0, 1) := by decide +kernel
theorem d_J_fill_11 : decode b_J_fill 11 = .ok (.iload_n 2, 1) := by decide +kernel
theorem d_J_fill_12 : decode b_J_fill 12 = .ok (.iload_n 1, 1) := by decide +kernel
theorem d_J_fill_13 : decode b_J_fill 13 = .ok (.iastore, 1) := by decide +kernel
theorem d_J_fill_14 : decode b_J_fill 14 = .ok (.iinc 2 1, 3) := by decide +kernel
theorem d_J_fill_17 : decode b_J_fill 17 = .ok (.goto (-12), 3) := by decide +kernel
theorem d_J_fill_20 : decode b_J_fill 20 = .ok (.return_, 1) := by decide +kernel
theorem d_Q_charAt_0 : decode b_Q_charAt 0 = .ok (.aload_n 0, 1) := by decide +kernel
theorem d_Q_charAt_1 : decode b_Q_charAt 1 = .ok (.invokevirtual 492, 3) := by decide +kernel
theorem d_Q_charAt_4 : decode b_Q_charAt 4 = .ok (.ifCond .eq 12, 3) := by decide +kernel
theorem d_Q_charAt_7 : decode b_Q_charAt 7 = .ok (.aload_n 0, 1) := by decide +kernel
theorem d_Q_charAt_8 : decode b_Q_charAt 8 = .ok (.getfield 9, 3) := by decide +kernel
theorem d_Q_charAt_11 : decode b_Q_charAt 11 = .ok (.iload_n 1, 1) := by decide +kernel
theorem d_Q_charAt_12 : decode b_Q_charAt 12 = .ok (.invokestatic 495, 3) := by decide +kernel
theorem d_Q_charAt_15 : decode b_Q_charAt 15 = .ok (.ireturn, 1) := by decide +kernel
theorem d_Q_charAt_16 : decode b_Q_charAt 16 = .ok (.aload_n 0, 1) := by decide +kernel
theorem d_Q_charAt_17 : decode b_Q_charAt 17 = .ok (.getfield 9, 3) := by decide +kernel
theorem d_Q_charAt_20 : decode b_Q_charAt 20 = .ok (.iload_n 1, 1) := by decide +kernel
theorem d_Q_charAt_21 : decode b_Q_charAt 21 = .ok (.invokestatic 498, 3) := by decide +kernel
theorem d_Q_charAt_24 : decode b_Q_charAt 24 = .ok (.ireturn, 1) := by decide +kernel
theorem d_Q_coder_0 : decode b_Q_coder 0 = .ok (.getstatic 38, 3) := by decide +kernel
theorem d_Q_coder_3 : decode b_Q_coder 3 = .ok (.ifCond .eq 10, 3) := by decide +kernel
theorem d_Q_coder_6 : decode b_Q_coder 6 = .ok (.aload_n 0, 1) := by decide +kernel
theorem d_Q_coder_7 : decode b_Q_coder 7 = .ok (.getfield 15, 3) := by decide +kernel
theorem d_Q_coder_10 : decode b_Q_coder 10 = .ok (.goto 4, 3) := by decide +kernel
theorem d_Q_coder_13 : decode b_Q_coder 13 = .ok (.iconst 1, 1) := by decide +kernel
theorem d_Q_coder_14 : decode b_Q_coder 14 = .ok (.ireturn, 1) := by decide +kernel
theorem d_Q_isLatin1_0 : decode b_Q_isLatin1 0 = .ok (.getstatic 38, 3) := by decide +kernel
theorem d_Q_isLatin1_3 : decode b_Q_isLatin1 3 = .ok (.ifCond .eq 14, 3) := by decide +kernel
theorem d_Q_isLatin1_6 : decode b_Q_isLatin1 6 = .ok (.aload_n 0, 1) := by decide +kernel
theorem d_Q_isLatin1_7 : decode b_Q_isLatin1 7 = .ok (.getfield 15, 3) := by decide +kernel
theorem d_Q_isLatin1_10 : decode b_Q_isLatin1 10 = .ok (.ifCond .ne 7, 3) := by decide +kernel
theorem d_Q_isLatin1_13 : decode b_Q_isLatin1 13 = .ok (.iconst 1, 1) := by decide +kernel
theorem d_Q_isLatin1_14 : decode b_Q_isLatin1 14 = .ok (.goto 4, 3) := by decide +kernel
theorem d_Q_isLatin1_17 : decode b_Q_isLatin1 17 = .ok (.iconst 0, 1) := by decide +kernel
theorem d_Q_isLatin1_18 : decode b_Q_isLatin1 18 = .ok (.ireturn, 1) := by decide +kernel
theorem d_Q_length_0 : decode b_Q_length 0 = .ok (.aload_n 0, 1) := by decide +kernel
theorem d_Q_length_1 : decode b_Q_length 1 = .ok (.getfield 9, 3) := by decide +kernel
theorem d_Q_length_4 : decode b_Q_length 4 = .ok (.arraylength, 1) := by decide +kernel
theorem d_Q_length_5 : decode b_Q_length 5 = .ok (.aload_n 0, 1) := by decide +kernel
theorem d_Q_length_6 : decode b_Q_length 6 = .ok (.invokevirtual 335, 3) := by decide +kernel
theorem d_Q_length_9 : decode b_Q_length 9 = .ok (.ishr, 1) := by decide +kernel
theorem d_Q_length_10 : decode b_Q_length 10 = .ok (.ireturn, 1) := by decide +kernel
theorem d_Y_charAt_0 : decode b_Y_charAt 0 = .ok (.iload_n 1, 1) := by decide +kernel
theorem d_Y_charAt_1 : decode b_Y_charAt 1 = .ok (.aload_n 0, 1) := by decide +kernel
theorem d_Y_charAt_2 : decode b_Y_charAt 2 = .ok (.arraylength, 1) := by decide +kernel
theorem d_Y_charAt_3 : decode b_Y_charAt 3 = .ok (.invokestatic 9, 3) := by decide +kernel
theorem d_Y_charAt_6 : decode b_Y_charAt 6 = .ok (.aload_n 0, 1) := by decide +kernel
theorem d_Y_charAt_7 : decode b_Y_charAt 7 = .ok (.iload_n 1, 1) := by decide +kernel
theorem d_Y_charAt_8 : decode b_Y_charAt 8 = .ok (.baload, 1) := by decide +kernel
theorem d_Y_charAt_9 : decode b_Y_charAt 9 = .ok (.sipush 255, 3) := by decide +kernel
theorem d_Y_charAt_12 : decode b_Y_charAt 12 = .ok (.iand, 1) := by decide +kernel
theorem d_Y_charAt_13 : decode b_Y_charAt 13 = .ok (.i2c, 1) := by decide +kernel
theorem d_Y_charAt_14 : decode b_Y_charAt 14 = .ok (.ireturn, 1) := by decide +kernel
theorem d_Q_checkIndex_0 : decode b_Q_checkIndex 0 = .ok (.iload_n 0, 1) := by decide +kernel
theorem d_Q_checkIndex_1 : decode b_Q_checkIndex 1 = .ok (.iload_n 1, 1) := by decide +kernel
theorem d_Q_checkIndex_2 : decode b_Q_checkIndex 2 = .ok (.getstatic 1053, 3) := by decide +kernel
theorem d_Q_checkIndex_5 : decode b_Q_checkIndex 5 = .ok (.invokestatic 1059, 3) := by decide +kernel
theorem d_Q_checkIndex_8 : decode b_Q_checkIndex 8 = .ok (.pop, 1) := by decide +kernel
theorem d_Q_checkIndex_9 : decode b_Q_checkIndex 9 = .ok (.return_, 1) := by decide +kernel
theorem d_Z_checkIndex_0 : decode b_Z_checkIndex 0 = .ok (.iload_n 0, 1) := by decide +kernel
theorem d_Z_checkIndex_1 : decode b_Z_checkIndex 1 = .ok (.ifCond .lt 8, 3) := by decide +kernel
theorem d_Z_checkIndex_4 : decode b_Z_checkIndex 4 = .ok (.iload_n 0, 1) := by decide +kernel
theorem d_Z_checkIndex_5 : decode b_Z_checkIndex 5 = .ok (.iload_n 1, 1) := by decide +kernel
theorem d_Z_checkIndex_6 : decode b_Z_checkIndex 6 = .ok (.if_icmp .lt 10, 3) := by decide +kernel
theorem d_Z_checkIndex_9 : decode b_Z_checkIndex 9 = .ok (.aload_n 2, 1) := by decide +kernel
theorem d_Z_checkIndex_10 : decode b_Z_checkIndex 10 = .ok (.iload_n 0, 1) := by decide +kernel
theorem d_Z_checkIndex_11 : decode b_Z_checkIndex 11 = .ok (.iload_n 1, 1) := by decide +kernel
theorem d_Z_checkIndex_12 : decode b_Z_checkIndex 12 = .ok (.invokestatic 95, 3) := by decide +kernel
theorem d_Z_checkIndex_15 : decode b_Z_checkIndex 15 = .ok (.athrow, 1) := by decide +kernel
theorem d_Z_checkIndex_16 : decode b_Z_checkIndex 16 = .ok (.iload_n 0, 1) := by decide +kernel
theorem d_Z_checkIndex_17 : decode b_Z_checkIndex 17 = .ok (.ireturn, 1) := by decide +kernel
