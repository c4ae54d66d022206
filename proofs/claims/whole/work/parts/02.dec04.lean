theorem d_M_mark_81 : decode b_M_mark 81 = .ok (.ifCond .eq 29, 3) := by decide +kernel
theorem d_M_mark_84 : decode b_M_mark 84 = .ok (.aload_n 0, 1) := by decide +kernel
theorem d_M_mark_85 : decode b_M_mark 85 = .ok (.iload_n 3, 1) := by decide +kernel
theorem d_M_mark_86 : decode b_M_mark 86 = .ok (.iconst 4, 1) := by decide +kernel
theorem d_M_mark_87 : decode b_M_mark 87 = .ok (.idiv, 1) := by decide +kernel
theorem d_M_mark_88 : decode b_M_mark 88 = .ok (.iload_n 3, 1) := by decide +kernel
theorem d_M_mark_89 : decode b_M_mark 89 = .ok (.iconst 4, 1) := by decide +kernel
theorem d_M_mark_90 : decode b_M_mark 90 = .ok (.irem, 1) := by decide +kernel
theorem d_M_mark_91 : decode b_M_mark 91 = .ok (.invokevirtual 102, 3) := by decide +kernel
theorem d_M_mark_94 : decode b_M_mark 94 = .ok (.iconst 2, 1) := by decide +kernel
theorem d_M_mark_95 : decode b_M_mark 95 = .ok (.if_icmp .ne 15, 3) := by decide +kernel
theorem d_M_mark_98 : decode b_M_mark 98 = .ok (.aload_n 0, 1) := by decide +kernel
theorem d_M_mark_99 : decode b_M_mark 99 = .ok (.getfield 66, 3) := by decide +kernel
theorem d_M_mark_102 : decode b_M_mark 102 = .ok (.aload_n 0, 1) := by decide +kernel
theorem d_M_mark_103 : decode b_M_mark 103 = .ok (.getfield 19, 3) := by decide +kernel
theorem d_M_mark_106 : decode b_M_mark 106 = .ok (.iload_n 3, 1) := by decide +kernel
theorem d_M_mark_107 : decode b_M_mark 107 = .ok (.iaload, 1) := by decide +kernel
theorem d_M_mark_108 : decode b_M_mark 108 = .ok (.iconst 1, 1) := by decide +kernel
theorem d_M_mark_109 : decode b_M_mark 109 = .ok (.bastore, 1) := by decide +kernel
theorem d_M_mark_110 : decode b_M_mark 110 = .ok (.iinc 3 1, 3) := by decide +kernel
theorem d_M_mark_113 : decode b_M_mark 113 = .ok (.goto (-50), 3) := by decide +kernel
theorem d_M_mark_116 : decode b_M_mark 116 = .ok (.iinc 2 1, 3) := by decide +kernel
theorem d_M_mark_119 : decode b_M_mark 119 = .ok (.goto (-64), 3) := by decide +kernel
theorem d_M_mark_122 : decode b_M_mark 122 = .ok (.iconst 0, 1) := by decide +kernel
theorem d_M_mark_123 : decode b_M_mark 123 = .ok (.istore_n 2, 1) := by decide +kernel
theorem d_M_mark_124 : decode b_M_mark 124 = .ok (.iload_n 2, 1) := by decide +kernel
theorem d_M_mark_125 : decode b_M_mark 125 = .ok (.iconst 4, 1) := by decide +kernel
theorem d_M_mark_126 : decode b_M_mark 126 = .ok (.aload_n 0, 1) := by decide +kernel
theorem d_M_mark_127 : decode b_M_mark 127 = .ok (.getfield 87, 3) := by decide +kernel
theorem d_M_mark_130 : decode b_M_mark 130 = .ok (.imul, 1) := by decide +kernel
theorem d_M_mark_131 : decode b_M_mark 131 = .ok (.if_icmp .ge 49, 3) := by decide +kernel
theorem d_M_mark_134 : decode b_M_mark 134 = .ok (.aload_n 0, 1) := by decide +kernel
theorem d_M_mark_135 : decode b_M_mark 135 = .ok (.getfield 66, 3) := by decide +kernel
theorem d_M_mark_138 : decode b_M_mark 138 = .ok (.iload_n 2, 1) := by decide +kernel
theorem d_M_mark_139 : decode b_M_mark 139 = .ok (.iconst 4, 1) := by decide +kernel
theorem d_M_mark_140 : decode b_M_mark 140 = .ok (.idiv, 1) := by decide +kernel
theorem d_M_mark_141 : decode b_M_mark 141 = .ok (.baload, 1) := by decide +kernel
theorem d_M_mark_142 : decode b_M_mark 142 = .ok (.ifCond .eq 32, 3) := by decide +kernel
theorem d_M_mark_145 : decode b_M_mark 145 = .ok (.aload_n 0, 1) := by decide +kernel
theorem d_M_mark_146 : decode b_M_mark 146 = .ok (.iload_n 2, 1) := by decide +kernel
theorem d_M_mark_147 : decode b_M_mark 147 = .ok (.iconst 4, 1) := by decide +kernel
theorem d_M_mark_148 : decode b_M_mark 148 = .ok (.idiv, 1) := by decide +kernel
theorem d_M_mark_149 : decode b_M_mark 149 = .ok (.iload_n 2, 1) := by decide +kernel
theorem d_M_mark_150 : decode b_M_mark 150 = .ok (.iconst 4, 1) := by decide +kernel
theorem d_M_mark_151 : decode b_M_mark 151 = .ok (.irem, 1) := by decide +kernel
theorem d_M_mark_152 : decode b_M_mark 152 = .ok (.invokevirtual 102, 3) := by decide +kernel
theorem d_M_mark_155 : decode b_M_mark 155 = .ok (.iconst 2, 1) := by decide +kernel
theorem d_M_mark_156 : decode b_M_mark 156 = .ok (.if_icmp .ne 18, 3) := by decide +kernel
theorem d_M_mark_159 : decode b_M_mark 159 = .ok (.aload_n 0, 1) := by decide +kernel
theorem d_M_mark_160 : decode b_M_mark 160 = .ok (.getfield 69, 3) := by decide +kernel
theorem d_M_mark_163 : decode b_M_mark 163 = .ok (.aload_n 0, 1) := by decide +kernel
theorem d_M_mark_164 : decode b_M_mark 164 = .ok (.getfield 19, 3) := by decide +kernel
theorem d_M_mark_167 : decode b_M_mark 167 = .ok (.iload_n 2, 1) := by decide +kernel
theorem d_M_mark_168 : decode b_M_mark 168 = .ok (.iaload, 1) := by decide +kernel
theorem d_M_mark_169 : decode b_M_mark 169 = .ok (.dup2, 1) := by decide +kernel
theorem d_M_mark_170 : decode b_M_mark 170 = .ok (.iaload, 1) := by decide +kernel
theorem d_M_mark_171 : decode b_M_mark 171 = .ok (.iconst 1, 1) := by decide +kernel
theorem d_M_mark_172 : decode b_M_mark 172 = .ok (.iadd, 1) := by decide +kernel
theorem d_M_mark_173 : decode b_M_mark 173 = .ok (.iastore, 1) := by decide +kernel
theorem d_M_mark_174 : decode b_M_mark 174 = .ok (.iinc 2 1, 3) := by decide +kernel
theorem d_M_mark_177 : decode b_M_mark 177 = .ok (.goto (-53), 3) := by decide +kernel
theorem d_M_mark_180 : decode b_M_mark 180 = .ok (.return_, 1) := by decide +kernel
theorem d_M_shared_0 : decode b_M_shared 0 = .ok (.aload_n 0, 1) := by decide +kernel
theorem d_M_shared_1 : decode b_M_shared 1 = .ok (.iload_n 1, 1) := by decide +kernel
theorem d_M_shared_2 : decode b_M_shared 2 = .ok (.invokevirtual 91, 3) := by decide +kernel
theorem d_M_shared_5 : decode b_M_shared 5 = .ok (.ifCond .ne 5, 3) := by decide +kernel
theorem d_M_shared_8 : decode b_M_shared 8 = .ok (.iconst (-1), 1) := by decide +kernel
theorem d_M_shared_9 : decode b_M_shared 9 = .ok (.ireturn, 1) := by decide +kernel
theorem d_M_shared_10 : decode b_M_shared 10 = .ok (.aload_n 0, 1) := by decide +kernel
theorem d_M_shared_11 : decode b_M_shared 11 = .ok (.iload_n 1, 1) := by decide +kernel
theorem d_M_shared_12 : decode b_M_shared 12 = .ok (.invokevirtual 106, 3) := by decide +kernel
theorem d_M_shared_15 : decode b_M_shared 15 = .ok (.iconst 0, 1) := by decide +kernel
theorem d_M_shared_16 : decode b_M_shared 16 = .ok (.istore_n 2, 1) := by decide +kernel
theorem d_M_shared_17 : decode b_M_shared 17 = .ok (.iconst 0, 1) := by decide +kernel
theorem d_M_shared_18 : decode b_M_shared 18 = .ok (.istore_n 3, 1) := by decide +kernel
theorem d_M_shared_19 : decode b_M_shared 19 = .ok (.iload_n 3, 1) := by decide +kernel
theorem d_M_shared_20 : decode b_M_shared 20 = .ok (.bipush 16, 2) := by decide +kernel
theorem d_M_shared_22 : decode b_M_shared 22 = .ok (.if_icmp .ge 22, 3) := by decide +kernel
theorem d_M_shared_25 : decode b_M_shared 25 = .ok (.aload_n 0, 1) := by decide +kernel
theorem d_M_shared_26 : decode b_M_shared 26 = .ok (.getfield 69, 3) := by decide +kernel
theorem d_M_shared_29 : decode b_M_shared 29 = .ok (.iload_n 3, 1) := by decide +kernel
theorem d_M_shared_30 : decode b_M_shared 30 = .ok (.iaload, 1) := by decide +kernel
theorem d_M_shared_31 : decode b_M_shared 31 = .ok (.iconst 2, 1) := by decide +kernel
theorem d_M_shared_32 : decode b_M_shared 32 = .ok (.if_icmp .lt 6, 3) := by decide +kernel
theorem d_M_shared_35 : decode b_M_shared 35 = .ok (.iinc 2 1, 3) := by decide +kernel
theorem d_M_shared_38 : decode b_M_shared 38 = .ok (.iinc 3 1, 3) := by decide +kernel
theorem d_M_shared_41 : decode b_M_shared 41 = .ok (.goto (-22), 3) := by decide +kernel
theorem d_M_shared_44 : decode b_M_shared 44 = .ok (.iload_n 2, 1) := by decide +kernel
theorem d_M_shared_45 : decode b_M_shared 45 = .ok (.ireturn, 1) := by decide +kernel
theorem d_M_out_0 : decode b_M_out 0 = .ok (.iconst 0, 1) := by decide +kernel
theorem d_M_out_1 : decode b_M_out 1 = .ok (.istore 5, 2) := by decide +kernel
theorem d_M_out_3 : decode b_M_out 3 = .ok (.iload 5, 2) := by decide +kernel
theorem d_M_out_5 : decode b_M_out 5 = .ok (.iconst 4, 1) := by decide +kernel
theorem d_M_out_6 : decode b_M_out 6 = .ok (.if_icmp .ge 69, 3) := by decide +kernel
theorem d_M_out_9 : decode b_M_out 9 = .ok (.iload 5, 2) := by decide +kernel
theorem d_M_out_11 : decode b_M_out 11 = .ok (.ifCond .ne 7, 3) := by decide +kernel
theorem d_M_out_14 : decode b_M_out 14 = .ok (.iload_n 1, 1) := by decide +kernel
theorem d_M_out_15 : decode b_M_out 15 = .ok (.goto 25, 3) := by decide +kernel
theorem d_M_out_18 : decode b_M_out 18 = .ok (.iload 5, 2) := by decide +kernel
theorem d_M_out_20 : decode b_M_out 20 = .ok (.iconst 1, 1) := by decide +kernel
theorem d_M_out_21 : decode b_M_out 21 = .ok (.if_icmp .ne 7, 3) := by decide +kernel
theorem d_M_out_24 : decode b_M_out 24 = .ok (.iload_n 2, 1) := by decide +kernel
theorem d_M_out_25 : decode b_M_out 25 = .ok (.goto 15, 3) := by decide +kernel
theorem d_M_out_28 : decode b_M_out 28 = .ok (.iload 5, 2) := by decide +kernel
theorem d_M_out_30 : decode b_M_out 30 = .ok (.iconst 2, 1) := by decide +kernel
theorem d_M_out_31 : decode b_M_out 31 = .ok (.if_icmp .ne 7, 3) := by decide +kernel
theorem d_M_out_34 : decode b_M_out 34 = .ok (.iload_n 3, 1) := by decide +kernel
theorem d_M_out_35 : decode b_M_out 35 = .ok (.goto 5, 3) := by decide +kernel
theorem d_M_out_38 : decode b_M_out 38 = .ok (.iload 4, 2) := by decide +kernel
theorem d_M_out_40 : decode b_M_out 40 = .ok (.istore 6, 2) := by decide +kernel
theorem d_M_out_42 : decode b_M_out 42 = .ok (.iload 6, 2) := by decide +kernel
theorem d_M_out_44 : decode b_M_out 44 = .ok (.ifCond .eq 25, 3) := by decide +kernel
theorem d_M_out_47 : decode b_M_out 47 = .ok (.aload_n 0, 1) := by decide +kernel
theorem d_M_out_48 : decode b_M_out 48 = .ok (.getfield 29, 3) := by decide +kernel
theorem d_M_out_51 : decode b_M_out 51 = .ok (.aload_n 0, 1) := by decide +kernel
theorem d_M_out_52 : decode b_M_out 52 = .ok (.getfield 110, 3) := by decide +kernel
theorem d_M_out_55 : decode b_M_out 55 = .ok (.iload 6, 2) := by decide +kernel
theorem d_M_out_57 : decode b_M_out 57 = .ok (.i2c, 1) := by decide +kernel
theorem d_M_out_58 : decode b_M_out 58 = .ok (.castore, 1) := by decide +kernel
theorem d_M_out_59 : decode b_M_out 59 = .ok (.aload_n 0, 1) := by decide +kernel
theorem d_M_out_60 : decode b_M_out 60 = .ok (.dup, 1) := by decide +kernel
theorem d_M_out_61 : decode b_M_out 61 = .ok (.getfield 110, 3) := by decide +kernel
theorem d_M_out_64 : decode b_M_out 64 = .ok (.iconst 1, 1) := by decide +kernel
theorem d_M_out_65 : decode b_M_out 65 = .ok (.iadd, 1) := by decide +kernel
theorem d_M_out_66 : decode b_M_out 66 = .ok (.putfield 110, 3) := by decide +kernel
theorem d_M_out_69 : decode b_M_out 69 = .ok (.iinc 5 1, 3) := by decide +kernel
theorem d_M_out_72 : decode b_M_out 72 = .ok (.goto (-69), 3) := by decide +kernel
theorem d_M_out_75 : decode b_M_out 75 = .ok (.return_, 1) := by decide +kernel
theorem d_M_number_0 : decode b_M_number 0 = .ok (.lload_n 1, 1) := by decide +kernel
theorem d_M_number_1 : decode b_M_number 1 = .ok (.lconst 0, 1) := by decide +kernel
theorem d_M_number_2 : decode b_M_number 2 = .ok (.lcmp, 1) := by decide +kernel
theorem d_M_number_3 : decode b_M_number 3 = .ok (.ifCond .ge 8, 3) := by decide +kernel
theorem d_M_number_6 : decode b_M_number 6 = .ok (.lload_n 1, 1) := by decide +kernel
theorem d_M_number_7 : decode b_M_number 7 = .ok (.lneg, 1) := by decide +kernel
theorem d_M_number_8 : decode b_M_number 8 = .ok (.goto 4, 3) := by decide +kernel
theorem d_M_number_11 : decode b_M_number 11 = .ok (.lload_n 1, 1) := by decide +kernel
theorem d_M_number_12 : decode b_M_number 12 = .ok (.lstore_n 3, 1) := by decide +kernel
theorem d_M_number_13 : decode b_M_number 13 = .ok (.aload_n 0, 1) := by decide +kernel
theorem d_M_number_14 : decode b_M_number 14 = .ok (.lload_n 1, 1) := by decide +kernel
theorem d_M_number_15 : decode b_M_number 15 = .ok (.lconst 0, 1) := by decide +kernel
theorem d_M_number_16 : decode b_M_number 16 = .ok (.lcmp, 1) := by decide +kernel
theorem d_M_number_17 : decode b_M_number 17 = .ok (.ifCond .ge 8, 3) := by decide +kernel
theorem d_M_number_20 : decode b_M_number 20 = .ok (.bipush 45, 2) := by decide +kernel
theorem d_M_number_22 : decode b_M_number 22 = .ok (.goto 4, 3) := by decide +kernel
theorem d_M_number_25 : decode b_M_number 25 = .ok (.iconst 0, 1) := by decide +kernel
theorem d_M_number_26 : decode b_M_number 26 = .ok (.iconst 0, 1) := by decide +kernel
theorem d_M_number_27 : decode b_M_number 27 = .ok (.iconst 0, 1) := by decide +kernel
theorem d_M_number_28 : decode b_M_number 28 = .ok (.iconst 0, 1) := by decide +kernel
theorem d_M_number_29 : decode b_M_number 29 = .ok (.invokevirtual 113, 3) := by decide +kernel
theorem d_M_number_32 : decode b_M_number 32 = .ok (.lconst 1, 1) := by decide +kernel
theorem d_M_number_33 : decode b_M_number 33 = .ok (.lstore 5, 2) := by decide +kernel
theorem d_M_number_35 : decode b_M_number 35 = .ok (.lload_n 3, 1) := by decide +kernel
theorem d_M_number_36 : decode b_M_number 36 = .ok (.lload 5, 2) := by decide +kernel
theorem d_M_number_38 : decode b_M_number 38 = .ok (.ldiv, 1) := by decide +kernel
theorem d_M_number_39 : decode b_M_number 39 = .ok (.ldc2_w 117, 3) := by decide +kernel
theorem d_M_number_42 : decode b_M_number 42 = .ok (.lcmp, 1) := by decide +kernel
theorem d_M_number_43 : decode b_M_number 43 = .ok (.ifCond .lt 14, 3) := by decide +kernel
theorem d_M_number_46 : decode b_M_number 46 = .ok (.lload 5, 2) := by decide +kernel
theorem d_M_number_48 : decode b_M_number 48 = .ok (.ldc2_w 117, 3) := by decide +kernel
theorem d_M_number_51 : decode b_M_number 51 = .ok (.lmul, 1) := by decide +kernel
theorem d_M_number_52 : decode b_M_number 52 = .ok (.lstore 5, 2) := by decide +kernel
theorem d_M_number_54 : decode b_M_number 54 = .ok (.goto (-19), 3) := by decide +kernel
theorem d_M_number_57 : decode b_M_number 57 = .ok (.lload 5, 2) := by decide +kernel
theorem d_M_number_59 : decode b_M_number 59 = .ok (.lconst 0, 1) := by decide +kernel
theorem d_M_number_60 : decode b_M_number 60 = .ok (.lcmp, 1) := by decide +kernel
theorem d_M_number_61 : decode b_M_number 61 = .ok (.ifCond .le 34, 3) := by decide +kernel
theorem d_M_number_64 : decode b_M_number 64 = .ok (.aload_n 0, 1) := by decide +kernel
theorem d_M_number_65 : decode b_M_number 65 = .ok (.ldc2_w 119, 3) := by decide +kernel
theorem d_M_number_68 : decode b_M_number 68 = .ok (.lload_n 3, 1) := by decide +kernel
theorem d_M_number_69 : decode b_M_number 69 = .ok (.lload 5, 2) := by decide +kernel
theorem d_M_number_71 : decode b_M_number 71 = .ok (.ldiv, 1) := by decide +kernel
theorem d_M_number_72 : decode b_M_number 72 = .ok (.ldc2_w 117, 3) := by decide +kernel
theorem d_M_number_75 : decode b_M_number 75 = .ok (.lrem, 1) := by decide +kernel
theorem d_M_number_76 : decode b_M_number 76 = .ok (.ladd, 1) := by decide +kernel
theorem d_M_number_77 : decode b_M_number 77 = .ok (.l2i, 1) := by decide +kernel
theorem d_M_number_78 : decode b_M_number 78 = .ok (.iconst 0, 1) := by decide +kernel
theorem d_M_number_79 : decode b_M_number 79 = .ok (.iconst 0, 1) := by decide +kernel
theorem d_M_number_80 : decode b_M_number 80 = .ok (.iconst 0, 1) := by decide +kernel
theorem d_M_number_81 : decode b_M_number 81 = .ok (.invokevirtual 113, 3) := by decide +kernel
theorem d_M_number_84 : decode b_M_number 84 = .ok (.lload 5, 2) := by decide +kernel
theorem d_M_number_86 : decode b_M_number 86 = .ok (.ldc2_w 117, 3) := by decide +kernel
theorem d_M_number_89 : decode b_M_number 89 = .ok (.ldiv, 1) := by decide +kernel
theorem d_M_number_90 : decode b_M_number 90 = .ok (.lstore 5, 2) := by decide +kernel
theorem d_M_number_92 : decode b_M_number 92 = .ok (.goto (-35), 3) := by decide +kernel
theorem d_M_number_95 : decode b_M_number 95 = .ok (.return_, 1) := by decide +kernel
theorem d_M_attribute_0 : decode b_M_attribute 0 = .ok (.aload_n 0, 1) := by decide +kernel
theorem d_M_attribute_1 : decode b_M_attribute 1 = .ok (.bipush 32, 2) := by decide +kernel
theorem d_M_attribute_3 : decode b_M_attribute 3 = .ok (.iload_n 1, 1) := by decide +kernel
theorem d_M_attribute_4 : decode b_M_attribute 4 = .ok (.iload_n 2, 1) := by decide +kernel
theorem d_M_attribute_5 : decode b_M_attribute 5 = .ok (.bipush 61, 2) := by decide +kernel
theorem d_M_attribute_7 : decode b_M_attribute 7 = .ok (.invokevirtual 113, 3) := by decide +kernel
theorem d_M_attribute_10 : decode b_M_attribute 10 = .ok (.aload_n 0, 1) := by decide +kernel
theorem d_M_attribute_11 : decode b_M_attribute 11 = .ok (.bipush 34, 2) := by decide +kernel
theorem d_M_attribute_13 : decode b_M_attribute 13 = .ok (.iconst 0, 1) := by decide +kernel
theorem d_M_attribute_14 : decode b_M_attribute 14 = .ok (.iconst 0, 1) := by decide +kernel
theorem d_M_attribute_15 : decode b_M_attribute 15 = .ok (.iconst 0, 1) := by decide +kernel
theorem d_M_attribute_16 : decode b_M_attribute 16 = .ok (.invokevirtual 113, 3) := by decide +kernel
theorem d_M_attribute_19 : decode b_M_attribute 19 = .ok (.aload_n 0, 1) := by decide +kernel
theorem d_M_attribute_20 : decode b_M_attribute 20 = .ok (.iload_n 3, 1) := by decide +kernel
theorem d_M_attribute_21 : decode b_M_attribute 21 = .ok (.i2l, 1) := by decide +kernel
theorem d_M_attribute_22 : decode b_M_attribute 22 = .ok (.invokevirtual 121, 3) := by decide +kernel
theorem d_M_attribute_25 : decode b_M_attribute 25 = .ok (.aload_n 0, 1) := by decide +kernel
theorem d_M_attribute_26 : decode b_M_attribute 26 = .ok (.bipush 34, 2) := by decide +kernel
theorem d_M_attribute_28 : decode b_M_attribute 28 = .ok (.iconst 0, 1) := by decide +kernel
theorem d_M_attribute_29 : decode b_M_attribute 29 = .ok (.iconst 0, 1) := by decide +kernel
theorem d_M_attribute_30 : decode b_M_attribute 30 = .ok (.iconst 0, 1) := by decide +kernel
theorem d_M_attribute_31 : decode b_M_attribute 31 = .ok (.invokevirtual 113, 3) := by decide +kernel
theorem d_M_attribute_34 : decode b_M_attribute 34 = .ok (.return_, 1) := by decide +kernel
theorem d_M_reference_0 : decode b_M_reference 0 = .ok (.aload_n 0, 1) := by decide +kernel
theorem d_M_reference_1 : decode b_M_reference 1 = .ok (.getfield 69, 3) := by decide +kernel
theorem d_M_reference_4 : decode b_M_reference 4 = .ok (.iload_n 1, 1) := by decide +kernel
theorem d_M_reference_5 : decode b_M_reference 5 = .ok (.iaload, 1) := by decide +kernel
theorem d_M_reference_6 : decode b_M_reference 6 = .ok (.iconst 2, 1) := by decide +kernel
theorem d_M_reference_7 : decode b_M_reference 7 = .ok (.if_icmp .ge 9, 3) := by decide +kernel
theorem d_M_reference_10 : decode b_M_reference 10 = .ok (.aload_n 0, 1) := by decide +kernel
theorem d_M_reference_11 : decode b_M_reference 11 = .ok (.iload_n 1, 1) := by decide +kernel
theorem d_M_reference_12 : decode b_M_reference 12 = .ok (.invokevirtual 125, 3) := by decide +kernel
theorem d_M_reference_15 : decode b_M_reference 15 = .ok (.return_, 1) := by decide +kernel
theorem d_M_reference_16 : decode b_M_reference 16 = .ok (.aload_n 0, 1) := by decide +kernel
theorem d_M_reference_17 : decode b_M_reference 17 = .ok (.getfield 72, 3) := by decide +kernel
theorem d_M_reference_20 : decode b_M_reference 20 = .ok (.iload_n 1, 1) := by decide +kernel
theorem d_M_reference_21 : decode b_M_reference 21 = .ok (.iaload, 1) := by decide +kernel
theorem d_M_reference_22 : decode b_M_reference 22 = .ok (.ifCond .ne 33, 3) := by decide +kernel
theorem d_M_reference_25 : decode b_M_reference 25 = .ok (.aload_n 0, 1) := by decide +kernel
theorem d_M_reference_26 : decode b_M_reference 26 = .ok (.dup, 1) := by decide +kernel
theorem d_M_reference_27 : decode b_M_reference 27 = .ok (.getfield 128, 3) := by decide +kernel
theorem d_M_reference_30 : decode b_M_reference 30 = .ok (.iconst 1, 1) := by decide +kernel
theorem d_M_reference_31 : decode b_M_reference 31 = .ok (.iadd, 1) := by decide +kernel
theorem d_M_reference_32 : decode b_M_reference 32 = .ok (.putfield 128, 3) := by decide +kernel
theorem d_M_reference_35 : decode b_M_reference 35 = .ok (.aload_n 0, 1) := by decide +kernel
theorem d_M_reference_36 : decode b_M_reference 36 = .ok (.getfield 72, 3) := by decide +kernel
theorem d_M_reference_39 : decode b_M_reference 39 = .ok (.iload_n 1, 1) := by decide +kernel
theorem d_M_reference_40 : decode b_M_reference 40 = .ok (.aload_n 0, 1) := by decide +kernel
theorem d_M_reference_41 : decode b_M_reference 41 = .ok (.getfield 128, 3) := by decide +kernel
theorem d_M_reference_44 : decode b_M_reference 44 = .ok (.iastore, 1) := by decide +kernel
theorem d_M_reference_45 : decode b_M_reference 45 = .ok (.aload_n 0, 1) := by decide +kernel
theorem d_M_reference_46 : decode b_M_reference 46 = .ok (.getfield 75, 3) := by decide +kernel
theorem d_M_reference_49 : decode b_M_reference 49 = .ok (.aload_n 0, 1) := by decide +kernel
theorem d_M_reference_50 : decode b_M_reference 50 = .ok (.getfield 128, 3) := by decide +kernel
theorem d_M_reference_53 : decode b_M_reference 53 = .ok (.iload_n 1, 1) := by decide +kernel
theorem d_M_reference_54 : decode b_M_reference 54 = .ok (.iastore, 1) := by decide +kernel
theorem d_M_reference_55 : decode b_M_reference 55 = .ok (.aload_n 0, 1) := by decide +kernel
theorem d_M_reference_56 : decode b_M_reference 56 = .ok (.bipush 60, 2) := by decide +kernel
theorem d_M_reference_58 : decode b_M_reference 58 = .ok (.bipush 114, 2) := by decide +kernel
theorem d_M_reference_60 : decode b_M_reference 60 = .ok (.iconst 0, 1) := by decide +kernel
theorem d_M_reference_61 : decode b_M_reference 61 = .ok (.iconst 0, 1) := by decide +kernel
theorem d_M_reference_62 : decode b_M_reference 62 = .ok (.invokevirtual 113, 3) := by decide +kernel
theorem d_M_reference_65 : decode b_M_reference 65 = .ok (.aload_n 0, 1) := by decide +kernel
theorem d_M_reference_66 : decode b_M_reference 66 = .ok (.bipush 104, 2) := by decide +kernel
theorem d_M_reference_68 : decode b_M_reference 68 = .ok (.iconst 0, 1) := by decide +kernel
theorem d_M_reference_69 : decode b_M_reference 69 = .ok (.aload_n 0, 1) := by decide +kernel
theorem d_M_reference_70 : decode b_M_reference 70 = .ok (.getfield 72, 3) := by decide +kernel
theorem d_M_reference_73 : decode b_M_reference 73 = .ok (.iload_n 1, 1) := by decide +kernel
theorem d_M_reference_74 : decode b_M_reference 74 = .ok (.iaload, 1) := by decide +kernel
theorem d_M_reference_75 : decode b_M_reference 75 = .ok (.invokevirtual 131, 3) := by decide +kernel
theorem d_M_reference_78 : decode b_M_reference 78 = .ok (.aload_n 0, 1) := by decide +kernel
theorem d_M_reference_79 : decode b_M_reference 79 = .ok (.bipush 47, 2) := by decide +kernel
theorem d_M_reference_81 : decode b_M_reference 81 = .ok (.bipush 62, 2) := by decide +kernel
theorem d_M_reference_83 : decode b_M_reference 83 = .ok (.iconst 0, 1) := by decide +kernel
theorem d_M_reference_84 : decode b_M_reference 84 = .ok (.iconst 0, 1) := by decide +kernel
theorem d_M_reference_85 : decode b_M_reference 85 = .ok (.invokevirtual 113, 3) := by decide +kernel
theorem d_M_reference_88 : decode b_M_reference 88 = .ok (.return_, 1) := by decide +kernel
theorem d_M_element_0 : decode b_M_element 0 = .ok (.aload_n 0, 1) := by decide +kernel
theorem d_M_element_1 : decode b_M_element 1 = .ok (.getfield 7, 3) := by decide +kernel
theorem d_M_element_4 : decode b_M_element 4 = .ok (.iload_n 1, 1) := by decide +kernel
theorem d_M_element_5 : decode b_M_element 5 = .ok (.iaload, 1) := by decide +kernel
theorem d_M_element_6 : decode b_M_element 6 = .ok (.ifCond .ne 8, 3) := by decide +kernel
theorem d_M_element_9 : decode b_M_element 9 = .ok (.bipush 112, 2) := by decide +kernel
theorem d_M_element_11 : decode b_M_element 11 = .ok (.goto 20, 3) := by decide +kernel
theorem d_M_element_14 : decode b_M_element 14 = .ok (.aload_n 0, 1) := by decide +kernel
theorem d_M_element_15 : decode b_M_element 15 = .ok (.getfield 7, 3) := by decide +kernel
theorem d_M_element_18 : decode b_M_element 18 = .ok (.iload_n 1, 1) := by decide +kernel
theorem d_M_element_19 : decode b_M_element 19 = .ok (.iaload, 1) := by decide +kernel
theorem d_M_element_20 : decode b_M_element 20 = .ok (.iconst 1, 1) := by decide +kernel
theorem d_M_element_21 : decode b_M_element 21 = .ok (.if_icmp .ne 8, 3) := by decide +kernel
theorem d_M_element_24 : decode b_M_element 24 = .ok (.bipush 97, 2) := by decide +kernel
theorem d_M_element_26 : decode b_M_element 26 = .ok (.goto 5, 3) := by decide +kernel
theorem d_M_element_29 : decode b_M_element 29 = .ok (.bipush 116, 2) := by decide +kernel
theorem d_M_element_31 : decode b_M_element 31 = .ok (.istore_n 2, 1) := by decide +kernel
theorem d_M_element_32 : decode b_M_element 32 = .ok (.aload_n 0, 1) := by decide +kernel
theorem d_M_element_33 : decode b_M_element 33 = .ok (.bipush 60, 2) := by decide +kernel
theorem d_M_element_35 : decode b_M_element 35 = .ok (.iload_n 2, 1) := by decide +kernel
theorem d_M_element_36 : decode b_M_element 36 = .ok (.iconst 0, 1) := by decide +kernel
theorem d_M_element_37 : decode b_M_element 37 = .ok (.iconst 0, 1) := by decide +kernel
theorem d_M_element_38 : decode b_M_element 38 = .ok (.invokevirtual 113, 3) := by decide +kernel
theorem d_M_element_41 : decode b_M_element 41 = .ok (.aload_n 0, 1) := by decide +kernel
theorem d_M_element_42 : decode b_M_element 42 = .ok (.getfield 72, 3) := by decide +kernel
theorem d_M_element_45 : decode b_M_element 45 = .ok (.iload_n 1, 1) := by decide +kernel
theorem d_M_element_46 : decode b_M_element 46 = .ok (.iaload, 1) := by decide +kernel
theorem d_M_element_47 : decode b_M_element 47 = .ok (.ifCond .le 17, 3) := by decide +kernel
theorem d_M_element_50 : decode b_M_element 50 = .ok (.aload_n 0, 1) := by decide +kernel
theorem d_M_element_51 : decode b_M_element 51 = .ok (.bipush 105, 2) := by decide +kernel
theorem d_M_element_53 : decode b_M_element 53 = .ok (.bipush 100, 2) := by decide +kernel
theorem d_M_element_55 : decode b_M_element 55 = .ok (.aload_n 0, 1) := by decide +kernel
theorem d_M_element_56 : decode b_M_element 56 = .ok (.getfield 72, 3) := by decide +kernel
theorem d_M_element_59 : decode b_M_element 59 = .ok (.iload_n 1, 1) := by decide +kernel
theorem d_M_element_60 : decode b_M_element 60 = .ok (.iaload, 1) := by decide +kernel
theorem d_M_element_61 : decode b_M_element 61 = .ok (.invokevirtual 131, 3) := by decide +kernel
theorem d_M_element_64 : decode b_M_element 64 = .ok (.iconst 0, 1) := by decide +kernel
theorem d_M_element_65 : decode b_M_element 65 = .ok (.istore_n 3, 1) := by decide +kernel
theorem d_M_element_66 : decode b_M_element 66 = .ok (.aload_n 0, 1) := by decide +kernel
theorem d_M_element_67 : decode b_M_element 67 = .ok (.getfield 13, 3) := by decide +kernel
theorem d_M_element_70 : decode b_M_element 70 = .ok (.iload_n 1, 1) := by decide +kernel
theorem d_M_element_71 : decode b_M_element 71 = .ok (.iaload, 1) := by decide +kernel
theorem d_M_element_72 : decode b_M_element 72 = .ok (.iconst 1, 1) := by decide +kernel
theorem d_M_element_73 : decode b_M_element 73 = .ok (.isub, 1) := by decide +kernel
theorem d_M_element_74 : decode b_M_element 74 = .ok (.istore 4, 2) := by decide +kernel
theorem d_M_element_76 : decode b_M_element 76 = .ok (.aload_n 0, 1) := by decide +kernel
theorem d_M_element_77 : decode b_M_element 77 = .ok (.getfield 7, 3) := by decide +kernel
theorem d_M_element_80 : decode b_M_element 80 = .ok (.iload_n 1, 1) := by decide +kernel
theorem d_M_element_81 : decode b_M_element 81 = .ok (.iaload, 1) := by decide +kernel
theorem d_M_element_82 : decode b_M_element 82 = .ok (.iconst 1, 1) := by decide +kernel
theorem d_M_element_83 : decode b_M_element 83 = .ok (.if_icmp .ne 78, 3) := by decide +kernel
theorem d_M_element_86 : decode b_M_element 86 = .ok (.iload 4, 2) := by decide +kernel
theorem d_M_element_88 : decode b_M_element 88 = .ok (.ifCond .lt 23, 3) := by decide +kernel
theorem d_M_element_91 : decode b_M_element 91 = .ok (.aload_n 0, 1) := by decide +kernel
theorem d_M_element_92 : decode b_M_element 92 = .ok (.getfield 16, 3) := by decide +kernel
theorem d_M_element_95 : decode b_M_element 95 = .ok (.iconst 4, 1) := by decide +kernel
theorem d_M_element_96 : decode b_M_element 96 = .ok (.iload_n 1, 1) := by decide +kernel
theorem d_M_element_97 : decode b_M_element 97 = .ok (.imul, 1) := by decide +kernel
theorem d_M_element_98 : decode b_M_element 98 = .ok (.iload 4, 2) := by decide +kernel
theorem d_M_element_100 : decode b_M_element 100 = .ok (.iadd, 1) := by decide +kernel
theorem d_M_element_101 : decode b_M_element 101 = .ok (.iaload, 1) := by decide +kernel
theorem d_M_element_102 : decode b_M_element 102 = .ok (.ifCond .ne 9, 3) := by decide +kernel
theorem d_M_element_105 : decode b_M_element 105 = .ok (.iinc 4 (-1), 3) := by decide +kernel
theorem d_M_element_108 : decode b_M_element 108 = .ok (.goto (-22), 3) := by decide +kernel
theorem d_M_element_111 : decode b_M_element 111 = .ok (.iload_n 3, 1) := by decide +kernel
theorem d_M_element_112 : decode b_M_element 112 = .ok (.iload 4, 2) := by decide +kernel
theorem d_M_element_114 : decode b_M_element 114 = .ok (.if_icmp .ge 22, 3) := by decide +kernel
theorem d_M_element_117 : decode b_M_element 117 = .ok (.aload_n 0, 1) := by decide +kernel
theorem d_M_element_118 : decode b_M_element 118 = .ok (.getfield 16, 3) := by decide +kernel
theorem d_M_element_121 : decode b_M_element 121 = .ok (.iconst 4, 1) := by decide +kernel
theorem d_M_element_122 : decode b_M_element 122 = .ok (.iload_n 1, 1) := by decide +kernel
theorem d_M_element_123 : decode b_M_element 123 = .ok (.imul, 1) := by decide +kernel
theorem d_M_element_124 : decode b_M_element 124 = .ok (.iload_n 3, 1) := by decide +kernel
theorem d_M_element_125 : decode b_M_element 125 = .ok (.iadd, 1) := by decide +kernel
theorem d_M_element_126 : decode b_M_element 126 = .ok (.iaload, 1) := by decide +kernel
theorem d_M_element_127 : decode b_M_element 127 = .ok (.ifCond .ne 9, 3) := by decide +kernel
theorem d_M_element_130 : decode b_M_element 130 = .ok (.iinc 3 1, 3) := by decide +kernel
theorem d_M_element_133 : decode b_M_element 133 = .ok (.goto (-22), 3) := by decide +kernel
theorem d_M_element_136 : decode b_M_element 136 = .ok (.aload_n 0, 1) := by decide +kernel
theorem d_M_element_137 : decode b_M_element 137 = .ok (.bipush 110, 2) := by decide +kernel
theorem d_M_element_139 : decode b_M_element 139 = .ok (.iconst 0, 1) := by decide +kernel
theorem d_M_element_140 : decode b_M_element 140 = .ok (.aload_n 0, 1) := by decide +kernel
theorem d_M_element_141 : decode b_M_element 141 = .ok (.getfield 13, 3) := by decide +kernel
theorem d_M_element_144 : decode b_M_element 144 = .ok (.iload_n 1, 1) := by decide +kernel
theorem d_M_element_145 : decode b_M_element 145 = .ok (.iaload, 1) := by decide +kernel
theorem d_M_element_146 : decode b_M_element 146 = .ok (.invokevirtual 131, 3) := by decide +kernel
theorem d_M_element_149 : decode b_M_element 149 = .ok (.iload_n 3, 1) := by decide +kernel
theorem d_M_element_150 : decode b_M_element 150 = .ok (.ifCond .le 11, 3) := by decide +kernel
theorem d_M_element_153 : decode b_M_element 153 = .ok (.aload_n 0, 1) := by decide +kernel
theorem d_M_element_154 : decode b_M_element 154 = .ok (.bipush 111, 2) := by decide +kernel
theorem d_M_element_156 : decode b_M_element 156 = .ok (.iconst 0, 1) := by decide +kernel
theorem d_M_element_157 : decode b_M_element 157 = .ok (.iload_n 3, 1) := by decide +kernel
theorem d_M_element_158 : decode b_M_element 158 = .ok (.invokevirtual 131, 3) := by decide +kernel
theorem d_M_element_161 : decode b_M_element 161 = .ok (.aload_n 0, 1) := by decide +kernel
theorem d_M_element_162 : decode b_M_element 162 = .ok (.bipush 62, 2) := by decide +kernel
theorem d_M_element_164 : decode b_M_element 164 = .ok (.iconst 0, 1) := by decide +kernel
theorem d_M_element_165 : decode b_M_element 165 = .ok (.iconst 0, 1) := by decide +kernel
theorem d_M_element_166 : decode b_M_element 166 = .ok (.iconst 0, 1) := by decide +kernel
theorem d_M_element_167 : decode b_M_element 167 = .ok (.invokevirtual 113, 3) := by decide +kernel
theorem d_M_element_170 : decode b_M_element 170 = .ok (.aload_n 0, 1) := by decide +kernel
theorem d_M_element_171 : decode b_M_element 171 = .ok (.getfield 7, 3) := by decide +kernel
theorem d_M_element_174 : decode b_M_element 174 = .ok (.iload_n 1, 1) := by decide +kernel
theorem d_M_element_175 : decode b_M_element 175 = .ok (.iaload, 1) := by decide +kernel
theorem d_M_element_176 : decode b_M_element 176 = .ok (.iconst 2, 1) := by decide +kernel
theorem d_M_element_177 : decode b_M_element 177 = .ok (.if_icmp .ne 52, 3) := by decide +kernel
theorem d_M_element_180 : decode b_M_element 180 = .ok (.iconst 0, 1) := by decide +kernel
theorem d_M_element_181 : decode b_M_element 181 = .ok (.istore 5, 2) := by decide +kernel
theorem d_M_element_183 : decode b_M_element 183 = .ok (.iload 5, 2) := by decide +kernel
theorem d_M_element_185 : decode b_M_element 185 = .ok (.aload_n 0, 1) := by decide +kernel
theorem d_M_element_186 : decode b_M_element 186 = .ok (.getfield 13, 3) := by decide +kernel
theorem d_M_element_189 : decode b_M_element 189 = .ok (.iload_n 1, 1) := by decide +kernel
theorem d_M_element_190 : decode b_M_element 190 = .ok (.iaload, 1) := by decide +kernel
theorem d_M_element_191 : decode b_M_element 191 = .ok (.if_icmp .ge 25, 3) := by decide +kernel
theorem d_M_element_194 : decode b_M_element 194 = .ok (.aload_n 0, 1) := by decide +kernel
theorem d_M_element_195 : decode b_M_element 195 = .ok (.aload_n 0, 1) := by decide +kernel
theorem d_M_element_196 : decode b_M_element 196 = .ok (.getfield 22, 3) := by decide +kernel
theorem d_M_element_199 : decode b_M_element 199 = .ok (.bipush 6, 2) := by decide +kernel
theorem d_M_element_201 : decode b_M_element 201 = .ok (.iload_n 1, 1) := by decide +kernel
theorem d_M_element_202 : decode b_M_element 202 = .ok (.imul, 1) := by decide +kernel
theorem d_M_element_203 : decode b_M_element 203 = .ok (.iload 5, 2) := by decide +kernel
theorem d_M_element_205 : decode b_M_element 205 = .ok (.iadd, 1) := by decide +kernel
theorem d_M_element_206 : decode b_M_element 206 = .ok (.iaload, 1) := by decide +kernel
theorem d_M_element_207 : decode b_M_element 207 = .ok (.invokevirtual 135, 3) := by decide +kernel
theorem d_M_element_210 : decode b_M_element 210 = .ok (.iinc 5 1, 3) := by decide +kernel
theorem d_M_element_213 : decode b_M_element 213 = .ok (.goto (-30), 3) := by decide +kernel
theorem d_M_element_216 : decode b_M_element 216 = .ok (.aload_n 0, 1) := by decide +kernel
theorem d_M_element_217 : decode b_M_element 217 = .ok (.bipush 60, 2) := by decide +kernel
theorem d_M_element_219 : decode b_M_element 219 = .ok (.bipush 47, 2) := by decide +kernel
theorem d_M_element_221 : decode b_M_element 221 = .ok (.bipush 116, 2) := by decide +kernel
theorem d_M_element_223 : decode b_M_element 223 = .ok (.bipush 62, 2) := by decide +kernel
theorem d_M_element_225 : decode b_M_element 225 = .ok (.invokevirtual 113, 3) := by decide +kernel
theorem d_M_element_228 : decode b_M_element 228 = .ok (.return_, 1) := by decide +kernel
theorem d_M_element_229 : decode b_M_element 229 = .ok (.aload_n 0, 1) := by decide +kernel
theorem d_M_element_230 : decode b_M_element 230 = .ok (.getfield 78, 3) := by decide +kernel
theorem d_M_element_233 : decode b_M_element 233 = .ok (.aload_n 0, 1) := by decide +kernel
theorem d_M_element_234 : decode b_M_element 234 = .ok (.getfield 138, 3) := by decide +kernel
theorem d_M_element_237 : decode b_M_element 237 = .ok (.sipush 200, 3) := by decide +kernel
theorem d_M_element_240 : decode b_M_element 240 = .ok (.iload_n 2, 1) := by decide +kernel
theorem d_M_element_241 : decode b_M_element 241 = .ok (.iadd, 1) := by decide +kernel
theorem d_M_element_242 : decode b_M_element 242 = .ok (.iastore, 1) := by decide +kernel
theorem d_M_element_243 : decode b_M_element 243 = .ok (.aload_n 0, 1) := by decide +kernel
theorem d_M_element_244 : decode b_M_element 244 = .ok (.dup, 1) := by decide +kernel
theorem d_M_element_245 : decode b_M_element 245 = .ok (.getfield 138, 3) := by decide +kernel
theorem d_M_element_248 : decode b_M_element 248 = .ok (.iconst 1, 1) := by decide +kernel
theorem d_M_element_249 : decode b_M_element 249 = .ok (.iadd, 1) := by decide +kernel
theorem d_M_element_250 : decode b_M_element 250 = .ok (.putfield 138, 3) := by decide +kernel
theorem d_M_element_253 : decode b_M_element 253 = .ok (.iload 4, 2) := by decide +kernel
theorem d_M_element_255 : decode b_M_element 255 = .ok (.istore 5, 2) := by decide +kernel
theorem d_M_element_257 : decode b_M_element 257 = .ok (.iload 5, 2) := by decide +kernel
theorem d_M_element_259 : decode b_M_element 259 = .ok (.iload_n 3, 1) := by decide +kernel
theorem d_M_element_260 : decode b_M_element 260 = .ok (.if_icmp .lt 37, 3) := by decide +kernel
theorem d_M_element_263 : decode b_M_element 263 = .ok (.aload_n 0, 1) := by decide +kernel
theorem d_M_element_264 : decode b_M_element 264 = .ok (.getfield 78, 3) := by decide +kernel
theorem d_M_element_267 : decode b_M_element 267 = .ok (.aload_n 0, 1) := by decide +kernel
theorem d_M_element_268 : decode b_M_element 268 = .ok (.getfield 138, 3) := by decide +kernel
theorem d_M_element_271 : decode b_M_element 271 = .ok (.bipush 100, 2) := by decide +kernel
theorem d_M_element_273 : decode b_M_element 273 = .ok (.iconst 4, 1) := by decide +kernel
theorem d_M_element_274 : decode b_M_element 274 = .ok (.iload_n 1, 1) := by decide +kernel
theorem d_M_element_275 : decode b_M_element 275 = .ok (.imul, 1) := by decide +kernel
theorem d_M_element_276 : decode b_M_element 276 = .ok (.iadd, 1) := by decide +kernel
theorem d_M_element_277 : decode b_M_element 277 = .ok (.iload 5, 2) := by decide +kernel
theorem d_M_element_279 : decode b_M_element 279 = .ok (.iadd, 1) := by decide +kernel
theorem d_M_element_280 : decode b_M_element 280 = .ok (.iastore, 1) := by decide +kernel
theorem d_M_element_281 : decode b_M_element 281 = .ok (.aload_n 0, 1) := by decide +kernel
theorem d_M_element_282 : decode b_M_element 282 = .ok (.dup, 1) := by decide +kernel
theorem d_M_element_283 : decode b_M_element 283 = .ok (.getfield 138, 3) := by decide +kernel
theorem d_M_element_286 : decode b_M_element 286 = .ok (.iconst 1, 1) := by decide +kernel
theorem d_M_element_287 : decode b_M_element 287 = .ok (.iadd, 1) := by decide +kernel
theorem d_M_element_288 : decode b_M_element 288 = .ok (.putfield 138, 3) := by decide +kernel
theorem d_M_element_291 : decode b_M_element 291 = .ok (.iinc 5 (-1), 3) := by decide +kernel
theorem d_M_element_294 : decode b_M_element 294 = .ok (.goto (-37), 3) := by decide +kernel
theorem d_M_element_297 : decode b_M_element 297 = .ok (.return_, 1) := by decide +kernel
theorem d_M_character_0 : decode b_M_character 0 = .ok (.iload_n 1, 1) := by decide +kernel
theorem d_M_character_1 : decode b_M_character 1 = .ok (.bipush 60, 2) := by decide +kernel
theorem d_M_character_3 : decode b_M_character 3 = .ok (.if_icmp .ne 18, 3) := by decide +kernel
theorem d_M_character_6 : decode b_M_character 6 = .ok (.aload_n 0, 1) := by decide +kernel
theorem d_M_character_7 : decode b_M_character 7 = .ok (.bipush 38, 2) := by decide +kernel
theorem d_M_character_9 : decode b_M_character 9 = .ok (.bipush 108, 2) := by decide +kernel
theorem d_M_character_11 : decode b_M_character 11 = .ok (.bipush 116, 2) := by decide +kernel
theorem d_M_character_13 : decode b_M_character 13 = .ok (.bipush 59, 2) := by decide +kernel
theorem d_M_character_15 : decode b_M_character 15 = .ok (.invokevirtual 113, 3) := by decide +kernel
theorem d_M_character_18 : decode b_M_character 18 = .ok (.goto 62, 3) := by decide +kernel
theorem d_M_character_21 : decode b_M_character 21 = .ok (.iload_n 1, 1) := by decide +kernel
theorem d_M_character_22 : decode b_M_character 22 = .ok (.bipush 62, 2) := by decide +kernel
theorem d_M_character_24 : decode b_M_character 24 = .ok (.if_icmp .ne 18, 3) := by decide +kernel
theorem d_M_character_27 : decode b_M_character 27 = .ok (.aload_n 0, 1) := by decide +kernel
theorem d_M_character_28 : decode b_M_character 28 = .ok (.bipush 38, 2) := by decide +kernel
theorem d_M_character_30 : decode b_M_character 30 = .ok (.bipush 103, 2) := by decide +kernel
theorem d_M_character_32 : decode b_M_character 32 = .ok (.bipush 116, 2) := by decide +kernel
theorem d_M_character_34 : decode b_M_character 34 = .ok (.bipush 59, 2) := by decide +kernel
theorem d_M_character_36 : decode b_M_character 36 = .ok (.invokevirtual 113, 3) := by decide +kernel
theorem d_M_character_39 : decode b_M_character 39 = .ok (.goto 41, 3) := by decide +kernel
theorem d_M_character_42 : decode b_M_character 42 = .ok (.iload_n 1, 1) := by decide +kernel
theorem d_M_character_43 : decode b_M_character 43 = .ok (.bipush 38, 2) := by decide +kernel
theorem d_M_character_45 : decode b_M_character 45 = .ok (.if_icmp .ne 27, 3) := by decide +kernel
theorem d_M_character_48 : decode b_M_character 48 = .ok (.aload_n 0, 1) := by decide +kernel
theorem d_M_character_49 : decode b_M_character 49 = .ok (.bipush 38, 2) := by decide +kernel
theorem d_M_character_51 : decode b_M_character 51 = .ok (.bipush 97, 2) := by decide +kernel
theorem d_M_character_53 : decode b_M_character 53 = .ok (.bipush 109, 2) := by decide +kernel
theorem d_M_character_55 : decode b_M_character 55 = .ok (.bipush 112, 2) := by decide +kernel
theorem d_M_character_57 : decode b_M_character 57 = .ok (.invokevirtual 113, 3) := by decide +kernel
theorem d_M_character_60 : decode b_M_character 60 = .ok (.aload_n 0, 1) := by decide +kernel
theorem d_M_character_61 : decode b_M_character 61 = .ok (.bipush 59, 2) := by decide +kernel
theorem d_M_character_63 : decode b_M_character 63 = .ok (.iconst 0, 1) := by decide +kernel
theorem d_M_character_64 : decode b_M_character 64 = .ok (.iconst 0, 1) := by decide +kernel
theorem d_M_character_65 : decode b_M_character 65 = .ok (.iconst 0, 1) := by decide +kernel
theorem d_M_character_66 : decode b_M_character 66 = .ok (.invokevirtual 113, 3) := by decide +kernel
theorem d_M_character_69 : decode b_M_character 69 = .ok (.goto 11, 3) := by decide +kernel
theorem d_M_character_72 : decode b_M_character 72 = .ok (.aload_n 0, 1) := by decide +kernel
theorem d_M_character_73 : decode b_M_character 73 = .ok (.iload_n 1, 1) := by decide +kernel
theorem d_M_character_74 : decode b_M_character 74 = .ok (.iconst 0, 1) := by decide +kernel
theorem d_M_character_75 : decode b_M_character 75 = .ok (.iconst 0, 1) := by decide +kernel
theorem d_M_character_76 : decode b_M_character 76 = .ok (.iconst 0, 1) := by decide +kernel
theorem d_M_character_77 : decode b_M_character 77 = .ok (.invokevirtual 113, 3) := by decide +kernel
theorem d_M_character_80 : decode b_M_character 80 = .ok (.return_, 1) := by decide +kernel
theorem d_M_work_0 : decode b_M_work 0 = .ok (.aload_n 0, 1) := by decide +kernel
theorem d_M_work_1 : decode b_M_work 1 = .ok (.getfield 138, 3) := by decide +kernel
theorem d_M_work_4 : decode b_M_work 4 = .ok (.ifCond .le 137, 3) := by decide +kernel
theorem d_M_work_7 : decode b_M_work 7 = .ok (.aload_n 0, 1) := by decide +kernel
theorem d_M_work_8 : decode b_M_work 8 = .ok (.dup, 1) := by decide +kernel
theorem d_M_work_9 : decode b_M_work 9 = .ok (.getfield 138, 3) := by decide +kernel
theorem d_M_work_12 : decode b_M_work 12 = .ok (.iconst 1, 1) := by decide +kernel
theorem d_M_work_13 : decode b_M_work 13 = .ok (.isub, 1) := by decide +kernel
theorem d_M_work_14 : decode b_M_work 14 = .ok (.putfield 138, 3) := by decide +kernel
theorem d_M_work_17 : decode b_M_work 17 = .ok (.aload_n 0, 1) := by decide +kernel
theorem d_M_work_18 : decode b_M_work 18 = .ok (.getfield 78, 3) := by decide +kernel
theorem d_M_work_21 : decode b_M_work 21 = .ok (.aload_n 0, 1) := by decide +kernel
theorem d_M_work_22 : decode b_M_work 22 = .ok (.getfield 138, 3) := by decide +kernel
theorem d_M_work_25 : decode b_M_work 25 = .ok (.iaload, 1) := by decide +kernel
theorem d_M_work_26 : decode b_M_work 26 = .ok (.istore_n 1, 1) := by decide +kernel
theorem d_M_work_27 : decode b_M_work 27 = .ok (.iload_n 1, 1) := by decide +kernel
theorem d_M_work_28 : decode b_M_work 28 = .ok (.bipush 100, 2) := by decide +kernel
theorem d_M_work_30 : decode b_M_work 30 = .ok (.isub, 1) := by decide +kernel
theorem d_M_work_31 : decode b_M_work 31 = .ok (.istore_n 2, 1) := by decide +kernel
theorem d_M_work_32 : decode b_M_work 32 = .ok (.iload_n 1, 1) := by decide +kernel
theorem d_M_work_33 : decode b_M_work 33 = .ok (.sipush 200, 3) := by decide +kernel
theorem d_M_work_36 : decode b_M_work 36 = .ok (.if_icmp .lt 21, 3) := by decide +kernel
theorem d_M_work_39 : decode b_M_work 39 = .ok (.aload_n 0, 1) := by decide +kernel
theorem d_M_work_40 : decode b_M_work 40 = .ok (.bipush 60, 2) := by decide +kernel
theorem d_M_work_42 : decode b_M_work 42 = .ok (.bipush 47, 2) := by decide +kernel
theorem d_M_work_44 : decode b_M_work 44 = .ok (.iload_n 1, 1) := by decide +kernel
theorem d_M_work_45 : decode b_M_work 45 = .ok (.sipush 200, 3) := by decide +kernel
theorem d_M_work_48 : decode b_M_work 48 = .ok (.isub, 1) := by decide +kernel
theorem d_M_work_49 : decode b_M_work 49 = .ok (.bipush 62, 2) := by decide +kernel
theorem d_M_work_51 : decode b_M_work 51 = .ok (.invokevirtual 113, 3) := by decide +kernel
theorem d_M_work_54 : decode b_M_work 54 = .ok (.goto 84, 3) := by decide +kernel
theorem d_M_work_57 : decode b_M_work 57 = .ok (.aload_n 0, 1) := by decide +kernel
theorem d_M_work_58 : decode b_M_work 58 = .ok (.getfield 16, 3) := by decide +kernel
theorem d_M_work_61 : decode b_M_work 61 = .ok (.iload_n 2, 1) := by decide +kernel
theorem d_M_work_62 : decode b_M_work 62 = .ok (.iaload, 1) := by decide +kernel
theorem d_M_work_63 : decode b_M_work 63 = .ok (.ifCond .ne 18, 3) := by decide +kernel
theorem d_M_work_66 : decode b_M_work 66 = .ok (.aload_n 0, 1) := by decide +kernel
theorem d_M_work_67 : decode b_M_work 67 = .ok (.bipush 60, 2) := by decide +kernel
theorem d_M_work_69 : decode b_M_work 69 = .ok (.bipush 110, 2) := by decide +kernel
theorem d_M_work_71 : decode b_M_work 71 = .ok (.bipush 47, 2) := by decide +kernel
theorem d_M_work_73 : decode b_M_work 73 = .ok (.bipush 62, 2) := by decide +kernel
theorem d_M_work_75 : decode b_M_work 75 = .ok (.invokevirtual 113, 3) := by decide +kernel
theorem d_M_work_78 : decode b_M_work 78 = .ok (.goto 60, 3) := by decide +kernel
theorem d_M_work_81 : decode b_M_work 81 = .ok (.aload_n 0, 1) := by decide +kernel
theorem d_M_work_82 : decode b_M_work 82 = .ok (.getfield 16, 3) := by decide +kernel
theorem d_M_work_85 : decode b_M_work 85 = .ok (.iload_n 2, 1) := by decide +kernel
theorem d_M_work_86 : decode b_M_work 86 = .ok (.iaload, 1) := by decide +kernel
theorem d_M_work_87 : decode b_M_work 87 = .ok (.iconst 1, 1) := by decide +kernel
theorem d_M_work_88 : decode b_M_work 88 = .ok (.if_icmp .ne 40, 3) := by decide +kernel
theorem d_M_work_91 : decode b_M_work 91 = .ok (.aload_n 0, 1) := by decide +kernel
theorem d_M_work_92 : decode b_M_work 92 = .ok (.bipush 60, 2) := by decide +kernel
theorem d_M_work_94 : decode b_M_work 94 = .ok (.bipush 105, 2) := by decide +kernel
theorem d_M_work_96 : decode b_M_work 96 = .ok (.bipush 62, 2) := by decide +kernel
theorem d_M_work_98 : decode b_M_work 98 = .ok (.iconst 0, 1) := by decide +kernel
theorem d_M_work_99 : decode b_M_work 99 = .ok (.invokevirtual 113, 3) := by decide +kernel
theorem d_M_work_102 : decode b_M_work 102 = .ok (.aload_n 0, 1) := by decide +kernel
theorem d_M_work_103 : decode b_M_work 103 = .ok (.aload_n 0, 1) := by decide +kernel
theorem d_M_work_104 : decode b_M_work 104 = .ok (.getfield 19, 3) := by decide +kernel
theorem d_M_work_107 : decode b_M_work 107 = .ok (.iload_n 2, 1) := by decide +kernel
theorem d_M_work_108 : decode b_M_work 108 = .ok (.iaload, 1) := by decide +kernel
theorem d_M_work_109 : decode b_M_work 109 = .ok (.i2l, 1) := by decide +kernel
theorem d_M_work_110 : decode b_M_work 110 = .ok (.invokevirtual 121, 3) := by decide +kernel
theorem d_M_work_113 : decode b_M_work 113 = .ok (.aload_n 0, 1) := by decide +kernel
theorem d_M_work_114 : decode b_M_work 114 = .ok (.bipush 60, 2) := by decide +kernel
theorem d_M_work_116 : decode b_M_work 116 = .ok (.bipush 47, 2) := by decide +kernel
theorem d_M_work_118 : decode b_M_work 118 = .ok (.bipush 105, 2) := by decide +kernel
theorem d_M_work_120 : decode b_M_work 120 = .ok (.bipush 62, 2) := by decide +kernel
theorem d_M_work_122 : decode b_M_work 122 = .ok (.invokevirtual 113, 3) := by decide +kernel
theorem d_M_work_125 : decode b_M_work 125 = .ok (.goto 13, 3) := by decide +kernel
theorem d_M_work_128 : decode b_M_work 128 = .ok (.aload_n 0, 1) := by decide +kernel
theorem d_M_work_129 : decode b_M_work 129 = .ok (.aload_n 0, 1) := by decide +kernel
theorem d_M_work_130 : decode b_M_work 130 = .ok (.getfield 19, 3) := by decide +kernel
theorem d_M_work_133 : decode b_M_work 133 = .ok (.iload_n 2, 1) := by decide +kernel
theorem d_M_work_134 : decode b_M_work 134 = .ok (.iaload, 1) := by decide +kernel
theorem d_M_work_135 : decode b_M_work 135 = .ok (.invokevirtual 141, 3) := by decide +kernel
theorem d_M_work_138 : decode b_M_work 138 = .ok (.goto (-138), 3) := by decide +kernel
theorem d_M_work_141 : decode b_M_work 141 = .ok (.return_, 1) := by decide +kernel
theorem d_M_encode_0 : decode b_M_encode 0 = .ok (.aload_n 0, 1) := by decide +kernel
theorem d_M_encode_1 : decode b_M_encode 1 = .ok (.iload_n 1, 1) := by decide +kernel
theorem d_M_encode_2 : decode b_M_encode 2 = .ok (.invokevirtual 91, 3) := by decide +kernel
theorem d_M_encode_5 : decode b_M_encode 5 = .ok (.ifCond .ne 5, 3) := by decide +kernel
theorem d_M_encode_8 : decode b_M_encode 8 = .ok (.iconst (-1), 1) := by decide +kernel
theorem d_M_encode_9 : decode b_M_encode 9 = .ok (.ireturn, 1) := by decide +kernel
theorem d_M_encode_10 : decode b_M_encode 10 = .ok (.aload_n 0, 1) := by decide +kernel
theorem d_M_encode_11 : decode b_M_encode 11 = .ok (.iload_n 1, 1) := by decide +kernel
theorem d_M_encode_12 : decode b_M_encode 12 = .ok (.invokevirtual 106, 3) := by decide +kernel
theorem d_M_encode_15 : decode b_M_encode 15 = .ok (.aload_n 0, 1) := by decide +kernel
theorem d_M_encode_16 : decode b_M_encode 16 = .ok (.iconst 0, 1) := by decide +kernel
theorem d_M_encode_17 : decode b_M_encode 17 = .ok (.putfield 128, 3) := by decide +kernel
theorem d_M_encode_20 : decode b_M_encode 20 = .ok (.aload_n 0, 1) := by decide +kernel
theorem d_M_encode_21 : decode b_M_encode 21 = .ok (.iconst 0, 1) := by decide +kernel
theorem d_M_encode_22 : decode b_M_encode 22 = .ok (.putfield 138, 3) := by decide +kernel
theorem d_M_encode_25 : decode b_M_encode 25 = .ok (.aload_n 0, 1) := by decide +kernel
theorem d_M_encode_26 : decode b_M_encode 26 = .ok (.iconst 0, 1) := by decide +kernel
theorem d_M_encode_27 : decode b_M_encode 27 = .ok (.putfield 110, 3) := by decide +kernel
theorem d_M_encode_30 : decode b_M_encode 30 = .ok (.aload_n 0, 1) := by decide +kernel
theorem d_M_encode_31 : decode b_M_encode 31 = .ok (.bipush 60, 2) := by decide +kernel
theorem d_M_encode_33 : decode b_M_encode 33 = .ok (.bipush 101, 2) := by decide +kernel
theorem d_M_encode_35 : decode b_M_encode 35 = .ok (.bipush 32, 2) := by decide +kernel
theorem d_M_encode_37 : decode b_M_encode 37 = .ok (.bipush 118, 2) := by decide +kernel
theorem d_M_encode_39 : decode b_M_encode 39 = .ok (.invokevirtual 113, 3) := by decide +kernel
theorem d_M_encode_42 : decode b_M_encode 42 = .ok (.aload_n 0, 1) := by decide +kernel
theorem d_M_encode_43 : decode b_M_encode 43 = .ok (.bipush 61, 2) := by decide +kernel
theorem d_M_encode_45 : decode b_M_encode 45 = .ok (.bipush 34, 2) := by decide +kernel
theorem d_M_encode_47 : decode b_M_encode 47 = .ok (.bipush 49, 2) := by decide +kernel
theorem d_M_encode_49 : decode b_M_encode 49 = .ok (.bipush 34, 2) := by decide +kernel
theorem d_M_encode_51 : decode b_M_encode 51 = .ok (.invokevirtual 113, 3) := by decide +kernel
theorem d_M_encode_54 : decode b_M_encode 54 = .ok (.aload_n 0, 1) := by decide +kernel
theorem d_M_encode_55 : decode b_M_encode 55 = .ok (.bipush 62, 2) := by decide +kernel
theorem d_M_encode_57 : decode b_M_encode 57 = .ok (.bipush 60, 2) := by decide +kernel
theorem d_M_encode_59 : decode b_M_encode 59 = .ok (.bipush 98, 2) := by decide +kernel
theorem d_M_encode_61 : decode b_M_encode 61 = .ok (.bipush 62, 2) := by decide +kernel
theorem d_M_encode_63 : decode b_M_encode 63 = .ok (.invokevirtual 113, 3) := by decide +kernel
theorem d_M_encode_66 : decode b_M_encode 66 = .ok (.aload_n 0, 1) := by decide +kernel
theorem d_M_encode_67 : decode b_M_encode 67 = .ok (.iload_n 1, 1) := by decide +kernel
theorem d_M_encode_68 : decode b_M_encode 68 = .ok (.invokevirtual 141, 3) := by decide +kernel
theorem d_M_encode_71 : decode b_M_encode 71 = .ok (.aload_n 0, 1) := by decide +kernel
theorem d_M_encode_72 : decode b_M_encode 72 = .ok (.invokevirtual 144, 3) := by decide +kernel
theorem d_M_encode_75 : decode b_M_encode 75 = .ok (.iconst 1, 1) := by decide +kernel
theorem d_M_encode_76 : decode b_M_encode 76 = .ok (.istore_n 2, 1) := by decide +kernel
theorem d_M_encode_77 : decode b_M_encode 77 = .ok (.iload_n 2, 1) := by decide +kernel
theorem d_M_encode_78 : decode b_M_encode 78 = .ok (.aload_n 0, 1) := by decide +kernel
theorem d_M_encode_79 : decode b_M_encode 79 = .ok (.getfield 128, 3) := by decide +kernel
theorem d_M_encode_82 : decode b_M_encode 82 = .ok (.if_icmp .gt 23, 3) := by decide +kernel
theorem d_M_encode_85 : decode b_M_encode 85 = .ok (.aload_n 0, 1) := by decide +kernel
theorem d_M_encode_86 : decode b_M_encode 86 = .ok (.aload_n 0, 1) := by decide +kernel
theorem d_M_encode_87 : decode b_M_encode 87 = .ok (.getfield 75, 3) := by decide +kernel
theorem d_M_encode_90 : decode b_M_encode 90 = .ok (.iload_n 2, 1) := by decide +kernel
theorem d_M_encode_91 : decode b_M_encode 91 = .ok (.iaload, 1) := by decide +kernel
theorem d_M_encode_92 : decode b_M_encode 92 = .ok (.invokevirtual 125, 3) := by decide +kernel
theorem d_M_encode_95 : decode b_M_encode 95 = .ok (.aload_n 0, 1) := by decide +kernel
theorem d_M_encode_96 : decode b_M_encode 96 = .ok (.invokevirtual 144, 3) := by decide +kernel
theorem d_M_encode_99 : decode b_M_encode 99 = .ok (.iinc 2 1, 3) := by decide +kernel
theorem d_M_encode_102 : decode b_M_encode 102 = .ok (.goto (-25), 3) := by decide +kernel
theorem d_M_encode_105 : decode b_M_encode 105 = .ok (.aload_n 0, 1) := by decide +kernel
theorem d_M_encode_106 : decode b_M_encode 106 = .ok (.bipush 60, 2) := by decide +kernel
theorem d_M_encode_108 : decode b_M_encode 108 = .ok (.bipush 47, 2) := by decide +kernel
theorem d_M_encode_110 : decode b_M_encode 110 = .ok (.bipush 98, 2) := by decide +kernel
theorem d_M_encode_112 : decode b_M_encode 112 = .ok (.bipush 62, 2) := by decide +kernel
theorem d_M_encode_114 : decode b_M_encode 114 = .ok (.invokevirtual 113, 3) := by decide +kernel
theorem d_M_encode_117 : decode b_M_encode 117 = .ok (.aload_n 0, 1) := by decide +kernel
theorem d_M_encode_118 : decode b_M_encode 118 = .ok (.bipush 60, 2) := by decide +kernel
theorem d_M_encode_120 : decode b_M_encode 120 = .ok (.bipush 47, 2) := by decide +kernel
theorem d_M_encode_122 : decode b_M_encode 122 = .ok (.bipush 101, 2) := by decide +kernel
theorem d_M_encode_124 : decode b_M_encode 124 = .ok (.bipush 62, 2) := by decide +kernel
theorem d_M_encode_126 : decode b_M_encode 126 = .ok (.invokevirtual 113, 3) := by decide +kernel
theorem d_M_encode_129 : decode b_M_encode 129 = .ok (.aload_n 0, 1) := by decide +kernel
theorem d_M_encode_130 : decode b_M_encode 130 = .ok (.getfield 110, 3) := by decide +kernel
theorem d_M_encode_133 : decode b_M_encode 133 = .ok (.ireturn, 1) := by decide +kernel
theorem d_M_length_0 : decode b_M_length 0 = .ok (.aload_n 0, 1) := by decide +kernel
theorem d_M_length_1 : decode b_M_length 1 = .ok (.getfield 110, 3) := by decide +kernel
theorem d_M_length_4 : decode b_M_length 4 = .ok (.ireturn, 1) := by decide +kernel
theorem d_M_charAt_0 : decode b_M_charAt 0 = .ok (.iload_n 1, 1) := by decide +kernel
theorem d_M_charAt_1 : decode b_M_charAt 1 = .ok (.ifCond .lt 20, 3) := by decide +kernel
theorem d_M_charAt_4 : decode b_M_charAt 4 = .ok (.iload_n 1, 1) := by decide +kernel
theorem d_M_charAt_5 : decode b_M_charAt 5 = .ok (.aload_n 0, 1) := by decide +kernel
theorem d_M_charAt_6 : decode b_M_charAt 6 = .ok (.getfield 110, 3) := by decide +kernel
theorem d_M_charAt_9 : decode b_M_charAt 9 = .ok (.if_icmp .ge 12, 3) := by decide +kernel
theorem d_M_charAt_12 : decode b_M_charAt 12 = .ok (.aload_n 0, 1) := by decide +kernel
theorem d_M_charAt_13 : decode b_M_charAt 13 = .ok (.getfield 29, 3) := by decide +kernel
theorem d_M_charAt_16 : decode b_M_charAt 16 = .ok (.iload_n 1, 1) := by decide +kernel
theorem d_M_charAt_17 : decode b_M_charAt 17 = .ok (.caload, 1) := by decide +kernel
theorem d_M_charAt_18 : decode b_M_charAt 18 = .ok (.goto 4, 3) := by decide +kernel
theorem d_M_charAt_21 : decode b_M_charAt 21 = .ok (.iconst (-1), 1) := by decide +kernel
theorem d_M_charAt_22 : decode b_M_charAt 22 = .ok (.ireturn, 1) := by decide +kernel
theorem d_M_feed_0 : decode b_M_feed 0 = .ok (.iload_n 1, 1) := by decide +kernel
theorem d_M_feed_1 : decode b_M_feed 1 = .ok (.bipush 32, 2) := by decide +kernel
theorem d_M_feed_3 : decode b_M_feed 3 = .ok (.if_icmp .lt 19, 3) := by decide +kernel
theorem d_M_feed_6 : decode b_M_feed 6 = .ok (.iload_n 1, 1) := by decide +kernel
theorem d_M_feed_7 : decode b_M_feed 7 = .ok (.bipush 126, 2) := by decide +kernel
theorem d_M_feed_9 : decode b_M_feed 9 = .ok (.if_icmp .gt 13, 3) := by decide +kernel
theorem d_M_feed_12 : decode b_M_feed 12 = .ok (.aload_n 0, 1) := by decide +kernel
theorem d_M_feed_13 : decode b_M_feed 13 = .ok (.getfield 110, 3) := by decide +kernel
theorem d_M_feed_16 : decode b_M_feed 16 = .ok (.sipush 1600, 3) := by decide +kernel
theorem d_M_feed_19 : decode b_M_feed 19 = .ok (.if_icmp .ne 5, 3) := by decide +kernel
theorem d_M_feed_22 : decode b_M_feed 22 = .ok (.iconst 0, 1) := by decide +kernel
theorem d_M_feed_23 : decode b_M_feed 23 = .ok (.ireturn, 1) := by decide +kernel
theorem d_M_feed_24 : decode b_M_feed 24 = .ok (.aload_n 0, 1) := by decide +kernel
theorem d_M_feed_25 : decode b_M_feed 25 = .ok (.getfield 29, 3) := by decide +kernel
theorem d_M_feed_28 : decode b_M_feed 28 = .ok (.aload_n 0, 1) := by decide +kernel
theorem d_M_feed_29 : decode b_M_feed 29 = .ok (.getfield 110, 3) := by decide +kernel
theorem d_M_feed_32 : decode b_M_feed 32 = .ok (.iload_n 1, 1) := by decide +kernel
theorem d_M_feed_33 : decode b_M_feed 33 = .ok (.castore, 1) := by decide +kernel
theorem d_M_feed_34 : decode b_M_feed 34 = .ok (.aload_n 0, 1) := by decide +kernel
theorem d_M_feed_35 : decode b_M_feed 35 = .ok (.dup, 1) := by decide +kernel
theorem d_M_feed_36 : decode b_M_feed 36 = .ok (.getfield 110, 3) := by decide +kernel
theorem d_M_feed_39 : decode b_M_feed 39 = .ok (.iconst 1, 1) := by decide +kernel
theorem d_M_feed_40 : decode b_M_feed 40 = .ok (.iadd, 1) := by decide +kernel
theorem d_M_feed_41 : decode b_M_feed 41 = .ok (.putfield 110, 3) := by decide +kernel
theorem d_M_feed_44 : decode b_M_feed 44 = .ok (.iconst 1, 1) := by decide +kernel
theorem d_M_feed_45 : decode b_M_feed 45 = .ok (.ireturn, 1) := by decide +kernel
theorem d_M_alter_0 : decode b_M_alter 0 = .ok (.iload_n 1, 1) := by decide +kernel
theorem d_M_alter_1 : decode b_M_alter 1 = .ok (.ifCond .lt 23, 3) := by decide +kernel
theorem d_M_alter_4 : decode b_M_alter 4 = .ok (.iload_n 1, 1) := by decide +kernel
theorem d_M_alter_5 : decode b_M_alter 5 = .ok (.aload_n 0, 1) := by decide +kernel
theorem d_M_alter_6 : decode b_M_alter 6 = .ok (.getfield 110, 3) := by decide +kernel
theorem d_M_alter_9 : decode b_M_alter 9 = .ok (.if_icmp .ge 15, 3) := by decide +kernel
theorem d_M_alter_12 : decode b_M_alter 12 = .ok (.iload_n 2, 1) := by decide +kernel
theorem d_M_alter_13 : decode b_M_alter 13 = .ok (.bipush 32, 2) := by decide +kernel
theorem d_M_alter_15 : decode b_M_alter 15 = .ok (.if_icmp .lt 9, 3) := by decide +kernel
theorem d_M_alter_18 : decode b_M_alter 18 = .ok (.iload_n 2, 1) := by decide +kernel
theorem d_M_alter_19 : decode b_M_alter 19 = .ok (.bipush 126, 2) := by decide +kernel
theorem d_M_alter_21 : decode b_M_alter 21 = .ok (.if_icmp .le 5, 3) := by decide +kernel
theorem d_M_alter_24 : decode b_M_alter 24 = .ok (.iconst 0, 1) := by decide +kernel
theorem d_M_alter_25 : decode b_M_alter 25 = .ok (.ireturn, 1) := by decide +kernel
theorem d_M_alter_26 : decode b_M_alter 26 = .ok (.aload_n 0, 1) := by decide +kernel
theorem d_M_alter_27 : decode b_M_alter 27 = .ok (.getfield 29, 3) := by decide +kernel
theorem d_M_alter_30 : decode b_M_alter 30 = .ok (.iload_n 1, 1) := by decide +kernel
theorem d_M_alter_31 : decode b_M_alter 31 = .ok (.iload_n 2, 1) := by decide +kernel
theorem d_M_alter_32 : decode b_M_alter 32 = .ok (.castore, 1) := by decide +kernel
theorem d_M_alter_33 : decode b_M_alter 33 = .ok (.iconst 1, 1) := by decide +kernel
theorem d_M_alter_34 : decode b_M_alter 34 = .ok (.ireturn, 1) := by decide +kernel
theorem d_M_cut_0 : decode b_M_cut 0 = .ok (.iload_n 1, 1) := by decide +kernel
theorem d_M_cut_1 : decode b_M_cut 1 = .ok (.ifCond .lt 11, 3) := by decide +kernel
theorem d_M_cut_4 : decode b_M_cut 4 = .ok (.iload_n 1, 1) := by decide +kernel
theorem d_M_cut_5 : decode b_M_cut 5 = .ok (.aload_n 0, 1) := by decide +kernel
theorem d_M_cut_6 : decode b_M_cut 6 = .ok (.getfield 110, 3) := by decide +kernel
theorem d_M_cut_9 : decode b_M_cut 9 = .ok (.if_icmp .le 5, 3) := by decide +kernel
theorem d_M_cut_12 : decode b_M_cut 12 = .ok (.iconst 0, 1) := by decide +kernel
theorem d_M_cut_13 : decode b_M_cut 13 = .ok (.ireturn, 1) := by decide +kernel
theorem d_M_cut_14 : decode b_M_cut 14 = .ok (.aload_n 0, 1) := by decide +kernel
theorem d_M_cut_15 : decode b_M_cut 15 = .ok (.iload_n 1, 1) := by decide +kernel
theorem d_M_cut_16 : decode b_M_cut 16 = .ok (.putfield 110, 3) := by decide +kernel
theorem d_M_cut_19 : decode b_M_cut 19 = .ok (.iconst 1, 1) := by decide +kernel
theorem d_M_cut_20 : decode b_M_cut 20 = .ok (.ireturn, 1) := by decide +kernel
theorem d_M_understand_0 : decode b_M_understand 0 = .ok (.iload_n 1, 1) := by decide +kernel
theorem d_M_understand_1 : decode b_M_understand 1 = .ok (.ifCond .lt 19, 3) := by decide +kernel
theorem d_M_understand_4 : decode b_M_understand 4 = .ok (.iload_n 1, 1) := by decide +kernel
theorem d_M_understand_5 : decode b_M_understand 5 = .ok (.bipush 31, 2) := by decide +kernel
theorem d_M_understand_7 : decode b_M_understand 7 = .ok (.if_icmp .gt 13, 3) := by decide +kernel
theorem d_M_understand_10 : decode b_M_understand 10 = .ok (.aload_n 0, 1) := by decide +kernel
theorem d_M_understand_11 : decode b_M_understand 11 = .ok (.getfield 25, 3) := by decide +kernel
theorem d_M_understand_14 : decode b_M_understand 14 = .ok (.iload_n 1, 1) := by decide +kernel
theorem d_M_understand_15 : decode b_M_understand 15 = .ok (.baload, 1) := by decide +kernel
theorem d_M_understand_16 : decode b_M_understand 16 = .ok (.iload_n 2, 1) := by decide +kernel
theorem d_M_understand_17 : decode b_M_understand 17 = .ok (.if_icmp .ne 5, 3) := by decide +kernel
theorem d_M_understand_20 : decode b_M_understand 20 = .ok (.iconst 0, 1) := by decide +kernel
theorem d_M_understand_21 : decode b_M_understand 21 = .ok (.ireturn, 1) := by decide +kernel
theorem d_M_understand_22 : decode b_M_understand 22 = .ok (.aload_n 0, 1) := by decide +kernel
theorem d_M_understand_23 : decode b_M_understand 23 = .ok (.getfield 25, 3) := by decide +kernel
theorem d_M_understand_26 : decode b_M_understand 26 = .ok (.iload_n 1, 1) := by decide +kernel
theorem d_M_understand_27 : decode b_M_understand 27 = .ok (.iload_n 2, 1) := by decide +kernel
theorem d_M_understand_28 : decode b_M_understand 28 = .ok (.bastore, 1) := by decide +kernel
theorem d_M_understand_29 : decode b_M_understand 29 = .ok (.iconst 1, 1) := by decide +kernel
theorem d_M_understand_30 : decode b_M_understand 30 = .ok (.ireturn, 1) := by decide +kernel
theorem d_M_charOr0_0 : decode b_M_charOr0 0 = .ok (.iload_n 1, 1) := by decide +kernel
theorem d_M_charOr0_1 : decode b_M_charOr0 1 = .ok (.aload_n 0, 1) := by decide +kernel
theorem d_M_charOr0_2 : decode b_M_charOr0 2 = .ok (.getfield 110, 3) := by decide +kernel
theorem d_M_charOr0_5 : decode b_M_charOr0 5 = .ok (.if_icmp .ge 12, 3) := by decide +kernel
theorem d_M_charOr0_8 : decode b_M_charOr0 8 = .ok (.aload_n 0, 1) := by decide +kernel
theorem d_M_charOr0_9 : decode b_M_charOr0 9 = .ok (.getfield 29, 3) := by decide +kernel
theorem d_M_charOr0_12 : decode b_M_charOr0 12 = .ok (.iload_n 1, 1) := by decide +kernel
theorem d_M_charOr0_13 : decode b_M_charOr0 13 = .ok (.caload, 1) := by decide +kernel
theorem d_M_charOr0_14 : decode b_M_charOr0 14 = .ok (.goto 4, 3) := by decide +kernel
theorem d_M_charOr0_17 : decode b_M_charOr0 17 = .ok (.iconst 0, 1) := by decide +kernel
theorem d_M_charOr0_18 : decode b_M_charOr0 18 = .ok (.ireturn, 1) := by decide +kernel
theorem d_M_nameAt_0 : decode b_M_nameAt 0 = .ok (.iconst 0, 1) := by decide +kernel
theorem d_M_nameAt_1 : decode b_M_nameAt 1 = .ok (.istore_n 2, 1) := by decide +kernel
theorem d_M_nameAt_2 : decode b_M_nameAt 2 = .ok (.iconst 0, 1) := by decide +kernel
theorem d_M_nameAt_3 : decode b_M_nameAt 3 = .ok (.istore_n 3, 1) := by decide +kernel
theorem d_M_nameAt_4 : decode b_M_nameAt 4 = .ok (.iload_n 3, 1) := by decide +kernel
theorem d_M_nameAt_5 : decode b_M_nameAt 5 = .ok (.bipush 7, 2) := by decide +kernel
theorem d_M_nameAt_7 : decode b_M_nameAt 7 = .ok (.if_icmp .ge 59, 3) := by decide +kernel
theorem d_M_nameAt_10 : decode b_M_nameAt 10 = .ok (.aload_n 0, 1) := by decide +kernel
theorem d_M_nameAt_11 : decode b_M_nameAt 11 = .ok (.iload_n 1, 1) := by decide +kernel
theorem d_M_nameAt_12 : decode b_M_nameAt 12 = .ok (.iload_n 3, 1) := by decide +kernel
theorem d_M_nameAt_13 : decode b_M_nameAt 13 = .ok (.iadd, 1) := by decide +kernel
theorem d_M_nameAt_14 : decode b_M_nameAt 14 = .ok (.invokevirtual 147, 3) := by decide +kernel
theorem d_M_nameAt_17 : decode b_M_nameAt 17 = .ok (.bipush 97, 2) := by decide +kernel
theorem d_M_nameAt_19 : decode b_M_nameAt 19 = .ok (.if_icmp .lt 47, 3) := by decide +kernel
theorem d_M_nameAt_22 : decode b_M_nameAt 22 = .ok (.aload_n 0, 1) := by decide +kernel
theorem d_M_nameAt_23 : decode b_M_nameAt 23 = .ok (.iload_n 1, 1) := by decide +kernel
theorem d_M_nameAt_24 : decode b_M_nameAt 24 = .ok (.iload_n 3, 1) := by decide +kernel
theorem d_M_nameAt_25 : decode b_M_nameAt 25 = .ok (.iadd, 1) := by decide +kernel
theorem d_M_nameAt_26 : decode b_M_nameAt 26 = .ok (.invokevirtual 147, 3) := by decide +kernel
theorem d_M_nameAt_29 : decode b_M_nameAt 29 = .ok (.bipush 122, 2) := by decide +kernel
theorem d_M_nameAt_31 : decode b_M_nameAt 31 = .ok (.if_icmp .gt 35, 3) := by decide +kernel
theorem d_M_nameAt_34 : decode b_M_nameAt 34 = .ok (.iload_n 3, 1) := by decide +kernel
theorem d_M_nameAt_35 : decode b_M_nameAt 35 = .ok (.bipush 6, 2) := by decide +kernel
theorem d_M_nameAt_37 : decode b_M_nameAt 37 = .ok (.if_icmp .ge 21, 3) := by decide +kernel
theorem d_M_nameAt_40 : decode b_M_nameAt 40 = .ok (.bipush 27, 2) := by decide +kernel
theorem d_M_nameAt_42 : decode b_M_nameAt 42 = .ok (.iload_n 2, 1) := by decide +kernel
theorem d_M_nameAt_43 : decode b_M_nameAt 43 = .ok (.imul, 1) := by decide +kernel
theorem d_M_nameAt_44 : decode b_M_nameAt 44 = .ok (.aload_n 0, 1) := by decide +kernel
theorem d_M_nameAt_45 : decode b_M_nameAt 45 = .ok (.iload_n 1, 1) := by decide +kernel
theorem d_M_nameAt_46 : decode b_M_nameAt 46 = .ok (.iload_n 3, 1) := by decide +kernel
theorem d_M_nameAt_47 : decode b_M_nameAt 47 = .ok (.iadd, 1) := by decide +kernel
theorem d_M_nameAt_48 : decode b_M_nameAt 48 = .ok (.invokevirtual 147, 3) := by decide +kernel
theorem d_M_nameAt_51 : decode b_M_nameAt 51 = .ok (.iadd, 1) := by decide +kernel
theorem d_M_nameAt_52 : decode b_M_nameAt 52 = .ok (.bipush 96, 2) := by decide +kernel
theorem d_M_nameAt_54 : decode b_M_nameAt 54 = .ok (.isub, 1) := by decide +kernel
theorem d_M_nameAt_55 : decode b_M_nameAt 55 = .ok (.goto 4, 3) := by decide +kernel
theorem d_M_nameAt_58 : decode b_M_nameAt 58 = .ok (.iload_n 2, 1) := by decide +kernel
theorem d_M_nameAt_59 : decode b_M_nameAt 59 = .ok (.istore_n 2, 1) := by decide +kernel
theorem d_M_nameAt_60 : decode b_M_nameAt 60 = .ok (.iinc 3 1, 3) := by decide +kernel
theorem d_M_nameAt_63 : decode b_M_nameAt 63 = .ok (.goto (-59), 3) := by decide +kernel
theorem d_M_nameAt_66 : decode b_M_nameAt 66 = .ok (.aload_n 0, 1) := by decide +kernel
theorem d_M_nameAt_67 : decode b_M_nameAt 67 = .ok (.iload_n 1, 1) := by decide +kernel
theorem d_M_nameAt_68 : decode b_M_nameAt 68 = .ok (.iload_n 3, 1) := by decide +kernel
theorem d_M_nameAt_69 : decode b_M_nameAt 69 = .ok (.iadd, 1) := by decide +kernel
theorem d_M_nameAt_70 : decode b_M_nameAt 70 = .ok (.putfield 151, 3) := by decide +kernel
theorem d_M_nameAt_73 : decode b_M_nameAt 73 = .ok (.iload_n 3, 1) := by decide +kernel
theorem d_M_nameAt_74 : decode b_M_nameAt 74 = .ok (.ifCond .eq 9, 3) := by decide +kernel
theorem d_M_nameAt_77 : decode b_M_nameAt 77 = .ok (.iload_n 3, 1) := by decide +kernel
theorem d_M_nameAt_78 : decode b_M_nameAt 78 = .ok (.bipush 7, 2) := by decide +kernel
theorem d_M_nameAt_80 : decode b_M_nameAt 80 = .ok (.if_icmp .ne 7, 3) := by decide +kernel
theorem d_M_nameAt_83 : decode b_M_nameAt 83 = .ok (.iconst (-1), 1) := by decide +kernel
theorem d_M_nameAt_84 : decode b_M_nameAt 84 = .ok (.goto 4, 3) := by decide +kernel
theorem d_M_nameAt_87 : decode b_M_nameAt 87 = .ok (.iload_n 2, 1) := by decide +kernel
theorem d_M_nameAt_88 : decode b_M_nameAt 88 = .ok (.ireturn, 1) := by decide +kernel
theorem d_M_wellFormed_0 : decode b_M_wellFormed 0 = .ok (.aload_n 0, 1) := by decide +kernel
theorem d_M_wellFormed_1 : decode b_M_wellFormed 1 = .ok (.iconst 0, 1) := by decide +kernel
theorem d_M_wellFormed_2 : decode b_M_wellFormed 2 = .ok (.putfield 154, 3) := by decide +kernel
theorem d_M_wellFormed_5 : decode b_M_wellFormed 5 = .ok (.aload_n 0, 1) := by decide +kernel
theorem d_M_wellFormed_6 : decode b_M_wellFormed 6 = .ok (.iconst (-1), 1) := by decide +kernel
theorem d_M_wellFormed_7 : decode b_M_wellFormed 7 = .ok (.putfield 157, 3) := by decide +kernel
theorem d_M_wellFormed_10 : decode b_M_wellFormed 10 = .ok (.aload_n 0, 1) := by decide +kernel
theorem d_M_wellFormed_11 : decode b_M_wellFormed 11 = .ok (.iconst 0, 1) := by decide +kernel
theorem d_M_wellFormed_12 : decode b_M_wellFormed 12 = .ok (.putfield 160, 3) := by decide +kernel
theorem d_M_wellFormed_15 : decode b_M_wellFormed 15 = .ok (.aload_n 0, 1) := by decide +kernel
theorem d_M_wellFormed_16 : decode b_M_wellFormed 16 = .ok (.iconst 0, 1) := by decide +kernel
theorem d_M_wellFormed_17 : decode b_M_wellFormed 17 = .ok (.putfield 163, 3) := by decide +kernel
theorem d_M_wellFormed_20 : decode b_M_wellFormed 20 = .ok (.aload_n 0, 1) := by decide +kernel
theorem d_M_wellFormed_21 : decode b_M_wellFormed 21 = .ok (.iconst 0, 1) := by decide +kernel
theorem d_M_wellFormed_22 : decode b_M_wellFormed 22 = .ok (.putfield 166, 3) := by decide +kernel
theorem d_M_wellFormed_25 : decode b_M_wellFormed 25 = .ok (.aload_n 0, 1) := by decide +kernel
theorem d_M_wellFormed_26 : decode b_M_wellFormed 26 = .ok (.getfield 154, 3) := by decide +kernel
theorem d_M_wellFormed_29 : decode b_M_wellFormed 29 = .ok (.aload_n 0, 1) := by decide +kernel
theorem d_M_wellFormed_30 : decode b_M_wellFormed 30 = .ok (.getfield 110, 3) := by decide +kernel
theorem d_M_wellFormed_33 : decode b_M_wellFormed 33 = .ok (.if_icmp .ge 105, 3) := by decide +kernel
theorem d_M_wellFormed_36 : decode b_M_wellFormed 36 = .ok (.aload_n 0, 1) := by decide +kernel
theorem d_M_wellFormed_37 : decode b_M_wellFormed 37 = .ok (.getfield 163, 3) := by decide +kernel
theorem d_M_wellFormed_40 : decode b_M_wellFormed 40 = .ok (.ifCond .le 12, 3) := by decide +kernel
theorem d_M_wellFormed_43 : decode b_M_wellFormed 43 = .ok (.aload_n 0, 1) := by decide +kernel
theorem d_M_wellFormed_44 : decode b_M_wellFormed 44 = .ok (.getfield 157, 3) := by decide +kernel
theorem d_M_wellFormed_47 : decode b_M_wellFormed 47 = .ok (.ifCond .ge 5, 3) := by decide +kernel
theorem d_M_wellFormed_50 : decode b_M_wellFormed 50 = .ok (.iconst 0, 1) := by decide +kernel
theorem d_M_wellFormed_51 : decode b_M_wellFormed 51 = .ok (.ireturn, 1) := by decide +kernel
theorem d_M_wellFormed_52 : decode b_M_wellFormed 52 = .ok (.aload_n 0, 1) := by decide +kernel
theorem d_M_wellFormed_53 : decode b_M_wellFormed 53 = .ok (.getfield 29, 3) := by decide +kernel
theorem d_M_wellFormed_56 : decode b_M_wellFormed 56 = .ok (.aload_n 0, 1) := by decide +kernel
theorem d_M_wellFormed_57 : decode b_M_wellFormed 57 = .ok (.getfield 154, 3) := by decide +kernel
theorem d_M_wellFormed_60 : decode b_M_wellFormed 60 = .ok (.caload, 1) := by decide +kernel
theorem d_M_wellFormed_61 : decode b_M_wellFormed 61 = .ok (.bipush 60, 2) := by decide +kernel
theorem d_M_wellFormed_63 : decode b_M_wellFormed 63 = .ok (.if_icmp .ne 7, 3) := by decide +kernel
theorem d_M_wellFormed_66 : decode b_M_wellFormed 66 = .ok (.iconst 1, 1) := by decide +kernel
theorem d_M_wellFormed_67 : decode b_M_wellFormed 67 = .ok (.goto 4, 3) := by decide +kernel
theorem d_M_wellFormed_70 : decode b_M_wellFormed 70 = .ok (.iconst 0, 1) := by decide +kernel
theorem d_M_wellFormed_71 : decode b_M_wellFormed 71 = .ok (.istore_n 1, 1) := by decide +kernel
theorem d_M_wellFormed_72 : decode b_M_wellFormed 72 = .ok (.iload_n 1, 1) := by decide +kernel
theorem d_M_wellFormed_73 : decode b_M_wellFormed 73 = .ok (.ifCond .eq 25, 3) := by decide +kernel
theorem d_M_wellFormed_76 : decode b_M_wellFormed 76 = .ok (.aload_n 0, 1) := by decide +kernel
theorem d_M_wellFormed_77 : decode b_M_wellFormed 77 = .ok (.aload_n 0, 1) := by decide +kernel
theorem d_M_wellFormed_78 : decode b_M_wellFormed 78 = .ok (.getfield 154, 3) := by decide +kernel
theorem d_M_wellFormed_81 : decode b_M_wellFormed 81 = .ok (.iconst 1, 1) := by decide +kernel
theorem d_M_wellFormed_82 : decode b_M_wellFormed 82 = .ok (.iadd, 1) := by decide +kernel
theorem d_M_wellFormed_83 : decode b_M_wellFormed 83 = .ok (.invokevirtual 147, 3) := by decide +kernel
theorem d_M_wellFormed_86 : decode b_M_wellFormed 86 = .ok (.bipush 47, 2) := by decide +kernel
theorem d_M_wellFormed_88 : decode b_M_wellFormed 88 = .ok (.if_icmp .ne 10, 3) := by decide +kernel
theorem d_M_wellFormed_91 : decode b_M_wellFormed 91 = .ok (.aload_n 0, 1) := by decide +kernel
theorem d_M_wellFormed_92 : decode b_M_wellFormed 92 = .ok (.invokevirtual 169, 3) := by decide +kernel
theorem d_M_wellFormed_95 : decode b_M_wellFormed 95 = .ok (.goto 33, 3) := by decide +kernel
theorem d_M_wellFormed_98 : decode b_M_wellFormed 98 = .ok (.iload_n 1, 1) := by decide +kernel
theorem d_M_wellFormed_99 : decode b_M_wellFormed 99 = .ok (.ifCond .eq 10, 3) := by decide +kernel
theorem d_M_wellFormed_102 : decode b_M_wellFormed 102 = .ok (.aload_n 0, 1) := by decide +kernel
theorem d_M_wellFormed_103 : decode b_M_wellFormed 103 = .ok (.invokevirtual 173, 3) := by decide +kernel
theorem d_M_wellFormed_106 : decode b_M_wellFormed 106 = .ok (.goto 22, 3) := by decide +kernel
theorem d_M_wellFormed_109 : decode b_M_wellFormed 109 = .ok (.aload_n 0, 1) := by decide +kernel
theorem d_M_wellFormed_110 : decode b_M_wellFormed 110 = .ok (.getfield 157, 3) := by decide +kernel
theorem d_M_wellFormed_113 : decode b_M_wellFormed 113 = .ok (.ifCond .lt 14, 3) := by decide +kernel
theorem d_M_wellFormed_116 : decode b_M_wellFormed 116 = .ok (.aload_n 0, 1) := by decide +kernel
theorem d_M_wellFormed_117 : decode b_M_wellFormed 117 = .ok (.invokevirtual 176, 3) := by decide +kernel
theorem d_M_wellFormed_120 : decode b_M_wellFormed 120 = .ok (.ifCond .eq 7, 3) := by decide +kernel
theorem d_M_wellFormed_123 : decode b_M_wellFormed 123 = .ok (.iconst 1, 1) := by decide +kernel
theorem d_M_wellFormed_124 : decode b_M_wellFormed 124 = .ok (.goto 4, 3) := by decide +kernel
theorem d_M_wellFormed_127 : decode b_M_wellFormed 127 = .ok (.iconst 0, 1) := by decide +kernel
theorem d_M_wellFormed_128 : decode b_M_wellFormed 128 = .ok (.istore_n 2, 1) := by decide +kernel
theorem d_M_wellFormed_129 : decode b_M_wellFormed 129 = .ok (.iload_n 2, 1) := by decide +kernel
theorem d_M_wellFormed_130 : decode b_M_wellFormed 130 = .ok (.ifCond .ne 5, 3) := by decide +kernel
theorem d_M_wellFormed_133 : decode b_M_wellFormed 133 = .ok (.iconst 0, 1) := by decide +kernel
theorem d_M_wellFormed_134 : decode b_M_wellFormed 134 = .ok (.ireturn, 1) := by decide +kernel
theorem d_M_wellFormed_135 : decode b_M_wellFormed 135 = .ok (.goto (-110), 3) := by decide +kernel
theorem d_M_wellFormed_138 : decode b_M_wellFormed 138 = .ok (.aload_n 0, 1) := by decide +kernel
theorem d_M_wellFormed_139 : decode b_M_wellFormed 139 = .ok (.getfield 163, 3) := by decide +kernel
theorem d_M_wellFormed_142 : decode b_M_wellFormed 142 = .ok (.ifCond .le 14, 3) := by decide +kernel
theorem d_M_wellFormed_145 : decode b_M_wellFormed 145 = .ok (.aload_n 0, 1) := by decide +kernel
theorem d_M_wellFormed_146 : decode b_M_wellFormed 146 = .ok (.getfield 157, 3) := by decide +kernel
theorem d_M_wellFormed_149 : decode b_M_wellFormed 149 = .ok (.ifCond .ge 7, 3) := by decide +kernel
theorem d_M_wellFormed_152 : decode b_M_wellFormed 152 = .ok (.iconst 1, 1) := by decide +kernel
theorem d_M_wellFormed_153 : decode b_M_wellFormed 153 = .ok (.goto 4, 3) := by decide +kernel
theorem d_M_wellFormed_156 : decode b_M_wellFormed 156 = .ok (.iconst 0, 1) := by decide +kernel
theorem d_M_wellFormed_157 : decode b_M_wellFormed 157 = .ok (.ireturn, 1) := by decide +kernel
theorem d_M_end_0 : decode b_M_end 0 = .ok (.aload_n 0, 1) := by decide +kernel
theorem d_M_end_1 : decode b_M_end 1 = .ok (.getfield 157, 3) := by decide +kernel
theorem d_M_end_4 : decode b_M_end 4 = .ok (.ifCond .lt 38, 3) := by decide +kernel
theorem d_M_end_7 : decode b_M_end 7 = .ok (.aload_n 0, 1) := by decide +kernel
theorem d_M_end_8 : decode b_M_end 8 = .ok (.aload_n 0, 1) := by decide +kernel
theorem d_M_end_9 : decode b_M_end 9 = .ok (.getfield 154, 3) := by decide +kernel
theorem d_M_end_12 : decode b_M_end 12 = .ok (.iconst 2, 1) := by decide +kernel
theorem d_M_end_13 : decode b_M_end 13 = .ok (.iadd, 1) := by decide +kernel
theorem d_M_end_14 : decode b_M_end 14 = .ok (.invokevirtual 179, 3) := by decide +kernel
theorem d_M_end_17 : decode b_M_end 17 = .ok (.aload_n 0, 1) := by decide +kernel
theorem d_M_end_18 : decode b_M_end 18 = .ok (.getfield 33, 3) := by decide +kernel
theorem d_M_end_21 : decode b_M_end 21 = .ok (.aload_n 0, 1) := by decide +kernel
theorem d_M_end_22 : decode b_M_end 22 = .ok (.getfield 157, 3) := by decide +kernel
theorem d_M_end_25 : decode b_M_end 25 = .ok (.iaload, 1) := by decide +kernel
theorem d_M_end_26 : decode b_M_end 26 = .ok (.if_icmp .ne 16, 3) := by decide +kernel
theorem d_M_end_29 : decode b_M_end 29 = .ok (.aload_n 0, 1) := by decide +kernel
theorem d_M_end_30 : decode b_M_end 30 = .ok (.aload_n 0, 1) := by decide +kernel
theorem d_M_end_31 : decode b_M_end 31 = .ok (.getfield 151, 3) := by decide +kernel
theorem d_M_end_34 : decode b_M_end 34 = .ok (.invokevirtual 147, 3) := by decide +kernel
theorem d_M_end_37 : decode b_M_end 37 = .ok (.bipush 62, 2) := by decide +kernel
theorem d_M_end_39 : decode b_M_end 39 = .ok (.if_icmp .eq 5, 3) := by decide +kernel
theorem d_M_end_42 : decode b_M_end 42 = .ok (.iconst 0, 1) := by decide +kernel
theorem d_M_end_43 : decode b_M_end 43 = .ok (.ireturn, 1) := by decide +kernel
theorem d_M_end_44 : decode b_M_end 44 = .ok (.aload_n 0, 1) := by decide +kernel
theorem d_M_end_45 : decode b_M_end 45 = .ok (.aload_n 0, 1) := by decide +kernel
theorem d_M_end_46 : decode b_M_end 46 = .ok (.getfield 151, 3) := by decide +kernel
theorem d_M_end_49 : decode b_M_end 49 = .ok (.iconst 1, 1) := by decide +kernel
theorem d_M_end_50 : decode b_M_end 50 = .ok (.iadd, 1) := by decide +kernel
theorem d_M_end_51 : decode b_M_end 51 = .ok (.putfield 154, 3) := by decide +kernel
theorem d_M_end_54 : decode b_M_end 54 = .ok (.aload_n 0, 1) := by decide +kernel
theorem d_M_end_55 : decode b_M_end 55 = .ok (.aload_n 0, 1) := by decide +kernel
theorem d_M_end_56 : decode b_M_end 56 = .ok (.getfield 36, 3) := by decide +kernel
theorem d_M_end_59 : decode b_M_end 59 = .ok (.aload_n 0, 1) := by decide +kernel
theorem d_M_end_60 : decode b_M_end 60 = .ok (.getfield 157, 3) := by decide +kernel
theorem d_M_end_63 : decode b_M_end 63 = .ok (.iaload, 1) := by decide +kernel
theorem d_M_end_64 : decode b_M_end 64 = .ok (.putfield 157, 3) := by decide +kernel
theorem d_M_end_67 : decode b_M_end 67 = .ok (.aload_n 0, 1) := by decide +kernel
theorem d_M_end_68 : decode b_M_end 68 = .ok (.dup, 1) := by decide +kernel
theorem d_M_end_69 : decode b_M_end 69 = .ok (.getfield 160, 3) := by decide +kernel
theorem d_M_end_72 : decode b_M_end 72 = .ok (.iconst 1, 1) := by decide +kernel
theorem d_M_end_73 : decode b_M_end 73 = .ok (.isub, 1) := by decide +kernel
theorem d_M_end_74 : decode b_M_end 74 = .ok (.putfield 160, 3) := by decide +kernel
theorem d_M_end_77 : decode b_M_end 77 = .ok (.iconst 1, 1) := by decide +kernel
theorem d_M_end_78 : decode b_M_end 78 = .ok (.ireturn, 1) := by decide +kernel
theorem d_M_start_0 : decode b_M_start 0 = .ok (.aload_n 0, 1) := by decide +kernel
theorem d_M_start_1 : decode b_M_start 1 = .ok (.aload_n 0, 1) := by decide +kernel
theorem d_M_start_2 : decode b_M_start 2 = .ok (.getfield 154, 3) := by decide +kernel
theorem d_M_start_5 : decode b_M_start 5 = .ok (.iconst 1, 1) := by decide +kernel
theorem d_M_start_6 : decode b_M_start 6 = .ok (.iadd, 1) := by decide +kernel
theorem d_M_start_7 : decode b_M_start 7 = .ok (.invokevirtual 179, 3) := by decide +kernel
theorem d_M_start_10 : decode b_M_start 10 = .ok (.istore_n 1, 1) := by decide +kernel
theorem d_M_start_11 : decode b_M_start 11 = .ok (.iload_n 1, 1) := by decide +kernel
theorem d_M_start_12 : decode b_M_start 12 = .ok (.ifCond .lt 12, 3) := by decide +kernel
theorem d_M_start_15 : decode b_M_start 15 = .ok (.aload_n 0, 1) := by decide +kernel
theorem d_M_start_16 : decode b_M_start 16 = .ok (.getfield 160, 3) := by decide +kernel
theorem d_M_start_19 : decode b_M_start 19 = .ok (.bipush 20, 2) := by decide +kernel
theorem d_M_start_21 : decode b_M_start 21 = .ok (.if_icmp .ne 5, 3) := by decide +kernel
theorem d_M_start_24 : decode b_M_start 24 = .ok (.iconst 0, 1) := by decide +kernel
theorem d_M_start_25 : decode b_M_start 25 = .ok (.ireturn, 1) := by decide +kernel
theorem d_M_start_26 : decode b_M_start 26 = .ok (.aload_n 0, 1) := by decide +kernel
theorem d_M_start_27 : decode b_M_start 27 = .ok (.getfield 163, 3) := by decide +kernel
theorem d_M_start_30 : decode b_M_start 30 = .ok (.istore_n 2, 1) := by decide +kernel
theorem d_M_start_31 : decode b_M_start 31 = .ok (.aload_n 0, 1) := by decide +kernel
theorem d_M_start_32 : decode b_M_start 32 = .ok (.getfield 151, 3) := by decide +kernel
theorem d_M_start_35 : decode b_M_start 35 = .ok (.istore_n 3, 1) := by decide +kernel
theorem d_M_start_36 : decode b_M_start 36 = .ok (.aload_n 0, 1) := by decide +kernel
theorem d_M_start_37 : decode b_M_start 37 = .ok (.getfield 33, 3) := by decide +kernel
theorem d_M_start_40 : decode b_M_start 40 = .ok (.iload_n 2, 1) := by decide +kernel
theorem d_M_start_41 : decode b_M_start 41 = .ok (.iload_n 1, 1) := by decide +kernel
theorem d_M_start_42 : decode b_M_start 42 = .ok (.iastore, 1) := by decide +kernel
theorem d_M_start_43 : decode b_M_start 43 = .ok (.aload_n 0, 1) := by decide +kernel
theorem d_M_start_44 : decode b_M_start 44 = .ok (.getfield 36, 3) := by decide +kernel
theorem d_M_start_47 : decode b_M_start 47 = .ok (.iload_n 2, 1) := by decide +kernel
theorem d_M_start_48 : decode b_M_start 48 = .ok (.aload_n 0, 1) := by decide +kernel
theorem d_M_start_49 : decode b_M_start 49 = .ok (.getfield 157, 3) := by decide +kernel
theorem d_M_start_52 : decode b_M_start 52 = .ok (.iastore, 1) := by decide +kernel
theorem d_M_start_53 : decode b_M_start 53 = .ok (.aload_n 0, 1) := by decide +kernel
theorem d_M_start_54 : decode b_M_start 54 = .ok (.getfield 39, 3) := by decide +kernel
theorem d_M_start_57 : decode b_M_start 57 = .ok (.iload_n 2, 1) := by decide +kernel
theorem d_M_start_58 : decode b_M_start 58 = .ok (.aload_n 0, 1) := by decide +kernel
theorem d_M_start_59 : decode b_M_start 59 = .ok (.getfield 166, 3) := by decide +kernel
theorem d_M_start_62 : decode b_M_start 62 = .ok (.iastore, 1) := by decide +kernel
theorem d_M_start_63 : decode b_M_start 63 = .ok (.aload_n 0, 1) := by decide +kernel
theorem d_M_start_64 : decode b_M_start 64 = .ok (.getfield 42, 3) := by decide +kernel
theorem d_M_start_67 : decode b_M_start 67 = .ok (.iload_n 2, 1) := by decide +kernel
theorem d_M_start_68 : decode b_M_start 68 = .ok (.iconst 0, 1) := by decide +kernel
theorem d_M_start_69 : decode b_M_start 69 = .ok (.iastore, 1) := by decide +kernel
theorem d_M_start_70 : decode b_M_start 70 = .ok (.aload_n 0, 1) := by decide +kernel
theorem d_M_start_71 : decode b_M_start 71 = .ok (.getfield 45, 3) := by decide +kernel
theorem d_M_start_74 : decode b_M_start 74 = .ok (.iload_n 2, 1) := by decide +kernel
theorem d_M_start_75 : decode b_M_start 75 = .ok (.iconst 0, 1) := by decide +kernel
theorem d_M_start_76 : decode b_M_start 76 = .ok (.iastore, 1) := by decide +kernel
theorem d_M_start_77 : decode b_M_start 77 = .ok (.iconst 0, 1) := by decide +kernel
theorem d_M_start_78 : decode b_M_start 78 = .ok (.istore 4, 2) := by decide +kernel
theorem d_M_start_80 : decode b_M_start 80 = .ok (.iload 4, 2) := by decide +kernel
theorem d_M_start_82 : decode b_M_start 82 = .ok (.bipush 7, 2) := by decide +kernel
theorem d_M_start_84 : decode b_M_start 84 = .ok (.if_icmp .gt 172, 3) := by decide +kernel
theorem d_M_start_87 : decode b_M_start 87 = .ok (.iload_n 3, 1) := by decide +kernel
theorem d_M_start_88 : decode b_M_start 88 = .ok (.istore 5, 2) := by decide +kernel
theorem d_M_start_90 : decode b_M_start 90 = .ok (.aload_n 0, 1) := by decide +kernel
theorem d_M_start_91 : decode b_M_start 91 = .ok (.iload_n 3, 1) := by decide +kernel
theorem d_M_start_92 : decode b_M_start 92 = .ok (.invokevirtual 147, 3) := by decide +kernel
theorem d_M_start_95 : decode b_M_start 95 = .ok (.bipush 32, 2) := by decide +kernel
theorem d_M_start_97 : decode b_M_start 97 = .ok (.if_icmp .ne 9, 3) := by decide +kernel
theorem d_M_start_100 : decode b_M_start 100 = .ok (.iinc 3 1, 3) := by decide +kernel
theorem d_M_start_103 : decode b_M_start 103 = .ok (.goto (-13), 3) := by decide +kernel
theorem d_M_start_106 : decode b_M_start 106 = .ok (.aload_n 0, 1) := by decide +kernel
theorem d_M_start_107 : decode b_M_start 107 = .ok (.iload_n 3, 1) := by decide +kernel
theorem d_M_start_108 : decode b_M_start 108 = .ok (.invokevirtual 147, 3) := by decide +kernel
theorem d_M_start_111 : decode b_M_start 111 = .ok (.bipush 47, 2) := by decide +kernel
theorem d_M_start_113 : decode b_M_start 113 = .ok (.if_icmp .ne 19, 3) := by decide +kernel
theorem d_M_start_116 : decode b_M_start 116 = .ok (.aload_n 0, 1) := by decide +kernel
theorem d_M_start_117 : decode b_M_start 117 = .ok (.iload_n 3, 1) := by decide +kernel
theorem d_M_start_118 : decode b_M_start 118 = .ok (.iconst 1, 1) := by decide +kernel
theorem d_M_start_119 : decode b_M_start 119 = .ok (.iadd, 1) := by decide +kernel
theorem d_M_start_120 : decode b_M_start 120 = .ok (.invokevirtual 147, 3) := by decide +kernel
theorem d_M_start_123 : decode b_M_start 123 = .ok (.bipush 62, 2) := by decide +kernel
theorem d_M_start_125 : decode b_M_start 125 = .ok (.if_icmp .ne 7, 3) := by decide +kernel
theorem d_M_start_128 : decode b_M_start 128 = .ok (.iconst 1, 1) := by decide +kernel
theorem d_M_start_129 : decode b_M_start 129 = .ok (.goto 4, 3) := by decide +kernel
theorem d_M_start_132 : decode b_M_start 132 = .ok (.iconst 0, 1) := by decide +kernel
theorem d_M_start_133 : decode b_M_start 133 = .ok (.istore 6, 2) := by decide +kernel
theorem d_M_start_135 : decode b_M_start 135 = .ok (.iload 6, 2) := by decide +kernel
theorem d_M_start_137 : decode b_M_start 137 = .ok (.ifCond .ne 13, 3) := by decide +kernel
theorem d_M_start_140 : decode b_M_start 140 = .ok (.aload_n 0, 1) := by decide +kernel
theorem d_M_start_141 : decode b_M_start 141 = .ok (.iload_n 3, 1) := by decide +kernel
theorem d_M_start_142 : decode b_M_start 142 = .ok (.invokevirtual 147, 3) := by decide +kernel
theorem d_M_start_145 : decode b_M_start 145 = .ok (.bipush 62, 2) := by decide +kernel
theorem d_M_start_147 : decode b_M_start 147 = .ok (.if_icmp .ne 69, 3) := by decide +kernel
theorem d_M_start_150 : decode b_M_start 150 = .ok (.aload_n 0, 1) := by decide +kernel
theorem d_M_start_151 : decode b_M_start 151 = .ok (.iload 6, 2) := by decide +kernel
