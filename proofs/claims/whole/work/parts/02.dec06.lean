theorem d_M_slots_129 : decode b_M_slots 129 = .ok (.if_icmp .ge 13, 3) := by decide +kernel
theorem d_M_slots_132 : decode b_M_slots 132 = .ok (.iload 4, 2) := by decide +kernel
theorem d_M_slots_134 : decode b_M_slots 134 = .ok (.iload 6, 2) := by decide +kernel
theorem d_M_slots_136 : decode b_M_slots 136 = .ok (.ishr, 1) := by decide +kernel
theorem d_M_slots_137 : decode b_M_slots 137 = .ok (.iconst 1, 1) := by decide +kernel
theorem d_M_slots_138 : decode b_M_slots 138 = .ok (.iand, 1) := by decide +kernel
theorem d_M_slots_139 : decode b_M_slots 139 = .ok (.ifCond .eq 5, 3) := by decide +kernel
theorem d_M_slots_142 : decode b_M_slots 142 = .ok (.iconst 0, 1) := by decide +kernel
theorem d_M_slots_143 : decode b_M_slots 143 = .ok (.ireturn, 1) := by decide +kernel
theorem d_M_slots_144 : decode b_M_slots 144 = .ok (.iload 4, 2) := by decide +kernel
theorem d_M_slots_146 : decode b_M_slots 146 = .ok (.iconst 1, 1) := by decide +kernel
theorem d_M_slots_147 : decode b_M_slots 147 = .ok (.iload 6, 2) := by decide +kernel
theorem d_M_slots_149 : decode b_M_slots 149 = .ok (.ishl, 1) := by decide +kernel
theorem d_M_slots_150 : decode b_M_slots 150 = .ok (.ior, 1) := by decide +kernel
theorem d_M_slots_151 : decode b_M_slots 151 = .ok (.istore 4, 2) := by decide +kernel
theorem d_M_slots_153 : decode b_M_slots 153 = .ok (.aload_n 0, 1) := by decide +kernel
theorem d_M_slots_154 : decode b_M_slots 154 = .ok (.getfield 51, 3) := by decide +kernel
theorem d_M_slots_157 : decode b_M_slots 157 = .ok (.iload 5, 2) := by decide +kernel
theorem d_M_slots_159 : decode b_M_slots 159 = .ok (.iload 6, 2) := by decide +kernel
theorem d_M_slots_161 : decode b_M_slots 161 = .ok (.iastore, 1) := by decide +kernel
theorem d_M_slots_162 : decode b_M_slots 162 = .ok (.iload 6, 2) := by decide +kernel
theorem d_M_slots_164 : decode b_M_slots 164 = .ok (.iconst 1, 1) := by decide +kernel
theorem d_M_slots_165 : decode b_M_slots 165 = .ok (.iadd, 1) := by decide +kernel
theorem d_M_slots_166 : decode b_M_slots 166 = .ok (.istore_n 3, 1) := by decide +kernel
theorem d_M_slots_167 : decode b_M_slots 167 = .ok (.iinc 5 1, 3) := by decide +kernel
theorem d_M_slots_170 : decode b_M_slots 170 = .ok (.goto (-90), 3) := by decide +kernel
theorem d_M_slots_173 : decode b_M_slots 173 = .ok (.aload_n 0, 1) := by decide +kernel
theorem d_M_slots_174 : decode b_M_slots 174 = .ok (.getfield 33, 3) := by decide +kernel
theorem d_M_slots_177 : decode b_M_slots 177 = .ok (.iload_n 1, 1) := by decide +kernel
theorem d_M_slots_178 : decode b_M_slots 178 = .ok (.iaload, 1) := by decide +kernel
theorem d_M_slots_179 : decode b_M_slots 179 = .ok (.iconst 1, 1) := by decide +kernel
theorem d_M_slots_180 : decode b_M_slots 180 = .ok (.if_icmp .eq 9, 3) := by decide +kernel
theorem d_M_slots_183 : decode b_M_slots 183 = .ok (.iload 4, 2) := by decide +kernel
theorem d_M_slots_185 : decode b_M_slots 185 = .ok (.iconst 3, 1) := by decide +kernel
theorem d_M_slots_186 : decode b_M_slots 186 = .ok (.if_icmp .ne 7, 3) := by decide +kernel
theorem d_M_slots_189 : decode b_M_slots 189 = .ok (.iconst 1, 1) := by decide +kernel
theorem d_M_slots_190 : decode b_M_slots 190 = .ok (.goto 4, 3) := by decide +kernel
theorem d_M_slots_193 : decode b_M_slots 193 = .ok (.iconst 0, 1) := by decide +kernel
theorem d_M_slots_194 : decode b_M_slots 194 = .ok (.ireturn, 1) := by decide +kernel
theorem d_M_withId_0 : decode b_M_withId 0 = .ok (.iload_n 1, 1) := by decide +kernel
theorem d_M_withId_1 : decode b_M_withId 1 = .ok (.iconst 1, 1) := by decide +kernel
theorem d_M_withId_2 : decode b_M_withId 2 = .ok (.iadd, 1) := by decide +kernel
theorem d_M_withId_3 : decode b_M_withId 3 = .ok (.istore 4, 2) := by decide +kernel
theorem d_M_withId_5 : decode b_M_withId 5 = .ok (.iload 4, 2) := by decide +kernel
theorem d_M_withId_7 : decode b_M_withId 7 = .ok (.aload_n 0, 1) := by decide +kernel
theorem d_M_withId_8 : decode b_M_withId 8 = .ok (.getfield 163, 3) := by decide +kernel
theorem d_M_withId_11 : decode b_M_withId 11 = .ok (.if_icmp .ge 40, 3) := by decide +kernel
theorem d_M_withId_14 : decode b_M_withId 14 = .ok (.iload 4, 2) := by decide +kernel
theorem d_M_withId_16 : decode b_M_withId 16 = .ok (.iload_n 3, 1) := by decide +kernel
theorem d_M_withId_17 : decode b_M_withId 17 = .ok (.if_icmp .eq 28, 3) := by decide +kernel
theorem d_M_withId_20 : decode b_M_withId 20 = .ok (.aload_n 0, 1) := by decide +kernel
theorem d_M_withId_21 : decode b_M_withId 21 = .ok (.iload 4, 2) := by decide +kernel
theorem d_M_withId_23 : decode b_M_withId 23 = .ok (.invokevirtual 203, 3) := by decide +kernel
theorem d_M_withId_26 : decode b_M_withId 26 = .ok (.ifCond .eq 19, 3) := by decide +kernel
theorem d_M_withId_29 : decode b_M_withId 29 = .ok (.aload_n 0, 1) := by decide +kernel
theorem d_M_withId_30 : decode b_M_withId 30 = .ok (.iload 4, 2) := by decide +kernel
theorem d_M_withId_32 : decode b_M_withId 32 = .ok (.sipush 247, 3) := by decide +kernel
theorem d_M_withId_35 : decode b_M_withId 35 = .ok (.invokevirtual 200, 3) := by decide +kernel
theorem d_M_withId_38 : decode b_M_withId 38 = .ok (.iload_n 2, 1) := by decide +kernel
theorem d_M_withId_39 : decode b_M_withId 39 = .ok (.if_icmp .ne 6, 3) := by decide +kernel
theorem d_M_withId_42 : decode b_M_withId 42 = .ok (.iload 4, 2) := by decide +kernel
theorem d_M_withId_44 : decode b_M_withId 44 = .ok (.ireturn, 1) := by decide +kernel
theorem d_M_withId_45 : decode b_M_withId 45 = .ok (.iinc 4 1, 3) := by decide +kernel
theorem d_M_withId_48 : decode b_M_withId 48 = .ok (.goto (-43), 3) := by decide +kernel
theorem d_M_withId_51 : decode b_M_withId 51 = .ok (.iconst (-1), 1) := by decide +kernel
theorem d_M_withId_52 : decode b_M_withId 52 = .ok (.ireturn, 1) := by decide +kernel
theorem d_M_lawful_0 : decode b_M_lawful 0 = .ok (.aload_n 0, 1) := by decide +kernel
theorem d_M_lawful_1 : decode b_M_lawful 1 = .ok (.getfield 87, 3) := by decide +kernel
theorem d_M_lawful_4 : decode b_M_lawful 4 = .ok (.istore_n 2, 1) := by decide +kernel
theorem d_M_lawful_5 : decode b_M_lawful 5 = .ok (.iload_n 1, 1) := by decide +kernel
theorem d_M_lawful_6 : decode b_M_lawful 6 = .ok (.iconst 1, 1) := by decide +kernel
theorem d_M_lawful_7 : decode b_M_lawful 7 = .ok (.iadd, 1) := by decide +kernel
theorem d_M_lawful_8 : decode b_M_lawful 8 = .ok (.istore_n 3, 1) := by decide +kernel
theorem d_M_lawful_9 : decode b_M_lawful 9 = .ok (.iload_n 3, 1) := by decide +kernel
theorem d_M_lawful_10 : decode b_M_lawful 10 = .ok (.aload_n 0, 1) := by decide +kernel
theorem d_M_lawful_11 : decode b_M_lawful 11 = .ok (.getfield 163, 3) := by decide +kernel
theorem d_M_lawful_14 : decode b_M_lawful 14 = .ok (.if_icmp .ge 136, 3) := by decide +kernel
theorem d_M_lawful_17 : decode b_M_lawful 17 = .ok (.aload_n 0, 1) := by decide +kernel
theorem d_M_lawful_18 : decode b_M_lawful 18 = .ok (.iload_n 3, 1) := by decide +kernel
theorem d_M_lawful_19 : decode b_M_lawful 19 = .ok (.iload_n 1, 1) := by decide +kernel
theorem d_M_lawful_20 : decode b_M_lawful 20 = .ok (.invokevirtual 213, 3) := by decide +kernel
theorem d_M_lawful_23 : decode b_M_lawful 23 = .ok (.ifCond .ne 5, 3) := by decide +kernel
theorem d_M_lawful_26 : decode b_M_lawful 26 = .ok (.iconst 0, 1) := by decide +kernel
theorem d_M_lawful_27 : decode b_M_lawful 27 = .ok (.ireturn, 1) := by decide +kernel
theorem d_M_lawful_28 : decode b_M_lawful 28 = .ok (.aload_n 0, 1) := by decide +kernel
theorem d_M_lawful_29 : decode b_M_lawful 29 = .ok (.getfield 33, 3) := by decide +kernel
theorem d_M_lawful_32 : decode b_M_lawful 32 = .ok (.iload_n 3, 1) := by decide +kernel
theorem d_M_lawful_33 : decode b_M_lawful 33 = .ok (.iaload, 1) := by decide +kernel
theorem d_M_lawful_34 : decode b_M_lawful 34 = .ok (.bipush 16, 2) := by decide +kernel
theorem d_M_lawful_36 : decode b_M_lawful 36 = .ok (.if_icmp .eq 13, 3) := by decide +kernel
theorem d_M_lawful_39 : decode b_M_lawful 39 = .ok (.aload_n 0, 1) := by decide +kernel
theorem d_M_lawful_40 : decode b_M_lawful 40 = .ok (.getfield 33, 3) := by decide +kernel
theorem d_M_lawful_43 : decode b_M_lawful 43 = .ok (.iload_n 3, 1) := by decide +kernel
theorem d_M_lawful_44 : decode b_M_lawful 44 = .ok (.iaload, 1) := by decide +kernel
theorem d_M_lawful_45 : decode b_M_lawful 45 = .ok (.iconst 1, 1) := by decide +kernel
theorem d_M_lawful_46 : decode b_M_lawful 46 = .ok (.if_icmp .ne 13, 3) := by decide +kernel
theorem d_M_lawful_49 : decode b_M_lawful 49 = .ok (.aload_n 0, 1) := by decide +kernel
theorem d_M_lawful_50 : decode b_M_lawful 50 = .ok (.iload_n 3, 1) := by decide +kernel
theorem d_M_lawful_51 : decode b_M_lawful 51 = .ok (.invokevirtual 216, 3) := by decide +kernel
theorem d_M_lawful_54 : decode b_M_lawful 54 = .ok (.ifCond .ne 5, 3) := by decide +kernel
theorem d_M_lawful_57 : decode b_M_lawful 57 = .ok (.iconst 0, 1) := by decide +kernel
theorem d_M_lawful_58 : decode b_M_lawful 58 = .ok (.ireturn, 1) := by decide +kernel
theorem d_M_lawful_59 : decode b_M_lawful 59 = .ok (.aload_n 0, 1) := by decide +kernel
theorem d_M_lawful_60 : decode b_M_lawful 60 = .ok (.iload_n 3, 1) := by decide +kernel
theorem d_M_lawful_61 : decode b_M_lawful 61 = .ok (.invokevirtual 203, 3) := by decide +kernel
theorem d_M_lawful_64 : decode b_M_lawful 64 = .ok (.ifCond .eq 9, 3) := by decide +kernel
theorem d_M_lawful_67 : decode b_M_lawful 67 = .ok (.iload_n 2, 1) := by decide +kernel
theorem d_M_lawful_68 : decode b_M_lawful 68 = .ok (.iconst 1, 1) := by decide +kernel
theorem d_M_lawful_69 : decode b_M_lawful 69 = .ok (.iadd, 1) := by decide +kernel
theorem d_M_lawful_70 : decode b_M_lawful 70 = .ok (.goto 4, 3) := by decide +kernel
theorem d_M_lawful_73 : decode b_M_lawful 73 = .ok (.iload_n 2, 1) := by decide +kernel
theorem d_M_lawful_74 : decode b_M_lawful 74 = .ok (.istore_n 2, 1) := by decide +kernel
theorem d_M_lawful_75 : decode b_M_lawful 75 = .ok (.aload_n 0, 1) := by decide +kernel
theorem d_M_lawful_76 : decode b_M_lawful 76 = .ok (.iload_n 3, 1) := by decide +kernel
theorem d_M_lawful_77 : decode b_M_lawful 77 = .ok (.invokevirtual 203, 3) := by decide +kernel
theorem d_M_lawful_80 : decode b_M_lawful 80 = .ok (.ifCond .eq 14, 3) := by decide +kernel
theorem d_M_lawful_83 : decode b_M_lawful 83 = .ok (.aload_n 0, 1) := by decide +kernel
theorem d_M_lawful_84 : decode b_M_lawful 84 = .ok (.iload_n 3, 1) := by decide +kernel
theorem d_M_lawful_85 : decode b_M_lawful 85 = .ok (.sipush 247, 3) := by decide +kernel
theorem d_M_lawful_88 : decode b_M_lawful 88 = .ok (.invokevirtual 200, 3) := by decide +kernel
theorem d_M_lawful_91 : decode b_M_lawful 91 = .ok (.goto 4, 3) := by decide +kernel
theorem d_M_lawful_94 : decode b_M_lawful 94 = .ok (.iconst (-1), 1) := by decide +kernel
theorem d_M_lawful_95 : decode b_M_lawful 95 = .ok (.istore 4, 2) := by decide +kernel
theorem d_M_lawful_97 : decode b_M_lawful 97 = .ok (.iload 4, 2) := by decide +kernel
theorem d_M_lawful_99 : decode b_M_lawful 99 = .ok (.ifCond .lt 16, 3) := by decide +kernel
theorem d_M_lawful_102 : decode b_M_lawful 102 = .ok (.aload_n 0, 1) := by decide +kernel
theorem d_M_lawful_103 : decode b_M_lawful 103 = .ok (.iload_n 1, 1) := by decide +kernel
theorem d_M_lawful_104 : decode b_M_lawful 104 = .ok (.iload 4, 2) := by decide +kernel
theorem d_M_lawful_106 : decode b_M_lawful 106 = .ok (.iload_n 3, 1) := by decide +kernel
theorem d_M_lawful_107 : decode b_M_lawful 107 = .ok (.invokevirtual 219, 3) := by decide +kernel
theorem d_M_lawful_110 : decode b_M_lawful 110 = .ok (.ifCond .lt 5, 3) := by decide +kernel
theorem d_M_lawful_113 : decode b_M_lawful 113 = .ok (.iconst 0, 1) := by decide +kernel
theorem d_M_lawful_114 : decode b_M_lawful 114 = .ok (.ireturn, 1) := by decide +kernel
theorem d_M_lawful_115 : decode b_M_lawful 115 = .ok (.aload_n 0, 1) := by decide +kernel
theorem d_M_lawful_116 : decode b_M_lawful 116 = .ok (.getfield 33, 3) := by decide +kernel
theorem d_M_lawful_119 : decode b_M_lawful 119 = .ok (.iload_n 3, 1) := by decide +kernel
theorem d_M_lawful_120 : decode b_M_lawful 120 = .ok (.iaload, 1) := by decide +kernel
theorem d_M_lawful_121 : decode b_M_lawful 121 = .ok (.bipush 18, 2) := by decide +kernel
theorem d_M_lawful_123 : decode b_M_lawful 123 = .ok (.if_icmp .ne 21, 3) := by decide +kernel
theorem d_M_lawful_126 : decode b_M_lawful 126 = .ok (.aload_n 0, 1) := by decide +kernel
theorem d_M_lawful_127 : decode b_M_lawful 127 = .ok (.iload_n 1, 1) := by decide +kernel
theorem d_M_lawful_128 : decode b_M_lawful 128 = .ok (.aload_n 0, 1) := by decide +kernel
theorem d_M_lawful_129 : decode b_M_lawful 129 = .ok (.iload_n 3, 1) := by decide +kernel
theorem d_M_lawful_130 : decode b_M_lawful 130 = .ok (.bipush 8, 2) := by decide +kernel
theorem d_M_lawful_132 : decode b_M_lawful 132 = .ok (.invokevirtual 200, 3) := by decide +kernel
theorem d_M_lawful_135 : decode b_M_lawful 135 = .ok (.iconst (-1), 1) := by decide +kernel
theorem d_M_lawful_136 : decode b_M_lawful 136 = .ok (.invokevirtual 219, 3) := by decide +kernel
theorem d_M_lawful_139 : decode b_M_lawful 139 = .ok (.ifCond .ge 5, 3) := by decide +kernel
theorem d_M_lawful_142 : decode b_M_lawful 142 = .ok (.iconst 0, 1) := by decide +kernel
theorem d_M_lawful_143 : decode b_M_lawful 143 = .ok (.ireturn, 1) := by decide +kernel
theorem d_M_lawful_144 : decode b_M_lawful 144 = .ok (.iinc 3 1, 3) := by decide +kernel
theorem d_M_lawful_147 : decode b_M_lawful 147 = .ok (.goto (-138), 3) := by decide +kernel
theorem d_M_lawful_150 : decode b_M_lawful 150 = .ok (.iload_n 2, 1) := by decide +kernel
theorem d_M_lawful_151 : decode b_M_lawful 151 = .ok (.bipush 16, 2) := by decide +kernel
theorem d_M_lawful_153 : decode b_M_lawful 153 = .ok (.if_icmp .gt 7, 3) := by decide +kernel
theorem d_M_lawful_156 : decode b_M_lawful 156 = .ok (.iconst 1, 1) := by decide +kernel
theorem d_M_lawful_157 : decode b_M_lawful 157 = .ok (.goto 4, 3) := by decide +kernel
theorem d_M_lawful_160 : decode b_M_lawful 160 = .ok (.iconst 0, 1) := by decide +kernel
theorem d_M_lawful_161 : decode b_M_lawful 161 = .ok (.ireturn, 1) := by decide +kernel
theorem d_M_decode_0 : decode b_M_decode 0 = .ok (.aload_n 0, 1) := by decide +kernel
theorem d_M_decode_1 : decode b_M_decode 1 = .ok (.invokevirtual 223, 3) := by decide +kernel
theorem d_M_decode_4 : decode b_M_decode 4 = .ok (.ifCond .ne 5, 3) := by decide +kernel
theorem d_M_decode_7 : decode b_M_decode 7 = .ok (.iconst (-1), 1) := by decide +kernel
theorem d_M_decode_8 : decode b_M_decode 8 = .ok (.ireturn, 1) := by decide +kernel
theorem d_M_decode_9 : decode b_M_decode 9 = .ok (.aload_n 0, 1) := by decide +kernel
theorem d_M_decode_10 : decode b_M_decode 10 = .ok (.getfield 33, 3) := by decide +kernel
theorem d_M_decode_13 : decode b_M_decode 13 = .ok (.iconst 0, 1) := by decide +kernel
theorem d_M_decode_14 : decode b_M_decode 14 = .ok (.iaload, 1) := by decide +kernel
theorem d_M_decode_15 : decode b_M_decode 15 = .ok (.iconst 5, 1) := by decide +kernel
theorem d_M_decode_16 : decode b_M_decode 16 = .ok (.if_icmp .ne 13, 3) := by decide +kernel
theorem d_M_decode_19 : decode b_M_decode 19 = .ok (.aload_n 0, 1) := by decide +kernel
theorem d_M_decode_20 : decode b_M_decode 20 = .ok (.iconst 0, 1) := by decide +kernel
theorem d_M_decode_21 : decode b_M_decode 21 = .ok (.bipush 22, 2) := by decide +kernel
theorem d_M_decode_23 : decode b_M_decode 23 = .ok (.invokevirtual 197, 3) := by decide +kernel
theorem d_M_decode_26 : decode b_M_decode 26 = .ok (.ifCond .ne 6, 3) := by decide +kernel
theorem d_M_decode_29 : decode b_M_decode 29 = .ok (.bipush (-2), 2) := by decide +kernel
theorem d_M_decode_31 : decode b_M_decode 31 = .ok (.ireturn, 1) := by decide +kernel
theorem d_M_decode_32 : decode b_M_decode 32 = .ok (.aload_n 0, 1) := by decide +kernel
theorem d_M_decode_33 : decode b_M_decode 33 = .ok (.invokevirtual 226, 3) := by decide +kernel
theorem d_M_decode_36 : decode b_M_decode 36 = .ok (.ifCond .eq 6, 3) := by decide +kernel
theorem d_M_decode_39 : decode b_M_decode 39 = .ok (.bipush (-3), 2) := by decide +kernel
theorem d_M_decode_41 : decode b_M_decode 41 = .ok (.ireturn, 1) := by decide +kernel
theorem d_M_decode_42 : decode b_M_decode 42 = .ok (.aload_n 0, 1) := by decide +kernel
theorem d_M_decode_43 : decode b_M_decode 43 = .ok (.invokevirtual 229, 3) := by decide +kernel
theorem d_M_decode_46 : decode b_M_decode 46 = .ok (.istore_n 1, 1) := by decide +kernel
theorem d_M_decode_47 : decode b_M_decode 47 = .ok (.iload_n 1, 1) := by decide +kernel
theorem d_M_decode_48 : decode b_M_decode 48 = .ok (.ifCond .lt 11, 3) := by decide +kernel
theorem d_M_decode_51 : decode b_M_decode 51 = .ok (.aload_n 0, 1) := by decide +kernel
theorem d_M_decode_52 : decode b_M_decode 52 = .ok (.iload_n 1, 1) := by decide +kernel
theorem d_M_decode_53 : decode b_M_decode 53 = .ok (.invokevirtual 233, 3) := by decide +kernel
theorem d_M_decode_56 : decode b_M_decode 56 = .ok (.ifCond .ne 6, 3) := by decide +kernel
theorem d_M_decode_59 : decode b_M_decode 59 = .ok (.bipush (-4), 2) := by decide +kernel
theorem d_M_decode_61 : decode b_M_decode 61 = .ok (.ireturn, 1) := by decide +kernel
theorem d_M_decode_62 : decode b_M_decode 62 = .ok (.iload_n 1, 1) := by decide +kernel
theorem d_M_decode_63 : decode b_M_decode 63 = .ok (.iconst 1, 1) := by decide +kernel
theorem d_M_decode_64 : decode b_M_decode 64 = .ok (.iadd, 1) := by decide +kernel
theorem d_M_decode_65 : decode b_M_decode 65 = .ok (.istore_n 2, 1) := by decide +kernel
theorem d_M_decode_66 : decode b_M_decode 66 = .ok (.iload_n 2, 1) := by decide +kernel
theorem d_M_decode_67 : decode b_M_decode 67 = .ok (.aload_n 0, 1) := by decide +kernel
theorem d_M_decode_68 : decode b_M_decode 68 = .ok (.getfield 163, 3) := by decide +kernel
theorem d_M_decode_71 : decode b_M_decode 71 = .ok (.if_icmp .ge 132, 3) := by decide +kernel
theorem d_M_decode_74 : decode b_M_decode 74 = .ok (.aload_n 0, 1) := by decide +kernel
theorem d_M_decode_75 : decode b_M_decode 75 = .ok (.iload_n 2, 1) := by decide +kernel
theorem d_M_decode_76 : decode b_M_decode 76 = .ok (.invokevirtual 203, 3) := by decide +kernel
theorem d_M_decode_79 : decode b_M_decode 79 = .ok (.ifCond .ne 6, 3) := by decide +kernel
theorem d_M_decode_82 : decode b_M_decode 82 = .ok (.goto 115, 3) := by decide +kernel
theorem d_M_decode_85 : decode b_M_decode 85 = .ok (.aload_n 0, 1) := by decide +kernel
theorem d_M_decode_86 : decode b_M_decode 86 = .ok (.getfield 54, 3) := by decide +kernel
theorem d_M_decode_89 : decode b_M_decode 89 = .ok (.iload_n 2, 1) := by decide +kernel
theorem d_M_decode_90 : decode b_M_decode 90 = .ok (.aload_n 0, 1) := by decide +kernel
theorem d_M_decode_91 : decode b_M_decode 91 = .ok (.aload_n 0, 1) := by decide +kernel
theorem d_M_decode_92 : decode b_M_decode 92 = .ok (.getfield 33, 3) := by decide +kernel
theorem d_M_decode_95 : decode b_M_decode 95 = .ok (.iload_n 2, 1) := by decide +kernel
theorem d_M_decode_96 : decode b_M_decode 96 = .ok (.iaload, 1) := by decide +kernel
theorem d_M_decode_97 : decode b_M_decode 97 = .ok (.bipush 16, 2) := by decide +kernel
theorem d_M_decode_99 : decode b_M_decode 99 = .ok (.if_icmp .ne 7, 3) := by decide +kernel
theorem d_M_decode_102 : decode b_M_decode 102 = .ok (.iconst 0, 1) := by decide +kernel
theorem d_M_decode_103 : decode b_M_decode 103 = .ok (.goto 18, 3) := by decide +kernel
theorem d_M_decode_106 : decode b_M_decode 106 = .ok (.aload_n 0, 1) := by decide +kernel
theorem d_M_decode_107 : decode b_M_decode 107 = .ok (.getfield 33, 3) := by decide +kernel
theorem d_M_decode_110 : decode b_M_decode 110 = .ok (.iload_n 2, 1) := by decide +kernel
theorem d_M_decode_111 : decode b_M_decode 111 = .ok (.iaload, 1) := by decide +kernel
theorem d_M_decode_112 : decode b_M_decode 112 = .ok (.iconst 1, 1) := by decide +kernel
theorem d_M_decode_113 : decode b_M_decode 113 = .ok (.if_icmp .ne 7, 3) := by decide +kernel
theorem d_M_decode_116 : decode b_M_decode 116 = .ok (.iconst 1, 1) := by decide +kernel
theorem d_M_decode_117 : decode b_M_decode 117 = .ok (.goto 4, 3) := by decide +kernel
theorem d_M_decode_120 : decode b_M_decode 120 = .ok (.iconst 2, 1) := by decide +kernel
theorem d_M_decode_121 : decode b_M_decode 121 = .ok (.aload_n 0, 1) := by decide +kernel
theorem d_M_decode_122 : decode b_M_decode 122 = .ok (.getfield 33, 3) := by decide +kernel
theorem d_M_decode_125 : decode b_M_decode 125 = .ok (.iload_n 2, 1) := by decide +kernel
theorem d_M_decode_126 : decode b_M_decode 126 = .ok (.iaload, 1) := by decide +kernel
theorem d_M_decode_127 : decode b_M_decode 127 = .ok (.iconst 1, 1) := by decide +kernel
theorem d_M_decode_128 : decode b_M_decode 128 = .ok (.if_icmp .ne 13, 3) := by decide +kernel
theorem d_M_decode_131 : decode b_M_decode 131 = .ok (.aload_n 0, 1) := by decide +kernel
theorem d_M_decode_132 : decode b_M_decode 132 = .ok (.iload_n 2, 1) := by decide +kernel
theorem d_M_decode_133 : decode b_M_decode 133 = .ok (.bipush 14, 2) := by decide +kernel
theorem d_M_decode_135 : decode b_M_decode 135 = .ok (.invokevirtual 200, 3) := by decide +kernel
theorem d_M_decode_138 : decode b_M_decode 138 = .ok (.goto 4, 3) := by decide +kernel
theorem d_M_decode_141 : decode b_M_decode 141 = .ok (.iconst 0, 1) := by decide +kernel
theorem d_M_decode_142 : decode b_M_decode 142 = .ok (.invokevirtual 236, 3) := by decide +kernel
theorem d_M_decode_145 : decode b_M_decode 145 = .ok (.iastore, 1) := by decide +kernel
theorem d_M_decode_146 : decode b_M_decode 146 = .ok (.iconst 0, 1) := by decide +kernel
theorem d_M_decode_147 : decode b_M_decode 147 = .ok (.istore_n 3, 1) := by decide +kernel
theorem d_M_decode_148 : decode b_M_decode 148 = .ok (.aload_n 0, 1) := by decide +kernel
theorem d_M_decode_149 : decode b_M_decode 149 = .ok (.getfield 33, 3) := by decide +kernel
theorem d_M_decode_152 : decode b_M_decode 152 = .ok (.iload_n 2, 1) := by decide +kernel
theorem d_M_decode_153 : decode b_M_decode 153 = .ok (.iaload, 1) := by decide +kernel
theorem d_M_decode_154 : decode b_M_decode 154 = .ok (.bipush 20, 2) := by decide +kernel
theorem d_M_decode_156 : decode b_M_decode 156 = .ok (.if_icmp .ne 41, 3) := by decide +kernel
theorem d_M_decode_159 : decode b_M_decode 159 = .ok (.iload_n 3, 1) := by decide +kernel
theorem d_M_decode_160 : decode b_M_decode 160 = .ok (.aload_n 0, 1) := by decide +kernel
theorem d_M_decode_161 : decode b_M_decode 161 = .ok (.getfield 45, 3) := by decide +kernel
theorem d_M_decode_164 : decode b_M_decode 164 = .ok (.iload_n 2, 1) := by decide +kernel
theorem d_M_decode_165 : decode b_M_decode 165 = .ok (.iaload, 1) := by decide +kernel
theorem d_M_decode_166 : decode b_M_decode 166 = .ok (.if_icmp .ge 31, 3) := by decide +kernel
theorem d_M_decode_169 : decode b_M_decode 169 = .ok (.aload_n 0, 1) := by decide +kernel
theorem d_M_decode_170 : decode b_M_decode 170 = .ok (.aload_n 0, 1) := by decide +kernel
theorem d_M_decode_171 : decode b_M_decode 171 = .ok (.getfield 54, 3) := by decide +kernel
theorem d_M_decode_174 : decode b_M_decode 174 = .ok (.iload_n 2, 1) := by decide +kernel
theorem d_M_decode_175 : decode b_M_decode 175 = .ok (.iaload, 1) := by decide +kernel
theorem d_M_decode_176 : decode b_M_decode 176 = .ok (.aload_n 0, 1) := by decide +kernel
theorem d_M_decode_177 : decode b_M_decode 177 = .ok (.getfield 48, 3) := by decide +kernel
theorem d_M_decode_180 : decode b_M_decode 180 = .ok (.bipush 12, 2) := by decide +kernel
theorem d_M_decode_182 : decode b_M_decode 182 = .ok (.iload_n 2, 1) := by decide +kernel
theorem d_M_decode_183 : decode b_M_decode 183 = .ok (.imul, 1) := by decide +kernel
theorem d_M_decode_184 : decode b_M_decode 184 = .ok (.iload_n 3, 1) := by decide +kernel
theorem d_M_decode_185 : decode b_M_decode 185 = .ok (.iadd, 1) := by decide +kernel
theorem d_M_decode_186 : decode b_M_decode 186 = .ok (.caload, 1) := by decide +kernel
theorem d_M_decode_187 : decode b_M_decode 187 = .ok (.invokevirtual 239, 3) := by decide +kernel
theorem d_M_decode_190 : decode b_M_decode 190 = .ok (.pop, 1) := by decide +kernel
theorem d_M_decode_191 : decode b_M_decode 191 = .ok (.iinc 3 1, 3) := by decide +kernel
theorem d_M_decode_194 : decode b_M_decode 194 = .ok (.goto (-46), 3) := by decide +kernel
theorem d_M_decode_197 : decode b_M_decode 197 = .ok (.iinc 2 1, 3) := by decide +kernel
theorem d_M_decode_200 : decode b_M_decode 200 = .ok (.goto (-134), 3) := by decide +kernel
theorem d_M_decode_203 : decode b_M_decode 203 = .ok (.iload_n 1, 1) := by decide +kernel
theorem d_M_decode_204 : decode b_M_decode 204 = .ok (.iconst 1, 1) := by decide +kernel
theorem d_M_decode_205 : decode b_M_decode 205 = .ok (.iadd, 1) := by decide +kernel
theorem d_M_decode_206 : decode b_M_decode 206 = .ok (.istore_n 2, 1) := by decide +kernel
theorem d_M_decode_207 : decode b_M_decode 207 = .ok (.iload_n 2, 1) := by decide +kernel
theorem d_M_decode_208 : decode b_M_decode 208 = .ok (.aload_n 0, 1) := by decide +kernel
theorem d_M_decode_209 : decode b_M_decode 209 = .ok (.getfield 163, 3) := by decide +kernel
theorem d_M_decode_212 : decode b_M_decode 212 = .ok (.if_icmp .ge 100, 3) := by decide +kernel
theorem d_M_decode_215 : decode b_M_decode 215 = .ok (.aload_n 0, 1) := by decide +kernel
theorem d_M_decode_216 : decode b_M_decode 216 = .ok (.getfield 36, 3) := by decide +kernel
theorem d_M_decode_219 : decode b_M_decode 219 = .ok (.iload_n 2, 1) := by decide +kernel
theorem d_M_decode_220 : decode b_M_decode 220 = .ok (.iaload, 1) := by decide +kernel
theorem d_M_decode_221 : decode b_M_decode 221 = .ok (.iload_n 1, 1) := by decide +kernel
theorem d_M_decode_222 : decode b_M_decode 222 = .ok (.if_icmp .eq 84, 3) := by decide +kernel
theorem d_M_decode_225 : decode b_M_decode 225 = .ok (.aload_n 0, 1) := by decide +kernel
theorem d_M_decode_226 : decode b_M_decode 226 = .ok (.getfield 33, 3) := by decide +kernel
theorem d_M_decode_229 : decode b_M_decode 229 = .ok (.iload_n 2, 1) := by decide +kernel
theorem d_M_decode_230 : decode b_M_decode 230 = .ok (.iaload, 1) := by decide +kernel
theorem d_M_decode_231 : decode b_M_decode 231 = .ok (.bipush 14, 2) := by decide +kernel
theorem d_M_decode_233 : decode b_M_decode 233 = .ok (.if_icmp .ne 6, 3) := by decide +kernel
theorem d_M_decode_236 : decode b_M_decode 236 = .ok (.goto 70, 3) := by decide +kernel
theorem d_M_decode_239 : decode b_M_decode 239 = .ok (.aload_n 0, 1) := by decide +kernel
theorem d_M_decode_240 : decode b_M_decode 240 = .ok (.getfield 54, 3) := by decide +kernel
theorem d_M_decode_243 : decode b_M_decode 243 = .ok (.aload_n 0, 1) := by decide +kernel
theorem d_M_decode_244 : decode b_M_decode 244 = .ok (.getfield 36, 3) := by decide +kernel
theorem d_M_decode_247 : decode b_M_decode 247 = .ok (.iload_n 2, 1) := by decide +kernel
theorem d_M_decode_248 : decode b_M_decode 248 = .ok (.iaload, 1) := by decide +kernel
theorem d_M_decode_249 : decode b_M_decode 249 = .ok (.iaload, 1) := by decide +kernel
theorem d_M_decode_250 : decode b_M_decode 250 = .ok (.istore_n 3, 1) := by decide +kernel
theorem d_M_decode_251 : decode b_M_decode 251 = .ok (.aload_n 0, 1) := by decide +kernel
theorem d_M_decode_252 : decode b_M_decode 252 = .ok (.getfield 33, 3) := by decide +kernel
theorem d_M_decode_255 : decode b_M_decode 255 = .ok (.iload_n 2, 1) := by decide +kernel
theorem d_M_decode_256 : decode b_M_decode 256 = .ok (.iaload, 1) := by decide +kernel
theorem d_M_decode_257 : decode b_M_decode 257 = .ok (.bipush 9, 2) := by decide +kernel
theorem d_M_decode_259 : decode b_M_decode 259 = .ok (.if_icmp .ne 24, 3) := by decide +kernel
theorem d_M_decode_262 : decode b_M_decode 262 = .ok (.aload_n 0, 1) := by decide +kernel
theorem d_M_decode_263 : decode b_M_decode 263 = .ok (.iload_n 3, 1) := by decide +kernel
theorem d_M_decode_264 : decode b_M_decode 264 = .ok (.aload_n 0, 1) := by decide +kernel
theorem d_M_decode_265 : decode b_M_decode 265 = .ok (.getfield 51, 3) := by decide +kernel
theorem d_M_decode_268 : decode b_M_decode 268 = .ok (.iload_n 2, 1) := by decide +kernel
theorem d_M_decode_269 : decode b_M_decode 269 = .ok (.iaload, 1) := by decide +kernel
theorem d_M_decode_270 : decode b_M_decode 270 = .ok (.aload_n 0, 1) := by decide +kernel
theorem d_M_decode_271 : decode b_M_decode 271 = .ok (.iload_n 2, 1) := by decide +kernel
theorem d_M_decode_272 : decode b_M_decode 272 = .ok (.invokevirtual 209, 3) := by decide +kernel
theorem d_M_decode_275 : decode b_M_decode 275 = .ok (.l2i, 1) := by decide +kernel
theorem d_M_decode_276 : decode b_M_decode 276 = .ok (.invokevirtual 243, 3) := by decide +kernel
theorem d_M_decode_279 : decode b_M_decode 279 = .ok (.pop, 1) := by decide +kernel
theorem d_M_decode_280 : decode b_M_decode 280 = .ok (.goto 26, 3) := by decide +kernel
theorem d_M_decode_283 : decode b_M_decode 283 = .ok (.aload_n 0, 1) := by decide +kernel
theorem d_M_decode_284 : decode b_M_decode 284 = .ok (.iload_n 3, 1) := by decide +kernel
theorem d_M_decode_285 : decode b_M_decode 285 = .ok (.aload_n 0, 1) := by decide +kernel
theorem d_M_decode_286 : decode b_M_decode 286 = .ok (.getfield 51, 3) := by decide +kernel
theorem d_M_decode_289 : decode b_M_decode 289 = .ok (.iload_n 2, 1) := by decide +kernel
theorem d_M_decode_290 : decode b_M_decode 290 = .ok (.iaload, 1) := by decide +kernel
theorem d_M_decode_291 : decode b_M_decode 291 = .ok (.aload_n 0, 1) := by decide +kernel
theorem d_M_decode_292 : decode b_M_decode 292 = .ok (.getfield 54, 3) := by decide +kernel
theorem d_M_decode_295 : decode b_M_decode 295 = .ok (.aload_n 0, 1) := by decide +kernel
theorem d_M_decode_296 : decode b_M_decode 296 = .ok (.iload_n 2, 1) := by decide +kernel
theorem d_M_decode_297 : decode b_M_decode 297 = .ok (.iload_n 1, 1) := by decide +kernel
theorem d_M_decode_298 : decode b_M_decode 298 = .ok (.invokevirtual 247, 3) := by decide +kernel
theorem d_M_decode_301 : decode b_M_decode 301 = .ok (.iaload, 1) := by decide +kernel
theorem d_M_decode_302 : decode b_M_decode 302 = .ok (.invokevirtual 250, 3) := by decide +kernel
theorem d_M_decode_305 : decode b_M_decode 305 = .ok (.pop, 1) := by decide +kernel
theorem d_M_decode_306 : decode b_M_decode 306 = .ok (.iinc 2 1, 3) := by decide +kernel
theorem d_M_decode_309 : decode b_M_decode 309 = .ok (.goto (-102), 3) := by decide +kernel
theorem d_M_decode_312 : decode b_M_decode 312 = .ok (.aload_n 0, 1) := by decide +kernel
theorem d_M_decode_313 : decode b_M_decode 313 = .ok (.getfield 54, 3) := by decide +kernel
theorem d_M_decode_316 : decode b_M_decode 316 = .ok (.aload_n 0, 1) := by decide +kernel
theorem d_M_decode_317 : decode b_M_decode 317 = .ok (.iload_n 1, 1) := by decide +kernel
theorem d_M_decode_318 : decode b_M_decode 318 = .ok (.iconst 1, 1) := by decide +kernel
theorem d_M_decode_319 : decode b_M_decode 319 = .ok (.iadd, 1) := by decide +kernel
theorem d_M_decode_320 : decode b_M_decode 320 = .ok (.iload_n 1, 1) := by decide +kernel
theorem d_M_decode_321 : decode b_M_decode 321 = .ok (.invokevirtual 247, 3) := by decide +kernel
theorem d_M_decode_324 : decode b_M_decode 324 = .ok (.iaload, 1) := by decide +kernel
theorem d_M_decode_325 : decode b_M_decode 325 = .ok (.ireturn, 1) := by decide +kernel
theorem d_M_target_0 : decode b_M_target 0 = .ok (.aload_n 0, 1) := by decide +kernel
theorem d_M_target_1 : decode b_M_target 1 = .ok (.iload_n 1, 1) := by decide +kernel
theorem d_M_target_2 : decode b_M_target 2 = .ok (.invokevirtual 203, 3) := by decide +kernel
theorem d_M_target_5 : decode b_M_target 5 = .ok (.ifCond .eq 7, 3) := by decide +kernel
theorem d_M_target_8 : decode b_M_target 8 = .ok (.iload_n 1, 1) := by decide +kernel
theorem d_M_target_9 : decode b_M_target 9 = .ok (.goto 16, 3) := by decide +kernel
theorem d_M_target_12 : decode b_M_target 12 = .ok (.aload_n 0, 1) := by decide +kernel
theorem d_M_target_13 : decode b_M_target 13 = .ok (.iload_n 2, 1) := by decide +kernel
theorem d_M_target_14 : decode b_M_target 14 = .ok (.aload_n 0, 1) := by decide +kernel
theorem d_M_target_15 : decode b_M_target 15 = .ok (.iload_n 1, 1) := by decide +kernel
theorem d_M_target_16 : decode b_M_target 16 = .ok (.bipush 8, 2) := by decide +kernel
theorem d_M_target_18 : decode b_M_target 18 = .ok (.invokevirtual 200, 3) := by decide +kernel
theorem d_M_target_21 : decode b_M_target 21 = .ok (.iconst (-1), 1) := by decide +kernel
theorem d_M_target_22 : decode b_M_target 22 = .ok (.invokevirtual 219, 3) := by decide +kernel
theorem d_M_target_25 : decode b_M_target 25 = .ok (.ireturn, 1) := by decide +kernel
theorem d_L_law_0 : decode b_L_law 0 = .ok (.new 7, 3) := by decide +kernel
theorem d_L_law_3 : decode b_L_law 3 = .ok (.dup, 1) := by decide +kernel
theorem d_L_law_4 : decode b_L_law 4 = .ok (.invokespecial 9, 3) := by decide +kernel
theorem d_L_law_7 : decode b_L_law 7 = .ok (.astore_n 1, 1) := by decide +kernel
theorem d_L_law_8 : decode b_L_law 8 = .ok (.new 10, 3) := by decide +kernel
theorem d_L_law_11 : decode b_L_law 11 = .ok (.dup, 1) := by decide +kernel
theorem d_L_law_12 : decode b_L_law 12 = .ok (.invokespecial 12, 3) := by decide +kernel
theorem d_L_law_15 : decode b_L_law 15 = .ok (.astore_n 2, 1) := by decide +kernel
theorem d_L_law_16 : decode b_L_law 16 = .ok (.iconst 0, 1) := by decide +kernel
theorem d_L_law_17 : decode b_L_law 17 = .ok (.istore_n 3, 1) := by decide +kernel
theorem d_L_law_18 : decode b_L_law 18 = .ok (.iload_n 3, 1) := by decide +kernel
theorem d_L_law_19 : decode b_L_law 19 = .ok (.aload_n 0, 1) := by decide +kernel
theorem d_L_law_20 : decode b_L_law 20 = .ok (.arraylength, 1) := by decide +kernel
theorem d_L_law_21 : decode b_L_law 21 = .ok (.iconst 4, 1) := by decide +kernel
theorem d_L_law_22 : decode b_L_law 22 = .ok (.isub, 1) := by decide +kernel
theorem d_L_law_23 : decode b_L_law 23 = .ok (.if_icmp .gt 661, 3) := by decide +kernel
theorem d_L_law_26 : decode b_L_law 26 = .ok (.aload_n 0, 1) := by decide +kernel
theorem d_L_law_27 : decode b_L_law 27 = .ok (.iload_n 3, 1) := by decide +kernel
theorem d_L_law_28 : decode b_L_law 28 = .ok (.iaload, 1) := by decide +kernel
theorem d_L_law_29 : decode b_L_law 29 = .ok (.bipush 31, 2) := by decide +kernel
theorem d_L_law_31 : decode b_L_law 31 = .ok (.iand, 1) := by decide +kernel
theorem d_L_law_32 : decode b_L_law 32 = .ok (.tableswitch 646 0 19 #[96, 129, 164, 207, 250, 263, 286, 309, 342, 375, 408, 431, 454, 467, 478, 527, 540, 563, 588, 623], 96) := by decide +kernel
theorem d_L_law_128 : decode b_L_law 128 = .ok (.aload_n 1, 1) := by decide +kernel
theorem d_L_law_129 : decode b_L_law 129 = .ok (.aload_n 0, 1) := by decide +kernel
theorem d_L_law_130 : decode b_L_law 130 = .ok (.iload_n 3, 1) := by decide +kernel
theorem d_L_law_131 : decode b_L_law 131 = .ok (.iconst 1, 1) := by decide +kernel
theorem d_L_law_132 : decode b_L_law 132 = .ok (.iadd, 1) := by decide +kernel
theorem d_L_law_133 : decode b_L_law 133 = .ok (.iaload, 1) := by decide +kernel
theorem d_L_law_134 : decode b_L_law 134 = .ok (.aload_n 0, 1) := by decide +kernel
theorem d_L_law_135 : decode b_L_law 135 = .ok (.iload_n 3, 1) := by decide +kernel
theorem d_L_law_136 : decode b_L_law 136 = .ok (.iconst 2, 1) := by decide +kernel
theorem d_L_law_137 : decode b_L_law 137 = .ok (.iadd, 1) := by decide +kernel
theorem d_L_law_138 : decode b_L_law 138 = .ok (.iaload, 1) := by decide +kernel
theorem d_L_law_139 : decode b_L_law 139 = .ok (.invokevirtual 13, 3) := by decide +kernel
theorem d_L_law_142 : decode b_L_law 142 = .ok (.aload_n 2, 1) := by decide +kernel
theorem d_L_law_143 : decode b_L_law 143 = .ok (.aload_n 0, 1) := by decide +kernel
theorem d_L_law_144 : decode b_L_law 144 = .ok (.iload_n 3, 1) := by decide +kernel
theorem d_L_law_145 : decode b_L_law 145 = .ok (.iconst 1, 1) := by decide +kernel
theorem d_L_law_146 : decode b_L_law 146 = .ok (.iadd, 1) := by decide +kernel
theorem d_L_law_147 : decode b_L_law 147 = .ok (.iaload, 1) := by decide +kernel
theorem d_L_law_148 : decode b_L_law 148 = .ok (.aload_n 0, 1) := by decide +kernel
theorem d_L_law_149 : decode b_L_law 149 = .ok (.iload_n 3, 1) := by decide +kernel
theorem d_L_law_150 : decode b_L_law 150 = .ok (.iconst 2, 1) := by decide +kernel
theorem d_L_law_151 : decode b_L_law 151 = .ok (.iadd, 1) := by decide +kernel
theorem d_L_law_152 : decode b_L_law 152 = .ok (.iaload, 1) := by decide +kernel
theorem d_L_law_153 : decode b_L_law 153 = .ok (.invokevirtual 17, 3) := by decide +kernel
theorem d_L_law_156 : decode b_L_law 156 = .ok (.if_icmp .eq 522, 3) := by decide +kernel
theorem d_L_law_159 : decode b_L_law 159 = .ok (.iconst 0, 1) := by decide +kernel
theorem d_L_law_160 : decode b_L_law 160 = .ok (.ireturn, 1) := by decide +kernel
theorem d_L_law_161 : decode b_L_law 161 = .ok (.aload_n 1, 1) := by decide +kernel
theorem d_L_law_162 : decode b_L_law 162 = .ok (.aload_n 0, 1) := by decide +kernel
theorem d_L_law_163 : decode b_L_law 163 = .ok (.iload_n 3, 1) := by decide +kernel
theorem d_L_law_164 : decode b_L_law 164 = .ok (.iconst 1, 1) := by decide +kernel
theorem d_L_law_165 : decode b_L_law 165 = .ok (.iadd, 1) := by decide +kernel
theorem d_L_law_166 : decode b_L_law 166 = .ok (.iaload, 1) := by decide +kernel
theorem d_L_law_167 : decode b_L_law 167 = .ok (.aload_n 0, 1) := by decide +kernel
theorem d_L_law_168 : decode b_L_law 168 = .ok (.iload_n 3, 1) := by decide +kernel
theorem d_L_law_169 : decode b_L_law 169 = .ok (.iconst 2, 1) := by decide +kernel
theorem d_L_law_170 : decode b_L_law 170 = .ok (.iadd, 1) := by decide +kernel
theorem d_L_law_171 : decode b_L_law 171 = .ok (.iaload, 1) := by decide +kernel
theorem d_L_law_172 : decode b_L_law 172 = .ok (.i2c, 1) := by decide +kernel
theorem d_L_law_173 : decode b_L_law 173 = .ok (.invokevirtual 18, 3) := by decide +kernel
theorem d_L_law_176 : decode b_L_law 176 = .ok (.aload_n 2, 1) := by decide +kernel
theorem d_L_law_177 : decode b_L_law 177 = .ok (.aload_n 0, 1) := by decide +kernel
theorem d_L_law_178 : decode b_L_law 178 = .ok (.iload_n 3, 1) := by decide +kernel
theorem d_L_law_179 : decode b_L_law 179 = .ok (.iconst 1, 1) := by decide +kernel
theorem d_L_law_180 : decode b_L_law 180 = .ok (.iadd, 1) := by decide +kernel
theorem d_L_law_181 : decode b_L_law 181 = .ok (.iaload, 1) := by decide +kernel
theorem d_L_law_182 : decode b_L_law 182 = .ok (.aload_n 0, 1) := by decide +kernel
theorem d_L_law_183 : decode b_L_law 183 = .ok (.iload_n 3, 1) := by decide +kernel
theorem d_L_law_184 : decode b_L_law 184 = .ok (.iconst 2, 1) := by decide +kernel
theorem d_L_law_185 : decode b_L_law 185 = .ok (.iadd, 1) := by decide +kernel
theorem d_L_law_186 : decode b_L_law 186 = .ok (.iaload, 1) := by decide +kernel
theorem d_L_law_187 : decode b_L_law 187 = .ok (.i2c, 1) := by decide +kernel
theorem d_L_law_188 : decode b_L_law 188 = .ok (.invokevirtual 22, 3) := by decide +kernel
theorem d_L_law_191 : decode b_L_law 191 = .ok (.if_icmp .eq 487, 3) := by decide +kernel
theorem d_L_law_194 : decode b_L_law 194 = .ok (.iconst 0, 1) := by decide +kernel
theorem d_L_law_195 : decode b_L_law 195 = .ok (.ireturn, 1) := by decide +kernel
theorem d_L_law_196 : decode b_L_law 196 = .ok (.aload_n 1, 1) := by decide +kernel
theorem d_L_law_197 : decode b_L_law 197 = .ok (.aload_n 0, 1) := by decide +kernel
theorem d_L_law_198 : decode b_L_law 198 = .ok (.iload_n 3, 1) := by decide +kernel
theorem d_L_law_199 : decode b_L_law 199 = .ok (.iconst 1, 1) := by decide +kernel
theorem d_L_law_200 : decode b_L_law 200 = .ok (.iadd, 1) := by decide +kernel
theorem d_L_law_201 : decode b_L_law 201 = .ok (.iaload, 1) := by decide +kernel
theorem d_L_law_202 : decode b_L_law 202 = .ok (.aload_n 0, 1) := by decide +kernel
theorem d_L_law_203 : decode b_L_law 203 = .ok (.iload_n 3, 1) := by decide +kernel
theorem d_L_law_204 : decode b_L_law 204 = .ok (.iconst 2, 1) := by decide +kernel
theorem d_L_law_205 : decode b_L_law 205 = .ok (.iadd, 1) := by decide +kernel
theorem d_L_law_206 : decode b_L_law 206 = .ok (.iaload, 1) := by decide +kernel
theorem d_L_law_207 : decode b_L_law 207 = .ok (.aload_n 0, 1) := by decide +kernel
theorem d_L_law_208 : decode b_L_law 208 = .ok (.iload_n 3, 1) := by decide +kernel
theorem d_L_law_209 : decode b_L_law 209 = .ok (.iconst 3, 1) := by decide +kernel
theorem d_L_law_210 : decode b_L_law 210 = .ok (.iadd, 1) := by decide +kernel
theorem d_L_law_211 : decode b_L_law 211 = .ok (.iaload, 1) := by decide +kernel
theorem d_L_law_212 : decode b_L_law 212 = .ok (.invokevirtual 23, 3) := by decide +kernel
theorem d_L_law_215 : decode b_L_law 215 = .ok (.aload_n 2, 1) := by decide +kernel
theorem d_L_law_216 : decode b_L_law 216 = .ok (.aload_n 0, 1) := by decide +kernel
theorem d_L_law_217 : decode b_L_law 217 = .ok (.iload_n 3, 1) := by decide +kernel
theorem d_L_law_218 : decode b_L_law 218 = .ok (.iconst 1, 1) := by decide +kernel
theorem d_L_law_219 : decode b_L_law 219 = .ok (.iadd, 1) := by decide +kernel
theorem d_L_law_220 : decode b_L_law 220 = .ok (.iaload, 1) := by decide +kernel
theorem d_L_law_221 : decode b_L_law 221 = .ok (.aload_n 0, 1) := by decide +kernel
theorem d_L_law_222 : decode b_L_law 222 = .ok (.iload_n 3, 1) := by decide +kernel
theorem d_L_law_223 : decode b_L_law 223 = .ok (.iconst 2, 1) := by decide +kernel
theorem d_L_law_224 : decode b_L_law 224 = .ok (.iadd, 1) := by decide +kernel
theorem d_L_law_225 : decode b_L_law 225 = .ok (.iaload, 1) := by decide +kernel
theorem d_L_law_226 : decode b_L_law 226 = .ok (.aload_n 0, 1) := by decide +kernel
theorem d_L_law_227 : decode b_L_law 227 = .ok (.iload_n 3, 1) := by decide +kernel
theorem d_L_law_228 : decode b_L_law 228 = .ok (.iconst 3, 1) := by decide +kernel
theorem d_L_law_229 : decode b_L_law 229 = .ok (.iadd, 1) := by decide +kernel
theorem d_L_law_230 : decode b_L_law 230 = .ok (.iaload, 1) := by decide +kernel
theorem d_L_law_231 : decode b_L_law 231 = .ok (.invokevirtual 27, 3) := by decide +kernel
theorem d_L_law_234 : decode b_L_law 234 = .ok (.if_icmp .eq 444, 3) := by decide +kernel
theorem d_L_law_237 : decode b_L_law 237 = .ok (.iconst 0, 1) := by decide +kernel
theorem d_L_law_238 : decode b_L_law 238 = .ok (.ireturn, 1) := by decide +kernel
theorem d_L_law_239 : decode b_L_law 239 = .ok (.aload_n 1, 1) := by decide +kernel
theorem d_L_law_240 : decode b_L_law 240 = .ok (.aload_n 0, 1) := by decide +kernel
theorem d_L_law_241 : decode b_L_law 241 = .ok (.iload_n 3, 1) := by decide +kernel
theorem d_L_law_242 : decode b_L_law 242 = .ok (.iconst 1, 1) := by decide +kernel
theorem d_L_law_243 : decode b_L_law 243 = .ok (.iadd, 1) := by decide +kernel
theorem d_L_law_244 : decode b_L_law 244 = .ok (.iaload, 1) := by decide +kernel
theorem d_L_law_245 : decode b_L_law 245 = .ok (.aload_n 0, 1) := by decide +kernel
theorem d_L_law_246 : decode b_L_law 246 = .ok (.iload_n 3, 1) := by decide +kernel
theorem d_L_law_247 : decode b_L_law 247 = .ok (.iconst 2, 1) := by decide +kernel
theorem d_L_law_248 : decode b_L_law 248 = .ok (.iadd, 1) := by decide +kernel
theorem d_L_law_249 : decode b_L_law 249 = .ok (.iaload, 1) := by decide +kernel
theorem d_L_law_250 : decode b_L_law 250 = .ok (.aload_n 0, 1) := by decide +kernel
theorem d_L_law_251 : decode b_L_law 251 = .ok (.iload_n 3, 1) := by decide +kernel
theorem d_L_law_252 : decode b_L_law 252 = .ok (.iconst 3, 1) := by decide +kernel
theorem d_L_law_253 : decode b_L_law 253 = .ok (.iadd, 1) := by decide +kernel
theorem d_L_law_254 : decode b_L_law 254 = .ok (.iaload, 1) := by decide +kernel
theorem d_L_law_255 : decode b_L_law 255 = .ok (.invokevirtual 28, 3) := by decide +kernel
theorem d_L_law_258 : decode b_L_law 258 = .ok (.aload_n 2, 1) := by decide +kernel
theorem d_L_law_259 : decode b_L_law 259 = .ok (.aload_n 0, 1) := by decide +kernel
theorem d_L_law_260 : decode b_L_law 260 = .ok (.iload_n 3, 1) := by decide +kernel
theorem d_L_law_261 : decode b_L_law 261 = .ok (.iconst 1, 1) := by decide +kernel
theorem d_L_law_262 : decode b_L_law 262 = .ok (.iadd, 1) := by decide +kernel
theorem d_L_law_263 : decode b_L_law 263 = .ok (.iaload, 1) := by decide +kernel
theorem d_L_law_264 : decode b_L_law 264 = .ok (.aload_n 0, 1) := by decide +kernel
theorem d_L_law_265 : decode b_L_law 265 = .ok (.iload_n 3, 1) := by decide +kernel
theorem d_L_law_266 : decode b_L_law 266 = .ok (.iconst 2, 1) := by decide +kernel
theorem d_L_law_267 : decode b_L_law 267 = .ok (.iadd, 1) := by decide +kernel
theorem d_L_law_268 : decode b_L_law 268 = .ok (.iaload, 1) := by decide +kernel
theorem d_L_law_269 : decode b_L_law 269 = .ok (.aload_n 0, 1) := by decide +kernel
theorem d_L_law_270 : decode b_L_law 270 = .ok (.iload_n 3, 1) := by decide +kernel
theorem d_L_law_271 : decode b_L_law 271 = .ok (.iconst 3, 1) := by decide +kernel
theorem d_L_law_272 : decode b_L_law 272 = .ok (.iadd, 1) := by decide +kernel
theorem d_L_law_273 : decode b_L_law 273 = .ok (.iaload, 1) := by decide +kernel
theorem d_L_law_274 : decode b_L_law 274 = .ok (.invokevirtual 31, 3) := by decide +kernel
theorem d_L_law_277 : decode b_L_law 277 = .ok (.if_icmp .eq 401, 3) := by decide +kernel
theorem d_L_law_280 : decode b_L_law 280 = .ok (.iconst 0, 1) := by decide +kernel
theorem d_L_law_281 : decode b_L_law 281 = .ok (.ireturn, 1) := by decide +kernel
theorem d_L_law_282 : decode b_L_law 282 = .ok (.aload_n 1, 1) := by decide +kernel
theorem d_L_law_283 : decode b_L_law 283 = .ok (.invokevirtual 32, 3) := by decide +kernel
theorem d_L_law_286 : decode b_L_law 286 = .ok (.aload_n 2, 1) := by decide +kernel
theorem d_L_law_287 : decode b_L_law 287 = .ok (.invokevirtual 36, 3) := by decide +kernel
theorem d_L_law_290 : decode b_L_law 290 = .ok (.if_icmp .eq 388, 3) := by decide +kernel
theorem d_L_law_293 : decode b_L_law 293 = .ok (.iconst 0, 1) := by decide +kernel
theorem d_L_law_294 : decode b_L_law 294 = .ok (.ireturn, 1) := by decide +kernel
theorem d_L_law_295 : decode b_L_law 295 = .ok (.aload_n 1, 1) := by decide +kernel
theorem d_L_law_296 : decode b_L_law 296 = .ok (.aload_n 0, 1) := by decide +kernel
theorem d_L_law_297 : decode b_L_law 297 = .ok (.iload_n 3, 1) := by decide +kernel
theorem d_L_law_298 : decode b_L_law 298 = .ok (.iconst 1, 1) := by decide +kernel
theorem d_L_law_299 : decode b_L_law 299 = .ok (.iadd, 1) := by decide +kernel
theorem d_L_law_300 : decode b_L_law 300 = .ok (.iaload, 1) := by decide +kernel
theorem d_L_law_301 : decode b_L_law 301 = .ok (.invokevirtual 37, 3) := by decide +kernel
theorem d_L_law_304 : decode b_L_law 304 = .ok (.aload_n 2, 1) := by decide +kernel
theorem d_L_law_305 : decode b_L_law 305 = .ok (.aload_n 0, 1) := by decide +kernel
theorem d_L_law_306 : decode b_L_law 306 = .ok (.iload_n 3, 1) := by decide +kernel
theorem d_L_law_307 : decode b_L_law 307 = .ok (.iconst 1, 1) := by decide +kernel
theorem d_L_law_308 : decode b_L_law 308 = .ok (.iadd, 1) := by decide +kernel
theorem d_L_law_309 : decode b_L_law 309 = .ok (.iaload, 1) := by decide +kernel
theorem d_L_law_310 : decode b_L_law 310 = .ok (.invokevirtual 41, 3) := by decide +kernel
theorem d_L_law_313 : decode b_L_law 313 = .ok (.if_icmp .eq 365, 3) := by decide +kernel
theorem d_L_law_316 : decode b_L_law 316 = .ok (.iconst 0, 1) := by decide +kernel
theorem d_L_law_317 : decode b_L_law 317 = .ok (.ireturn, 1) := by decide +kernel
theorem d_L_law_318 : decode b_L_law 318 = .ok (.aload_n 1, 1) := by decide +kernel
theorem d_L_law_319 : decode b_L_law 319 = .ok (.aload_n 0, 1) := by decide +kernel
theorem d_L_law_320 : decode b_L_law 320 = .ok (.iload_n 3, 1) := by decide +kernel
theorem d_L_law_321 : decode b_L_law 321 = .ok (.iconst 1, 1) := by decide +kernel
theorem d_L_law_322 : decode b_L_law 322 = .ok (.iadd, 1) := by decide +kernel
theorem d_L_law_323 : decode b_L_law 323 = .ok (.iaload, 1) := by decide +kernel
theorem d_L_law_324 : decode b_L_law 324 = .ok (.invokevirtual 42, 3) := by decide +kernel
theorem d_L_law_327 : decode b_L_law 327 = .ok (.aload_n 2, 1) := by decide +kernel
theorem d_L_law_328 : decode b_L_law 328 = .ok (.aload_n 0, 1) := by decide +kernel
theorem d_L_law_329 : decode b_L_law 329 = .ok (.iload_n 3, 1) := by decide +kernel
theorem d_L_law_330 : decode b_L_law 330 = .ok (.iconst 1, 1) := by decide +kernel
theorem d_L_law_331 : decode b_L_law 331 = .ok (.iadd, 1) := by decide +kernel
theorem d_L_law_332 : decode b_L_law 332 = .ok (.iaload, 1) := by decide +kernel
theorem d_L_law_333 : decode b_L_law 333 = .ok (.invokevirtual 45, 3) := by decide +kernel
theorem d_L_law_336 : decode b_L_law 336 = .ok (.if_icmp .eq 342, 3) := by decide +kernel
theorem d_L_law_339 : decode b_L_law 339 = .ok (.iconst 0, 1) := by decide +kernel
theorem d_L_law_340 : decode b_L_law 340 = .ok (.ireturn, 1) := by decide +kernel
theorem d_L_law_341 : decode b_L_law 341 = .ok (.aload_n 1, 1) := by decide +kernel
theorem d_L_law_342 : decode b_L_law 342 = .ok (.aload_n 0, 1) := by decide +kernel
theorem d_L_law_343 : decode b_L_law 343 = .ok (.iload_n 3, 1) := by decide +kernel
theorem d_L_law_344 : decode b_L_law 344 = .ok (.iconst 1, 1) := by decide +kernel
theorem d_L_law_345 : decode b_L_law 345 = .ok (.iadd, 1) := by decide +kernel
theorem d_L_law_346 : decode b_L_law 346 = .ok (.iaload, 1) := by decide +kernel
theorem d_L_law_347 : decode b_L_law 347 = .ok (.aload_n 0, 1) := by decide +kernel
theorem d_L_law_348 : decode b_L_law 348 = .ok (.iload_n 3, 1) := by decide +kernel
theorem d_L_law_349 : decode b_L_law 349 = .ok (.iconst 2, 1) := by decide +kernel
theorem d_L_law_350 : decode b_L_law 350 = .ok (.iadd, 1) := by decide +kernel
theorem d_L_law_351 : decode b_L_law 351 = .ok (.iaload, 1) := by decide +kernel
theorem d_L_law_352 : decode b_L_law 352 = .ok (.invokevirtual 46, 3) := by decide +kernel
theorem d_L_law_355 : decode b_L_law 355 = .ok (.aload_n 2, 1) := by decide +kernel
theorem d_L_law_356 : decode b_L_law 356 = .ok (.aload_n 0, 1) := by decide +kernel
theorem d_L_law_357 : decode b_L_law 357 = .ok (.iload_n 3, 1) := by decide +kernel
theorem d_L_law_358 : decode b_L_law 358 = .ok (.iconst 1, 1) := by decide +kernel
theorem d_L_law_359 : decode b_L_law 359 = .ok (.iadd, 1) := by decide +kernel
theorem d_L_law_360 : decode b_L_law 360 = .ok (.iaload, 1) := by decide +kernel
theorem d_L_law_361 : decode b_L_law 361 = .ok (.aload_n 0, 1) := by decide +kernel
theorem d_L_law_362 : decode b_L_law 362 = .ok (.iload_n 3, 1) := by decide +kernel
theorem d_L_law_363 : decode b_L_law 363 = .ok (.iconst 2, 1) := by decide +kernel
theorem d_L_law_364 : decode b_L_law 364 = .ok (.iadd, 1) := by decide +kernel
theorem d_L_law_365 : decode b_L_law 365 = .ok (.iaload, 1) := by decide +kernel
theorem d_L_law_366 : decode b_L_law 366 = .ok (.invokevirtual 49, 3) := by decide +kernel
theorem d_L_law_369 : decode b_L_law 369 = .ok (.if_icmp .eq 309, 3) := by decide +kernel
theorem d_L_law_372 : decode b_L_law 372 = .ok (.iconst 0, 1) := by decide +kernel
theorem d_L_law_373 : decode b_L_law 373 = .ok (.ireturn, 1) := by decide +kernel
theorem d_L_law_374 : decode b_L_law 374 = .ok (.aload_n 1, 1) := by decide +kernel
theorem d_L_law_375 : decode b_L_law 375 = .ok (.aload_n 0, 1) := by decide +kernel
theorem d_L_law_376 : decode b_L_law 376 = .ok (.iload_n 3, 1) := by decide +kernel
theorem d_L_law_377 : decode b_L_law 377 = .ok (.iconst 1, 1) := by decide +kernel
theorem d_L_law_378 : decode b_L_law 378 = .ok (.iadd, 1) := by decide +kernel
theorem d_L_law_379 : decode b_L_law 379 = .ok (.iaload, 1) := by decide +kernel
theorem d_L_law_380 : decode b_L_law 380 = .ok (.aload_n 0, 1) := by decide +kernel
theorem d_L_law_381 : decode b_L_law 381 = .ok (.iload_n 3, 1) := by decide +kernel
theorem d_L_law_382 : decode b_L_law 382 = .ok (.iconst 2, 1) := by decide +kernel
theorem d_L_law_383 : decode b_L_law 383 = .ok (.iadd, 1) := by decide +kernel
theorem d_L_law_384 : decode b_L_law 384 = .ok (.iaload, 1) := by decide +kernel
theorem d_L_law_385 : decode b_L_law 385 = .ok (.invokevirtual 50, 3) := by decide +kernel
theorem d_L_law_388 : decode b_L_law 388 = .ok (.aload_n 2, 1) := by decide +kernel
theorem d_L_law_389 : decode b_L_law 389 = .ok (.aload_n 0, 1) := by decide +kernel
theorem d_L_law_390 : decode b_L_law 390 = .ok (.iload_n 3, 1) := by decide +kernel
theorem d_L_law_391 : decode b_L_law 391 = .ok (.iconst 1, 1) := by decide +kernel
theorem d_L_law_392 : decode b_L_law 392 = .ok (.iadd, 1) := by decide +kernel
theorem d_L_law_393 : decode b_L_law 393 = .ok (.iaload, 1) := by decide +kernel
theorem d_L_law_394 : decode b_L_law 394 = .ok (.aload_n 0, 1) := by decide +kernel
theorem d_L_law_395 : decode b_L_law 395 = .ok (.iload_n 3, 1) := by decide +kernel
theorem d_L_law_396 : decode b_L_law 396 = .ok (.iconst 2, 1) := by decide +kernel
theorem d_L_law_397 : decode b_L_law 397 = .ok (.iadd, 1) := by decide +kernel
theorem d_L_law_398 : decode b_L_law 398 = .ok (.iaload, 1) := by decide +kernel
theorem d_L_law_399 : decode b_L_law 399 = .ok (.invokevirtual 53, 3) := by decide +kernel
theorem d_L_law_402 : decode b_L_law 402 = .ok (.if_icmp .eq 276, 3) := by decide +kernel
theorem d_L_law_405 : decode b_L_law 405 = .ok (.iconst 0, 1) := by decide +kernel
theorem d_L_law_406 : decode b_L_law 406 = .ok (.ireturn, 1) := by decide +kernel
theorem d_L_law_407 : decode b_L_law 407 = .ok (.aload_n 1, 1) := by decide +kernel
theorem d_L_law_408 : decode b_L_law 408 = .ok (.aload_n 0, 1) := by decide +kernel
theorem d_L_law_409 : decode b_L_law 409 = .ok (.iload_n 3, 1) := by decide +kernel
theorem d_L_law_410 : decode b_L_law 410 = .ok (.iconst 1, 1) := by decide +kernel
theorem d_L_law_411 : decode b_L_law 411 = .ok (.iadd, 1) := by decide +kernel
theorem d_L_law_412 : decode b_L_law 412 = .ok (.iaload, 1) := by decide +kernel
theorem d_L_law_413 : decode b_L_law 413 = .ok (.aload_n 0, 1) := by decide +kernel
theorem d_L_law_414 : decode b_L_law 414 = .ok (.iload_n 3, 1) := by decide +kernel
theorem d_L_law_415 : decode b_L_law 415 = .ok (.iconst 2, 1) := by decide +kernel
theorem d_L_law_416 : decode b_L_law 416 = .ok (.iadd, 1) := by decide +kernel
theorem d_L_law_417 : decode b_L_law 417 = .ok (.iaload, 1) := by decide +kernel
theorem d_L_law_418 : decode b_L_law 418 = .ok (.invokevirtual 54, 3) := by decide +kernel
theorem d_L_law_421 : decode b_L_law 421 = .ok (.aload_n 2, 1) := by decide +kernel
theorem d_L_law_422 : decode b_L_law 422 = .ok (.aload_n 0, 1) := by decide +kernel
theorem d_L_law_423 : decode b_L_law 423 = .ok (.iload_n 3, 1) := by decide +kernel
theorem d_L_law_424 : decode b_L_law 424 = .ok (.iconst 1, 1) := by decide +kernel
theorem d_L_law_425 : decode b_L_law 425 = .ok (.iadd, 1) := by decide +kernel
theorem d_L_law_426 : decode b_L_law 426 = .ok (.iaload, 1) := by decide +kernel
theorem d_L_law_427 : decode b_L_law 427 = .ok (.aload_n 0, 1) := by decide +kernel
theorem d_L_law_428 : decode b_L_law 428 = .ok (.iload_n 3, 1) := by decide +kernel
theorem d_L_law_429 : decode b_L_law 429 = .ok (.iconst 2, 1) := by decide +kernel
theorem d_L_law_430 : decode b_L_law 430 = .ok (.iadd, 1) := by decide +kernel
theorem d_L_law_431 : decode b_L_law 431 = .ok (.iaload, 1) := by decide +kernel
theorem d_L_law_432 : decode b_L_law 432 = .ok (.invokevirtual 58, 3) := by decide +kernel
theorem d_L_law_435 : decode b_L_law 435 = .ok (.if_icmp .eq 243, 3) := by decide +kernel
theorem d_L_law_438 : decode b_L_law 438 = .ok (.iconst 0, 1) := by decide +kernel
theorem d_L_law_439 : decode b_L_law 439 = .ok (.ireturn, 1) := by decide +kernel
theorem d_L_law_440 : decode b_L_law 440 = .ok (.aload_n 1, 1) := by decide +kernel
theorem d_L_law_441 : decode b_L_law 441 = .ok (.aload_n 0, 1) := by decide +kernel
theorem d_L_law_442 : decode b_L_law 442 = .ok (.iload_n 3, 1) := by decide +kernel
theorem d_L_law_443 : decode b_L_law 443 = .ok (.iconst 1, 1) := by decide +kernel
theorem d_L_law_444 : decode b_L_law 444 = .ok (.iadd, 1) := by decide +kernel
theorem d_L_law_445 : decode b_L_law 445 = .ok (.iaload, 1) := by decide +kernel
theorem d_L_law_446 : decode b_L_law 446 = .ok (.invokevirtual 59, 3) := by decide +kernel
theorem d_L_law_449 : decode b_L_law 449 = .ok (.aload_n 2, 1) := by decide +kernel
theorem d_L_law_450 : decode b_L_law 450 = .ok (.aload_n 0, 1) := by decide +kernel
theorem d_L_law_451 : decode b_L_law 451 = .ok (.iload_n 3, 1) := by decide +kernel
theorem d_L_law_452 : decode b_L_law 452 = .ok (.iconst 1, 1) := by decide +kernel
theorem d_L_law_453 : decode b_L_law 453 = .ok (.iadd, 1) := by decide +kernel
theorem d_L_law_454 : decode b_L_law 454 = .ok (.iaload, 1) := by decide +kernel
theorem d_L_law_455 : decode b_L_law 455 = .ok (.invokevirtual 62, 3) := by decide +kernel
theorem d_L_law_458 : decode b_L_law 458 = .ok (.if_icmp .eq 220, 3) := by decide +kernel
theorem d_L_law_461 : decode b_L_law 461 = .ok (.iconst 0, 1) := by decide +kernel
theorem d_L_law_462 : decode b_L_law 462 = .ok (.ireturn, 1) := by decide +kernel
theorem d_L_law_463 : decode b_L_law 463 = .ok (.aload_n 1, 1) := by decide +kernel
theorem d_L_law_464 : decode b_L_law 464 = .ok (.aload_n 0, 1) := by decide +kernel
theorem d_L_law_465 : decode b_L_law 465 = .ok (.iload_n 3, 1) := by decide +kernel
theorem d_L_law_466 : decode b_L_law 466 = .ok (.iconst 1, 1) := by decide +kernel
theorem d_L_law_467 : decode b_L_law 467 = .ok (.iadd, 1) := by decide +kernel
theorem d_L_law_468 : decode b_L_law 468 = .ok (.iaload, 1) := by decide +kernel
theorem d_L_law_469 : decode b_L_law 469 = .ok (.invokevirtual 63, 3) := by decide +kernel
theorem d_L_law_472 : decode b_L_law 472 = .ok (.aload_n 2, 1) := by decide +kernel
theorem d_L_law_473 : decode b_L_law 473 = .ok (.aload_n 0, 1) := by decide +kernel
theorem d_L_law_474 : decode b_L_law 474 = .ok (.iload_n 3, 1) := by decide +kernel
theorem d_L_law_475 : decode b_L_law 475 = .ok (.iconst 1, 1) := by decide +kernel
theorem d_L_law_476 : decode b_L_law 476 = .ok (.iadd, 1) := by decide +kernel
theorem d_L_law_477 : decode b_L_law 477 = .ok (.iaload, 1) := by decide +kernel
theorem d_L_law_478 : decode b_L_law 478 = .ok (.invokevirtual 66, 3) := by decide +kernel
theorem d_L_law_481 : decode b_L_law 481 = .ok (.if_icmp .eq 197, 3) := by decide +kernel
theorem d_L_law_484 : decode b_L_law 484 = .ok (.iconst 0, 1) := by decide +kernel
theorem d_L_law_485 : decode b_L_law 485 = .ok (.ireturn, 1) := by decide +kernel
theorem d_L_law_486 : decode b_L_law 486 = .ok (.aload_n 1, 1) := by decide +kernel
theorem d_L_law_487 : decode b_L_law 487 = .ok (.invokevirtual 67, 3) := by decide +kernel
theorem d_L_law_490 : decode b_L_law 490 = .ok (.aload_n 2, 1) := by decide +kernel
theorem d_L_law_491 : decode b_L_law 491 = .ok (.invokevirtual 70, 3) := by decide +kernel
theorem d_L_law_494 : decode b_L_law 494 = .ok (.if_icmp .eq 184, 3) := by decide +kernel
theorem d_L_law_497 : decode b_L_law 497 = .ok (.iconst 0, 1) := by decide +kernel
theorem d_L_law_498 : decode b_L_law 498 = .ok (.ireturn, 1) := by decide +kernel
theorem d_L_law_499 : decode b_L_law 499 = .ok (.aload_n 1, 1) := by decide +kernel
theorem d_L_law_500 : decode b_L_law 500 = .ok (.invokevirtual 71, 3) := by decide +kernel
theorem d_L_law_503 : decode b_L_law 503 = .ok (.aload_n 2, 1) := by decide +kernel
theorem d_L_law_504 : decode b_L_law 504 = .ok (.invokevirtual 74, 3) := by decide +kernel
theorem d_L_law_507 : decode b_L_law 507 = .ok (.goto 171, 3) := by decide +kernel
theorem d_L_law_510 : decode b_L_law 510 = .ok (.aload_n 1, 1) := by decide +kernel
theorem d_L_law_511 : decode b_L_law 511 = .ok (.aload_n 0, 1) := by decide +kernel
theorem d_L_law_512 : decode b_L_law 512 = .ok (.iload_n 3, 1) := by decide +kernel
theorem d_L_law_513 : decode b_L_law 513 = .ok (.iconst 1, 1) := by decide +kernel
theorem d_L_law_514 : decode b_L_law 514 = .ok (.iadd, 1) := by decide +kernel
theorem d_L_law_515 : decode b_L_law 515 = .ok (.iaload, 1) := by decide +kernel
theorem d_L_law_516 : decode b_L_law 516 = .ok (.aload_n 0, 1) := by decide +kernel
theorem d_L_law_517 : decode b_L_law 517 = .ok (.iload_n 3, 1) := by decide +kernel
theorem d_L_law_518 : decode b_L_law 518 = .ok (.iconst 2, 1) := by decide +kernel
theorem d_L_law_519 : decode b_L_law 519 = .ok (.iadd, 1) := by decide +kernel
theorem d_L_law_520 : decode b_L_law 520 = .ok (.iaload, 1) := by decide +kernel
theorem d_L_law_521 : decode b_L_law 521 = .ok (.ifCond .eq 7, 3) := by decide +kernel
theorem d_L_law_524 : decode b_L_law 524 = .ok (.iconst 1, 1) := by decide +kernel
theorem d_L_law_525 : decode b_L_law 525 = .ok (.goto 4, 3) := by decide +kernel
theorem d_L_law_528 : decode b_L_law 528 = .ok (.iconst 0, 1) := by decide +kernel
theorem d_L_law_529 : decode b_L_law 529 = .ok (.invokevirtual 75, 3) := by decide +kernel
theorem d_L_law_532 : decode b_L_law 532 = .ok (.aload_n 2, 1) := by decide +kernel
theorem d_L_law_533 : decode b_L_law 533 = .ok (.aload_n 0, 1) := by decide +kernel
theorem d_L_law_534 : decode b_L_law 534 = .ok (.iload_n 3, 1) := by decide +kernel
theorem d_L_law_535 : decode b_L_law 535 = .ok (.iconst 1, 1) := by decide +kernel
theorem d_L_law_536 : decode b_L_law 536 = .ok (.iadd, 1) := by decide +kernel
theorem d_L_law_537 : decode b_L_law 537 = .ok (.iaload, 1) := by decide +kernel
theorem d_L_law_538 : decode b_L_law 538 = .ok (.aload_n 0, 1) := by decide +kernel
theorem d_L_law_539 : decode b_L_law 539 = .ok (.iload_n 3, 1) := by decide +kernel
theorem d_L_law_540 : decode b_L_law 540 = .ok (.iconst 2, 1) := by decide +kernel
theorem d_L_law_541 : decode b_L_law 541 = .ok (.iadd, 1) := by decide +kernel
theorem d_L_law_542 : decode b_L_law 542 = .ok (.iaload, 1) := by decide +kernel
theorem d_L_law_543 : decode b_L_law 543 = .ok (.ifCond .eq 7, 3) := by decide +kernel
theorem d_L_law_546 : decode b_L_law 546 = .ok (.iconst 1, 1) := by decide +kernel
theorem d_L_law_547 : decode b_L_law 547 = .ok (.goto 4, 3) := by decide +kernel
theorem d_L_law_550 : decode b_L_law 550 = .ok (.iconst 0, 1) := by decide +kernel
theorem d_L_law_551 : decode b_L_law 551 = .ok (.invokevirtual 79, 3) := by decide +kernel
theorem d_L_law_554 : decode b_L_law 554 = .ok (.if_icmp .eq 124, 3) := by decide +kernel
theorem d_L_law_557 : decode b_L_law 557 = .ok (.iconst 0, 1) := by decide +kernel
theorem d_L_law_558 : decode b_L_law 558 = .ok (.ireturn, 1) := by decide +kernel
theorem d_L_law_559 : decode b_L_law 559 = .ok (.aload_n 1, 1) := by decide +kernel
theorem d_L_law_560 : decode b_L_law 560 = .ok (.invokevirtual 80, 3) := by decide +kernel
theorem d_L_law_563 : decode b_L_law 563 = .ok (.aload_n 2, 1) := by decide +kernel
theorem d_L_law_564 : decode b_L_law 564 = .ok (.invokevirtual 83, 3) := by decide +kernel
theorem d_L_law_567 : decode b_L_law 567 = .ok (.if_icmp .eq 111, 3) := by decide +kernel
theorem d_L_law_570 : decode b_L_law 570 = .ok (.iconst 0, 1) := by decide +kernel
theorem d_L_law_571 : decode b_L_law 571 = .ok (.ireturn, 1) := by decide +kernel
theorem d_L_law_572 : decode b_L_law 572 = .ok (.aload_n 1, 1) := by decide +kernel
theorem d_L_law_573 : decode b_L_law 573 = .ok (.aload_n 0, 1) := by decide +kernel
theorem d_L_law_574 : decode b_L_law 574 = .ok (.iload_n 3, 1) := by decide +kernel
theorem d_L_law_575 : decode b_L_law 575 = .ok (.iconst 1, 1) := by decide +kernel
theorem d_L_law_576 : decode b_L_law 576 = .ok (.iadd, 1) := by decide +kernel
theorem d_L_law_577 : decode b_L_law 577 = .ok (.iaload, 1) := by decide +kernel
theorem d_L_law_578 : decode b_L_law 578 = .ok (.invokevirtual 84, 3) := by decide +kernel
theorem d_L_law_581 : decode b_L_law 581 = .ok (.aload_n 2, 1) := by decide +kernel
theorem d_L_law_582 : decode b_L_law 582 = .ok (.aload_n 0, 1) := by decide +kernel
theorem d_L_law_583 : decode b_L_law 583 = .ok (.iload_n 3, 1) := by decide +kernel
theorem d_L_law_584 : decode b_L_law 584 = .ok (.iconst 1, 1) := by decide +kernel
theorem d_L_law_585 : decode b_L_law 585 = .ok (.iadd, 1) := by decide +kernel
theorem d_L_law_586 : decode b_L_law 586 = .ok (.iaload, 1) := by decide +kernel
theorem d_L_law_587 : decode b_L_law 587 = .ok (.invokevirtual 87, 3) := by decide +kernel
theorem d_L_law_590 : decode b_L_law 590 = .ok (.if_icmp .eq 88, 3) := by decide +kernel
theorem d_L_law_593 : decode b_L_law 593 = .ok (.iconst 0, 1) := by decide +kernel
theorem d_L_law_594 : decode b_L_law 594 = .ok (.ireturn, 1) := by decide +kernel
theorem d_L_law_595 : decode b_L_law 595 = .ok (.aload_n 1, 1) := by decide +kernel
theorem d_L_law_596 : decode b_L_law 596 = .ok (.aload_n 0, 1) := by decide +kernel
theorem d_L_law_597 : decode b_L_law 597 = .ok (.iload_n 3, 1) := by decide +kernel
theorem d_L_law_598 : decode b_L_law 598 = .ok (.iconst 1, 1) := by decide +kernel
theorem d_L_law_599 : decode b_L_law 599 = .ok (.iadd, 1) := by decide +kernel
theorem d_L_law_600 : decode b_L_law 600 = .ok (.iaload, 1) := by decide +kernel
theorem d_L_law_601 : decode b_L_law 601 = .ok (.i2c, 1) := by decide +kernel
theorem d_L_law_602 : decode b_L_law 602 = .ok (.invokevirtual 88, 3) := by decide +kernel
theorem d_L_law_605 : decode b_L_law 605 = .ok (.aload_n 2, 1) := by decide +kernel
theorem d_L_law_606 : decode b_L_law 606 = .ok (.aload_n 0, 1) := by decide +kernel
theorem d_L_law_607 : decode b_L_law 607 = .ok (.iload_n 3, 1) := by decide +kernel
theorem d_L_law_608 : decode b_L_law 608 = .ok (.iconst 1, 1) := by decide +kernel
theorem d_L_law_609 : decode b_L_law 609 = .ok (.iadd, 1) := by decide +kernel
theorem d_L_law_610 : decode b_L_law 610 = .ok (.iaload, 1) := by decide +kernel
theorem d_L_law_611 : decode b_L_law 611 = .ok (.i2c, 1) := by decide +kernel
theorem d_L_law_612 : decode b_L_law 612 = .ok (.invokevirtual 92, 3) := by decide +kernel
theorem d_L_law_615 : decode b_L_law 615 = .ok (.if_icmp .eq 63, 3) := by decide +kernel
theorem d_L_law_618 : decode b_L_law 618 = .ok (.iconst 0, 1) := by decide +kernel
theorem d_L_law_619 : decode b_L_law 619 = .ok (.ireturn, 1) := by decide +kernel
theorem d_L_law_620 : decode b_L_law 620 = .ok (.aload_n 1, 1) := by decide +kernel
theorem d_L_law_621 : decode b_L_law 621 = .ok (.aload_n 0, 1) := by decide +kernel
theorem d_L_law_622 : decode b_L_law 622 = .ok (.iload_n 3, 1) := by decide +kernel
theorem d_L_law_623 : decode b_L_law 623 = .ok (.iconst 1, 1) := by decide +kernel
theorem d_L_law_624 : decode b_L_law 624 = .ok (.iadd, 1) := by decide +kernel
theorem d_L_law_625 : decode b_L_law 625 = .ok (.iaload, 1) := by decide +kernel
theorem d_L_law_626 : decode b_L_law 626 = .ok (.aload_n 0, 1) := by decide +kernel
theorem d_L_law_627 : decode b_L_law 627 = .ok (.iload_n 3, 1) := by decide +kernel
theorem d_L_law_628 : decode b_L_law 628 = .ok (.iconst 2, 1) := by decide +kernel
theorem d_L_law_629 : decode b_L_law 629 = .ok (.iadd, 1) := by decide +kernel
theorem d_L_law_630 : decode b_L_law 630 = .ok (.iaload, 1) := by decide +kernel
theorem d_L_law_631 : decode b_L_law 631 = .ok (.i2c, 1) := by decide +kernel
theorem d_L_law_632 : decode b_L_law 632 = .ok (.invokevirtual 93, 3) := by decide +kernel
theorem d_L_law_635 : decode b_L_law 635 = .ok (.aload_n 2, 1) := by decide +kernel
theorem d_L_law_636 : decode b_L_law 636 = .ok (.aload_n 0, 1) := by decide +kernel
theorem d_L_law_637 : decode b_L_law 637 = .ok (.iload_n 3, 1) := by decide +kernel
theorem d_L_law_638 : decode b_L_law 638 = .ok (.iconst 1, 1) := by decide +kernel
theorem d_L_law_639 : decode b_L_law 639 = .ok (.iadd, 1) := by decide +kernel
theorem d_L_law_640 : decode b_L_law 640 = .ok (.iaload, 1) := by decide +kernel
theorem d_L_law_641 : decode b_L_law 641 = .ok (.aload_n 0, 1) := by decide +kernel
theorem d_L_law_642 : decode b_L_law 642 = .ok (.iload_n 3, 1) := by decide +kernel
theorem d_L_law_643 : decode b_L_law 643 = .ok (.iconst 2, 1) := by decide +kernel
theorem d_L_law_644 : decode b_L_law 644 = .ok (.iadd, 1) := by decide +kernel
theorem d_L_law_645 : decode b_L_law 645 = .ok (.iaload, 1) := by decide +kernel
theorem d_L_law_646 : decode b_L_law 646 = .ok (.i2c, 1) := by decide +kernel
theorem d_L_law_647 : decode b_L_law 647 = .ok (.invokevirtual 96, 3) := by decide +kernel
theorem d_L_law_650 : decode b_L_law 650 = .ok (.if_icmp .eq 28, 3) := by decide +kernel
theorem d_L_law_653 : decode b_L_law 653 = .ok (.iconst 0, 1) := by decide +kernel
theorem d_L_law_654 : decode b_L_law 654 = .ok (.ireturn, 1) := by decide +kernel
theorem d_L_law_655 : decode b_L_law 655 = .ok (.aload_n 1, 1) := by decide +kernel
theorem d_L_law_656 : decode b_L_law 656 = .ok (.aload_n 0, 1) := by decide +kernel
theorem d_L_law_657 : decode b_L_law 657 = .ok (.iload_n 3, 1) := by decide +kernel
theorem d_L_law_658 : decode b_L_law 658 = .ok (.iconst 1, 1) := by decide +kernel
theorem d_L_law_659 : decode b_L_law 659 = .ok (.iadd, 1) := by decide +kernel
theorem d_L_law_660 : decode b_L_law 660 = .ok (.iaload, 1) := by decide +kernel
theorem d_L_law_661 : decode b_L_law 661 = .ok (.invokevirtual 97, 3) := by decide +kernel
theorem d_L_law_664 : decode b_L_law 664 = .ok (.aload_n 2, 1) := by decide +kernel
theorem d_L_law_665 : decode b_L_law 665 = .ok (.aload_n 0, 1) := by decide +kernel
theorem d_L_law_666 : decode b_L_law 666 = .ok (.iload_n 3, 1) := by decide +kernel
theorem d_L_law_667 : decode b_L_law 667 = .ok (.iconst 1, 1) := by decide +kernel
theorem d_L_law_668 : decode b_L_law 668 = .ok (.iadd, 1) := by decide +kernel
theorem d_L_law_669 : decode b_L_law 669 = .ok (.iaload, 1) := by decide +kernel
theorem d_L_law_670 : decode b_L_law 670 = .ok (.invokevirtual 101, 3) := by decide +kernel
theorem d_L_law_673 : decode b_L_law 673 = .ok (.if_icmp .eq 5, 3) := by decide +kernel
theorem d_L_law_676 : decode b_L_law 676 = .ok (.iconst 0, 1) := by decide +kernel
theorem d_L_law_677 : decode b_L_law 677 = .ok (.ireturn, 1) := by decide +kernel
theorem d_L_law_678 : decode b_L_law 678 = .ok (.iinc 3 4, 3) := by decide +kernel
theorem d_L_law_681 : decode b_L_law 681 = .ok (.goto (-663), 3) := by decide +kernel
theorem d_L_law_684 : decode b_L_law 684 = .ok (.iconst 1, 1) := by decide +kernel
theorem d_L_law_685 : decode b_L_law 685 = .ok (.ireturn, 1) := by decide +kernel
