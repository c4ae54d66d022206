theorem d_M_start_153 : decode b_M_start 153 = .ok (.ifCond .eq 9, 3) := by decide +kernel
theorem d_M_start_156 : decode b_M_start 156 = .ok (.iload_n 3, 1) := by decide +kernel
theorem d_M_start_157 : decode b_M_start 157 = .ok (.iconst 2, 1) := by decide +kernel
theorem d_M_start_158 : decode b_M_start 158 = .ok (.iadd, 1) := by decide +kernel
theorem d_M_start_159 : decode b_M_start 159 = .ok (.goto 6, 3) := by decide +kernel
theorem d_M_start_162 : decode b_M_start 162 = .ok (.iload_n 3, 1) := by decide +kernel
theorem d_M_start_163 : decode b_M_start 163 = .ok (.iconst 1, 1) := by decide +kernel
theorem d_M_start_164 : decode b_M_start 164 = .ok (.iadd, 1) := by decide +kernel
theorem d_M_start_165 : decode b_M_start 165 = .ok (.putfield 154, 3) := by decide +kernel
theorem d_M_start_168 : decode b_M_start 168 = .ok (.aload_n 0, 1) := by decide +kernel
theorem d_M_start_169 : decode b_M_start 169 = .ok (.iload 6, 2) := by decide +kernel
theorem d_M_start_171 : decode b_M_start 171 = .ok (.ifCond .eq 10, 3) := by decide +kernel
theorem d_M_start_174 : decode b_M_start 174 = .ok (.aload_n 0, 1) := by decide +kernel
theorem d_M_start_175 : decode b_M_start 175 = .ok (.getfield 157, 3) := by decide +kernel
theorem d_M_start_178 : decode b_M_start 178 = .ok (.goto 4, 3) := by decide +kernel
theorem d_M_start_181 : decode b_M_start 181 = .ok (.iload_n 2, 1) := by decide +kernel
theorem d_M_start_182 : decode b_M_start 182 = .ok (.putfield 157, 3) := by decide +kernel
theorem d_M_start_185 : decode b_M_start 185 = .ok (.aload_n 0, 1) := by decide +kernel
theorem d_M_start_186 : decode b_M_start 186 = .ok (.iload 6, 2) := by decide +kernel
theorem d_M_start_188 : decode b_M_start 188 = .ok (.ifCond .eq 10, 3) := by decide +kernel
theorem d_M_start_191 : decode b_M_start 191 = .ok (.aload_n 0, 1) := by decide +kernel
theorem d_M_start_192 : decode b_M_start 192 = .ok (.getfield 160, 3) := by decide +kernel
theorem d_M_start_195 : decode b_M_start 195 = .ok (.goto 9, 3) := by decide +kernel
theorem d_M_start_198 : decode b_M_start 198 = .ok (.aload_n 0, 1) := by decide +kernel
theorem d_M_start_199 : decode b_M_start 199 = .ok (.getfield 160, 3) := by decide +kernel
theorem d_M_start_202 : decode b_M_start 202 = .ok (.iconst 1, 1) := by decide +kernel
theorem d_M_start_203 : decode b_M_start 203 = .ok (.iadd, 1) := by decide +kernel
theorem d_M_start_204 : decode b_M_start 204 = .ok (.putfield 160, 3) := by decide +kernel
theorem d_M_start_207 : decode b_M_start 207 = .ok (.aload_n 0, 1) := by decide +kernel
theorem d_M_start_208 : decode b_M_start 208 = .ok (.iload_n 2, 1) := by decide +kernel
theorem d_M_start_209 : decode b_M_start 209 = .ok (.iconst 1, 1) := by decide +kernel
theorem d_M_start_210 : decode b_M_start 210 = .ok (.iadd, 1) := by decide +kernel
theorem d_M_start_211 : decode b_M_start 211 = .ok (.putfield 163, 3) := by decide +kernel
theorem d_M_start_214 : decode b_M_start 214 = .ok (.iconst 1, 1) := by decide +kernel
theorem d_M_start_215 : decode b_M_start 215 = .ok (.ireturn, 1) := by decide +kernel
theorem d_M_start_216 : decode b_M_start 216 = .ok (.iload 5, 2) := by decide +kernel
theorem d_M_start_218 : decode b_M_start 218 = .ok (.iload_n 3, 1) := by decide +kernel
theorem d_M_start_219 : decode b_M_start 219 = .ok (.if_icmp .eq 14, 3) := by decide +kernel
theorem d_M_start_222 : decode b_M_start 222 = .ok (.aload_n 0, 1) := by decide +kernel
theorem d_M_start_223 : decode b_M_start 223 = .ok (.getfield 42, 3) := by decide +kernel
theorem d_M_start_226 : decode b_M_start 226 = .ok (.iload_n 2, 1) := by decide +kernel
theorem d_M_start_227 : decode b_M_start 227 = .ok (.iaload, 1) := by decide +kernel
theorem d_M_start_228 : decode b_M_start 228 = .ok (.bipush 6, 2) := by decide +kernel
theorem d_M_start_230 : decode b_M_start 230 = .ok (.if_icmp .ne 7, 3) := by decide +kernel
theorem d_M_start_233 : decode b_M_start 233 = .ok (.iconst (-1), 1) := by decide +kernel
theorem d_M_start_234 : decode b_M_start 234 = .ok (.goto 9, 3) := by decide +kernel
theorem d_M_start_237 : decode b_M_start 237 = .ok (.aload_n 0, 1) := by decide +kernel
theorem d_M_start_238 : decode b_M_start 238 = .ok (.iload_n 2, 1) := by decide +kernel
theorem d_M_start_239 : decode b_M_start 239 = .ok (.iload_n 3, 1) := by decide +kernel
theorem d_M_start_240 : decode b_M_start 240 = .ok (.invokevirtual 182, 3) := by decide +kernel
theorem d_M_start_243 : decode b_M_start 243 = .ok (.istore_n 3, 1) := by decide +kernel
theorem d_M_start_244 : decode b_M_start 244 = .ok (.iload_n 3, 1) := by decide +kernel
theorem d_M_start_245 : decode b_M_start 245 = .ok (.ifCond .ge 5, 3) := by decide +kernel
theorem d_M_start_248 : decode b_M_start 248 = .ok (.iconst 0, 1) := by decide +kernel
theorem d_M_start_249 : decode b_M_start 249 = .ok (.ireturn, 1) := by decide +kernel
theorem d_M_start_250 : decode b_M_start 250 = .ok (.iinc 4 1, 3) := by decide +kernel
theorem d_M_start_253 : decode b_M_start 253 = .ok (.goto (-173), 3) := by decide +kernel
theorem d_M_start_256 : decode b_M_start 256 = .ok (.iconst 0, 1) := by decide +kernel
theorem d_M_start_257 : decode b_M_start 257 = .ok (.ireturn, 1) := by decide +kernel
theorem d_M_attributeAt_0 : decode b_M_attributeAt 0 = .ok (.aload_n 0, 1) := by decide +kernel
theorem d_M_attributeAt_1 : decode b_M_attributeAt 1 = .ok (.iload_n 2, 1) := by decide +kernel
theorem d_M_attributeAt_2 : decode b_M_attributeAt 2 = .ok (.invokevirtual 179, 3) := by decide +kernel
theorem d_M_attributeAt_5 : decode b_M_attributeAt 5 = .ok (.istore_n 3, 1) := by decide +kernel
theorem d_M_attributeAt_6 : decode b_M_attributeAt 6 = .ok (.aload_n 0, 1) := by decide +kernel
theorem d_M_attributeAt_7 : decode b_M_attributeAt 7 = .ok (.getfield 151, 3) := by decide +kernel
theorem d_M_attributeAt_10 : decode b_M_attributeAt 10 = .ok (.iconst 2, 1) := by decide +kernel
theorem d_M_attributeAt_11 : decode b_M_attributeAt 11 = .ok (.iadd, 1) := by decide +kernel
theorem d_M_attributeAt_12 : decode b_M_attributeAt 12 = .ok (.istore 4, 2) := by decide +kernel
theorem d_M_attributeAt_14 : decode b_M_attributeAt 14 = .ok (.iload_n 3, 1) := by decide +kernel
theorem d_M_attributeAt_15 : decode b_M_attributeAt 15 = .ok (.ifCond .lt 40, 3) := by decide +kernel
theorem d_M_attributeAt_18 : decode b_M_attributeAt 18 = .ok (.aload_n 0, 1) := by decide +kernel
theorem d_M_attributeAt_19 : decode b_M_attributeAt 19 = .ok (.aload_n 0, 1) := by decide +kernel
theorem d_M_attributeAt_20 : decode b_M_attributeAt 20 = .ok (.getfield 151, 3) := by decide +kernel
theorem d_M_attributeAt_23 : decode b_M_attributeAt 23 = .ok (.invokevirtual 147, 3) := by decide +kernel
theorem d_M_attributeAt_26 : decode b_M_attributeAt 26 = .ok (.bipush 61, 2) := by decide +kernel
theorem d_M_attributeAt_28 : decode b_M_attributeAt 28 = .ok (.if_icmp .ne 27, 3) := by decide +kernel
theorem d_M_attributeAt_31 : decode b_M_attributeAt 31 = .ok (.aload_n 0, 1) := by decide +kernel
theorem d_M_attributeAt_32 : decode b_M_attributeAt 32 = .ok (.aload_n 0, 1) := by decide +kernel
theorem d_M_attributeAt_33 : decode b_M_attributeAt 33 = .ok (.getfield 151, 3) := by decide +kernel
theorem d_M_attributeAt_36 : decode b_M_attributeAt 36 = .ok (.iconst 1, 1) := by decide +kernel
theorem d_M_attributeAt_37 : decode b_M_attributeAt 37 = .ok (.iadd, 1) := by decide +kernel
theorem d_M_attributeAt_38 : decode b_M_attributeAt 38 = .ok (.invokevirtual 147, 3) := by decide +kernel
theorem d_M_attributeAt_41 : decode b_M_attributeAt 41 = .ok (.bipush 34, 2) := by decide +kernel
theorem d_M_attributeAt_43 : decode b_M_attributeAt 43 = .ok (.if_icmp .ne 12, 3) := by decide +kernel
theorem d_M_attributeAt_46 : decode b_M_attributeAt 46 = .ok (.aload_n 0, 1) := by decide +kernel
theorem d_M_attributeAt_47 : decode b_M_attributeAt 47 = .ok (.iload_n 1, 1) := by decide +kernel
theorem d_M_attributeAt_48 : decode b_M_attributeAt 48 = .ok (.iload_n 3, 1) := by decide +kernel
theorem d_M_attributeAt_49 : decode b_M_attributeAt 49 = .ok (.invokevirtual 185, 3) := by decide +kernel
theorem d_M_attributeAt_52 : decode b_M_attributeAt 52 = .ok (.ifCond .lt 5, 3) := by decide +kernel
theorem d_M_attributeAt_55 : decode b_M_attributeAt 55 = .ok (.iconst (-1), 1) := by decide +kernel
theorem d_M_attributeAt_56 : decode b_M_attributeAt 56 = .ok (.ireturn, 1) := by decide +kernel
theorem d_M_attributeAt_57 : decode b_M_attributeAt 57 = .ok (.iload 4, 2) := by decide +kernel
theorem d_M_attributeAt_59 : decode b_M_attributeAt 59 = .ok (.istore 5, 2) := by decide +kernel
theorem d_M_attributeAt_61 : decode b_M_attributeAt 61 = .ok (.iload 5, 2) := by decide +kernel
theorem d_M_attributeAt_63 : decode b_M_attributeAt 63 = .ok (.aload_n 0, 1) := by decide +kernel
theorem d_M_attributeAt_64 : decode b_M_attributeAt 64 = .ok (.getfield 110, 3) := by decide +kernel
theorem d_M_attributeAt_67 : decode b_M_attributeAt 67 = .ok (.if_icmp .ge 45, 3) := by decide +kernel
theorem d_M_attributeAt_70 : decode b_M_attributeAt 70 = .ok (.aload_n 0, 1) := by decide +kernel
theorem d_M_attributeAt_71 : decode b_M_attributeAt 71 = .ok (.getfield 29, 3) := by decide +kernel
theorem d_M_attributeAt_74 : decode b_M_attributeAt 74 = .ok (.iload 5, 2) := by decide +kernel
theorem d_M_attributeAt_76 : decode b_M_attributeAt 76 = .ok (.caload, 1) := by decide +kernel
theorem d_M_attributeAt_77 : decode b_M_attributeAt 77 = .ok (.bipush 34, 2) := by decide +kernel
theorem d_M_attributeAt_79 : decode b_M_attributeAt 79 = .ok (.if_icmp .eq 33, 3) := by decide +kernel
theorem d_M_attributeAt_82 : decode b_M_attributeAt 82 = .ok (.aload_n 0, 1) := by decide +kernel
theorem d_M_attributeAt_83 : decode b_M_attributeAt 83 = .ok (.getfield 29, 3) := by decide +kernel
theorem d_M_attributeAt_86 : decode b_M_attributeAt 86 = .ok (.iload 5, 2) := by decide +kernel
theorem d_M_attributeAt_88 : decode b_M_attributeAt 88 = .ok (.caload, 1) := by decide +kernel
theorem d_M_attributeAt_89 : decode b_M_attributeAt 89 = .ok (.bipush 60, 2) := by decide +kernel
theorem d_M_attributeAt_91 : decode b_M_attributeAt 91 = .ok (.if_icmp .eq 21, 3) := by decide +kernel
theorem d_M_attributeAt_94 : decode b_M_attributeAt 94 = .ok (.aload_n 0, 1) := by decide +kernel
theorem d_M_attributeAt_95 : decode b_M_attributeAt 95 = .ok (.getfield 29, 3) := by decide +kernel
theorem d_M_attributeAt_98 : decode b_M_attributeAt 98 = .ok (.iload 5, 2) := by decide +kernel
theorem d_M_attributeAt_100 : decode b_M_attributeAt 100 = .ok (.caload, 1) := by decide +kernel
theorem d_M_attributeAt_101 : decode b_M_attributeAt 101 = .ok (.bipush 38, 2) := by decide +kernel
theorem d_M_attributeAt_103 : decode b_M_attributeAt 103 = .ok (.if_icmp .eq 9, 3) := by decide +kernel
theorem d_M_attributeAt_106 : decode b_M_attributeAt 106 = .ok (.iinc 5 1, 3) := by decide +kernel
theorem d_M_attributeAt_109 : decode b_M_attributeAt 109 = .ok (.goto (-48), 3) := by decide +kernel
theorem d_M_attributeAt_112 : decode b_M_attributeAt 112 = .ok (.aload_n 0, 1) := by decide +kernel
theorem d_M_attributeAt_113 : decode b_M_attributeAt 113 = .ok (.iload 5, 2) := by decide +kernel
theorem d_M_attributeAt_115 : decode b_M_attributeAt 115 = .ok (.invokevirtual 147, 3) := by decide +kernel
theorem d_M_attributeAt_118 : decode b_M_attributeAt 118 = .ok (.bipush 34, 2) := by decide +kernel
theorem d_M_attributeAt_120 : decode b_M_attributeAt 120 = .ok (.if_icmp .eq 5, 3) := by decide +kernel
theorem d_M_attributeAt_123 : decode b_M_attributeAt 123 = .ok (.iconst (-1), 1) := by decide +kernel
theorem d_M_attributeAt_124 : decode b_M_attributeAt 124 = .ok (.ireturn, 1) := by decide +kernel
theorem d_M_attributeAt_125 : decode b_M_attributeAt 125 = .ok (.aload_n 0, 1) := by decide +kernel
theorem d_M_attributeAt_126 : decode b_M_attributeAt 126 = .ok (.getfield 57, 3) := by decide +kernel
theorem d_M_attributeAt_129 : decode b_M_attributeAt 129 = .ok (.aload_n 0, 1) := by decide +kernel
theorem d_M_attributeAt_130 : decode b_M_attributeAt 130 = .ok (.getfield 166, 3) := by decide +kernel
theorem d_M_attributeAt_133 : decode b_M_attributeAt 133 = .ok (.iload_n 3, 1) := by decide +kernel
theorem d_M_attributeAt_134 : decode b_M_attributeAt 134 = .ok (.iastore, 1) := by decide +kernel
theorem d_M_attributeAt_135 : decode b_M_attributeAt 135 = .ok (.aload_n 0, 1) := by decide +kernel
theorem d_M_attributeAt_136 : decode b_M_attributeAt 136 = .ok (.getfield 60, 3) := by decide +kernel
theorem d_M_attributeAt_139 : decode b_M_attributeAt 139 = .ok (.aload_n 0, 1) := by decide +kernel
theorem d_M_attributeAt_140 : decode b_M_attributeAt 140 = .ok (.getfield 166, 3) := by decide +kernel
theorem d_M_attributeAt_143 : decode b_M_attributeAt 143 = .ok (.iload 4, 2) := by decide +kernel
theorem d_M_attributeAt_145 : decode b_M_attributeAt 145 = .ok (.iastore, 1) := by decide +kernel
theorem d_M_attributeAt_146 : decode b_M_attributeAt 146 = .ok (.aload_n 0, 1) := by decide +kernel
theorem d_M_attributeAt_147 : decode b_M_attributeAt 147 = .ok (.getfield 63, 3) := by decide +kernel
theorem d_M_attributeAt_150 : decode b_M_attributeAt 150 = .ok (.aload_n 0, 1) := by decide +kernel
theorem d_M_attributeAt_151 : decode b_M_attributeAt 151 = .ok (.getfield 166, 3) := by decide +kernel
theorem d_M_attributeAt_154 : decode b_M_attributeAt 154 = .ok (.iload 5, 2) := by decide +kernel
theorem d_M_attributeAt_156 : decode b_M_attributeAt 156 = .ok (.iastore, 1) := by decide +kernel
theorem d_M_attributeAt_157 : decode b_M_attributeAt 157 = .ok (.aload_n 0, 1) := by decide +kernel
theorem d_M_attributeAt_158 : decode b_M_attributeAt 158 = .ok (.dup, 1) := by decide +kernel
theorem d_M_attributeAt_159 : decode b_M_attributeAt 159 = .ok (.getfield 166, 3) := by decide +kernel
theorem d_M_attributeAt_162 : decode b_M_attributeAt 162 = .ok (.iconst 1, 1) := by decide +kernel
theorem d_M_attributeAt_163 : decode b_M_attributeAt 163 = .ok (.iadd, 1) := by decide +kernel
theorem d_M_attributeAt_164 : decode b_M_attributeAt 164 = .ok (.putfield 166, 3) := by decide +kernel
theorem d_M_attributeAt_167 : decode b_M_attributeAt 167 = .ok (.aload_n 0, 1) := by decide +kernel
theorem d_M_attributeAt_168 : decode b_M_attributeAt 168 = .ok (.getfield 42, 3) := by decide +kernel
theorem d_M_attributeAt_171 : decode b_M_attributeAt 171 = .ok (.iload_n 1, 1) := by decide +kernel
theorem d_M_attributeAt_172 : decode b_M_attributeAt 172 = .ok (.dup2, 1) := by decide +kernel
theorem d_M_attributeAt_173 : decode b_M_attributeAt 173 = .ok (.iaload, 1) := by decide +kernel
theorem d_M_attributeAt_174 : decode b_M_attributeAt 174 = .ok (.iconst 1, 1) := by decide +kernel
theorem d_M_attributeAt_175 : decode b_M_attributeAt 175 = .ok (.iadd, 1) := by decide +kernel
theorem d_M_attributeAt_176 : decode b_M_attributeAt 176 = .ok (.iastore, 1) := by decide +kernel
theorem d_M_attributeAt_177 : decode b_M_attributeAt 177 = .ok (.iload 5, 2) := by decide +kernel
theorem d_M_attributeAt_179 : decode b_M_attributeAt 179 = .ok (.iconst 1, 1) := by decide +kernel
theorem d_M_attributeAt_180 : decode b_M_attributeAt 180 = .ok (.iadd, 1) := by decide +kernel
theorem d_M_attributeAt_181 : decode b_M_attributeAt 181 = .ok (.ireturn, 1) := by decide +kernel
theorem d_M_content_0 : decode b_M_content 0 = .ok (.aload_n 0, 1) := by decide +kernel
theorem d_M_content_1 : decode b_M_content 1 = .ok (.getfield 29, 3) := by decide +kernel
theorem d_M_content_4 : decode b_M_content 4 = .ok (.aload_n 0, 1) := by decide +kernel
theorem d_M_content_5 : decode b_M_content 5 = .ok (.getfield 154, 3) := by decide +kernel
theorem d_M_content_8 : decode b_M_content 8 = .ok (.caload, 1) := by decide +kernel
theorem d_M_content_9 : decode b_M_content 9 = .ok (.istore_n 1, 1) := by decide +kernel
theorem d_M_content_10 : decode b_M_content 10 = .ok (.aload_n 0, 1) := by decide +kernel
theorem d_M_content_11 : decode b_M_content 11 = .ok (.getfield 154, 3) := by decide +kernel
theorem d_M_content_14 : decode b_M_content 14 = .ok (.iconst 1, 1) := by decide +kernel
theorem d_M_content_15 : decode b_M_content 15 = .ok (.iadd, 1) := by decide +kernel
theorem d_M_content_16 : decode b_M_content 16 = .ok (.istore_n 2, 1) := by decide +kernel
theorem d_M_content_17 : decode b_M_content 17 = .ok (.iload_n 1, 1) := by decide +kernel
theorem d_M_content_18 : decode b_M_content 18 = .ok (.bipush 38, 2) := by decide +kernel
theorem d_M_content_20 : decode b_M_content 20 = .ok (.if_icmp .ne 257, 3) := by decide +kernel
theorem d_M_content_23 : decode b_M_content 23 = .ok (.iconst (-1), 1) := by decide +kernel
theorem d_M_content_24 : decode b_M_content 24 = .ok (.istore_n 1, 1) := by decide +kernel
theorem d_M_content_25 : decode b_M_content 25 = .ok (.aload_n 0, 1) := by decide +kernel
theorem d_M_content_26 : decode b_M_content 26 = .ok (.iload_n 2, 1) := by decide +kernel
theorem d_M_content_27 : decode b_M_content 27 = .ok (.iconst 1, 1) := by decide +kernel
theorem d_M_content_28 : decode b_M_content 28 = .ok (.iadd, 1) := by decide +kernel
theorem d_M_content_29 : decode b_M_content 29 = .ok (.invokevirtual 147, 3) := by decide +kernel
theorem d_M_content_32 : decode b_M_content 32 = .ok (.istore_n 3, 1) := by decide +kernel
theorem d_M_content_33 : decode b_M_content 33 = .ok (.aload_n 0, 1) := by decide +kernel
theorem d_M_content_34 : decode b_M_content 34 = .ok (.iload_n 2, 1) := by decide +kernel
theorem d_M_content_35 : decode b_M_content 35 = .ok (.invokevirtual 147, 3) := by decide +kernel
theorem d_M_content_38 : decode b_M_content 38 = .ok (.bipush 35, 2) := by decide +kernel
theorem d_M_content_40 : decode b_M_content 40 = .ok (.if_icmp .ne 79, 3) := by decide +kernel
theorem d_M_content_43 : decode b_M_content 43 = .ok (.iconst 0, 1) := by decide +kernel
theorem d_M_content_44 : decode b_M_content 44 = .ok (.istore_n 1, 1) := by decide +kernel
theorem d_M_content_45 : decode b_M_content 45 = .ok (.iinc 2 1, 3) := by decide +kernel
theorem d_M_content_48 : decode b_M_content 48 = .ok (.iload_n 2, 1) := by decide +kernel
theorem d_M_content_49 : decode b_M_content 49 = .ok (.aload_n 0, 1) := by decide +kernel
theorem d_M_content_50 : decode b_M_content 50 = .ok (.getfield 154, 3) := by decide +kernel
theorem d_M_content_53 : decode b_M_content 53 = .ok (.isub, 1) := by decide +kernel
theorem d_M_content_54 : decode b_M_content 54 = .ok (.iconst 5, 1) := by decide +kernel
theorem d_M_content_55 : decode b_M_content 55 = .ok (.if_icmp .ge 43, 3) := by decide +kernel
theorem d_M_content_58 : decode b_M_content 58 = .ok (.aload_n 0, 1) := by decide +kernel
theorem d_M_content_59 : decode b_M_content 59 = .ok (.iload_n 2, 1) := by decide +kernel
theorem d_M_content_60 : decode b_M_content 60 = .ok (.invokevirtual 147, 3) := by decide +kernel
theorem d_M_content_63 : decode b_M_content 63 = .ok (.bipush 48, 2) := by decide +kernel
theorem d_M_content_65 : decode b_M_content 65 = .ok (.if_icmp .lt 33, 3) := by decide +kernel
theorem d_M_content_68 : decode b_M_content 68 = .ok (.aload_n 0, 1) := by decide +kernel
theorem d_M_content_69 : decode b_M_content 69 = .ok (.iload_n 2, 1) := by decide +kernel
theorem d_M_content_70 : decode b_M_content 70 = .ok (.invokevirtual 147, 3) := by decide +kernel
theorem d_M_content_73 : decode b_M_content 73 = .ok (.bipush 57, 2) := by decide +kernel
theorem d_M_content_75 : decode b_M_content 75 = .ok (.if_icmp .gt 23, 3) := by decide +kernel
theorem d_M_content_78 : decode b_M_content 78 = .ok (.bipush 10, 2) := by decide +kernel
theorem d_M_content_80 : decode b_M_content 80 = .ok (.iload_n 1, 1) := by decide +kernel
theorem d_M_content_81 : decode b_M_content 81 = .ok (.imul, 1) := by decide +kernel
theorem d_M_content_82 : decode b_M_content 82 = .ok (.aload_n 0, 1) := by decide +kernel
theorem d_M_content_83 : decode b_M_content 83 = .ok (.iload_n 2, 1) := by decide +kernel
theorem d_M_content_84 : decode b_M_content 84 = .ok (.invokevirtual 147, 3) := by decide +kernel
theorem d_M_content_87 : decode b_M_content 87 = .ok (.iadd, 1) := by decide +kernel
theorem d_M_content_88 : decode b_M_content 88 = .ok (.bipush 48, 2) := by decide +kernel
theorem d_M_content_90 : decode b_M_content 90 = .ok (.isub, 1) := by decide +kernel
theorem d_M_content_91 : decode b_M_content 91 = .ok (.istore_n 1, 1) := by decide +kernel
theorem d_M_content_92 : decode b_M_content 92 = .ok (.iinc 2 1, 3) := by decide +kernel
theorem d_M_content_95 : decode b_M_content 95 = .ok (.goto (-47), 3) := by decide +kernel
theorem d_M_content_98 : decode b_M_content 98 = .ok (.iload_n 1, 1) := by decide +kernel
theorem d_M_content_99 : decode b_M_content 99 = .ok (.bipush 32, 2) := by decide +kernel
theorem d_M_content_101 : decode b_M_content 101 = .ok (.if_icmp .lt 9, 3) := by decide +kernel
theorem d_M_content_104 : decode b_M_content 104 = .ok (.iload_n 1, 1) := by decide +kernel
theorem d_M_content_105 : decode b_M_content 105 = .ok (.bipush 126, 2) := by decide +kernel
theorem d_M_content_107 : decode b_M_content 107 = .ok (.if_icmp .le 7, 3) := by decide +kernel
theorem d_M_content_110 : decode b_M_content 110 = .ok (.iconst (-1), 1) := by decide +kernel
theorem d_M_content_111 : decode b_M_content 111 = .ok (.goto 4, 3) := by decide +kernel
theorem d_M_content_114 : decode b_M_content 114 = .ok (.iload_n 1, 1) := by decide +kernel
theorem d_M_content_115 : decode b_M_content 115 = .ok (.istore_n 1, 1) := by decide +kernel
theorem d_M_content_116 : decode b_M_content 116 = .ok (.goto 142, 3) := by decide +kernel
theorem d_M_content_119 : decode b_M_content 119 = .ok (.aload_n 0, 1) := by decide +kernel
theorem d_M_content_120 : decode b_M_content 120 = .ok (.iload_n 2, 1) := by decide +kernel
theorem d_M_content_121 : decode b_M_content 121 = .ok (.invokevirtual 147, 3) := by decide +kernel
theorem d_M_content_124 : decode b_M_content 124 = .ok (.bipush 108, 2) := by decide +kernel
theorem d_M_content_126 : decode b_M_content 126 = .ok (.if_icmp .ne 9, 3) := by decide +kernel
theorem d_M_content_129 : decode b_M_content 129 = .ok (.iload_n 3, 1) := by decide +kernel
theorem d_M_content_130 : decode b_M_content 130 = .ok (.bipush 116, 2) := by decide +kernel
theorem d_M_content_132 : decode b_M_content 132 = .ok (.if_icmp .eq 19, 3) := by decide +kernel
theorem d_M_content_135 : decode b_M_content 135 = .ok (.aload_n 0, 1) := by decide +kernel
theorem d_M_content_136 : decode b_M_content 136 = .ok (.iload_n 2, 1) := by decide +kernel
theorem d_M_content_137 : decode b_M_content 137 = .ok (.invokevirtual 147, 3) := by decide +kernel
theorem d_M_content_140 : decode b_M_content 140 = .ok (.bipush 103, 2) := by decide +kernel
theorem d_M_content_142 : decode b_M_content 142 = .ok (.if_icmp .ne 33, 3) := by decide +kernel
theorem d_M_content_145 : decode b_M_content 145 = .ok (.iload_n 3, 1) := by decide +kernel
theorem d_M_content_146 : decode b_M_content 146 = .ok (.bipush 116, 2) := by decide +kernel
theorem d_M_content_148 : decode b_M_content 148 = .ok (.if_icmp .ne 27, 3) := by decide +kernel
theorem d_M_content_151 : decode b_M_content 151 = .ok (.aload_n 0, 1) := by decide +kernel
theorem d_M_content_152 : decode b_M_content 152 = .ok (.iload_n 2, 1) := by decide +kernel
theorem d_M_content_153 : decode b_M_content 153 = .ok (.invokevirtual 147, 3) := by decide +kernel
theorem d_M_content_156 : decode b_M_content 156 = .ok (.bipush 108, 2) := by decide +kernel
theorem d_M_content_158 : decode b_M_content 158 = .ok (.if_icmp .ne 8, 3) := by decide +kernel
theorem d_M_content_161 : decode b_M_content 161 = .ok (.bipush 60, 2) := by decide +kernel
theorem d_M_content_163 : decode b_M_content 163 = .ok (.goto 5, 3) := by decide +kernel
theorem d_M_content_166 : decode b_M_content 166 = .ok (.bipush 62, 2) := by decide +kernel
theorem d_M_content_168 : decode b_M_content 168 = .ok (.istore_n 1, 1) := by decide +kernel
theorem d_M_content_169 : decode b_M_content 169 = .ok (.iinc 2 2, 3) := by decide +kernel
theorem d_M_content_172 : decode b_M_content 172 = .ok (.goto 86, 3) := by decide +kernel
theorem d_M_content_175 : decode b_M_content 175 = .ok (.aload_n 0, 1) := by decide +kernel
theorem d_M_content_176 : decode b_M_content 176 = .ok (.iload_n 2, 1) := by decide +kernel
theorem d_M_content_177 : decode b_M_content 177 = .ok (.invokevirtual 147, 3) := by decide +kernel
theorem d_M_content_180 : decode b_M_content 180 = .ok (.bipush 97, 2) := by decide +kernel
theorem d_M_content_182 : decode b_M_content 182 = .ok (.if_icmp .ne 30, 3) := by decide +kernel
theorem d_M_content_185 : decode b_M_content 185 = .ok (.iload_n 3, 1) := by decide +kernel
theorem d_M_content_186 : decode b_M_content 186 = .ok (.bipush 109, 2) := by decide +kernel
theorem d_M_content_188 : decode b_M_content 188 = .ok (.if_icmp .ne 24, 3) := by decide +kernel
theorem d_M_content_191 : decode b_M_content 191 = .ok (.aload_n 0, 1) := by decide +kernel
theorem d_M_content_192 : decode b_M_content 192 = .ok (.iload_n 2, 1) := by decide +kernel
theorem d_M_content_193 : decode b_M_content 193 = .ok (.iconst 2, 1) := by decide +kernel
theorem d_M_content_194 : decode b_M_content 194 = .ok (.iadd, 1) := by decide +kernel
theorem d_M_content_195 : decode b_M_content 195 = .ok (.invokevirtual 147, 3) := by decide +kernel
theorem d_M_content_198 : decode b_M_content 198 = .ok (.bipush 112, 2) := by decide +kernel
theorem d_M_content_200 : decode b_M_content 200 = .ok (.if_icmp .ne 12, 3) := by decide +kernel
theorem d_M_content_203 : decode b_M_content 203 = .ok (.bipush 38, 2) := by decide +kernel
theorem d_M_content_205 : decode b_M_content 205 = .ok (.istore_n 1, 1) := by decide +kernel
theorem d_M_content_206 : decode b_M_content 206 = .ok (.iinc 2 3, 3) := by decide +kernel
theorem d_M_content_209 : decode b_M_content 209 = .ok (.goto 49, 3) := by decide +kernel
theorem d_M_content_212 : decode b_M_content 212 = .ok (.aload_n 0, 1) := by decide +kernel
theorem d_M_content_213 : decode b_M_content 213 = .ok (.iload_n 2, 1) := by decide +kernel
theorem d_M_content_214 : decode b_M_content 214 = .ok (.invokevirtual 147, 3) := by decide +kernel
theorem d_M_content_217 : decode b_M_content 217 = .ok (.bipush 113, 2) := by decide +kernel
theorem d_M_content_219 : decode b_M_content 219 = .ok (.if_icmp .ne 39, 3) := by decide +kernel
theorem d_M_content_222 : decode b_M_content 222 = .ok (.iload_n 3, 1) := by decide +kernel
theorem d_M_content_223 : decode b_M_content 223 = .ok (.bipush 117, 2) := by decide +kernel
theorem d_M_content_225 : decode b_M_content 225 = .ok (.if_icmp .ne 33, 3) := by decide +kernel
theorem d_M_content_228 : decode b_M_content 228 = .ok (.aload_n 0, 1) := by decide +kernel
theorem d_M_content_229 : decode b_M_content 229 = .ok (.iload_n 2, 1) := by decide +kernel
theorem d_M_content_230 : decode b_M_content 230 = .ok (.iconst 2, 1) := by decide +kernel
theorem d_M_content_231 : decode b_M_content 231 = .ok (.iadd, 1) := by decide +kernel
theorem d_M_content_232 : decode b_M_content 232 = .ok (.invokevirtual 147, 3) := by decide +kernel
theorem d_M_content_235 : decode b_M_content 235 = .ok (.bipush 111, 2) := by decide +kernel
theorem d_M_content_237 : decode b_M_content 237 = .ok (.if_icmp .ne 21, 3) := by decide +kernel
theorem d_M_content_240 : decode b_M_content 240 = .ok (.aload_n 0, 1) := by decide +kernel
theorem d_M_content_241 : decode b_M_content 241 = .ok (.iload_n 2, 1) := by decide +kernel
theorem d_M_content_242 : decode b_M_content 242 = .ok (.iconst 3, 1) := by decide +kernel
theorem d_M_content_243 : decode b_M_content 243 = .ok (.iadd, 1) := by decide +kernel
theorem d_M_content_244 : decode b_M_content 244 = .ok (.invokevirtual 147, 3) := by decide +kernel
theorem d_M_content_247 : decode b_M_content 247 = .ok (.bipush 116, 2) := by decide +kernel
theorem d_M_content_249 : decode b_M_content 249 = .ok (.if_icmp .ne 9, 3) := by decide +kernel
theorem d_M_content_252 : decode b_M_content 252 = .ok (.bipush 34, 2) := by decide +kernel
theorem d_M_content_254 : decode b_M_content 254 = .ok (.istore_n 1, 1) := by decide +kernel
theorem d_M_content_255 : decode b_M_content 255 = .ok (.iinc 2 4, 3) := by decide +kernel
theorem d_M_content_258 : decode b_M_content 258 = .ok (.iload_n 1, 1) := by decide +kernel
theorem d_M_content_259 : decode b_M_content 259 = .ok (.ifCond .lt 13, 3) := by decide +kernel
theorem d_M_content_262 : decode b_M_content 262 = .ok (.aload_n 0, 1) := by decide +kernel
theorem d_M_content_263 : decode b_M_content 263 = .ok (.iload_n 2, 1) := by decide +kernel
theorem d_M_content_264 : decode b_M_content 264 = .ok (.invokevirtual 147, 3) := by decide +kernel
theorem d_M_content_267 : decode b_M_content 267 = .ok (.bipush 59, 2) := by decide +kernel
theorem d_M_content_269 : decode b_M_content 269 = .ok (.if_icmp .eq 5, 3) := by decide +kernel
theorem d_M_content_272 : decode b_M_content 272 = .ok (.iconst 0, 1) := by decide +kernel
theorem d_M_content_273 : decode b_M_content 273 = .ok (.ireturn, 1) := by decide +kernel
theorem d_M_content_274 : decode b_M_content 274 = .ok (.iinc 2 1, 3) := by decide +kernel
theorem d_M_content_277 : decode b_M_content 277 = .ok (.aload_n 0, 1) := by decide +kernel
theorem d_M_content_278 : decode b_M_content 278 = .ok (.getfield 45, 3) := by decide +kernel
theorem d_M_content_281 : decode b_M_content 281 = .ok (.aload_n 0, 1) := by decide +kernel
theorem d_M_content_282 : decode b_M_content 282 = .ok (.getfield 157, 3) := by decide +kernel
theorem d_M_content_285 : decode b_M_content 285 = .ok (.iaload, 1) := by decide +kernel
theorem d_M_content_286 : decode b_M_content 286 = .ok (.bipush 12, 2) := by decide +kernel
theorem d_M_content_288 : decode b_M_content 288 = .ok (.if_icmp .ge 27, 3) := by decide +kernel
theorem d_M_content_291 : decode b_M_content 291 = .ok (.aload_n 0, 1) := by decide +kernel
theorem d_M_content_292 : decode b_M_content 292 = .ok (.getfield 48, 3) := by decide +kernel
theorem d_M_content_295 : decode b_M_content 295 = .ok (.bipush 12, 2) := by decide +kernel
theorem d_M_content_297 : decode b_M_content 297 = .ok (.aload_n 0, 1) := by decide +kernel
theorem d_M_content_298 : decode b_M_content 298 = .ok (.getfield 157, 3) := by decide +kernel
theorem d_M_content_301 : decode b_M_content 301 = .ok (.imul, 1) := by decide +kernel
theorem d_M_content_302 : decode b_M_content 302 = .ok (.aload_n 0, 1) := by decide +kernel
theorem d_M_content_303 : decode b_M_content 303 = .ok (.getfield 45, 3) := by decide +kernel
theorem d_M_content_306 : decode b_M_content 306 = .ok (.aload_n 0, 1) := by decide +kernel
theorem d_M_content_307 : decode b_M_content 307 = .ok (.getfield 157, 3) := by decide +kernel
theorem d_M_content_310 : decode b_M_content 310 = .ok (.iaload, 1) := by decide +kernel
theorem d_M_content_311 : decode b_M_content 311 = .ok (.iadd, 1) := by decide +kernel
theorem d_M_content_312 : decode b_M_content 312 = .ok (.iload_n 1, 1) := by decide +kernel
theorem d_M_content_313 : decode b_M_content 313 = .ok (.i2c, 1) := by decide +kernel
theorem d_M_content_314 : decode b_M_content 314 = .ok (.castore, 1) := by decide +kernel
theorem d_M_content_315 : decode b_M_content 315 = .ok (.aload_n 0, 1) := by decide +kernel
theorem d_M_content_316 : decode b_M_content 316 = .ok (.getfield 45, 3) := by decide +kernel
theorem d_M_content_319 : decode b_M_content 319 = .ok (.aload_n 0, 1) := by decide +kernel
theorem d_M_content_320 : decode b_M_content 320 = .ok (.getfield 157, 3) := by decide +kernel
theorem d_M_content_323 : decode b_M_content 323 = .ok (.dup2, 1) := by decide +kernel
theorem d_M_content_324 : decode b_M_content 324 = .ok (.iaload, 1) := by decide +kernel
theorem d_M_content_325 : decode b_M_content 325 = .ok (.iconst 1, 1) := by decide +kernel
theorem d_M_content_326 : decode b_M_content 326 = .ok (.iadd, 1) := by decide +kernel
theorem d_M_content_327 : decode b_M_content 327 = .ok (.iastore, 1) := by decide +kernel
theorem d_M_content_328 : decode b_M_content 328 = .ok (.aload_n 0, 1) := by decide +kernel
theorem d_M_content_329 : decode b_M_content 329 = .ok (.iload_n 2, 1) := by decide +kernel
theorem d_M_content_330 : decode b_M_content 330 = .ok (.putfield 154, 3) := by decide +kernel
theorem d_M_content_333 : decode b_M_content 333 = .ok (.iconst 1, 1) := by decide +kernel
theorem d_M_content_334 : decode b_M_content 334 = .ok (.ireturn, 1) := by decide +kernel
theorem d_M_attr_0 : decode b_M_attr 0 = .ok (.iconst 0, 1) := by decide +kernel
theorem d_M_attr_1 : decode b_M_attr 1 = .ok (.istore_n 3, 1) := by decide +kernel
theorem d_M_attr_2 : decode b_M_attr 2 = .ok (.iload_n 3, 1) := by decide +kernel
theorem d_M_attr_3 : decode b_M_attr 3 = .ok (.aload_n 0, 1) := by decide +kernel
theorem d_M_attr_4 : decode b_M_attr 4 = .ok (.getfield 42, 3) := by decide +kernel
theorem d_M_attr_7 : decode b_M_attr 7 = .ok (.iload_n 1, 1) := by decide +kernel
theorem d_M_attr_8 : decode b_M_attr 8 = .ok (.iaload, 1) := by decide +kernel
theorem d_M_attr_9 : decode b_M_attr 9 = .ok (.if_icmp .ge 35, 3) := by decide +kernel
theorem d_M_attr_12 : decode b_M_attr 12 = .ok (.aload_n 0, 1) := by decide +kernel
theorem d_M_attr_13 : decode b_M_attr 13 = .ok (.getfield 57, 3) := by decide +kernel
theorem d_M_attr_16 : decode b_M_attr 16 = .ok (.aload_n 0, 1) := by decide +kernel
theorem d_M_attr_17 : decode b_M_attr 17 = .ok (.getfield 39, 3) := by decide +kernel
theorem d_M_attr_20 : decode b_M_attr 20 = .ok (.iload_n 1, 1) := by decide +kernel
theorem d_M_attr_21 : decode b_M_attr 21 = .ok (.iaload, 1) := by decide +kernel
theorem d_M_attr_22 : decode b_M_attr 22 = .ok (.iload_n 3, 1) := by decide +kernel
theorem d_M_attr_23 : decode b_M_attr 23 = .ok (.iadd, 1) := by decide +kernel
theorem d_M_attr_24 : decode b_M_attr 24 = .ok (.iaload, 1) := by decide +kernel
theorem d_M_attr_25 : decode b_M_attr 25 = .ok (.iload_n 2, 1) := by decide +kernel
theorem d_M_attr_26 : decode b_M_attr 26 = .ok (.if_icmp .ne 12, 3) := by decide +kernel
theorem d_M_attr_29 : decode b_M_attr 29 = .ok (.aload_n 0, 1) := by decide +kernel
theorem d_M_attr_30 : decode b_M_attr 30 = .ok (.getfield 39, 3) := by decide +kernel
theorem d_M_attr_33 : decode b_M_attr 33 = .ok (.iload_n 1, 1) := by decide +kernel
theorem d_M_attr_34 : decode b_M_attr 34 = .ok (.iaload, 1) := by decide +kernel
theorem d_M_attr_35 : decode b_M_attr 35 = .ok (.iload_n 3, 1) := by decide +kernel
theorem d_M_attr_36 : decode b_M_attr 36 = .ok (.iadd, 1) := by decide +kernel
theorem d_M_attr_37 : decode b_M_attr 37 = .ok (.ireturn, 1) := by decide +kernel
theorem d_M_attr_38 : decode b_M_attr 38 = .ok (.iinc 3 1, 3) := by decide +kernel
theorem d_M_attr_41 : decode b_M_attr 41 = .ok (.goto (-39), 3) := by decide +kernel
theorem d_M_attr_44 : decode b_M_attr 44 = .ok (.iconst (-1), 1) := by decide +kernel
theorem d_M_attr_45 : decode b_M_attr 45 = .ok (.ireturn, 1) := by decide +kernel
theorem d_M_countOf_0 : decode b_M_countOf 0 = .ok (.iload_n 1, 1) := by decide +kernel
theorem d_M_countOf_1 : decode b_M_countOf 1 = .ok (.ifCond .ge 5, 3) := by decide +kernel
theorem d_M_countOf_4 : decode b_M_countOf 4 = .ok (.iconst (-1), 1) := by decide +kernel
theorem d_M_countOf_5 : decode b_M_countOf 5 = .ok (.ireturn, 1) := by decide +kernel
theorem d_M_countOf_6 : decode b_M_countOf 6 = .ok (.aload_n 0, 1) := by decide +kernel
theorem d_M_countOf_7 : decode b_M_countOf 7 = .ok (.getfield 63, 3) := by decide +kernel
theorem d_M_countOf_10 : decode b_M_countOf 10 = .ok (.iload_n 1, 1) := by decide +kernel
theorem d_M_countOf_11 : decode b_M_countOf 11 = .ok (.iaload, 1) := by decide +kernel
theorem d_M_countOf_12 : decode b_M_countOf 12 = .ok (.aload_n 0, 1) := by decide +kernel
theorem d_M_countOf_13 : decode b_M_countOf 13 = .ok (.getfield 60, 3) := by decide +kernel
theorem d_M_countOf_16 : decode b_M_countOf 16 = .ok (.iload_n 1, 1) := by decide +kernel
theorem d_M_countOf_17 : decode b_M_countOf 17 = .ok (.iaload, 1) := by decide +kernel
theorem d_M_countOf_18 : decode b_M_countOf 18 = .ok (.isub, 1) := by decide +kernel
theorem d_M_countOf_19 : decode b_M_countOf 19 = .ok (.istore_n 2, 1) := by decide +kernel
theorem d_M_countOf_20 : decode b_M_countOf 20 = .ok (.iload_n 2, 1) := by decide +kernel
theorem d_M_countOf_21 : decode b_M_countOf 21 = .ok (.iconst 1, 1) := by decide +kernel
theorem d_M_countOf_22 : decode b_M_countOf 22 = .ok (.if_icmp .lt 8, 3) := by decide +kernel
theorem d_M_countOf_25 : decode b_M_countOf 25 = .ok (.iload_n 2, 1) := by decide +kernel
theorem d_M_countOf_26 : decode b_M_countOf 26 = .ok (.iconst 2, 1) := by decide +kernel
theorem d_M_countOf_27 : decode b_M_countOf 27 = .ok (.if_icmp .le 5, 3) := by decide +kernel
theorem d_M_countOf_30 : decode b_M_countOf 30 = .ok (.iconst (-1), 1) := by decide +kernel
theorem d_M_countOf_31 : decode b_M_countOf 31 = .ok (.ireturn, 1) := by decide +kernel
theorem d_M_countOf_32 : decode b_M_countOf 32 = .ok (.iconst 0, 1) := by decide +kernel
theorem d_M_countOf_33 : decode b_M_countOf 33 = .ok (.istore_n 3, 1) := by decide +kernel
theorem d_M_countOf_34 : decode b_M_countOf 34 = .ok (.aload_n 0, 1) := by decide +kernel
theorem d_M_countOf_35 : decode b_M_countOf 35 = .ok (.getfield 60, 3) := by decide +kernel
theorem d_M_countOf_38 : decode b_M_countOf 38 = .ok (.iload_n 1, 1) := by decide +kernel
theorem d_M_countOf_39 : decode b_M_countOf 39 = .ok (.iaload, 1) := by decide +kernel
theorem d_M_countOf_40 : decode b_M_countOf 40 = .ok (.istore 4, 2) := by decide +kernel
theorem d_M_countOf_42 : decode b_M_countOf 42 = .ok (.iload 4, 2) := by decide +kernel
theorem d_M_countOf_44 : decode b_M_countOf 44 = .ok (.aload_n 0, 1) := by decide +kernel
theorem d_M_countOf_45 : decode b_M_countOf 45 = .ok (.getfield 63, 3) := by decide +kernel
theorem d_M_countOf_48 : decode b_M_countOf 48 = .ok (.iload_n 1, 1) := by decide +kernel
theorem d_M_countOf_49 : decode b_M_countOf 49 = .ok (.iaload, 1) := by decide +kernel
theorem d_M_countOf_50 : decode b_M_countOf 50 = .ok (.if_icmp .ge 51, 3) := by decide +kernel
theorem d_M_countOf_53 : decode b_M_countOf 53 = .ok (.aload_n 0, 1) := by decide +kernel
theorem d_M_countOf_54 : decode b_M_countOf 54 = .ok (.getfield 29, 3) := by decide +kernel
theorem d_M_countOf_57 : decode b_M_countOf 57 = .ok (.iload 4, 2) := by decide +kernel
theorem d_M_countOf_59 : decode b_M_countOf 59 = .ok (.caload, 1) := by decide +kernel
theorem d_M_countOf_60 : decode b_M_countOf 60 = .ok (.bipush 48, 2) := by decide +kernel
theorem d_M_countOf_62 : decode b_M_countOf 62 = .ok (.if_icmp .lt 15, 3) := by decide +kernel
theorem d_M_countOf_65 : decode b_M_countOf 65 = .ok (.aload_n 0, 1) := by decide +kernel
theorem d_M_countOf_66 : decode b_M_countOf 66 = .ok (.getfield 29, 3) := by decide +kernel
theorem d_M_countOf_69 : decode b_M_countOf 69 = .ok (.iload 4, 2) := by decide +kernel
theorem d_M_countOf_71 : decode b_M_countOf 71 = .ok (.caload, 1) := by decide +kernel
theorem d_M_countOf_72 : decode b_M_countOf 72 = .ok (.bipush 57, 2) := by decide +kernel
theorem d_M_countOf_74 : decode b_M_countOf 74 = .ok (.if_icmp .le 5, 3) := by decide +kernel
theorem d_M_countOf_77 : decode b_M_countOf 77 = .ok (.iconst (-1), 1) := by decide +kernel
theorem d_M_countOf_78 : decode b_M_countOf 78 = .ok (.ireturn, 1) := by decide +kernel
theorem d_M_countOf_79 : decode b_M_countOf 79 = .ok (.bipush 10, 2) := by decide +kernel
theorem d_M_countOf_81 : decode b_M_countOf 81 = .ok (.iload_n 3, 1) := by decide +kernel
theorem d_M_countOf_82 : decode b_M_countOf 82 = .ok (.imul, 1) := by decide +kernel
theorem d_M_countOf_83 : decode b_M_countOf 83 = .ok (.aload_n 0, 1) := by decide +kernel
theorem d_M_countOf_84 : decode b_M_countOf 84 = .ok (.getfield 29, 3) := by decide +kernel
theorem d_M_countOf_87 : decode b_M_countOf 87 = .ok (.iload 4, 2) := by decide +kernel
theorem d_M_countOf_89 : decode b_M_countOf 89 = .ok (.caload, 1) := by decide +kernel
theorem d_M_countOf_90 : decode b_M_countOf 90 = .ok (.iadd, 1) := by decide +kernel
theorem d_M_countOf_91 : decode b_M_countOf 91 = .ok (.bipush 48, 2) := by decide +kernel
theorem d_M_countOf_93 : decode b_M_countOf 93 = .ok (.isub, 1) := by decide +kernel
theorem d_M_countOf_94 : decode b_M_countOf 94 = .ok (.istore_n 3, 1) := by decide +kernel
theorem d_M_countOf_95 : decode b_M_countOf 95 = .ok (.iinc 4 1, 3) := by decide +kernel
theorem d_M_countOf_98 : decode b_M_countOf 98 = .ok (.goto (-56), 3) := by decide +kernel
theorem d_M_countOf_101 : decode b_M_countOf 101 = .ok (.iload_n 3, 1) := by decide +kernel
theorem d_M_countOf_102 : decode b_M_countOf 102 = .ok (.ireturn, 1) := by decide +kernel
theorem d_M_countIn_0 : decode b_M_countIn 0 = .ok (.aload_n 0, 1) := by decide +kernel
theorem d_M_countIn_1 : decode b_M_countIn 1 = .ok (.iload_n 1, 1) := by decide +kernel
theorem d_M_countIn_2 : decode b_M_countIn 2 = .ok (.iload_n 2, 1) := by decide +kernel
theorem d_M_countIn_3 : decode b_M_countIn 3 = .ok (.invokevirtual 185, 3) := by decide +kernel
theorem d_M_countIn_6 : decode b_M_countIn 6 = .ok (.istore_n 3, 1) := by decide +kernel
theorem d_M_countIn_7 : decode b_M_countIn 7 = .ok (.aload_n 0, 1) := by decide +kernel
theorem d_M_countIn_8 : decode b_M_countIn 8 = .ok (.iload_n 3, 1) := by decide +kernel
theorem d_M_countIn_9 : decode b_M_countIn 9 = .ok (.invokevirtual 188, 3) := by decide +kernel
theorem d_M_countIn_12 : decode b_M_countIn 12 = .ok (.ireturn, 1) := by decide +kernel
theorem d_M_isOne_0 : decode b_M_isOne 0 = .ok (.aload_n 0, 1) := by decide +kernel
theorem d_M_isOne_1 : decode b_M_isOne 1 = .ok (.iload_n 1, 1) := by decide +kernel
theorem d_M_isOne_2 : decode b_M_isOne 2 = .ok (.iload_n 2, 1) := by decide +kernel
theorem d_M_isOne_3 : decode b_M_isOne 3 = .ok (.invokevirtual 185, 3) := by decide +kernel
theorem d_M_isOne_6 : decode b_M_isOne 6 = .ok (.istore_n 3, 1) := by decide +kernel
theorem d_M_isOne_7 : decode b_M_isOne 7 = .ok (.iload_n 3, 1) := by decide +kernel
theorem d_M_isOne_8 : decode b_M_isOne 8 = .ok (.ifCond .lt 40, 3) := by decide +kernel
theorem d_M_isOne_11 : decode b_M_isOne 11 = .ok (.aload_n 0, 1) := by decide +kernel
theorem d_M_isOne_12 : decode b_M_isOne 12 = .ok (.getfield 63, 3) := by decide +kernel
theorem d_M_isOne_15 : decode b_M_isOne 15 = .ok (.iload_n 3, 1) := by decide +kernel
theorem d_M_isOne_16 : decode b_M_isOne 16 = .ok (.iaload, 1) := by decide +kernel
theorem d_M_isOne_17 : decode b_M_isOne 17 = .ok (.aload_n 0, 1) := by decide +kernel
theorem d_M_isOne_18 : decode b_M_isOne 18 = .ok (.getfield 60, 3) := by decide +kernel
theorem d_M_isOne_21 : decode b_M_isOne 21 = .ok (.iload_n 3, 1) := by decide +kernel
theorem d_M_isOne_22 : decode b_M_isOne 22 = .ok (.iaload, 1) := by decide +kernel
theorem d_M_isOne_23 : decode b_M_isOne 23 = .ok (.isub, 1) := by decide +kernel
theorem d_M_isOne_24 : decode b_M_isOne 24 = .ok (.iconst 1, 1) := by decide +kernel
theorem d_M_isOne_25 : decode b_M_isOne 25 = .ok (.if_icmp .ne 23, 3) := by decide +kernel
theorem d_M_isOne_28 : decode b_M_isOne 28 = .ok (.aload_n 0, 1) := by decide +kernel
theorem d_M_isOne_29 : decode b_M_isOne 29 = .ok (.getfield 29, 3) := by decide +kernel
theorem d_M_isOne_32 : decode b_M_isOne 32 = .ok (.aload_n 0, 1) := by decide +kernel
theorem d_M_isOne_33 : decode b_M_isOne 33 = .ok (.getfield 60, 3) := by decide +kernel
theorem d_M_isOne_36 : decode b_M_isOne 36 = .ok (.iload_n 3, 1) := by decide +kernel
theorem d_M_isOne_37 : decode b_M_isOne 37 = .ok (.iaload, 1) := by decide +kernel
theorem d_M_isOne_38 : decode b_M_isOne 38 = .ok (.caload, 1) := by decide +kernel
theorem d_M_isOne_39 : decode b_M_isOne 39 = .ok (.bipush 49, 2) := by decide +kernel
theorem d_M_isOne_41 : decode b_M_isOne 41 = .ok (.if_icmp .ne 7, 3) := by decide +kernel
theorem d_M_isOne_44 : decode b_M_isOne 44 = .ok (.iconst 1, 1) := by decide +kernel
theorem d_M_isOne_45 : decode b_M_isOne 45 = .ok (.goto 4, 3) := by decide +kernel
theorem d_M_isOne_48 : decode b_M_isOne 48 = .ok (.iconst 0, 1) := by decide +kernel
theorem d_M_isOne_49 : decode b_M_isOne 49 = .ok (.ireturn, 1) := by decide +kernel
theorem d_M_numberOf_0 : decode b_M_numberOf 0 = .ok (.aload_n 0, 1) := by decide +kernel
theorem d_M_numberOf_1 : decode b_M_numberOf 1 = .ok (.getfield 45, 3) := by decide +kernel
theorem d_M_numberOf_4 : decode b_M_numberOf 4 = .ok (.iload_n 1, 1) := by decide +kernel
theorem d_M_numberOf_5 : decode b_M_numberOf 5 = .ok (.iaload, 1) := by decide +kernel
theorem d_M_numberOf_6 : decode b_M_numberOf 6 = .ok (.istore_n 2, 1) := by decide +kernel
theorem d_M_numberOf_7 : decode b_M_numberOf 7 = .ok (.iload_n 2, 1) := by decide +kernel
theorem d_M_numberOf_8 : decode b_M_numberOf 8 = .ok (.ifCond .le 21, 3) := by decide +kernel
theorem d_M_numberOf_11 : decode b_M_numberOf 11 = .ok (.aload_n 0, 1) := by decide +kernel
theorem d_M_numberOf_12 : decode b_M_numberOf 12 = .ok (.getfield 48, 3) := by decide +kernel
theorem d_M_numberOf_15 : decode b_M_numberOf 15 = .ok (.bipush 12, 2) := by decide +kernel
theorem d_M_numberOf_17 : decode b_M_numberOf 17 = .ok (.iload_n 1, 1) := by decide +kernel
theorem d_M_numberOf_18 : decode b_M_numberOf 18 = .ok (.imul, 1) := by decide +kernel
theorem d_M_numberOf_19 : decode b_M_numberOf 19 = .ok (.caload, 1) := by decide +kernel
theorem d_M_numberOf_20 : decode b_M_numberOf 20 = .ok (.bipush 45, 2) := by decide +kernel
theorem d_M_numberOf_22 : decode b_M_numberOf 22 = .ok (.if_icmp .ne 7, 3) := by decide +kernel
theorem d_M_numberOf_25 : decode b_M_numberOf 25 = .ok (.iconst 1, 1) := by decide +kernel
theorem d_M_numberOf_26 : decode b_M_numberOf 26 = .ok (.goto 4, 3) := by decide +kernel
theorem d_M_numberOf_29 : decode b_M_numberOf 29 = .ok (.iconst 0, 1) := by decide +kernel
theorem d_M_numberOf_30 : decode b_M_numberOf 30 = .ok (.istore_n 3, 1) := by decide +kernel
theorem d_M_numberOf_31 : decode b_M_numberOf 31 = .ok (.iload_n 3, 1) := by decide +kernel
theorem d_M_numberOf_32 : decode b_M_numberOf 32 = .ok (.ifCond .eq 7, 3) := by decide +kernel
theorem d_M_numberOf_35 : decode b_M_numberOf 35 = .ok (.iconst 1, 1) := by decide +kernel
theorem d_M_numberOf_36 : decode b_M_numberOf 36 = .ok (.goto 4, 3) := by decide +kernel
theorem d_M_numberOf_39 : decode b_M_numberOf 39 = .ok (.iconst 0, 1) := by decide +kernel
theorem d_M_numberOf_40 : decode b_M_numberOf 40 = .ok (.istore 4, 2) := by decide +kernel
theorem d_M_numberOf_42 : decode b_M_numberOf 42 = .ok (.iload_n 2, 1) := by decide +kernel
theorem d_M_numberOf_43 : decode b_M_numberOf 43 = .ok (.iload 4, 2) := by decide +kernel
theorem d_M_numberOf_45 : decode b_M_numberOf 45 = .ok (.if_icmp .eq 12, 3) := by decide +kernel
theorem d_M_numberOf_48 : decode b_M_numberOf 48 = .ok (.iload_n 2, 1) := by decide +kernel
theorem d_M_numberOf_49 : decode b_M_numberOf 49 = .ok (.iload 4, 2) := by decide +kernel
theorem d_M_numberOf_51 : decode b_M_numberOf 51 = .ok (.isub, 1) := by decide +kernel
theorem d_M_numberOf_52 : decode b_M_numberOf 52 = .ok (.bipush 10, 2) := by decide +kernel
theorem d_M_numberOf_54 : decode b_M_numberOf 54 = .ok (.if_icmp .le 7, 3) := by decide +kernel
theorem d_M_numberOf_57 : decode b_M_numberOf 57 = .ok (.ldc2_w 191, 3) := by decide +kernel
theorem d_M_numberOf_60 : decode b_M_numberOf 60 = .ok (.lreturn, 1) := by decide +kernel
theorem d_M_numberOf_61 : decode b_M_numberOf 61 = .ok (.lconst 0, 1) := by decide +kernel
theorem d_M_numberOf_62 : decode b_M_numberOf 62 = .ok (.lstore 5, 2) := by decide +kernel
theorem d_M_numberOf_64 : decode b_M_numberOf 64 = .ok (.iload 4, 2) := by decide +kernel
theorem d_M_numberOf_66 : decode b_M_numberOf 66 = .ok (.iload_n 2, 1) := by decide +kernel
theorem d_M_numberOf_67 : decode b_M_numberOf 67 = .ok (.if_icmp .ge 57, 3) := by decide +kernel
theorem d_M_numberOf_70 : decode b_M_numberOf 70 = .ok (.aload_n 0, 1) := by decide +kernel
theorem d_M_numberOf_71 : decode b_M_numberOf 71 = .ok (.getfield 48, 3) := by decide +kernel
theorem d_M_numberOf_74 : decode b_M_numberOf 74 = .ok (.bipush 12, 2) := by decide +kernel
theorem d_M_numberOf_76 : decode b_M_numberOf 76 = .ok (.iload_n 1, 1) := by decide +kernel
theorem d_M_numberOf_77 : decode b_M_numberOf 77 = .ok (.imul, 1) := by decide +kernel
theorem d_M_numberOf_78 : decode b_M_numberOf 78 = .ok (.iload 4, 2) := by decide +kernel
theorem d_M_numberOf_80 : decode b_M_numberOf 80 = .ok (.iadd, 1) := by decide +kernel
theorem d_M_numberOf_81 : decode b_M_numberOf 81 = .ok (.caload, 1) := by decide +kernel
theorem d_M_numberOf_82 : decode b_M_numberOf 82 = .ok (.istore 7, 2) := by decide +kernel
theorem d_M_numberOf_84 : decode b_M_numberOf 84 = .ok (.iload 7, 2) := by decide +kernel
theorem d_M_numberOf_86 : decode b_M_numberOf 86 = .ok (.bipush 48, 2) := by decide +kernel
theorem d_M_numberOf_88 : decode b_M_numberOf 88 = .ok (.if_icmp .lt 10, 3) := by decide +kernel
theorem d_M_numberOf_91 : decode b_M_numberOf 91 = .ok (.iload 7, 2) := by decide +kernel
theorem d_M_numberOf_93 : decode b_M_numberOf 93 = .ok (.bipush 57, 2) := by decide +kernel
theorem d_M_numberOf_95 : decode b_M_numberOf 95 = .ok (.if_icmp .le 7, 3) := by decide +kernel
theorem d_M_numberOf_98 : decode b_M_numberOf 98 = .ok (.ldc2_w 191, 3) := by decide +kernel
theorem d_M_numberOf_101 : decode b_M_numberOf 101 = .ok (.lreturn, 1) := by decide +kernel
theorem d_M_numberOf_102 : decode b_M_numberOf 102 = .ok (.ldc2_w 117, 3) := by decide +kernel
theorem d_M_numberOf_105 : decode b_M_numberOf 105 = .ok (.lload 5, 2) := by decide +kernel
theorem d_M_numberOf_107 : decode b_M_numberOf 107 = .ok (.lmul, 1) := by decide +kernel
theorem d_M_numberOf_108 : decode b_M_numberOf 108 = .ok (.iload 7, 2) := by decide +kernel
theorem d_M_numberOf_110 : decode b_M_numberOf 110 = .ok (.i2l, 1) := by decide +kernel
theorem d_M_numberOf_111 : decode b_M_numberOf 111 = .ok (.ladd, 1) := by decide +kernel
theorem d_M_numberOf_112 : decode b_M_numberOf 112 = .ok (.ldc2_w 119, 3) := by decide +kernel
theorem d_M_numberOf_115 : decode b_M_numberOf 115 = .ok (.lsub, 1) := by decide +kernel
theorem d_M_numberOf_116 : decode b_M_numberOf 116 = .ok (.lstore 5, 2) := by decide +kernel
theorem d_M_numberOf_118 : decode b_M_numberOf 118 = .ok (.iinc 4 1, 3) := by decide +kernel
theorem d_M_numberOf_121 : decode b_M_numberOf 121 = .ok (.goto (-57), 3) := by decide +kernel
theorem d_M_numberOf_124 : decode b_M_numberOf 124 = .ok (.iload_n 3, 1) := by decide +kernel
theorem d_M_numberOf_125 : decode b_M_numberOf 125 = .ok (.ifCond .eq 9, 3) := by decide +kernel
theorem d_M_numberOf_128 : decode b_M_numberOf 128 = .ok (.lload 5, 2) := by decide +kernel
theorem d_M_numberOf_130 : decode b_M_numberOf 130 = .ok (.lneg, 1) := by decide +kernel
theorem d_M_numberOf_131 : decode b_M_numberOf 131 = .ok (.goto 5, 3) := by decide +kernel
theorem d_M_numberOf_134 : decode b_M_numberOf 134 = .ok (.lload 5, 2) := by decide +kernel
theorem d_M_numberOf_136 : decode b_M_numberOf 136 = .ok (.lstore 5, 2) := by decide +kernel
theorem d_M_numberOf_138 : decode b_M_numberOf 138 = .ok (.lload 5, 2) := by decide +kernel
theorem d_M_numberOf_140 : decode b_M_numberOf 140 = .ok (.ldc2_w 193, 3) := by decide +kernel
theorem d_M_numberOf_143 : decode b_M_numberOf 143 = .ok (.lcmp, 1) := by decide +kernel
theorem d_M_numberOf_144 : decode b_M_numberOf 144 = .ok (.ifCond .lt 12, 3) := by decide +kernel
theorem d_M_numberOf_147 : decode b_M_numberOf 147 = .ok (.lload 5, 2) := by decide +kernel
theorem d_M_numberOf_149 : decode b_M_numberOf 149 = .ok (.ldc2_w 195, 3) := by decide +kernel
theorem d_M_numberOf_152 : decode b_M_numberOf 152 = .ok (.lcmp, 1) := by decide +kernel
theorem d_M_numberOf_153 : decode b_M_numberOf 153 = .ok (.ifCond .le 9, 3) := by decide +kernel
theorem d_M_numberOf_156 : decode b_M_numberOf 156 = .ok (.ldc2_w 191, 3) := by decide +kernel
theorem d_M_numberOf_159 : decode b_M_numberOf 159 = .ok (.goto 5, 3) := by decide +kernel
theorem d_M_numberOf_162 : decode b_M_numberOf 162 = .ok (.lload 5, 2) := by decide +kernel
theorem d_M_numberOf_164 : decode b_M_numberOf 164 = .ok (.lreturn, 1) := by decide +kernel
theorem d_M_isObject_0 : decode b_M_isObject 0 = .ok (.aload_n 0, 1) := by decide +kernel
theorem d_M_isObject_1 : decode b_M_isObject 1 = .ok (.getfield 33, 3) := by decide +kernel
theorem d_M_isObject_4 : decode b_M_isObject 4 = .ok (.iload_n 1, 1) := by decide +kernel
theorem d_M_isObject_5 : decode b_M_isObject 5 = .ok (.iaload, 1) := by decide +kernel
theorem d_M_isObject_6 : decode b_M_isObject 6 = .ok (.bipush 16, 2) := by decide +kernel
theorem d_M_isObject_8 : decode b_M_isObject 8 = .ok (.if_icmp .eq 24, 3) := by decide +kernel
theorem d_M_isObject_11 : decode b_M_isObject 11 = .ok (.aload_n 0, 1) := by decide +kernel
theorem d_M_isObject_12 : decode b_M_isObject 12 = .ok (.getfield 33, 3) := by decide +kernel
theorem d_M_isObject_15 : decode b_M_isObject 15 = .ok (.iload_n 1, 1) := by decide +kernel
theorem d_M_isObject_16 : decode b_M_isObject 16 = .ok (.iaload, 1) := by decide +kernel
theorem d_M_isObject_17 : decode b_M_isObject 17 = .ok (.iconst 1, 1) := by decide +kernel
theorem d_M_isObject_18 : decode b_M_isObject 18 = .ok (.if_icmp .eq 14, 3) := by decide +kernel
theorem d_M_isObject_21 : decode b_M_isObject 21 = .ok (.aload_n 0, 1) := by decide +kernel
theorem d_M_isObject_22 : decode b_M_isObject 22 = .ok (.getfield 33, 3) := by decide +kernel
theorem d_M_isObject_25 : decode b_M_isObject 25 = .ok (.iload_n 1, 1) := by decide +kernel
theorem d_M_isObject_26 : decode b_M_isObject 26 = .ok (.iaload, 1) := by decide +kernel
theorem d_M_isObject_27 : decode b_M_isObject 27 = .ok (.bipush 20, 2) := by decide +kernel
theorem d_M_isObject_29 : decode b_M_isObject 29 = .ok (.if_icmp .ne 7, 3) := by decide +kernel
theorem d_M_isObject_32 : decode b_M_isObject 32 = .ok (.iconst 1, 1) := by decide +kernel
theorem d_M_isObject_33 : decode b_M_isObject 33 = .ok (.goto 4, 3) := by decide +kernel
theorem d_M_isObject_36 : decode b_M_isObject 36 = .ok (.iconst 0, 1) := by decide +kernel
theorem d_M_isObject_37 : decode b_M_isObject 37 = .ok (.ireturn, 1) := by decide +kernel
theorem d_M_must_0 : decode b_M_must 0 = .ok (.iconst 1, 1) := by decide +kernel
theorem d_M_must_1 : decode b_M_must 1 = .ok (.istore_n 1, 1) := by decide +kernel
theorem d_M_must_2 : decode b_M_must 2 = .ok (.iload_n 1, 1) := by decide +kernel
theorem d_M_must_3 : decode b_M_must 3 = .ok (.aload_n 0, 1) := by decide +kernel
theorem d_M_must_4 : decode b_M_must 4 = .ok (.getfield 163, 3) := by decide +kernel
theorem d_M_must_7 : decode b_M_must 7 = .ok (.if_icmp .ge 71, 3) := by decide +kernel
theorem d_M_must_10 : decode b_M_must 10 = .ok (.aload_n 0, 1) := by decide +kernel
theorem d_M_must_11 : decode b_M_must 11 = .ok (.getfield 36, 3) := by decide +kernel
theorem d_M_must_14 : decode b_M_must 14 = .ok (.iload_n 1, 1) := by decide +kernel
theorem d_M_must_15 : decode b_M_must 15 = .ok (.iaload, 1) := by decide +kernel
theorem d_M_must_16 : decode b_M_must 16 = .ok (.ifCond .ne 56, 3) := by decide +kernel
theorem d_M_must_19 : decode b_M_must 19 = .ok (.aload_n 0, 1) := by decide +kernel
theorem d_M_must_20 : decode b_M_must 20 = .ok (.getfield 33, 3) := by decide +kernel
theorem d_M_must_23 : decode b_M_must 23 = .ok (.iload_n 1, 1) := by decide +kernel
theorem d_M_must_24 : decode b_M_must 24 = .ok (.iaload, 1) := by decide +kernel
theorem d_M_must_25 : decode b_M_must 25 = .ok (.bipush 8, 2) := by decide +kernel
theorem d_M_must_27 : decode b_M_must 27 = .ok (.if_icmp .ne 45, 3) := by decide +kernel
theorem d_M_must_30 : decode b_M_must 30 = .ok (.aload_n 0, 1) := by decide +kernel
theorem d_M_must_31 : decode b_M_must 31 = .ok (.iload_n 1, 1) := by decide +kernel
theorem d_M_must_32 : decode b_M_must 32 = .ok (.bipush 13, 2) := by decide +kernel
theorem d_M_must_34 : decode b_M_must 34 = .ok (.invokevirtual 197, 3) := by decide +kernel
theorem d_M_must_37 : decode b_M_must 37 = .ok (.ifCond .ne 6, 3) := by decide +kernel
theorem d_M_must_40 : decode b_M_must 40 = .ok (.goto 32, 3) := by decide +kernel
theorem d_M_must_43 : decode b_M_must 43 = .ok (.aload_n 0, 1) := by decide +kernel
theorem d_M_must_44 : decode b_M_must 44 = .ok (.iload_n 1, 1) := by decide +kernel
theorem d_M_must_45 : decode b_M_must 45 = .ok (.bipush 11, 2) := by decide +kernel
theorem d_M_must_47 : decode b_M_must 47 = .ok (.invokevirtual 200, 3) := by decide +kernel
theorem d_M_must_50 : decode b_M_must 50 = .ok (.istore_n 2, 1) := by decide +kernel
theorem d_M_must_51 : decode b_M_must 51 = .ok (.iload_n 2, 1) := by decide +kernel
theorem d_M_must_52 : decode b_M_must 52 = .ok (.ifCond .lt 18, 3) := by decide +kernel
theorem d_M_must_55 : decode b_M_must 55 = .ok (.iload_n 2, 1) := by decide +kernel
theorem d_M_must_56 : decode b_M_must 56 = .ok (.bipush 31, 2) := by decide +kernel
theorem d_M_must_58 : decode b_M_must 58 = .ok (.if_icmp .gt 12, 3) := by decide +kernel
theorem d_M_must_61 : decode b_M_must 61 = .ok (.aload_n 0, 1) := by decide +kernel
theorem d_M_must_62 : decode b_M_must 62 = .ok (.getfield 25, 3) := by decide +kernel
theorem d_M_must_65 : decode b_M_must 65 = .ok (.iload_n 2, 1) := by decide +kernel
theorem d_M_must_66 : decode b_M_must 66 = .ok (.baload, 1) := by decide +kernel
theorem d_M_must_67 : decode b_M_must 67 = .ok (.ifCond .ne 5, 3) := by decide +kernel
theorem d_M_must_70 : decode b_M_must 70 = .ok (.iconst 1, 1) := by decide +kernel
theorem d_M_must_71 : decode b_M_must 71 = .ok (.ireturn, 1) := by decide +kernel
theorem d_M_must_72 : decode b_M_must 72 = .ok (.iinc 1 1, 3) := by decide +kernel
theorem d_M_must_75 : decode b_M_must 75 = .ok (.goto (-73), 3) := by decide +kernel
theorem d_M_must_78 : decode b_M_must 78 = .ok (.iconst 0, 1) := by decide +kernel
theorem d_M_must_79 : decode b_M_must 79 = .ok (.ireturn, 1) := by decide +kernel
theorem d_M_body_0 : decode b_M_body 0 = .ok (.aload_n 0, 1) := by decide +kernel
theorem d_M_body_1 : decode b_M_body 1 = .ok (.getfield 42, 3) := by decide +kernel
theorem d_M_body_4 : decode b_M_body 4 = .ok (.iconst 0, 1) := by decide +kernel
theorem d_M_body_5 : decode b_M_body 5 = .ok (.iaload, 1) := by decide +kernel
theorem d_M_body_6 : decode b_M_body 6 = .ok (.iconst 1, 1) := by decide +kernel
theorem d_M_body_7 : decode b_M_body 7 = .ok (.if_icmp .ne 12, 3) := by decide +kernel
theorem d_M_body_10 : decode b_M_body 10 = .ok (.aload_n 0, 1) := by decide +kernel
theorem d_M_body_11 : decode b_M_body 11 = .ok (.getfield 45, 3) := by decide +kernel
theorem d_M_body_14 : decode b_M_body 14 = .ok (.iconst 0, 1) := by decide +kernel
theorem d_M_body_15 : decode b_M_body 15 = .ok (.iaload, 1) := by decide +kernel
theorem d_M_body_16 : decode b_M_body 16 = .ok (.ifCond .eq 5, 3) := by decide +kernel
theorem d_M_body_19 : decode b_M_body 19 = .ok (.iconst (-1), 1) := by decide +kernel
theorem d_M_body_20 : decode b_M_body 20 = .ok (.ireturn, 1) := by decide +kernel
theorem d_M_body_21 : decode b_M_body 21 = .ok (.iconst (-1), 1) := by decide +kernel
theorem d_M_body_22 : decode b_M_body 22 = .ok (.istore_n 1, 1) := by decide +kernel
theorem d_M_body_23 : decode b_M_body 23 = .ok (.iconst 1, 1) := by decide +kernel
theorem d_M_body_24 : decode b_M_body 24 = .ok (.istore_n 2, 1) := by decide +kernel
theorem d_M_body_25 : decode b_M_body 25 = .ok (.iload_n 2, 1) := by decide +kernel
theorem d_M_body_26 : decode b_M_body 26 = .ok (.aload_n 0, 1) := by decide +kernel
theorem d_M_body_27 : decode b_M_body 27 = .ok (.getfield 163, 3) := by decide +kernel
theorem d_M_body_30 : decode b_M_body 30 = .ok (.if_icmp .ge 64, 3) := by decide +kernel
theorem d_M_body_33 : decode b_M_body 33 = .ok (.aload_n 0, 1) := by decide +kernel
theorem d_M_body_34 : decode b_M_body 34 = .ok (.getfield 36, 3) := by decide +kernel
theorem d_M_body_37 : decode b_M_body 37 = .ok (.iload_n 2, 1) := by decide +kernel
theorem d_M_body_38 : decode b_M_body 38 = .ok (.iaload, 1) := by decide +kernel
theorem d_M_body_39 : decode b_M_body 39 = .ok (.ifCond .eq 6, 3) := by decide +kernel
theorem d_M_body_42 : decode b_M_body 42 = .ok (.goto 46, 3) := by decide +kernel
theorem d_M_body_45 : decode b_M_body 45 = .ok (.iload_n 1, 1) := by decide +kernel
theorem d_M_body_46 : decode b_M_body 46 = .ok (.ifCond .ge 24, 3) := by decide +kernel
theorem d_M_body_49 : decode b_M_body 49 = .ok (.aload_n 0, 1) := by decide +kernel
theorem d_M_body_50 : decode b_M_body 50 = .ok (.getfield 33, 3) := by decide +kernel
theorem d_M_body_53 : decode b_M_body 53 = .ok (.iload_n 2, 1) := by decide +kernel
theorem d_M_body_54 : decode b_M_body 54 = .ok (.iaload, 1) := by decide +kernel
theorem d_M_body_55 : decode b_M_body 55 = .ok (.bipush 8, 2) := by decide +kernel
theorem d_M_body_57 : decode b_M_body 57 = .ok (.if_icmp .eq 15, 3) := by decide +kernel
theorem d_M_body_60 : decode b_M_body 60 = .ok (.aload_n 0, 1) := by decide +kernel
theorem d_M_body_61 : decode b_M_body 61 = .ok (.getfield 33, 3) := by decide +kernel
theorem d_M_body_64 : decode b_M_body 64 = .ok (.iload_n 2, 1) := by decide +kernel
theorem d_M_body_65 : decode b_M_body 65 = .ok (.iaload, 1) := by decide +kernel
theorem d_M_body_66 : decode b_M_body 66 = .ok (.iconst 2, 1) := by decide +kernel
theorem d_M_body_67 : decode b_M_body 67 = .ok (.if_icmp .eq 5, 3) := by decide +kernel
theorem d_M_body_70 : decode b_M_body 70 = .ok (.iconst (-1), 1) := by decide +kernel
theorem d_M_body_71 : decode b_M_body 71 = .ok (.ireturn, 1) := by decide +kernel
theorem d_M_body_72 : decode b_M_body 72 = .ok (.aload_n 0, 1) := by decide +kernel
theorem d_M_body_73 : decode b_M_body 73 = .ok (.getfield 33, 3) := by decide +kernel
theorem d_M_body_76 : decode b_M_body 76 = .ok (.iload_n 2, 1) := by decide +kernel
theorem d_M_body_77 : decode b_M_body 77 = .ok (.iaload, 1) := by decide +kernel
theorem d_M_body_78 : decode b_M_body 78 = .ok (.iconst 2, 1) := by decide +kernel
theorem d_M_body_79 : decode b_M_body 79 = .ok (.if_icmp .ne 7, 3) := by decide +kernel
theorem d_M_body_82 : decode b_M_body 82 = .ok (.iload_n 2, 1) := by decide +kernel
theorem d_M_body_83 : decode b_M_body 83 = .ok (.goto 4, 3) := by decide +kernel
theorem d_M_body_86 : decode b_M_body 86 = .ok (.iconst (-1), 1) := by decide +kernel
theorem d_M_body_87 : decode b_M_body 87 = .ok (.istore_n 1, 1) := by decide +kernel
theorem d_M_body_88 : decode b_M_body 88 = .ok (.iinc 2 1, 3) := by decide +kernel
theorem d_M_body_91 : decode b_M_body 91 = .ok (.goto (-66), 3) := by decide +kernel
theorem d_M_body_94 : decode b_M_body 94 = .ok (.iload_n 1, 1) := by decide +kernel
theorem d_M_body_95 : decode b_M_body 95 = .ok (.ifCond .lt 31, 3) := by decide +kernel
theorem d_M_body_98 : decode b_M_body 98 = .ok (.aload_n 0, 1) := by decide +kernel
theorem d_M_body_99 : decode b_M_body 99 = .ok (.getfield 42, 3) := by decide +kernel
theorem d_M_body_102 : decode b_M_body 102 = .ok (.iload_n 1, 1) := by decide +kernel
theorem d_M_body_103 : decode b_M_body 103 = .ok (.iaload, 1) := by decide +kernel
theorem d_M_body_104 : decode b_M_body 104 = .ok (.ifCond .ne 22, 3) := by decide +kernel
theorem d_M_body_107 : decode b_M_body 107 = .ok (.aload_n 0, 1) := by decide +kernel
theorem d_M_body_108 : decode b_M_body 108 = .ok (.getfield 45, 3) := by decide +kernel
theorem d_M_body_111 : decode b_M_body 111 = .ok (.iload_n 1, 1) := by decide +kernel
theorem d_M_body_112 : decode b_M_body 112 = .ok (.iaload, 1) := by decide +kernel
theorem d_M_body_113 : decode b_M_body 113 = .ok (.ifCond .ne 13, 3) := by decide +kernel
theorem d_M_body_116 : decode b_M_body 116 = .ok (.iload_n 1, 1) := by decide +kernel
theorem d_M_body_117 : decode b_M_body 117 = .ok (.iconst 1, 1) := by decide +kernel
theorem d_M_body_118 : decode b_M_body 118 = .ok (.iadd, 1) := by decide +kernel
theorem d_M_body_119 : decode b_M_body 119 = .ok (.aload_n 0, 1) := by decide +kernel
theorem d_M_body_120 : decode b_M_body 120 = .ok (.getfield 163, 3) := by decide +kernel
theorem d_M_body_123 : decode b_M_body 123 = .ok (.if_icmp .ne 5, 3) := by decide +kernel
theorem d_M_body_126 : decode b_M_body 126 = .ok (.iconst (-1), 1) := by decide +kernel
theorem d_M_body_127 : decode b_M_body 127 = .ok (.ireturn, 1) := by decide +kernel
theorem d_M_body_128 : decode b_M_body 128 = .ok (.iload_n 1, 1) := by decide +kernel
theorem d_M_body_129 : decode b_M_body 129 = .ok (.iconst 1, 1) := by decide +kernel
theorem d_M_body_130 : decode b_M_body 130 = .ok (.iadd, 1) := by decide +kernel
theorem d_M_body_131 : decode b_M_body 131 = .ok (.istore_n 2, 1) := by decide +kernel
theorem d_M_body_132 : decode b_M_body 132 = .ok (.iload_n 2, 1) := by decide +kernel
theorem d_M_body_133 : decode b_M_body 133 = .ok (.aload_n 0, 1) := by decide +kernel
theorem d_M_body_134 : decode b_M_body 134 = .ok (.getfield 163, 3) := by decide +kernel
theorem d_M_body_137 : decode b_M_body 137 = .ok (.if_icmp .ge 78, 3) := by decide +kernel
theorem d_M_body_140 : decode b_M_body 140 = .ok (.aload_n 0, 1) := by decide +kernel
theorem d_M_body_141 : decode b_M_body 141 = .ok (.getfield 36, 3) := by decide +kernel
theorem d_M_body_144 : decode b_M_body 144 = .ok (.iload_n 2, 1) := by decide +kernel
theorem d_M_body_145 : decode b_M_body 145 = .ok (.iaload, 1) := by decide +kernel
theorem d_M_body_146 : decode b_M_body 146 = .ok (.iload_n 1, 1) := by decide +kernel
theorem d_M_body_147 : decode b_M_body 147 = .ok (.if_icmp .eq 6, 3) := by decide +kernel
theorem d_M_body_150 : decode b_M_body 150 = .ok (.goto 59, 3) := by decide +kernel
theorem d_M_body_153 : decode b_M_body 153 = .ok (.aload_n 0, 1) := by decide +kernel
theorem d_M_body_154 : decode b_M_body 154 = .ok (.iload_n 2, 1) := by decide +kernel
theorem d_M_body_155 : decode b_M_body 155 = .ok (.invokevirtual 203, 3) := by decide +kernel
theorem d_M_body_158 : decode b_M_body 158 = .ok (.ifCond .eq 21, 3) := by decide +kernel
theorem d_M_body_161 : decode b_M_body 161 = .ok (.iload_n 2, 1) := by decide +kernel
theorem d_M_body_162 : decode b_M_body 162 = .ok (.iload_n 1, 1) := by decide +kernel
theorem d_M_body_163 : decode b_M_body 163 = .ok (.iconst 1, 1) := by decide +kernel
theorem d_M_body_164 : decode b_M_body 164 = .ok (.iadd, 1) := by decide +kernel
theorem d_M_body_165 : decode b_M_body 165 = .ok (.if_icmp .eq 32, 3) := by decide +kernel
theorem d_M_body_168 : decode b_M_body 168 = .ok (.aload_n 0, 1) := by decide +kernel
theorem d_M_body_169 : decode b_M_body 169 = .ok (.iload_n 2, 1) := by decide +kernel
theorem d_M_body_170 : decode b_M_body 170 = .ok (.sipush 247, 3) := by decide +kernel
theorem d_M_body_173 : decode b_M_body 173 = .ok (.invokevirtual 185, 3) := by decide +kernel
theorem d_M_body_176 : decode b_M_body 176 = .ok (.ifCond .ge 21, 3) := by decide +kernel
theorem d_M_body_179 : decode b_M_body 179 = .ok (.iload_n 2, 1) := by decide +kernel
theorem d_M_body_180 : decode b_M_body 180 = .ok (.iload_n 1, 1) := by decide +kernel
theorem d_M_body_181 : decode b_M_body 181 = .ok (.iconst 1, 1) := by decide +kernel
theorem d_M_body_182 : decode b_M_body 182 = .ok (.iadd, 1) := by decide +kernel
theorem d_M_body_183 : decode b_M_body 183 = .ok (.if_icmp .ne 18, 3) := by decide +kernel
theorem d_M_body_186 : decode b_M_body 186 = .ok (.aload_n 0, 1) := by decide +kernel
theorem d_M_body_187 : decode b_M_body 187 = .ok (.getfield 33, 3) := by decide +kernel
theorem d_M_body_190 : decode b_M_body 190 = .ok (.iload_n 2, 1) := by decide +kernel
theorem d_M_body_191 : decode b_M_body 191 = .ok (.iaload, 1) := by decide +kernel
theorem d_M_body_192 : decode b_M_body 192 = .ok (.bipush 18, 2) := by decide +kernel
theorem d_M_body_194 : decode b_M_body 194 = .ok (.if_icmp .ne 7, 3) := by decide +kernel
theorem d_M_body_197 : decode b_M_body 197 = .ok (.iconst 1, 1) := by decide +kernel
theorem d_M_body_198 : decode b_M_body 198 = .ok (.goto 4, 3) := by decide +kernel
theorem d_M_body_201 : decode b_M_body 201 = .ok (.iconst 0, 1) := by decide +kernel
theorem d_M_body_202 : decode b_M_body 202 = .ok (.istore_n 3, 1) := by decide +kernel
theorem d_M_body_203 : decode b_M_body 203 = .ok (.iload_n 3, 1) := by decide +kernel
theorem d_M_body_204 : decode b_M_body 204 = .ok (.ifCond .ne 5, 3) := by decide +kernel
theorem d_M_body_207 : decode b_M_body 207 = .ok (.iconst (-1), 1) := by decide +kernel
theorem d_M_body_208 : decode b_M_body 208 = .ok (.ireturn, 1) := by decide +kernel
theorem d_M_body_209 : decode b_M_body 209 = .ok (.iinc 2 1, 3) := by decide +kernel
theorem d_M_body_212 : decode b_M_body 212 = .ok (.goto (-80), 3) := by decide +kernel
theorem d_M_body_215 : decode b_M_body 215 = .ok (.iload_n 1, 1) := by decide +kernel
theorem d_M_body_216 : decode b_M_body 216 = .ok (.ireturn, 1) := by decide +kernel
theorem d_M_mayStand_0 : decode b_M_mayStand 0 = .ok (.iload_n 2, 1) := by decide +kernel
theorem d_M_mayStand_1 : decode b_M_mayStand 1 = .ok (.bipush 47, 2) := by decide +kernel
theorem d_M_mayStand_3 : decode b_M_mayStand 3 = .ok (.if_icmp .ne 18, 3) := by decide +kernel
theorem d_M_mayStand_6 : decode b_M_mayStand 6 = .ok (.aload_n 0, 1) := by decide +kernel
theorem d_M_mayStand_7 : decode b_M_mayStand 7 = .ok (.getfield 33, 3) := by decide +kernel
theorem d_M_mayStand_10 : decode b_M_mayStand 10 = .ok (.aload_n 0, 1) := by decide +kernel
theorem d_M_mayStand_11 : decode b_M_mayStand 11 = .ok (.getfield 36, 3) := by decide +kernel
theorem d_M_mayStand_14 : decode b_M_mayStand 14 = .ok (.iload_n 1, 1) := by decide +kernel
theorem d_M_mayStand_15 : decode b_M_mayStand 15 = .ok (.iaload, 1) := by decide +kernel
theorem d_M_mayStand_16 : decode b_M_mayStand 16 = .ok (.iaload, 1) := by decide +kernel
theorem d_M_mayStand_17 : decode b_M_mayStand 17 = .ok (.iconst 1, 1) := by decide +kernel
theorem d_M_mayStand_18 : decode b_M_mayStand 18 = .ok (.if_icmp .eq 57, 3) := by decide +kernel
theorem d_M_mayStand_21 : decode b_M_mayStand 21 = .ok (.iload_n 2, 1) := by decide +kernel
theorem d_M_mayStand_22 : decode b_M_mayStand 22 = .ok (.sipush 247, 3) := by decide +kernel
theorem d_M_mayStand_25 : decode b_M_mayStand 25 = .ok (.if_icmp .ne 11, 3) := by decide +kernel
theorem d_M_mayStand_28 : decode b_M_mayStand 28 = .ok (.aload_n 0, 1) := by decide +kernel
theorem d_M_mayStand_29 : decode b_M_mayStand 29 = .ok (.iload_n 1, 1) := by decide +kernel
theorem d_M_mayStand_30 : decode b_M_mayStand 30 = .ok (.invokevirtual 203, 3) := by decide +kernel
theorem d_M_mayStand_33 : decode b_M_mayStand 33 = .ok (.ifCond .ne 42, 3) := by decide +kernel
theorem d_M_mayStand_36 : decode b_M_mayStand 36 = .ok (.iload_n 2, 1) := by decide +kernel
theorem d_M_mayStand_37 : decode b_M_mayStand 37 = .ok (.bipush 8, 2) := by decide +kernel
theorem d_M_mayStand_39 : decode b_M_mayStand 39 = .ok (.if_icmp .ne 14, 3) := by decide +kernel
theorem d_M_mayStand_42 : decode b_M_mayStand 42 = .ok (.aload_n 0, 1) := by decide +kernel
theorem d_M_mayStand_43 : decode b_M_mayStand 43 = .ok (.getfield 33, 3) := by decide +kernel
theorem d_M_mayStand_46 : decode b_M_mayStand 46 = .ok (.iload_n 1, 1) := by decide +kernel
theorem d_M_mayStand_47 : decode b_M_mayStand 47 = .ok (.iaload, 1) := by decide +kernel
theorem d_M_mayStand_48 : decode b_M_mayStand 48 = .ok (.bipush 18, 2) := by decide +kernel
theorem d_M_mayStand_50 : decode b_M_mayStand 50 = .ok (.if_icmp .eq 25, 3) := by decide +kernel
theorem d_M_mayStand_53 : decode b_M_mayStand 53 = .ok (.iload_n 2, 1) := by decide +kernel
theorem d_M_mayStand_54 : decode b_M_mayStand 54 = .ok (.bipush 14, 2) := by decide +kernel
theorem d_M_mayStand_56 : decode b_M_mayStand 56 = .ok (.if_icmp .eq 9, 3) := by decide +kernel
theorem d_M_mayStand_59 : decode b_M_mayStand 59 = .ok (.iload_n 2, 1) := by decide +kernel
theorem d_M_mayStand_60 : decode b_M_mayStand 60 = .ok (.bipush 15, 2) := by decide +kernel
theorem d_M_mayStand_62 : decode b_M_mayStand 62 = .ok (.if_icmp .ne 17, 3) := by decide +kernel
theorem d_M_mayStand_65 : decode b_M_mayStand 65 = .ok (.aload_n 0, 1) := by decide +kernel
theorem d_M_mayStand_66 : decode b_M_mayStand 66 = .ok (.getfield 33, 3) := by decide +kernel
theorem d_M_mayStand_69 : decode b_M_mayStand 69 = .ok (.iload_n 1, 1) := by decide +kernel
theorem d_M_mayStand_70 : decode b_M_mayStand 70 = .ok (.iaload, 1) := by decide +kernel
theorem d_M_mayStand_71 : decode b_M_mayStand 71 = .ok (.iconst 1, 1) := by decide +kernel
theorem d_M_mayStand_72 : decode b_M_mayStand 72 = .ok (.if_icmp .ne 7, 3) := by decide +kernel
theorem d_M_mayStand_75 : decode b_M_mayStand 75 = .ok (.iconst 1, 1) := by decide +kernel
theorem d_M_mayStand_76 : decode b_M_mayStand 76 = .ok (.goto 4, 3) := by decide +kernel
theorem d_M_mayStand_79 : decode b_M_mayStand 79 = .ok (.iconst 0, 1) := by decide +kernel
theorem d_M_mayStand_80 : decode b_M_mayStand 80 = .ok (.ireturn, 1) := by decide +kernel
theorem d_M_fits_0 : decode b_M_fits 0 = .ok (.aload_n 0, 1) := by decide +kernel
theorem d_M_fits_1 : decode b_M_fits 1 = .ok (.getfield 33, 3) := by decide +kernel
theorem d_M_fits_4 : decode b_M_fits 4 = .ok (.aload_n 0, 1) := by decide +kernel
theorem d_M_fits_5 : decode b_M_fits 5 = .ok (.getfield 36, 3) := by decide +kernel
theorem d_M_fits_8 : decode b_M_fits 8 = .ok (.iload_n 1, 1) := by decide +kernel
theorem d_M_fits_9 : decode b_M_fits 9 = .ok (.iaload, 1) := by decide +kernel
theorem d_M_fits_10 : decode b_M_fits 10 = .ok (.iaload, 1) := by decide +kernel
theorem d_M_fits_11 : decode b_M_fits 11 = .ok (.istore_n 3, 1) := by decide +kernel
theorem d_M_fits_12 : decode b_M_fits 12 = .ok (.aload_n 0, 1) := by decide +kernel
theorem d_M_fits_13 : decode b_M_fits 13 = .ok (.getfield 36, 3) := by decide +kernel
theorem d_M_fits_16 : decode b_M_fits 16 = .ok (.iload_n 1, 1) := by decide +kernel
theorem d_M_fits_17 : decode b_M_fits 17 = .ok (.iaload, 1) := by decide +kernel
theorem d_M_fits_18 : decode b_M_fits 18 = .ok (.iload_n 2, 1) := by decide +kernel
theorem d_M_fits_19 : decode b_M_fits 19 = .ok (.if_icmp .eq 16, 3) := by decide +kernel
theorem d_M_fits_22 : decode b_M_fits 22 = .ok (.iload_n 3, 1) := by decide +kernel
theorem d_M_fits_23 : decode b_M_fits 23 = .ok (.bipush 16, 2) := by decide +kernel
theorem d_M_fits_25 : decode b_M_fits 25 = .ok (.if_icmp .eq 10, 3) := by decide +kernel
theorem d_M_fits_28 : decode b_M_fits 28 = .ok (.iload_n 3, 1) := by decide +kernel
theorem d_M_fits_29 : decode b_M_fits 29 = .ok (.iconst 1, 1) := by decide +kernel
theorem d_M_fits_30 : decode b_M_fits 30 = .ok (.if_icmp .eq 5, 3) := by decide +kernel
theorem d_M_fits_33 : decode b_M_fits 33 = .ok (.iconst 0, 1) := by decide +kernel
theorem d_M_fits_34 : decode b_M_fits 34 = .ok (.ireturn, 1) := by decide +kernel
theorem d_M_fits_35 : decode b_M_fits 35 = .ok (.aload_n 0, 1) := by decide +kernel
theorem d_M_fits_36 : decode b_M_fits 36 = .ok (.iload_n 1, 1) := by decide +kernel
theorem d_M_fits_37 : decode b_M_fits 37 = .ok (.invokevirtual 203, 3) := by decide +kernel
theorem d_M_fits_40 : decode b_M_fits 40 = .ok (.ifCond .ne 38, 3) := by decide +kernel
theorem d_M_fits_43 : decode b_M_fits 43 = .ok (.aload_n 0, 1) := by decide +kernel
theorem d_M_fits_44 : decode b_M_fits 44 = .ok (.getfield 33, 3) := by decide +kernel
theorem d_M_fits_47 : decode b_M_fits 47 = .ok (.iload_n 1, 1) := by decide +kernel
theorem d_M_fits_48 : decode b_M_fits 48 = .ok (.iaload, 1) := by decide +kernel
theorem d_M_fits_49 : decode b_M_fits 49 = .ok (.bipush 14, 2) := by decide +kernel
theorem d_M_fits_51 : decode b_M_fits 51 = .ok (.if_icmp .eq 27, 3) := by decide +kernel
theorem d_M_fits_54 : decode b_M_fits 54 = .ok (.aload_n 0, 1) := by decide +kernel
theorem d_M_fits_55 : decode b_M_fits 55 = .ok (.getfield 33, 3) := by decide +kernel
theorem d_M_fits_58 : decode b_M_fits 58 = .ok (.iload_n 1, 1) := by decide +kernel
theorem d_M_fits_59 : decode b_M_fits 59 = .ok (.iaload, 1) := by decide +kernel
theorem d_M_fits_60 : decode b_M_fits 60 = .ok (.bipush 9, 2) := by decide +kernel
theorem d_M_fits_62 : decode b_M_fits 62 = .ok (.if_icmp .eq 16, 3) := by decide +kernel
theorem d_M_fits_65 : decode b_M_fits 65 = .ok (.aload_n 0, 1) := by decide +kernel
theorem d_M_fits_66 : decode b_M_fits 66 = .ok (.getfield 33, 3) := by decide +kernel
theorem d_M_fits_69 : decode b_M_fits 69 = .ok (.iload_n 1, 1) := by decide +kernel
theorem d_M_fits_70 : decode b_M_fits 70 = .ok (.iaload, 1) := by decide +kernel
theorem d_M_fits_71 : decode b_M_fits 71 = .ok (.bipush 18, 2) := by decide +kernel
theorem d_M_fits_73 : decode b_M_fits 73 = .ok (.if_icmp .eq 5, 3) := by decide +kernel
theorem d_M_fits_76 : decode b_M_fits 76 = .ok (.iconst 0, 1) := by decide +kernel
theorem d_M_fits_77 : decode b_M_fits 77 = .ok (.ireturn, 1) := by decide +kernel
theorem d_M_fits_78 : decode b_M_fits 78 = .ok (.iconst 0, 1) := by decide +kernel
theorem d_M_fits_79 : decode b_M_fits 79 = .ok (.istore 4, 2) := by decide +kernel
theorem d_M_fits_81 : decode b_M_fits 81 = .ok (.iload 4, 2) := by decide +kernel
theorem d_M_fits_83 : decode b_M_fits 83 = .ok (.aload_n 0, 1) := by decide +kernel
theorem d_M_fits_84 : decode b_M_fits 84 = .ok (.getfield 42, 3) := by decide +kernel
theorem d_M_fits_87 : decode b_M_fits 87 = .ok (.iload_n 1, 1) := by decide +kernel
theorem d_M_fits_88 : decode b_M_fits 88 = .ok (.iaload, 1) := by decide +kernel
theorem d_M_fits_89 : decode b_M_fits 89 = .ok (.if_icmp .ge 46, 3) := by decide +kernel
theorem d_M_fits_92 : decode b_M_fits 92 = .ok (.aload_n 0, 1) := by decide +kernel
theorem d_M_fits_93 : decode b_M_fits 93 = .ok (.getfield 39, 3) := by decide +kernel
theorem d_M_fits_96 : decode b_M_fits 96 = .ok (.iload_n 1, 1) := by decide +kernel
theorem d_M_fits_97 : decode b_M_fits 97 = .ok (.iaload, 1) := by decide +kernel
theorem d_M_fits_98 : decode b_M_fits 98 = .ok (.iload 4, 2) := by decide +kernel
theorem d_M_fits_100 : decode b_M_fits 100 = .ok (.iadd, 1) := by decide +kernel
theorem d_M_fits_101 : decode b_M_fits 101 = .ok (.istore 5, 2) := by decide +kernel
theorem d_M_fits_103 : decode b_M_fits 103 = .ok (.aload_n 0, 1) := by decide +kernel
theorem d_M_fits_104 : decode b_M_fits 104 = .ok (.iload_n 1, 1) := by decide +kernel
theorem d_M_fits_105 : decode b_M_fits 105 = .ok (.aload_n 0, 1) := by decide +kernel
theorem d_M_fits_106 : decode b_M_fits 106 = .ok (.getfield 57, 3) := by decide +kernel
theorem d_M_fits_109 : decode b_M_fits 109 = .ok (.iload 5, 2) := by decide +kernel
theorem d_M_fits_111 : decode b_M_fits 111 = .ok (.iaload, 1) := by decide +kernel
theorem d_M_fits_112 : decode b_M_fits 112 = .ok (.invokevirtual 206, 3) := by decide +kernel
theorem d_M_fits_115 : decode b_M_fits 115 = .ok (.ifCond .eq 12, 3) := by decide +kernel
theorem d_M_fits_118 : decode b_M_fits 118 = .ok (.aload_n 0, 1) := by decide +kernel
theorem d_M_fits_119 : decode b_M_fits 119 = .ok (.iload 5, 2) := by decide +kernel
theorem d_M_fits_121 : decode b_M_fits 121 = .ok (.invokevirtual 188, 3) := by decide +kernel
theorem d_M_fits_124 : decode b_M_fits 124 = .ok (.ifCond .ge 5, 3) := by decide +kernel
theorem d_M_fits_127 : decode b_M_fits 127 = .ok (.iconst 0, 1) := by decide +kernel
theorem d_M_fits_128 : decode b_M_fits 128 = .ok (.ireturn, 1) := by decide +kernel
theorem d_M_fits_129 : decode b_M_fits 129 = .ok (.iinc 4 1, 3) := by decide +kernel
theorem d_M_fits_132 : decode b_M_fits 132 = .ok (.goto (-51), 3) := by decide +kernel
theorem d_M_fits_135 : decode b_M_fits 135 = .ok (.aload_n 0, 1) := by decide +kernel
theorem d_M_fits_136 : decode b_M_fits 136 = .ok (.getfield 33, 3) := by decide +kernel
theorem d_M_fits_139 : decode b_M_fits 139 = .ok (.iload_n 1, 1) := by decide +kernel
theorem d_M_fits_140 : decode b_M_fits 140 = .ok (.iaload, 1) := by decide +kernel
theorem d_M_fits_141 : decode b_M_fits 141 = .ok (.bipush 18, 2) := by decide +kernel
theorem d_M_fits_143 : decode b_M_fits 143 = .ok (.if_icmp .ne 15, 3) := by decide +kernel
theorem d_M_fits_146 : decode b_M_fits 146 = .ok (.aload_n 0, 1) := by decide +kernel
theorem d_M_fits_147 : decode b_M_fits 147 = .ok (.iload_n 1, 1) := by decide +kernel
theorem d_M_fits_148 : decode b_M_fits 148 = .ok (.bipush 8, 2) := by decide +kernel
theorem d_M_fits_150 : decode b_M_fits 150 = .ok (.invokevirtual 185, 3) := by decide +kernel
theorem d_M_fits_153 : decode b_M_fits 153 = .ok (.ifCond .ge 5, 3) := by decide +kernel
theorem d_M_fits_156 : decode b_M_fits 156 = .ok (.iconst 0, 1) := by decide +kernel
theorem d_M_fits_157 : decode b_M_fits 157 = .ok (.ireturn, 1) := by decide +kernel
theorem d_M_fits_158 : decode b_M_fits 158 = .ok (.aload_n 0, 1) := by decide +kernel
theorem d_M_fits_159 : decode b_M_fits 159 = .ok (.getfield 33, 3) := by decide +kernel
theorem d_M_fits_162 : decode b_M_fits 162 = .ok (.iload_n 1, 1) := by decide +kernel
theorem d_M_fits_163 : decode b_M_fits 163 = .ok (.iaload, 1) := by decide +kernel
theorem d_M_fits_164 : decode b_M_fits 164 = .ok (.bipush 9, 2) := by decide +kernel
theorem d_M_fits_166 : decode b_M_fits 166 = .ok (.if_icmp .ne 21, 3) := by decide +kernel
theorem d_M_fits_169 : decode b_M_fits 169 = .ok (.aload_n 0, 1) := by decide +kernel
theorem d_M_fits_170 : decode b_M_fits 170 = .ok (.iload_n 1, 1) := by decide +kernel
theorem d_M_fits_171 : decode b_M_fits 171 = .ok (.invokevirtual 209, 3) := by decide +kernel
theorem d_M_fits_174 : decode b_M_fits 174 = .ok (.ldc2_w 191, 3) := by decide +kernel
theorem d_M_fits_177 : decode b_M_fits 177 = .ok (.lcmp, 1) := by decide +kernel
theorem d_M_fits_178 : decode b_M_fits 178 = .ok (.ifCond .eq 7, 3) := by decide +kernel
theorem d_M_fits_181 : decode b_M_fits 181 = .ok (.iconst 1, 1) := by decide +kernel
theorem d_M_fits_182 : decode b_M_fits 182 = .ok (.goto 4, 3) := by decide +kernel
theorem d_M_fits_185 : decode b_M_fits 185 = .ok (.iconst 0, 1) := by decide +kernel
theorem d_M_fits_186 : decode b_M_fits 186 = .ok (.ireturn, 1) := by decide +kernel
theorem d_M_fits_187 : decode b_M_fits 187 = .ok (.aload_n 0, 1) := by decide +kernel
theorem d_M_fits_188 : decode b_M_fits 188 = .ok (.getfield 45, 3) := by decide +kernel
theorem d_M_fits_191 : decode b_M_fits 191 = .ok (.iload_n 1, 1) := by decide +kernel
theorem d_M_fits_192 : decode b_M_fits 192 = .ok (.iaload, 1) := by decide +kernel
theorem d_M_fits_193 : decode b_M_fits 193 = .ok (.aload_n 0, 1) := by decide +kernel
theorem d_M_fits_194 : decode b_M_fits 194 = .ok (.getfield 33, 3) := by decide +kernel
theorem d_M_fits_197 : decode b_M_fits 197 = .ok (.iload_n 1, 1) := by decide +kernel
theorem d_M_fits_198 : decode b_M_fits 198 = .ok (.iaload, 1) := by decide +kernel
theorem d_M_fits_199 : decode b_M_fits 199 = .ok (.bipush 20, 2) := by decide +kernel
theorem d_M_fits_201 : decode b_M_fits 201 = .ok (.if_icmp .ne 8, 3) := by decide +kernel
theorem d_M_fits_204 : decode b_M_fits 204 = .ok (.bipush 6, 2) := by decide +kernel
theorem d_M_fits_206 : decode b_M_fits 206 = .ok (.goto 4, 3) := by decide +kernel
theorem d_M_fits_209 : decode b_M_fits 209 = .ok (.iconst 0, 1) := by decide +kernel
theorem d_M_fits_210 : decode b_M_fits 210 = .ok (.if_icmp .gt 7, 3) := by decide +kernel
theorem d_M_fits_213 : decode b_M_fits 213 = .ok (.iconst 1, 1) := by decide +kernel
theorem d_M_fits_214 : decode b_M_fits 214 = .ok (.goto 4, 3) := by decide +kernel
theorem d_M_fits_217 : decode b_M_fits 217 = .ok (.iconst 0, 1) := by decide +kernel
theorem d_M_fits_218 : decode b_M_fits 218 = .ok (.ireturn, 1) := by decide +kernel
theorem d_M_slots_0 : decode b_M_slots 0 = .ok (.aload_n 0, 1) := by decide +kernel
theorem d_M_slots_1 : decode b_M_slots 1 = .ok (.getfield 33, 3) := by decide +kernel
theorem d_M_slots_4 : decode b_M_slots 4 = .ok (.iload_n 1, 1) := by decide +kernel
theorem d_M_slots_5 : decode b_M_slots 5 = .ok (.iaload, 1) := by decide +kernel
theorem d_M_slots_6 : decode b_M_slots 6 = .ok (.bipush 16, 2) := by decide +kernel
theorem d_M_slots_8 : decode b_M_slots 8 = .ok (.if_icmp .ne 7, 3) := by decide +kernel
theorem d_M_slots_11 : decode b_M_slots 11 = .ok (.iconst 2, 1) := by decide +kernel
theorem d_M_slots_12 : decode b_M_slots 12 = .ok (.goto 10, 3) := by decide +kernel
theorem d_M_slots_15 : decode b_M_slots 15 = .ok (.aload_n 0, 1) := by decide +kernel
theorem d_M_slots_16 : decode b_M_slots 16 = .ok (.iload_n 1, 1) := by decide +kernel
theorem d_M_slots_17 : decode b_M_slots 17 = .ok (.bipush 14, 2) := by decide +kernel
theorem d_M_slots_19 : decode b_M_slots 19 = .ok (.invokevirtual 200, 3) := by decide +kernel
theorem d_M_slots_22 : decode b_M_slots 22 = .ok (.istore_n 2, 1) := by decide +kernel
theorem d_M_slots_23 : decode b_M_slots 23 = .ok (.aload_n 0, 1) := by decide +kernel
theorem d_M_slots_24 : decode b_M_slots 24 = .ok (.getfield 33, 3) := by decide +kernel
theorem d_M_slots_27 : decode b_M_slots 27 = .ok (.iload_n 1, 1) := by decide +kernel
theorem d_M_slots_28 : decode b_M_slots 28 = .ok (.iaload, 1) := by decide +kernel
theorem d_M_slots_29 : decode b_M_slots 29 = .ok (.bipush 16, 2) := by decide +kernel
theorem d_M_slots_31 : decode b_M_slots 31 = .ok (.if_icmp .ne 7, 3) := by decide +kernel
theorem d_M_slots_34 : decode b_M_slots 34 = .ok (.iconst 0, 1) := by decide +kernel
theorem d_M_slots_35 : decode b_M_slots 35 = .ok (.goto 10, 3) := by decide +kernel
theorem d_M_slots_38 : decode b_M_slots 38 = .ok (.aload_n 0, 1) := by decide +kernel
theorem d_M_slots_39 : decode b_M_slots 39 = .ok (.iload_n 1, 1) := by decide +kernel
theorem d_M_slots_40 : decode b_M_slots 40 = .ok (.bipush 15, 2) := by decide +kernel
theorem d_M_slots_42 : decode b_M_slots 42 = .ok (.invokevirtual 200, 3) := by decide +kernel
theorem d_M_slots_45 : decode b_M_slots 45 = .ok (.istore_n 3, 1) := by decide +kernel
theorem d_M_slots_46 : decode b_M_slots 46 = .ok (.iload_n 2, 1) := by decide +kernel
theorem d_M_slots_47 : decode b_M_slots 47 = .ok (.ifCond .lt 13, 3) := by decide +kernel
theorem d_M_slots_50 : decode b_M_slots 50 = .ok (.iload_n 2, 1) := by decide +kernel
theorem d_M_slots_51 : decode b_M_slots 51 = .ok (.iconst 4, 1) := by decide +kernel
theorem d_M_slots_52 : decode b_M_slots 52 = .ok (.if_icmp .gt 8, 3) := by decide +kernel
theorem d_M_slots_55 : decode b_M_slots 55 = .ok (.iload_n 3, 1) := by decide +kernel
theorem d_M_slots_56 : decode b_M_slots 56 = .ok (.iload_n 2, 1) := by decide +kernel
theorem d_M_slots_57 : decode b_M_slots 57 = .ok (.if_icmp .le 5, 3) := by decide +kernel
theorem d_M_slots_60 : decode b_M_slots 60 = .ok (.iconst 0, 1) := by decide +kernel
theorem d_M_slots_61 : decode b_M_slots 61 = .ok (.ireturn, 1) := by decide +kernel
theorem d_M_slots_62 : decode b_M_slots 62 = .ok (.iload_n 3, 1) := by decide +kernel
theorem d_M_slots_63 : decode b_M_slots 63 = .ok (.ifCond .ge 7, 3) := by decide +kernel
theorem d_M_slots_66 : decode b_M_slots 66 = .ok (.iconst 0, 1) := by decide +kernel
theorem d_M_slots_67 : decode b_M_slots 67 = .ok (.goto 4, 3) := by decide +kernel
theorem d_M_slots_70 : decode b_M_slots 70 = .ok (.iload_n 3, 1) := by decide +kernel
theorem d_M_slots_71 : decode b_M_slots 71 = .ok (.istore_n 3, 1) := by decide +kernel
theorem d_M_slots_72 : decode b_M_slots 72 = .ok (.iconst 0, 1) := by decide +kernel
theorem d_M_slots_73 : decode b_M_slots 73 = .ok (.istore 4, 2) := by decide +kernel
theorem d_M_slots_75 : decode b_M_slots 75 = .ok (.iload_n 1, 1) := by decide +kernel
theorem d_M_slots_76 : decode b_M_slots 76 = .ok (.iconst 1, 1) := by decide +kernel
theorem d_M_slots_77 : decode b_M_slots 77 = .ok (.iadd, 1) := by decide +kernel
theorem d_M_slots_78 : decode b_M_slots 78 = .ok (.istore 5, 2) := by decide +kernel
theorem d_M_slots_80 : decode b_M_slots 80 = .ok (.iload 5, 2) := by decide +kernel
theorem d_M_slots_82 : decode b_M_slots 82 = .ok (.aload_n 0, 1) := by decide +kernel
theorem d_M_slots_83 : decode b_M_slots 83 = .ok (.getfield 163, 3) := by decide +kernel
theorem d_M_slots_86 : decode b_M_slots 86 = .ok (.if_icmp .ge 87, 3) := by decide +kernel
theorem d_M_slots_89 : decode b_M_slots 89 = .ok (.aload_n 0, 1) := by decide +kernel
theorem d_M_slots_90 : decode b_M_slots 90 = .ok (.getfield 36, 3) := by decide +kernel
theorem d_M_slots_93 : decode b_M_slots 93 = .ok (.iload 5, 2) := by decide +kernel
theorem d_M_slots_95 : decode b_M_slots 95 = .ok (.iaload, 1) := by decide +kernel
theorem d_M_slots_96 : decode b_M_slots 96 = .ok (.iload_n 1, 1) := by decide +kernel
theorem d_M_slots_97 : decode b_M_slots 97 = .ok (.if_icmp .eq 6, 3) := by decide +kernel
theorem d_M_slots_100 : decode b_M_slots 100 = .ok (.goto 67, 3) := by decide +kernel
theorem d_M_slots_103 : decode b_M_slots 103 = .ok (.aload_n 0, 1) := by decide +kernel
theorem d_M_slots_104 : decode b_M_slots 104 = .ok (.iload 5, 2) := by decide +kernel
theorem d_M_slots_106 : decode b_M_slots 106 = .ok (.bipush 47, 2) := by decide +kernel
theorem d_M_slots_108 : decode b_M_slots 108 = .ok (.invokevirtual 200, 3) := by decide +kernel
theorem d_M_slots_111 : decode b_M_slots 111 = .ok (.istore 6, 2) := by decide +kernel
theorem d_M_slots_113 : decode b_M_slots 113 = .ok (.iload 6, 2) := by decide +kernel
theorem d_M_slots_115 : decode b_M_slots 115 = .ok (.ifCond .ge 7, 3) := by decide +kernel
theorem d_M_slots_118 : decode b_M_slots 118 = .ok (.iload_n 3, 1) := by decide +kernel
theorem d_M_slots_119 : decode b_M_slots 119 = .ok (.goto 5, 3) := by decide +kernel
theorem d_M_slots_122 : decode b_M_slots 122 = .ok (.iload 6, 2) := by decide +kernel
theorem d_M_slots_124 : decode b_M_slots 124 = .ok (.istore 6, 2) := by decide +kernel
theorem d_M_slots_126 : decode b_M_slots 126 = .ok (.iload 6, 2) := by decide +kernel
theorem d_M_slots_128 : decode b_M_slots 128 = .ok (.iload_n 2, 1) := by decide +kernel
