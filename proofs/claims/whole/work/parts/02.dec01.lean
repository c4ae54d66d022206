theorem d_H_understandsHeaders_0 : decode b_H_understandsHeaders 0 = .ok (.iconst 1, 1) := by decide +kernel
theorem d_H_understandsHeaders_1 : decode b_H_understandsHeaders 1 = .ok (.istore_n 2, 1) := by decide +kernel
theorem d_H_understandsHeaders_2 : decode b_H_understandsHeaders 2 = .ok (.iload_n 2, 1) := by decide +kernel
theorem d_H_understandsHeaders_3 : decode b_H_understandsHeaders 3 = .ok (.aload_n 0, 1) := by decide +kernel
theorem d_H_understandsHeaders_4 : decode b_H_understandsHeaders 4 = .ok (.getfield 32, 3) := by decide +kernel
theorem d_H_understandsHeaders_7 : decode b_H_understandsHeaders 7 = .ok (.getfield 47, 3) := by decide +kernel
theorem d_H_understandsHeaders_10 : decode b_H_understandsHeaders 10 = .ok (.if_icmp .ge 71, 3) := by decide +kernel
theorem d_H_understandsHeaders_13 : decode b_H_understandsHeaders 13 = .ok (.aload_n 0, 1) := by decide +kernel
theorem d_H_understandsHeaders_14 : decode b_H_understandsHeaders 14 = .ok (.getfield 32, 3) := by decide +kernel
theorem d_H_understandsHeaders_17 : decode b_H_understandsHeaders 17 = .ok (.getfield 51, 3) := by decide +kernel
theorem d_H_understandsHeaders_20 : decode b_H_understandsHeaders 20 = .ok (.iload_n 2, 1) := by decide +kernel
theorem d_H_understandsHeaders_21 : decode b_H_understandsHeaders 21 = .ok (.iaload, 1) := by decide +kernel
theorem d_H_understandsHeaders_22 : decode b_H_understandsHeaders 22 = .ok (.ifCond .ne 21, 3) := by decide +kernel
theorem d_H_understandsHeaders_25 : decode b_H_understandsHeaders 25 = .ok (.aload_n 0, 1) := by decide +kernel
theorem d_H_understandsHeaders_26 : decode b_H_understandsHeaders 26 = .ok (.getfield 32, 3) := by decide +kernel
theorem d_H_understandsHeaders_29 : decode b_H_understandsHeaders 29 = .ok (.getfield 40, 3) := by decide +kernel
theorem d_H_understandsHeaders_32 : decode b_H_understandsHeaders 32 = .ok (.iload_n 2, 1) := by decide +kernel
theorem d_H_understandsHeaders_33 : decode b_H_understandsHeaders 33 = .ok (.iaload, 1) := by decide +kernel
theorem d_H_understandsHeaders_34 : decode b_H_understandsHeaders 34 = .ok (.bipush 8, 2) := by decide +kernel
theorem d_H_understandsHeaders_36 : decode b_H_understandsHeaders 36 = .ok (.if_icmp .ne 7, 3) := by decide +kernel
theorem d_H_understandsHeaders_39 : decode b_H_understandsHeaders 39 = .ok (.iconst 1, 1) := by decide +kernel
theorem d_H_understandsHeaders_40 : decode b_H_understandsHeaders 40 = .ok (.goto 4, 3) := by decide +kernel
theorem d_H_understandsHeaders_43 : decode b_H_understandsHeaders 43 = .ok (.iconst 0, 1) := by decide +kernel
theorem d_H_understandsHeaders_44 : decode b_H_understandsHeaders 44 = .ok (.istore_n 3, 1) := by decide +kernel
theorem d_H_understandsHeaders_45 : decode b_H_understandsHeaders 45 = .ok (.iload_n 3, 1) := by decide +kernel
theorem d_H_understandsHeaders_46 : decode b_H_understandsHeaders 46 = .ok (.ifCond .eq 29, 3) := by decide +kernel
theorem d_H_understandsHeaders_49 : decode b_H_understandsHeaders 49 = .ok (.aload_n 0, 1) := by decide +kernel
theorem d_H_understandsHeaders_50 : decode b_H_understandsHeaders 50 = .ok (.iload_n 2, 1) := by decide +kernel
theorem d_H_understandsHeaders_51 : decode b_H_understandsHeaders 51 = .ok (.bipush 13, 2) := by decide +kernel
theorem d_H_understandsHeaders_53 : decode b_H_understandsHeaders 53 = .ok (.invokevirtual 43, 3) := by decide +kernel
theorem d_H_understandsHeaders_56 : decode b_H_understandsHeaders 56 = .ok (.ifCond .eq 19, 3) := by decide +kernel
theorem d_H_understandsHeaders_59 : decode b_H_understandsHeaders 59 = .ok (.aload_n 0, 1) := by decide +kernel
theorem d_H_understandsHeaders_60 : decode b_H_understandsHeaders 60 = .ok (.iload_n 2, 1) := by decide +kernel
theorem d_H_understandsHeaders_61 : decode b_H_understandsHeaders 61 = .ok (.bipush 11, 2) := by decide +kernel
theorem d_H_understandsHeaders_63 : decode b_H_understandsHeaders 63 = .ok (.invokevirtual 54, 3) := by decide +kernel
theorem d_H_understandsHeaders_66 : decode b_H_understandsHeaders 66 = .ok (.aload_n 1, 1) := by decide +kernel
theorem d_H_understandsHeaders_67 : decode b_H_understandsHeaders 67 = .ok (.invokestatic 58, 3) := by decide +kernel
theorem d_H_understandsHeaders_70 : decode b_H_understandsHeaders 70 = .ok (.ifCond .ne 5, 3) := by decide +kernel
theorem d_H_understandsHeaders_73 : decode b_H_understandsHeaders 73 = .ok (.iconst 0, 1) := by decide +kernel
theorem d_H_understandsHeaders_74 : decode b_H_understandsHeaders 74 = .ok (.ireturn, 1) := by decide +kernel
theorem d_H_understandsHeaders_75 : decode b_H_understandsHeaders 75 = .ok (.iinc 2 1, 3) := by decide +kernel
theorem d_H_understandsHeaders_78 : decode b_H_understandsHeaders 78 = .ok (.goto (-76), 3) := by decide +kernel
theorem d_H_understandsHeaders_81 : decode b_H_understandsHeaders 81 = .ok (.iconst 1, 1) := by decide +kernel
theorem d_H_understandsHeaders_82 : decode b_H_understandsHeaders 82 = .ok (.ireturn, 1) := by decide +kernel
theorem d_H_isUnderstood_0 : decode b_H_isUnderstood 0 = .ok (.iload_n 0, 1) := by decide +kernel
theorem d_H_isUnderstood_1 : decode b_H_isUnderstood 1 = .ok (.ifCond .lt 19, 3) := by decide +kernel
theorem d_H_isUnderstood_4 : decode b_H_isUnderstood 4 = .ok (.iload_n 0, 1) := by decide +kernel
theorem d_H_isUnderstood_5 : decode b_H_isUnderstood 5 = .ok (.aload_n 1, 1) := by decide +kernel
theorem d_H_isUnderstood_6 : decode b_H_isUnderstood 6 = .ok (.arraylength, 1) := by decide +kernel
theorem d_H_isUnderstood_7 : decode b_H_isUnderstood 7 = .ok (.if_icmp .ge 13, 3) := by decide +kernel
theorem d_H_isUnderstood_10 : decode b_H_isUnderstood 10 = .ok (.aload_n 1, 1) := by decide +kernel
theorem d_H_isUnderstood_11 : decode b_H_isUnderstood 11 = .ok (.iload_n 0, 1) := by decide +kernel
theorem d_H_isUnderstood_12 : decode b_H_isUnderstood 12 = .ok (.baload, 1) := by decide +kernel
theorem d_H_isUnderstood_13 : decode b_H_isUnderstood 13 = .ok (.ifCond .eq 7, 3) := by decide +kernel
theorem d_H_isUnderstood_16 : decode b_H_isUnderstood 16 = .ok (.iconst 1, 1) := by decide +kernel
theorem d_H_isUnderstood_17 : decode b_H_isUnderstood 17 = .ok (.goto 4, 3) := by decide +kernel
theorem d_H_isUnderstood_20 : decode b_H_isUnderstood 20 = .ok (.iconst 0, 1) := by decide +kernel
theorem d_H_isUnderstood_21 : decode b_H_isUnderstood 21 = .ok (.ireturn, 1) := by decide +kernel
theorem d_H_readGraph_0 : decode b_H_readGraph 0 = .ok (.aload_n 0, 1) := by decide +kernel
theorem d_H_readGraph_1 : decode b_H_readGraph 1 = .ok (.invokevirtual 62, 3) := by decide +kernel
theorem d_H_readGraph_4 : decode b_H_readGraph 4 = .ok (.istore_n 1, 1) := by decide +kernel
theorem d_H_readGraph_5 : decode b_H_readGraph 5 = .ok (.iload_n 1, 1) := by decide +kernel
theorem d_H_readGraph_6 : decode b_H_readGraph 6 = .ok (.iconst (-1), 1) := by decide +kernel
theorem d_H_readGraph_7 : decode b_H_readGraph 7 = .ok (.if_icmp .eq 11, 3) := by decide +kernel
theorem d_H_readGraph_10 : decode b_H_readGraph 10 = .ok (.aload_n 0, 1) := by decide +kernel
theorem d_H_readGraph_11 : decode b_H_readGraph 11 = .ok (.iload_n 1, 1) := by decide +kernel
theorem d_H_readGraph_12 : decode b_H_readGraph 12 = .ok (.invokevirtual 66, 3) := by decide +kernel
theorem d_H_readGraph_15 : decode b_H_readGraph 15 = .ok (.ifCond .ne 5, 3) := by decide +kernel
theorem d_H_readGraph_18 : decode b_H_readGraph 18 = .ok (.iconst (-1), 1) := by decide +kernel
theorem d_H_readGraph_19 : decode b_H_readGraph 19 = .ok (.ireturn, 1) := by decide +kernel
theorem d_H_readGraph_20 : decode b_H_readGraph 20 = .ok (.aload_n 0, 1) := by decide +kernel
theorem d_H_readGraph_21 : decode b_H_readGraph 21 = .ok (.getfield 19, 3) := by decide +kernel
theorem d_H_readGraph_24 : decode b_H_readGraph 24 = .ok (.iconst (-1), 1) := by decide +kernel
theorem d_H_readGraph_25 : decode b_H_readGraph 25 = .ok (.invokestatic 70, 3) := by decide +kernel
theorem d_H_readGraph_28 : decode b_H_readGraph 28 = .ok (.aload_n 0, 1) := by decide +kernel
theorem d_H_readGraph_29 : decode b_H_readGraph 29 = .ok (.aload_n 0, 1) := by decide +kernel
theorem d_H_readGraph_30 : decode b_H_readGraph 30 = .ok (.getfield 36, 3) := by decide +kernel
theorem d_H_readGraph_33 : decode b_H_readGraph 33 = .ok (.getfield 76, 3) := by decide +kernel
theorem d_H_readGraph_36 : decode b_H_readGraph 36 = .ok (.putfield 79, 3) := by decide +kernel
theorem d_H_readGraph_39 : decode b_H_readGraph 39 = .ok (.iload_n 1, 1) := by decide +kernel
theorem d_H_readGraph_40 : decode b_H_readGraph 40 = .ok (.iconst 1, 1) := by decide +kernel
theorem d_H_readGraph_41 : decode b_H_readGraph 41 = .ok (.iadd, 1) := by decide +kernel
theorem d_H_readGraph_42 : decode b_H_readGraph 42 = .ok (.istore_n 2, 1) := by decide +kernel
theorem d_H_readGraph_43 : decode b_H_readGraph 43 = .ok (.iload_n 2, 1) := by decide +kernel
theorem d_H_readGraph_44 : decode b_H_readGraph 44 = .ok (.aload_n 0, 1) := by decide +kernel
theorem d_H_readGraph_45 : decode b_H_readGraph 45 = .ok (.getfield 32, 3) := by decide +kernel
theorem d_H_readGraph_48 : decode b_H_readGraph 48 = .ok (.getfield 47, 3) := by decide +kernel
theorem d_H_readGraph_51 : decode b_H_readGraph 51 = .ok (.if_icmp .ge 27, 3) := by decide +kernel
theorem d_H_readGraph_54 : decode b_H_readGraph 54 = .ok (.aload_n 0, 1) := by decide +kernel
theorem d_H_readGraph_55 : decode b_H_readGraph 55 = .ok (.iload_n 2, 1) := by decide +kernel
theorem d_H_readGraph_56 : decode b_H_readGraph 56 = .ok (.invokevirtual 80, 3) := by decide +kernel
theorem d_H_readGraph_59 : decode b_H_readGraph 59 = .ok (.ifCond .eq 11, 3) := by decide +kernel
theorem d_H_readGraph_62 : decode b_H_readGraph 62 = .ok (.aload_n 0, 1) := by decide +kernel
theorem d_H_readGraph_63 : decode b_H_readGraph 63 = .ok (.iload_n 2, 1) := by decide +kernel
theorem d_H_readGraph_64 : decode b_H_readGraph 64 = .ok (.invokevirtual 83, 3) := by decide +kernel
theorem d_H_readGraph_67 : decode b_H_readGraph 67 = .ok (.ifCond .ne 5, 3) := by decide +kernel
theorem d_H_readGraph_70 : decode b_H_readGraph 70 = .ok (.iconst (-1), 1) := by decide +kernel
theorem d_H_readGraph_71 : decode b_H_readGraph 71 = .ok (.ireturn, 1) := by decide +kernel
theorem d_H_readGraph_72 : decode b_H_readGraph 72 = .ok (.iinc 2 1, 3) := by decide +kernel
theorem d_H_readGraph_75 : decode b_H_readGraph 75 = .ok (.goto (-32), 3) := by decide +kernel
theorem d_H_readGraph_78 : decode b_H_readGraph 78 = .ok (.iload_n 1, 1) := by decide +kernel
theorem d_H_readGraph_79 : decode b_H_readGraph 79 = .ok (.iconst 1, 1) := by decide +kernel
theorem d_H_readGraph_80 : decode b_H_readGraph 80 = .ok (.iadd, 1) := by decide +kernel
theorem d_H_readGraph_81 : decode b_H_readGraph 81 = .ok (.istore_n 2, 1) := by decide +kernel
theorem d_H_readGraph_82 : decode b_H_readGraph 82 = .ok (.iload_n 2, 1) := by decide +kernel
theorem d_H_readGraph_83 : decode b_H_readGraph 83 = .ok (.aload_n 0, 1) := by decide +kernel
theorem d_H_readGraph_84 : decode b_H_readGraph 84 = .ok (.getfield 32, 3) := by decide +kernel
theorem d_H_readGraph_87 : decode b_H_readGraph 87 = .ok (.getfield 47, 3) := by decide +kernel
theorem d_H_readGraph_90 : decode b_H_readGraph 90 = .ok (.if_icmp .ge 43, 3) := by decide +kernel
theorem d_H_readGraph_93 : decode b_H_readGraph 93 = .ok (.aload_n 0, 1) := by decide +kernel
theorem d_H_readGraph_94 : decode b_H_readGraph 94 = .ok (.getfield 32, 3) := by decide +kernel
theorem d_H_readGraph_97 : decode b_H_readGraph 97 = .ok (.getfield 51, 3) := by decide +kernel
theorem d_H_readGraph_100 : decode b_H_readGraph 100 = .ok (.iload_n 2, 1) := by decide +kernel
theorem d_H_readGraph_101 : decode b_H_readGraph 101 = .ok (.iaload, 1) := by decide +kernel
theorem d_H_readGraph_102 : decode b_H_readGraph 102 = .ok (.iload_n 1, 1) := by decide +kernel
theorem d_H_readGraph_103 : decode b_H_readGraph 103 = .ok (.if_icmp .ne 12, 3) := by decide +kernel
theorem d_H_readGraph_106 : decode b_H_readGraph 106 = .ok (.aload_n 0, 1) := by decide +kernel
theorem d_H_readGraph_107 : decode b_H_readGraph 107 = .ok (.iload_n 2, 1) := by decide +kernel
theorem d_H_readGraph_108 : decode b_H_readGraph 108 = .ok (.iload_n 1, 1) := by decide +kernel
theorem d_H_readGraph_109 : decode b_H_readGraph 109 = .ok (.invokevirtual 86, 3) := by decide +kernel
theorem d_H_readGraph_112 : decode b_H_readGraph 112 = .ok (.goto 8, 3) := by decide +kernel
theorem d_H_readGraph_115 : decode b_H_readGraph 115 = .ok (.aload_n 0, 1) := by decide +kernel
theorem d_H_readGraph_116 : decode b_H_readGraph 116 = .ok (.iload_n 2, 1) := by decide +kernel
theorem d_H_readGraph_117 : decode b_H_readGraph 117 = .ok (.invokevirtual 89, 3) := by decide +kernel
theorem d_H_readGraph_120 : decode b_H_readGraph 120 = .ok (.istore_n 3, 1) := by decide +kernel
theorem d_H_readGraph_121 : decode b_H_readGraph 121 = .ok (.iload_n 3, 1) := by decide +kernel
theorem d_H_readGraph_122 : decode b_H_readGraph 122 = .ok (.ifCond .ne 5, 3) := by decide +kernel
theorem d_H_readGraph_125 : decode b_H_readGraph 125 = .ok (.iconst (-1), 1) := by decide +kernel
theorem d_H_readGraph_126 : decode b_H_readGraph 126 = .ok (.ireturn, 1) := by decide +kernel
theorem d_H_readGraph_127 : decode b_H_readGraph 127 = .ok (.iinc 2 1, 3) := by decide +kernel
theorem d_H_readGraph_130 : decode b_H_readGraph 130 = .ok (.goto (-48), 3) := by decide +kernel
theorem d_H_readGraph_133 : decode b_H_readGraph 133 = .ok (.aload_n 0, 1) := by decide +kernel
theorem d_H_readGraph_134 : decode b_H_readGraph 134 = .ok (.getfield 36, 3) := by decide +kernel
theorem d_H_readGraph_137 : decode b_H_readGraph 137 = .ok (.aload_n 0, 1) := by decide +kernel
theorem d_H_readGraph_138 : decode b_H_readGraph 138 = .ok (.getfield 79, 3) := by decide +kernel
theorem d_H_readGraph_141 : decode b_H_readGraph 141 = .ok (.putfield 76, 3) := by decide +kernel
theorem d_H_readGraph_144 : decode b_H_readGraph 144 = .ok (.aload_n 0, 1) := by decide +kernel
theorem d_H_readGraph_145 : decode b_H_readGraph 145 = .ok (.iload_n 1, 1) := by decide +kernel
theorem d_H_readGraph_146 : decode b_H_readGraph 146 = .ok (.iconst 1, 1) := by decide +kernel
theorem d_H_readGraph_147 : decode b_H_readGraph 147 = .ok (.iadd, 1) := by decide +kernel
theorem d_H_readGraph_148 : decode b_H_readGraph 148 = .ok (.invokevirtual 92, 3) := by decide +kernel
theorem d_H_readGraph_151 : decode b_H_readGraph 151 = .ok (.ireturn, 1) := by decide +kernel
theorem d_H_findBody_0 : decode b_H_findBody 0 = .ok (.iconst (-1), 1) := by decide +kernel
theorem d_H_findBody_1 : decode b_H_findBody 1 = .ok (.istore_n 1, 1) := by decide +kernel
theorem d_H_findBody_2 : decode b_H_findBody 2 = .ok (.iconst 1, 1) := by decide +kernel
theorem d_H_findBody_3 : decode b_H_findBody 3 = .ok (.istore_n 2, 1) := by decide +kernel
theorem d_H_findBody_4 : decode b_H_findBody 4 = .ok (.iload_n 2, 1) := by decide +kernel
theorem d_H_findBody_5 : decode b_H_findBody 5 = .ok (.aload_n 0, 1) := by decide +kernel
theorem d_H_findBody_6 : decode b_H_findBody 6 = .ok (.getfield 32, 3) := by decide +kernel
theorem d_H_findBody_9 : decode b_H_findBody 9 = .ok (.getfield 47, 3) := by decide +kernel
theorem d_H_findBody_12 : decode b_H_findBody 12 = .ok (.if_icmp .ge 65, 3) := by decide +kernel
theorem d_H_findBody_15 : decode b_H_findBody 15 = .ok (.aload_n 0, 1) := by decide +kernel
theorem d_H_findBody_16 : decode b_H_findBody 16 = .ok (.getfield 32, 3) := by decide +kernel
theorem d_H_findBody_19 : decode b_H_findBody 19 = .ok (.getfield 51, 3) := by decide +kernel
theorem d_H_findBody_22 : decode b_H_findBody 22 = .ok (.iload_n 2, 1) := by decide +kernel
theorem d_H_findBody_23 : decode b_H_findBody 23 = .ok (.iaload, 1) := by decide +kernel
theorem d_H_findBody_24 : decode b_H_findBody 24 = .ok (.ifCond .eq 6, 3) := by decide +kernel
theorem d_H_findBody_27 : decode b_H_findBody 27 = .ok (.goto 44, 3) := by decide +kernel
theorem d_H_findBody_30 : decode b_H_findBody 30 = .ok (.iload_n 1, 1) := by decide +kernel
theorem d_H_findBody_31 : decode b_H_findBody 31 = .ok (.iconst (-1), 1) := by decide +kernel
theorem d_H_findBody_32 : decode b_H_findBody 32 = .ok (.if_icmp .eq 5, 3) := by decide +kernel
theorem d_H_findBody_35 : decode b_H_findBody 35 = .ok (.iconst (-1), 1) := by decide +kernel
theorem d_H_findBody_36 : decode b_H_findBody 36 = .ok (.ireturn, 1) := by decide +kernel
theorem d_H_findBody_37 : decode b_H_findBody 37 = .ok (.aload_n 0, 1) := by decide +kernel
theorem d_H_findBody_38 : decode b_H_findBody 38 = .ok (.getfield 32, 3) := by decide +kernel
theorem d_H_findBody_41 : decode b_H_findBody 41 = .ok (.getfield 40, 3) := by decide +kernel
theorem d_H_findBody_44 : decode b_H_findBody 44 = .ok (.iload_n 2, 1) := by decide +kernel
theorem d_H_findBody_45 : decode b_H_findBody 45 = .ok (.iaload, 1) := by decide +kernel
theorem d_H_findBody_46 : decode b_H_findBody 46 = .ok (.iconst 2, 1) := by decide +kernel
theorem d_H_findBody_47 : decode b_H_findBody 47 = .ok (.if_icmp .ne 8, 3) := by decide +kernel
theorem d_H_findBody_50 : decode b_H_findBody 50 = .ok (.iload_n 2, 1) := by decide +kernel
theorem d_H_findBody_51 : decode b_H_findBody 51 = .ok (.istore_n 1, 1) := by decide +kernel
theorem d_H_findBody_52 : decode b_H_findBody 52 = .ok (.goto 19, 3) := by decide +kernel
theorem d_H_findBody_55 : decode b_H_findBody 55 = .ok (.aload_n 0, 1) := by decide +kernel
theorem d_H_findBody_56 : decode b_H_findBody 56 = .ok (.getfield 32, 3) := by decide +kernel
theorem d_H_findBody_59 : decode b_H_findBody 59 = .ok (.getfield 40, 3) := by decide +kernel
theorem d_H_findBody_62 : decode b_H_findBody 62 = .ok (.iload_n 2, 1) := by decide +kernel
theorem d_H_findBody_63 : decode b_H_findBody 63 = .ok (.iaload, 1) := by decide +kernel
theorem d_H_findBody_64 : decode b_H_findBody 64 = .ok (.bipush 8, 2) := by decide +kernel
theorem d_H_findBody_66 : decode b_H_findBody 66 = .ok (.if_icmp .eq 5, 3) := by decide +kernel
theorem d_H_findBody_69 : decode b_H_findBody 69 = .ok (.iconst (-1), 1) := by decide +kernel
theorem d_H_findBody_70 : decode b_H_findBody 70 = .ok (.ireturn, 1) := by decide +kernel
theorem d_H_findBody_71 : decode b_H_findBody 71 = .ok (.iinc 2 1, 3) := by decide +kernel
theorem d_H_findBody_74 : decode b_H_findBody 74 = .ok (.goto (-70), 3) := by decide +kernel
theorem d_H_findBody_77 : decode b_H_findBody 77 = .ok (.iload_n 1, 1) := by decide +kernel
theorem d_H_findBody_78 : decode b_H_findBody 78 = .ok (.ireturn, 1) := by decide +kernel
theorem d_H_isSoundBody_0 : decode b_H_isSoundBody 0 = .ok (.aload_n 0, 1) := by decide +kernel
theorem d_H_isSoundBody_1 : decode b_H_isSoundBody 1 = .ok (.getfield 32, 3) := by decide +kernel
theorem d_H_isSoundBody_4 : decode b_H_isSoundBody 4 = .ok (.getfield 96, 3) := by decide +kernel
theorem d_H_isSoundBody_7 : decode b_H_isSoundBody 7 = .ok (.iconst 0, 1) := by decide +kernel
theorem d_H_isSoundBody_8 : decode b_H_isSoundBody 8 = .ok (.iaload, 1) := by decide +kernel
theorem d_H_isSoundBody_9 : decode b_H_isSoundBody 9 = .ok (.iconst 1, 1) := by decide +kernel
theorem d_H_isSoundBody_10 : decode b_H_isSoundBody 10 = .ok (.if_icmp .ne 55, 3) := by decide +kernel
theorem d_H_isSoundBody_13 : decode b_H_isSoundBody 13 = .ok (.aload_n 0, 1) := by decide +kernel
theorem d_H_isSoundBody_14 : decode b_H_isSoundBody 14 = .ok (.getfield 32, 3) := by decide +kernel
theorem d_H_isSoundBody_17 : decode b_H_isSoundBody 17 = .ok (.getfield 99, 3) := by decide +kernel
theorem d_H_isSoundBody_20 : decode b_H_isSoundBody 20 = .ok (.iconst 0, 1) := by decide +kernel
theorem d_H_isSoundBody_21 : decode b_H_isSoundBody 21 = .ok (.iaload, 1) := by decide +kernel
theorem d_H_isSoundBody_22 : decode b_H_isSoundBody 22 = .ok (.ifCond .ne 43, 3) := by decide +kernel
theorem d_H_isSoundBody_25 : decode b_H_isSoundBody 25 = .ok (.aload_n 0, 1) := by decide +kernel
theorem d_H_isSoundBody_26 : decode b_H_isSoundBody 26 = .ok (.getfield 32, 3) := by decide +kernel
theorem d_H_isSoundBody_29 : decode b_H_isSoundBody 29 = .ok (.getfield 96, 3) := by decide +kernel
theorem d_H_isSoundBody_32 : decode b_H_isSoundBody 32 = .ok (.iload_n 1, 1) := by decide +kernel
theorem d_H_isSoundBody_33 : decode b_H_isSoundBody 33 = .ok (.iaload, 1) := by decide +kernel
theorem d_H_isSoundBody_34 : decode b_H_isSoundBody 34 = .ok (.ifCond .ne 31, 3) := by decide +kernel
theorem d_H_isSoundBody_37 : decode b_H_isSoundBody 37 = .ok (.aload_n 0, 1) := by decide +kernel
theorem d_H_isSoundBody_38 : decode b_H_isSoundBody 38 = .ok (.getfield 32, 3) := by decide +kernel
theorem d_H_isSoundBody_41 : decode b_H_isSoundBody 41 = .ok (.getfield 99, 3) := by decide +kernel
theorem d_H_isSoundBody_44 : decode b_H_isSoundBody 44 = .ok (.iload_n 1, 1) := by decide +kernel
theorem d_H_isSoundBody_45 : decode b_H_isSoundBody 45 = .ok (.iaload, 1) := by decide +kernel
theorem d_H_isSoundBody_46 : decode b_H_isSoundBody 46 = .ok (.ifCond .ne 19, 3) := by decide +kernel
theorem d_H_isSoundBody_49 : decode b_H_isSoundBody 49 = .ok (.aload_n 0, 1) := by decide +kernel
theorem d_H_isSoundBody_50 : decode b_H_isSoundBody 50 = .ok (.getfield 32, 3) := by decide +kernel
theorem d_H_isSoundBody_53 : decode b_H_isSoundBody 53 = .ok (.getfield 102, 3) := by decide +kernel
theorem d_H_isSoundBody_56 : decode b_H_isSoundBody 56 = .ok (.iload_n 1, 1) := by decide +kernel
theorem d_H_isSoundBody_57 : decode b_H_isSoundBody 57 = .ok (.iaload, 1) := by decide +kernel
theorem d_H_isSoundBody_58 : decode b_H_isSoundBody 58 = .ok (.ifCond .le 7, 3) := by decide +kernel
theorem d_H_isSoundBody_61 : decode b_H_isSoundBody 61 = .ok (.iconst 1, 1) := by decide +kernel
theorem d_H_isSoundBody_62 : decode b_H_isSoundBody 62 = .ok (.goto 4, 3) := by decide +kernel
theorem d_H_isSoundBody_65 : decode b_H_isSoundBody 65 = .ok (.iconst 0, 1) := by decide +kernel
theorem d_H_isSoundBody_66 : decode b_H_isSoundBody 66 = .ok (.ireturn, 1) := by decide +kernel
theorem d_H_isSound_0 : decode b_H_isSound 0 = .ok (.aload_n 0, 1) := by decide +kernel
theorem d_H_isSound_1 : decode b_H_isSound 1 = .ok (.iload_n 1, 1) := by decide +kernel
theorem d_H_isSound_2 : decode b_H_isSound 2 = .ok (.invokevirtual 105, 3) := by decide +kernel
theorem d_H_isSound_5 : decode b_H_isSound 5 = .ok (.ifCond .ne 5, 3) := by decide +kernel
theorem d_H_isSound_8 : decode b_H_isSound 8 = .ok (.iconst 0, 1) := by decide +kernel
theorem d_H_isSound_9 : decode b_H_isSound 9 = .ok (.ireturn, 1) := by decide +kernel
theorem d_H_isSound_10 : decode b_H_isSound 10 = .ok (.aload_n 0, 1) := by decide +kernel
theorem d_H_isSound_11 : decode b_H_isSound 11 = .ok (.getfield 32, 3) := by decide +kernel
theorem d_H_isSound_14 : decode b_H_isSound 14 = .ok (.getfield 40, 3) := by decide +kernel
theorem d_H_isSound_17 : decode b_H_isSound 17 = .ok (.iload_n 1, 1) := by decide +kernel
theorem d_H_isSound_18 : decode b_H_isSound 18 = .ok (.iaload, 1) := by decide +kernel
theorem d_H_isSound_19 : decode b_H_isSound 19 = .ok (.tableswitch 252 1 20 #[124, 252, 252, 252, 252, 252, 252, 252, 191, 252, 252, 252, 252, 182, 252, 93, 252, 221, 252, 150], 93) := by decide +kernel
theorem d_H_isSound_112 : decode b_H_isSound 112 = .ok (.aload_n 0, 1) := by decide +kernel
theorem d_H_isSound_113 : decode b_H_isSound 113 = .ok (.getfield 32, 3) := by decide +kernel
theorem d_H_isSound_116 : decode b_H_isSound 116 = .ok (.getfield 99, 3) := by decide +kernel
theorem d_H_isSound_119 : decode b_H_isSound 119 = .ok (.iload_n 1, 1) := by decide +kernel
theorem d_H_isSound_120 : decode b_H_isSound 120 = .ok (.iaload, 1) := by decide +kernel
theorem d_H_isSound_121 : decode b_H_isSound 121 = .ok (.ifCond .ne 20, 3) := by decide +kernel
theorem d_H_isSound_124 : decode b_H_isSound 124 = .ok (.aload_n 0, 1) := by decide +kernel
theorem d_H_isSound_125 : decode b_H_isSound 125 = .ok (.getfield 32, 3) := by decide +kernel
theorem d_H_isSound_128 : decode b_H_isSound 128 = .ok (.getfield 102, 3) := by decide +kernel
theorem d_H_isSound_131 : decode b_H_isSound 131 = .ok (.iload_n 1, 1) := by decide +kernel
theorem d_H_isSound_132 : decode b_H_isSound 132 = .ok (.iaload, 1) := by decide +kernel
theorem d_H_isSound_133 : decode b_H_isSound 133 = .ok (.iconst 2, 1) := by decide +kernel
theorem d_H_isSound_134 : decode b_H_isSound 134 = .ok (.if_icmp .ne 7, 3) := by decide +kernel
theorem d_H_isSound_137 : decode b_H_isSound 137 = .ok (.iconst 1, 1) := by decide +kernel
theorem d_H_isSound_138 : decode b_H_isSound 138 = .ok (.goto 4, 3) := by decide +kernel
theorem d_H_isSound_141 : decode b_H_isSound 141 = .ok (.iconst 0, 1) := by decide +kernel
theorem d_H_isSound_142 : decode b_H_isSound 142 = .ok (.ireturn, 1) := by decide +kernel
theorem d_H_isSound_143 : decode b_H_isSound 143 = .ok (.aload_n 0, 1) := by decide +kernel
theorem d_H_isSound_144 : decode b_H_isSound 144 = .ok (.getfield 32, 3) := by decide +kernel
theorem d_H_isSound_147 : decode b_H_isSound 147 = .ok (.getfield 99, 3) := by decide +kernel
theorem d_H_isSound_150 : decode b_H_isSound 150 = .ok (.iload_n 1, 1) := by decide +kernel
theorem d_H_isSound_151 : decode b_H_isSound 151 = .ok (.iaload, 1) := by decide +kernel
theorem d_H_isSound_152 : decode b_H_isSound 152 = .ok (.ifCond .ne 15, 3) := by decide +kernel
theorem d_H_isSound_155 : decode b_H_isSound 155 = .ok (.aload_n 0, 1) := by decide +kernel
theorem d_H_isSound_156 : decode b_H_isSound 156 = .ok (.iload_n 1, 1) := by decide +kernel
theorem d_H_isSound_157 : decode b_H_isSound 157 = .ok (.invokevirtual 108, 3) := by decide +kernel
theorem d_H_isSound_160 : decode b_H_isSound 160 = .ok (.ifCond .eq 7, 3) := by decide +kernel
theorem d_H_isSound_163 : decode b_H_isSound 163 = .ok (.iconst 1, 1) := by decide +kernel
theorem d_H_isSound_164 : decode b_H_isSound 164 = .ok (.goto 4, 3) := by decide +kernel
theorem d_H_isSound_167 : decode b_H_isSound 167 = .ok (.iconst 0, 1) := by decide +kernel
theorem d_H_isSound_168 : decode b_H_isSound 168 = .ok (.ireturn, 1) := by decide +kernel
theorem d_H_isSound_169 : decode b_H_isSound 169 = .ok (.aload_n 0, 1) := by decide +kernel
theorem d_H_isSound_170 : decode b_H_isSound 170 = .ok (.getfield 32, 3) := by decide +kernel
theorem d_H_isSound_173 : decode b_H_isSound 173 = .ok (.getfield 102, 3) := by decide +kernel
theorem d_H_isSound_176 : decode b_H_isSound 176 = .ok (.iload_n 1, 1) := by decide +kernel
theorem d_H_isSound_177 : decode b_H_isSound 177 = .ok (.iaload, 1) := by decide +kernel
theorem d_H_isSound_178 : decode b_H_isSound 178 = .ok (.ifCond .ne 21, 3) := by decide +kernel
theorem d_H_isSound_181 : decode b_H_isSound 181 = .ok (.aload_n 0, 1) := by decide +kernel
theorem d_H_isSound_182 : decode b_H_isSound 182 = .ok (.getfield 32, 3) := by decide +kernel
theorem d_H_isSound_185 : decode b_H_isSound 185 = .ok (.getfield 99, 3) := by decide +kernel
theorem d_H_isSound_188 : decode b_H_isSound 188 = .ok (.iload_n 1, 1) := by decide +kernel
theorem d_H_isSound_189 : decode b_H_isSound 189 = .ok (.iaload, 1) := by decide +kernel
theorem d_H_isSound_190 : decode b_H_isSound 190 = .ok (.bipush 6, 2) := by decide +kernel
theorem d_H_isSound_192 : decode b_H_isSound 192 = .ok (.if_icmp .gt 7, 3) := by decide +kernel
theorem d_H_isSound_195 : decode b_H_isSound 195 = .ok (.iconst 1, 1) := by decide +kernel
theorem d_H_isSound_196 : decode b_H_isSound 196 = .ok (.goto 4, 3) := by decide +kernel
theorem d_H_isSound_199 : decode b_H_isSound 199 = .ok (.iconst 0, 1) := by decide +kernel
theorem d_H_isSound_200 : decode b_H_isSound 200 = .ok (.ireturn, 1) := by decide +kernel
theorem d_H_isSound_201 : decode b_H_isSound 201 = .ok (.aload_n 0, 1) := by decide +kernel
theorem d_H_isSound_202 : decode b_H_isSound 202 = .ok (.getfield 32, 3) := by decide +kernel
theorem d_H_isSound_205 : decode b_H_isSound 205 = .ok (.iload_n 1, 1) := by decide +kernel
theorem d_H_isSound_206 : decode b_H_isSound 206 = .ok (.invokevirtual 111, 3) := by decide +kernel
theorem d_H_isSound_209 : decode b_H_isSound 209 = .ok (.ireturn, 1) := by decide +kernel
theorem d_H_isSound_210 : decode b_H_isSound 210 = .ok (.aload_n 0, 1) := by decide +kernel
theorem d_H_isSound_211 : decode b_H_isSound 211 = .ok (.getfield 32, 3) := by decide +kernel
theorem d_H_isSound_214 : decode b_H_isSound 214 = .ok (.getfield 102, 3) := by decide +kernel
theorem d_H_isSound_217 : decode b_H_isSound 217 = .ok (.iload_n 1, 1) := by decide +kernel
theorem d_H_isSound_218 : decode b_H_isSound 218 = .ok (.iaload, 1) := by decide +kernel
theorem d_H_isSound_219 : decode b_H_isSound 219 = .ok (.ifCond .ne 19, 3) := by decide +kernel
theorem d_H_isSound_222 : decode b_H_isSound 222 = .ok (.aload_n 0, 1) := by decide +kernel
theorem d_H_isSound_223 : decode b_H_isSound 223 = .ok (.iload_n 1, 1) := by decide +kernel
theorem d_H_isSound_224 : decode b_H_isSound 224 = .ok (.invokevirtual 114, 3) := by decide +kernel
theorem d_H_isSound_227 : decode b_H_isSound 227 = .ok (.ldc2_w 118, 3) := by decide +kernel
theorem d_H_isSound_230 : decode b_H_isSound 230 = .ok (.lcmp, 1) := by decide +kernel
theorem d_H_isSound_231 : decode b_H_isSound 231 = .ok (.ifCond .eq 7, 3) := by decide +kernel
theorem d_H_isSound_234 : decode b_H_isSound 234 = .ok (.iconst 1, 1) := by decide +kernel
theorem d_H_isSound_235 : decode b_H_isSound 235 = .ok (.goto 4, 3) := by decide +kernel
theorem d_H_isSound_238 : decode b_H_isSound 238 = .ok (.iconst 0, 1) := by decide +kernel
theorem d_H_isSound_239 : decode b_H_isSound 239 = .ok (.ireturn, 1) := by decide +kernel
theorem d_H_isSound_240 : decode b_H_isSound 240 = .ok (.aload_n 0, 1) := by decide +kernel
theorem d_H_isSound_241 : decode b_H_isSound 241 = .ok (.getfield 32, 3) := by decide +kernel
theorem d_H_isSound_244 : decode b_H_isSound 244 = .ok (.iload_n 1, 1) := by decide +kernel
theorem d_H_isSound_245 : decode b_H_isSound 245 = .ok (.invokevirtual 111, 3) := by decide +kernel
theorem d_H_isSound_248 : decode b_H_isSound 248 = .ok (.ifCond .eq 21, 3) := by decide +kernel
theorem d_H_isSound_251 : decode b_H_isSound 251 = .ok (.aload_n 0, 1) := by decide +kernel
theorem d_H_isSound_252 : decode b_H_isSound 252 = .ok (.getfield 32, 3) := by decide +kernel
theorem d_H_isSound_255 : decode b_H_isSound 255 = .ok (.iload_n 1, 1) := by decide +kernel
theorem d_H_isSound_256 : decode b_H_isSound 256 = .ok (.bipush 8, 2) := by decide +kernel
theorem d_H_isSound_258 : decode b_H_isSound 258 = .ok (.invokevirtual 120, 3) := by decide +kernel
theorem d_H_isSound_261 : decode b_H_isSound 261 = .ok (.iconst (-1), 1) := by decide +kernel
theorem d_H_isSound_262 : decode b_H_isSound 262 = .ok (.if_icmp .eq 7, 3) := by decide +kernel
theorem d_H_isSound_265 : decode b_H_isSound 265 = .ok (.iconst 1, 1) := by decide +kernel
theorem d_H_isSound_266 : decode b_H_isSound 266 = .ok (.goto 4, 3) := by decide +kernel
theorem d_H_isSound_269 : decode b_H_isSound 269 = .ok (.iconst 0, 1) := by decide +kernel
theorem d_H_isSound_270 : decode b_H_isSound 270 = .ok (.ireturn, 1) := by decide +kernel
theorem d_H_isSound_271 : decode b_H_isSound 271 = .ok (.iconst 0, 1) := by decide +kernel
theorem d_H_isSound_272 : decode b_H_isSound 272 = .ok (.ireturn, 1) := by decide +kernel
theorem d_H_hasSoundAttributes_0 : decode b_H_hasSoundAttributes 0 = .ok (.aload_n 0, 1) := by decide +kernel
theorem d_H_hasSoundAttributes_1 : decode b_H_hasSoundAttributes 1 = .ok (.getfield 32, 3) := by decide +kernel
theorem d_H_hasSoundAttributes_4 : decode b_H_hasSoundAttributes 4 = .ok (.getfield 123, 3) := by decide +kernel
theorem d_H_hasSoundAttributes_7 : decode b_H_hasSoundAttributes 7 = .ok (.iload_n 1, 1) := by decide +kernel
theorem d_H_hasSoundAttributes_8 : decode b_H_hasSoundAttributes 8 = .ok (.iaload, 1) := by decide +kernel
theorem d_H_hasSoundAttributes_9 : decode b_H_hasSoundAttributes 9 = .ok (.aload_n 0, 1) := by decide +kernel
theorem d_H_hasSoundAttributes_10 : decode b_H_hasSoundAttributes 10 = .ok (.getfield 32, 3) := by decide +kernel
theorem d_H_hasSoundAttributes_13 : decode b_H_hasSoundAttributes 13 = .ok (.getfield 96, 3) := by decide +kernel
theorem d_H_hasSoundAttributes_16 : decode b_H_hasSoundAttributes 16 = .ok (.iload_n 1, 1) := by decide +kernel
theorem d_H_hasSoundAttributes_17 : decode b_H_hasSoundAttributes 17 = .ok (.iaload, 1) := by decide +kernel
theorem d_H_hasSoundAttributes_18 : decode b_H_hasSoundAttributes 18 = .ok (.iadd, 1) := by decide +kernel
theorem d_H_hasSoundAttributes_19 : decode b_H_hasSoundAttributes 19 = .ok (.istore_n 2, 1) := by decide +kernel
theorem d_H_hasSoundAttributes_20 : decode b_H_hasSoundAttributes 20 = .ok (.aload_n 0, 1) := by decide +kernel
theorem d_H_hasSoundAttributes_21 : decode b_H_hasSoundAttributes 21 = .ok (.getfield 32, 3) := by decide +kernel
theorem d_H_hasSoundAttributes_24 : decode b_H_hasSoundAttributes 24 = .ok (.getfield 123, 3) := by decide +kernel
theorem d_H_hasSoundAttributes_27 : decode b_H_hasSoundAttributes 27 = .ok (.iload_n 1, 1) := by decide +kernel
theorem d_H_hasSoundAttributes_28 : decode b_H_hasSoundAttributes 28 = .ok (.iaload, 1) := by decide +kernel
theorem d_H_hasSoundAttributes_29 : decode b_H_hasSoundAttributes 29 = .ok (.istore_n 3, 1) := by decide +kernel
theorem d_H_hasSoundAttributes_30 : decode b_H_hasSoundAttributes 30 = .ok (.iload_n 3, 1) := by decide +kernel
theorem d_H_hasSoundAttributes_31 : decode b_H_hasSoundAttributes 31 = .ok (.iload_n 2, 1) := by decide +kernel
theorem d_H_hasSoundAttributes_32 : decode b_H_hasSoundAttributes 32 = .ok (.if_icmp .ge 37, 3) := by decide +kernel
theorem d_H_hasSoundAttributes_35 : decode b_H_hasSoundAttributes 35 = .ok (.aload_n 0, 1) := by decide +kernel
theorem d_H_hasSoundAttributes_36 : decode b_H_hasSoundAttributes 36 = .ok (.iload_n 1, 1) := by decide +kernel
theorem d_H_hasSoundAttributes_37 : decode b_H_hasSoundAttributes 37 = .ok (.aload_n 0, 1) := by decide +kernel
theorem d_H_hasSoundAttributes_38 : decode b_H_hasSoundAttributes 38 = .ok (.getfield 32, 3) := by decide +kernel
theorem d_H_hasSoundAttributes_41 : decode b_H_hasSoundAttributes 41 = .ok (.getfield 126, 3) := by decide +kernel
theorem d_H_hasSoundAttributes_44 : decode b_H_hasSoundAttributes 44 = .ok (.iload_n 3, 1) := by decide +kernel
theorem d_H_hasSoundAttributes_45 : decode b_H_hasSoundAttributes 45 = .ok (.iaload, 1) := by decide +kernel
theorem d_H_hasSoundAttributes_46 : decode b_H_hasSoundAttributes 46 = .ok (.invokevirtual 129, 3) := by decide +kernel
theorem d_H_hasSoundAttributes_49 : decode b_H_hasSoundAttributes 49 = .ok (.ifCond .eq 12, 3) := by decide +kernel
theorem d_H_hasSoundAttributes_52 : decode b_H_hasSoundAttributes 52 = .ok (.aload_n 0, 1) := by decide +kernel
theorem d_H_hasSoundAttributes_53 : decode b_H_hasSoundAttributes 53 = .ok (.iload_n 3, 1) := by decide +kernel
theorem d_H_hasSoundAttributes_54 : decode b_H_hasSoundAttributes 54 = .ok (.invokevirtual 132, 3) := by decide +kernel
theorem d_H_hasSoundAttributes_57 : decode b_H_hasSoundAttributes 57 = .ok (.iconst (-1), 1) := by decide +kernel
theorem d_H_hasSoundAttributes_58 : decode b_H_hasSoundAttributes 58 = .ok (.if_icmp .ne 5, 3) := by decide +kernel
theorem d_H_hasSoundAttributes_61 : decode b_H_hasSoundAttributes 61 = .ok (.iconst 0, 1) := by decide +kernel
theorem d_H_hasSoundAttributes_62 : decode b_H_hasSoundAttributes 62 = .ok (.ireturn, 1) := by decide +kernel
theorem d_H_hasSoundAttributes_63 : decode b_H_hasSoundAttributes 63 = .ok (.iinc 3 1, 3) := by decide +kernel
theorem d_H_hasSoundAttributes_66 : decode b_H_hasSoundAttributes 66 = .ok (.goto (-36), 3) := by decide +kernel
theorem d_H_hasSoundAttributes_69 : decode b_H_hasSoundAttributes 69 = .ok (.iconst 1, 1) := by decide +kernel
theorem d_H_hasSoundAttributes_70 : decode b_H_hasSoundAttributes 70 = .ok (.ireturn, 1) := by decide +kernel
theorem d_H_mayBear_0 : decode b_H_mayBear 0 = .ok (.aload_n 0, 1) := by decide +kernel
theorem d_H_mayBear_1 : decode b_H_mayBear 1 = .ok (.getfield 32, 3) := by decide +kernel
theorem d_H_mayBear_4 : decode b_H_mayBear 4 = .ok (.getfield 40, 3) := by decide +kernel
theorem d_H_mayBear_7 : decode b_H_mayBear 7 = .ok (.iload_n 1, 1) := by decide +kernel
theorem d_H_mayBear_8 : decode b_H_mayBear 8 = .ok (.iaload, 1) := by decide +kernel
theorem d_H_mayBear_9 : decode b_H_mayBear 9 = .ok (.istore_n 3, 1) := by decide +kernel
theorem d_H_mayBear_10 : decode b_H_mayBear 10 = .ok (.iload_n 2, 1) := by decide +kernel
theorem d_H_mayBear_11 : decode b_H_mayBear 11 = .ok (.lookupswitch 105 #[(8, 66), (14, 55), (15, 55), (47, 78), (247, 49)], 49) := by decide +kernel
theorem d_H_mayBear_60 : decode b_H_mayBear 60 = .ok (.aload_n 0, 1) := by decide +kernel
theorem d_H_mayBear_61 : decode b_H_mayBear 61 = .ok (.iload_n 1, 1) := by decide +kernel
theorem d_H_mayBear_62 : decode b_H_mayBear 62 = .ok (.invokevirtual 135, 3) := by decide +kernel
theorem d_H_mayBear_65 : decode b_H_mayBear 65 = .ok (.ireturn, 1) := by decide +kernel
theorem d_H_mayBear_66 : decode b_H_mayBear 66 = .ok (.iload_n 3, 1) := by decide +kernel
theorem d_H_mayBear_67 : decode b_H_mayBear 67 = .ok (.iconst 1, 1) := by decide +kernel
theorem d_H_mayBear_68 : decode b_H_mayBear 68 = .ok (.if_icmp .ne 7, 3) := by decide +kernel
theorem d_H_mayBear_71 : decode b_H_mayBear 71 = .ok (.iconst 1, 1) := by decide +kernel
theorem d_H_mayBear_72 : decode b_H_mayBear 72 = .ok (.goto 4, 3) := by decide +kernel
theorem d_H_mayBear_75 : decode b_H_mayBear 75 = .ok (.iconst 0, 1) := by decide +kernel
theorem d_H_mayBear_76 : decode b_H_mayBear 76 = .ok (.ireturn, 1) := by decide +kernel
theorem d_H_mayBear_77 : decode b_H_mayBear 77 = .ok (.iload_n 3, 1) := by decide +kernel
theorem d_H_mayBear_78 : decode b_H_mayBear 78 = .ok (.bipush 18, 2) := by decide +kernel
theorem d_H_mayBear_80 : decode b_H_mayBear 80 = .ok (.if_icmp .ne 7, 3) := by decide +kernel
theorem d_H_mayBear_83 : decode b_H_mayBear 83 = .ok (.iconst 1, 1) := by decide +kernel
theorem d_H_mayBear_84 : decode b_H_mayBear 84 = .ok (.goto 4, 3) := by decide +kernel
theorem d_H_mayBear_87 : decode b_H_mayBear 87 = .ok (.iconst 0, 1) := by decide +kernel
theorem d_H_mayBear_88 : decode b_H_mayBear 88 = .ok (.ireturn, 1) := by decide +kernel
theorem d_H_mayBear_89 : decode b_H_mayBear 89 = .ok (.aload_n 0, 1) := by decide +kernel
theorem d_H_mayBear_90 : decode b_H_mayBear 90 = .ok (.getfield 32, 3) := by decide +kernel
theorem d_H_mayBear_93 : decode b_H_mayBear 93 = .ok (.getfield 40, 3) := by decide +kernel
theorem d_H_mayBear_96 : decode b_H_mayBear 96 = .ok (.aload_n 0, 1) := by decide +kernel
theorem d_H_mayBear_97 : decode b_H_mayBear 97 = .ok (.getfield 32, 3) := by decide +kernel
theorem d_H_mayBear_100 : decode b_H_mayBear 100 = .ok (.getfield 51, 3) := by decide +kernel
theorem d_H_mayBear_103 : decode b_H_mayBear 103 = .ok (.iload_n 1, 1) := by decide +kernel
theorem d_H_mayBear_104 : decode b_H_mayBear 104 = .ok (.iaload, 1) := by decide +kernel
theorem d_H_mayBear_105 : decode b_H_mayBear 105 = .ok (.iaload, 1) := by decide +kernel
theorem d_H_mayBear_106 : decode b_H_mayBear 106 = .ok (.iconst 1, 1) := by decide +kernel
theorem d_H_mayBear_107 : decode b_H_mayBear 107 = .ok (.if_icmp .ne 7, 3) := by decide +kernel
theorem d_H_mayBear_110 : decode b_H_mayBear 110 = .ok (.iconst 1, 1) := by decide +kernel
theorem d_H_mayBear_111 : decode b_H_mayBear 111 = .ok (.goto 4, 3) := by decide +kernel
theorem d_H_mayBear_114 : decode b_H_mayBear 114 = .ok (.iconst 0, 1) := by decide +kernel
theorem d_H_mayBear_115 : decode b_H_mayBear 115 = .ok (.ireturn, 1) := by decide +kernel
theorem d_H_mayBear_116 : decode b_H_mayBear 116 = .ok (.iconst 0, 1) := by decide +kernel
theorem d_H_mayBear_117 : decode b_H_mayBear 117 = .ok (.ireturn, 1) := by decide +kernel
theorem d_H_hasSoundSize_0 : decode b_H_hasSoundSize 0 = .ok (.aload_n 0, 1) := by decide +kernel
theorem d_H_hasSoundSize_1 : decode b_H_hasSoundSize 1 = .ok (.iload_n 1, 1) := by decide +kernel
theorem d_H_hasSoundSize_2 : decode b_H_hasSoundSize 2 = .ok (.bipush 14, 2) := by decide +kernel
theorem d_H_hasSoundSize_4 : decode b_H_hasSoundSize 4 = .ok (.invokevirtual 54, 3) := by decide +kernel
theorem d_H_hasSoundSize_7 : decode b_H_hasSoundSize 7 = .ok (.istore_n 2, 1) := by decide +kernel
theorem d_H_hasSoundSize_8 : decode b_H_hasSoundSize 8 = .ok (.iload_n 2, 1) := by decide +kernel
theorem d_H_hasSoundSize_9 : decode b_H_hasSoundSize 9 = .ok (.ifCond .lt 23, 3) := by decide +kernel
theorem d_H_hasSoundSize_12 : decode b_H_hasSoundSize 12 = .ok (.iload_n 2, 1) := by decide +kernel
theorem d_H_hasSoundSize_13 : decode b_H_hasSoundSize 13 = .ok (.iconst 4, 1) := by decide +kernel
theorem d_H_hasSoundSize_14 : decode b_H_hasSoundSize 14 = .ok (.if_icmp .gt 18, 3) := by decide +kernel
theorem d_H_hasSoundSize_17 : decode b_H_hasSoundSize 17 = .ok (.aload_n 0, 1) := by decide +kernel
theorem d_H_hasSoundSize_18 : decode b_H_hasSoundSize 18 = .ok (.iload_n 1, 1) := by decide +kernel
theorem d_H_hasSoundSize_19 : decode b_H_hasSoundSize 19 = .ok (.bipush 15, 2) := by decide +kernel
theorem d_H_hasSoundSize_21 : decode b_H_hasSoundSize 21 = .ok (.invokevirtual 54, 3) := by decide +kernel
theorem d_H_hasSoundSize_24 : decode b_H_hasSoundSize 24 = .ok (.iload_n 2, 1) := by decide +kernel
theorem d_H_hasSoundSize_25 : decode b_H_hasSoundSize 25 = .ok (.if_icmp .gt 7, 3) := by decide +kernel
theorem d_H_hasSoundSize_28 : decode b_H_hasSoundSize 28 = .ok (.iconst 1, 1) := by decide +kernel
theorem d_H_hasSoundSize_29 : decode b_H_hasSoundSize 29 = .ok (.goto 4, 3) := by decide +kernel
theorem d_H_hasSoundSize_32 : decode b_H_hasSoundSize 32 = .ok (.iconst 0, 1) := by decide +kernel
theorem d_H_hasSoundSize_33 : decode b_H_hasSoundSize 33 = .ok (.ireturn, 1) := by decide +kernel
theorem d_H_isObject_0 : decode b_H_isObject 0 = .ok (.aload_n 0, 1) := by decide +kernel
theorem d_H_isObject_1 : decode b_H_isObject 1 = .ok (.getfield 32, 3) := by decide +kernel
theorem d_H_isObject_4 : decode b_H_isObject 4 = .ok (.getfield 40, 3) := by decide +kernel
theorem d_H_isObject_7 : decode b_H_isObject 7 = .ok (.iload_n 1, 1) := by decide +kernel
theorem d_H_isObject_8 : decode b_H_isObject 8 = .ok (.iaload, 1) := by decide +kernel
theorem d_H_isObject_9 : decode b_H_isObject 9 = .ok (.istore_n 2, 1) := by decide +kernel
theorem d_H_isObject_10 : decode b_H_isObject 10 = .ok (.iload_n 2, 1) := by decide +kernel
theorem d_H_isObject_11 : decode b_H_isObject 11 = .ok (.bipush 16, 2) := by decide +kernel
theorem d_H_isObject_13 : decode b_H_isObject 13 = .ok (.if_icmp .eq 14, 3) := by decide +kernel
theorem d_H_isObject_16 : decode b_H_isObject 16 = .ok (.iload_n 2, 1) := by decide +kernel
theorem d_H_isObject_17 : decode b_H_isObject 17 = .ok (.iconst 1, 1) := by decide +kernel
theorem d_H_isObject_18 : decode b_H_isObject 18 = .ok (.if_icmp .eq 9, 3) := by decide +kernel
theorem d_H_isObject_21 : decode b_H_isObject 21 = .ok (.iload_n 2, 1) := by decide +kernel
theorem d_H_isObject_22 : decode b_H_isObject 22 = .ok (.bipush 20, 2) := by decide +kernel
theorem d_H_isObject_24 : decode b_H_isObject 24 = .ok (.if_icmp .ne 7, 3) := by decide +kernel
theorem d_H_isObject_27 : decode b_H_isObject 27 = .ok (.iconst 1, 1) := by decide +kernel
theorem d_H_isObject_28 : decode b_H_isObject 28 = .ok (.goto 4, 3) := by decide +kernel
theorem d_H_isObject_31 : decode b_H_isObject 31 = .ok (.iconst 0, 1) := by decide +kernel
theorem d_H_isObject_32 : decode b_H_isObject 32 = .ok (.ireturn, 1) := by decide +kernel
theorem d_H_numberObject_0 : decode b_H_numberObject 0 = .ok (.aload_n 0, 1) := by decide +kernel
theorem d_H_numberObject_1 : decode b_H_numberObject 1 = .ok (.getfield 15, 3) := by decide +kernel
theorem d_H_numberObject_4 : decode b_H_numberObject 4 = .ok (.iload_n 1, 1) := by decide +kernel
theorem d_H_numberObject_5 : decode b_H_numberObject 5 = .ok (.iconst (-1), 1) := by decide +kernel
theorem d_H_numberObject_6 : decode b_H_numberObject 6 = .ok (.iastore, 1) := by decide +kernel
theorem d_H_numberObject_7 : decode b_H_numberObject 7 = .ok (.aload_n 0, 1) := by decide +kernel
theorem d_H_numberObject_8 : decode b_H_numberObject 8 = .ok (.iload_n 1, 1) := by decide +kernel
theorem d_H_numberObject_9 : decode b_H_numberObject 9 = .ok (.invokevirtual 135, 3) := by decide +kernel
theorem d_H_numberObject_12 : decode b_H_numberObject 12 = .ok (.ifCond .ne 5, 3) := by decide +kernel
theorem d_H_numberObject_15 : decode b_H_numberObject 15 = .ok (.iconst 1, 1) := by decide +kernel
theorem d_H_numberObject_16 : decode b_H_numberObject 16 = .ok (.ireturn, 1) := by decide +kernel
theorem d_H_numberObject_17 : decode b_H_numberObject 17 = .ok (.aload_n 0, 1) := by decide +kernel
theorem d_H_numberObject_18 : decode b_H_numberObject 18 = .ok (.getfield 79, 3) := by decide +kernel
theorem d_H_numberObject_21 : decode b_H_numberObject 21 = .ok (.bipush 16, 2) := by decide +kernel
theorem d_H_numberObject_23 : decode b_H_numberObject 23 = .ok (.if_icmp .lt 5, 3) := by decide +kernel
theorem d_H_numberObject_26 : decode b_H_numberObject 26 = .ok (.iconst 0, 1) := by decide +kernel
theorem d_H_numberObject_27 : decode b_H_numberObject 27 = .ok (.ireturn, 1) := by decide +kernel
theorem d_H_numberObject_28 : decode b_H_numberObject 28 = .ok (.aload_n 0, 1) := by decide +kernel
theorem d_H_numberObject_29 : decode b_H_numberObject 29 = .ok (.getfield 15, 3) := by decide +kernel
theorem d_H_numberObject_32 : decode b_H_numberObject 32 = .ok (.iload_n 1, 1) := by decide +kernel
theorem d_H_numberObject_33 : decode b_H_numberObject 33 = .ok (.aload_n 0, 1) := by decide +kernel
theorem d_H_numberObject_34 : decode b_H_numberObject 34 = .ok (.getfield 79, 3) := by decide +kernel
theorem d_H_numberObject_37 : decode b_H_numberObject 37 = .ok (.iastore, 1) := by decide +kernel
theorem d_H_numberObject_38 : decode b_H_numberObject 38 = .ok (.aload_n 0, 1) := by decide +kernel
theorem d_H_numberObject_39 : decode b_H_numberObject 39 = .ok (.iload_n 1, 1) := by decide +kernel
theorem d_H_numberObject_40 : decode b_H_numberObject 40 = .ok (.aload_n 0, 1) := by decide +kernel
theorem d_H_numberObject_41 : decode b_H_numberObject 41 = .ok (.getfield 79, 3) := by decide +kernel
theorem d_H_numberObject_44 : decode b_H_numberObject 44 = .ok (.invokevirtual 138, 3) := by decide +kernel
theorem d_H_numberObject_47 : decode b_H_numberObject 47 = .ok (.aload_n 0, 1) := by decide +kernel
theorem d_H_numberObject_48 : decode b_H_numberObject 48 = .ok (.dup, 1) := by decide +kernel
theorem d_H_numberObject_49 : decode b_H_numberObject 49 = .ok (.getfield 79, 3) := by decide +kernel
theorem d_H_numberObject_52 : decode b_H_numberObject 52 = .ok (.iconst 1, 1) := by decide +kernel
theorem d_H_numberObject_53 : decode b_H_numberObject 53 = .ok (.iadd, 1) := by decide +kernel
theorem d_H_numberObject_54 : decode b_H_numberObject 54 = .ok (.putfield 79, 3) := by decide +kernel
theorem d_H_numberObject_57 : decode b_H_numberObject 57 = .ok (.aload_n 0, 1) := by decide +kernel
theorem d_H_numberObject_58 : decode b_H_numberObject 58 = .ok (.iload_n 1, 1) := by decide +kernel
theorem d_H_numberObject_59 : decode b_H_numberObject 59 = .ok (.invokevirtual 142, 3) := by decide +kernel
theorem d_H_numberObject_62 : decode b_H_numberObject 62 = .ok (.ireturn, 1) := by decide +kernel
theorem d_H_layObject_0 : decode b_H_layObject 0 = .ok (.aload_n 0, 1) := by decide +kernel
theorem d_H_layObject_1 : decode b_H_layObject 1 = .ok (.getfield 22, 3) := by decide +kernel
theorem d_H_layObject_4 : decode b_H_layObject 4 = .ok (.iload_n 2, 1) := by decide +kernel
theorem d_H_layObject_5 : decode b_H_layObject 5 = .ok (.aload_n 0, 1) := by decide +kernel
theorem d_H_layObject_6 : decode b_H_layObject 6 = .ok (.iload_n 1, 1) := by decide +kernel
theorem d_H_layObject_7 : decode b_H_layObject 7 = .ok (.bipush 15, 2) := by decide +kernel
theorem d_H_layObject_9 : decode b_H_layObject 9 = .ok (.invokevirtual 54, 3) := by decide +kernel
theorem d_H_layObject_12 : decode b_H_layObject 12 = .ok (.iconst 0, 1) := by decide +kernel
theorem d_H_layObject_13 : decode b_H_layObject 13 = .ok (.invokestatic 145, 3) := by decide +kernel
theorem d_H_layObject_16 : decode b_H_layObject 16 = .ok (.iastore, 1) := by decide +kernel
theorem d_H_layObject_17 : decode b_H_layObject 17 = .ok (.aload_n 0, 1) := by decide +kernel
theorem d_H_layObject_18 : decode b_H_layObject 18 = .ok (.getfield 25, 3) := by decide +kernel
theorem d_H_layObject_21 : decode b_H_layObject 21 = .ok (.iload_n 2, 1) := by decide +kernel
theorem d_H_layObject_22 : decode b_H_layObject 22 = .ok (.iconst 0, 1) := by decide +kernel
theorem d_H_layObject_23 : decode b_H_layObject 23 = .ok (.iastore, 1) := by decide +kernel
theorem d_H_layObject_24 : decode b_H_layObject 24 = .ok (.aload_n 0, 1) := by decide +kernel
theorem d_H_layObject_25 : decode b_H_layObject 25 = .ok (.getfield 32, 3) := by decide +kernel
theorem d_H_layObject_28 : decode b_H_layObject 28 = .ok (.getfield 40, 3) := by decide +kernel
theorem d_H_layObject_31 : decode b_H_layObject 31 = .ok (.iload_n 1, 1) := by decide +kernel
theorem d_H_layObject_32 : decode b_H_layObject 32 = .ok (.iaload, 1) := by decide +kernel
theorem d_H_layObject_33 : decode b_H_layObject 33 = .ok (.bipush 16, 2) := by decide +kernel
theorem d_H_layObject_35 : decode b_H_layObject 35 = .ok (.if_icmp .ne 16, 3) := by decide +kernel
theorem d_H_layObject_38 : decode b_H_layObject 38 = .ok (.aload_n 0, 1) := by decide +kernel
theorem d_H_layObject_39 : decode b_H_layObject 39 = .ok (.getfield 36, 3) := by decide +kernel
theorem d_H_layObject_42 : decode b_H_layObject 42 = .ok (.iload_n 2, 1) := by decide +kernel
theorem d_H_layObject_43 : decode b_H_layObject 43 = .ok (.iconst 0, 1) := by decide +kernel
theorem d_H_layObject_44 : decode b_H_layObject 44 = .ok (.iconst 2, 1) := by decide +kernel
theorem d_H_layObject_45 : decode b_H_layObject 45 = .ok (.invokevirtual 150, 3) := by decide +kernel
theorem d_H_layObject_48 : decode b_H_layObject 48 = .ok (.goto 94, 3) := by decide +kernel
theorem d_H_layObject_51 : decode b_H_layObject 51 = .ok (.aload_n 0, 1) := by decide +kernel
theorem d_H_layObject_52 : decode b_H_layObject 52 = .ok (.getfield 32, 3) := by decide +kernel
theorem d_H_layObject_55 : decode b_H_layObject 55 = .ok (.getfield 40, 3) := by decide +kernel
theorem d_H_layObject_58 : decode b_H_layObject 58 = .ok (.iload_n 1, 1) := by decide +kernel
theorem d_H_layObject_59 : decode b_H_layObject 59 = .ok (.iaload, 1) := by decide +kernel
theorem d_H_layObject_60 : decode b_H_layObject 60 = .ok (.iconst 1, 1) := by decide +kernel
theorem d_H_layObject_61 : decode b_H_layObject 61 = .ok (.if_icmp .ne 22, 3) := by decide +kernel
theorem d_H_layObject_64 : decode b_H_layObject 64 = .ok (.aload_n 0, 1) := by decide +kernel
theorem d_H_layObject_65 : decode b_H_layObject 65 = .ok (.getfield 36, 3) := by decide +kernel
theorem d_H_layObject_68 : decode b_H_layObject 68 = .ok (.iload_n 2, 1) := by decide +kernel
theorem d_H_layObject_69 : decode b_H_layObject 69 = .ok (.iconst 1, 1) := by decide +kernel
theorem d_H_layObject_70 : decode b_H_layObject 70 = .ok (.aload_n 0, 1) := by decide +kernel
theorem d_H_layObject_71 : decode b_H_layObject 71 = .ok (.iload_n 1, 1) := by decide +kernel
theorem d_H_layObject_72 : decode b_H_layObject 72 = .ok (.bipush 14, 2) := by decide +kernel
theorem d_H_layObject_74 : decode b_H_layObject 74 = .ok (.invokevirtual 54, 3) := by decide +kernel
theorem d_H_layObject_77 : decode b_H_layObject 77 = .ok (.invokevirtual 150, 3) := by decide +kernel
theorem d_H_layObject_80 : decode b_H_layObject 80 = .ok (.goto 62, 3) := by decide +kernel
theorem d_H_layObject_83 : decode b_H_layObject 83 = .ok (.aload_n 0, 1) := by decide +kernel
theorem d_H_layObject_84 : decode b_H_layObject 84 = .ok (.getfield 36, 3) := by decide +kernel
theorem d_H_layObject_87 : decode b_H_layObject 87 = .ok (.iload_n 2, 1) := by decide +kernel
theorem d_H_layObject_88 : decode b_H_layObject 88 = .ok (.iconst 2, 1) := by decide +kernel
theorem d_H_layObject_89 : decode b_H_layObject 89 = .ok (.iconst 0, 1) := by decide +kernel
theorem d_H_layObject_90 : decode b_H_layObject 90 = .ok (.invokevirtual 150, 3) := by decide +kernel
theorem d_H_layObject_93 : decode b_H_layObject 93 = .ok (.iconst 0, 1) := by decide +kernel
theorem d_H_layObject_94 : decode b_H_layObject 94 = .ok (.istore_n 3, 1) := by decide +kernel
theorem d_H_layObject_95 : decode b_H_layObject 95 = .ok (.iload_n 3, 1) := by decide +kernel
theorem d_H_layObject_96 : decode b_H_layObject 96 = .ok (.aload_n 0, 1) := by decide +kernel
theorem d_H_layObject_97 : decode b_H_layObject 97 = .ok (.getfield 32, 3) := by decide +kernel
theorem d_H_layObject_100 : decode b_H_layObject 100 = .ok (.getfield 99, 3) := by decide +kernel
theorem d_H_layObject_103 : decode b_H_layObject 103 = .ok (.iload_n 1, 1) := by decide +kernel
theorem d_H_layObject_104 : decode b_H_layObject 104 = .ok (.iaload, 1) := by decide +kernel
theorem d_H_layObject_105 : decode b_H_layObject 105 = .ok (.if_icmp .ge 37, 3) := by decide +kernel
theorem d_H_layObject_108 : decode b_H_layObject 108 = .ok (.aload_n 0, 1) := by decide +kernel
theorem d_H_layObject_109 : decode b_H_layObject 109 = .ok (.getfield 36, 3) := by decide +kernel
theorem d_H_layObject_112 : decode b_H_layObject 112 = .ok (.iload_n 2, 1) := by decide +kernel
theorem d_H_layObject_113 : decode b_H_layObject 113 = .ok (.aload_n 0, 1) := by decide +kernel
theorem d_H_layObject_114 : decode b_H_layObject 114 = .ok (.getfield 32, 3) := by decide +kernel
theorem d_H_layObject_117 : decode b_H_layObject 117 = .ok (.getfield 154, 3) := by decide +kernel
theorem d_H_layObject_120 : decode b_H_layObject 120 = .ok (.aload_n 0, 1) := by decide +kernel
theorem d_H_layObject_121 : decode b_H_layObject 121 = .ok (.getfield 32, 3) := by decide +kernel
theorem d_H_layObject_124 : decode b_H_layObject 124 = .ok (.getfield 158, 3) := by decide +kernel
theorem d_H_layObject_127 : decode b_H_layObject 127 = .ok (.iload_n 1, 1) := by decide +kernel
theorem d_H_layObject_128 : decode b_H_layObject 128 = .ok (.iaload, 1) := by decide +kernel
theorem d_H_layObject_129 : decode b_H_layObject 129 = .ok (.iload_n 3, 1) := by decide +kernel
theorem d_H_layObject_130 : decode b_H_layObject 130 = .ok (.iadd, 1) := by decide +kernel
theorem d_H_layObject_131 : decode b_H_layObject 131 = .ok (.caload, 1) := by decide +kernel
theorem d_H_layObject_132 : decode b_H_layObject 132 = .ok (.invokevirtual 161, 3) := by decide +kernel
theorem d_H_layObject_135 : decode b_H_layObject 135 = .ok (.pop, 1) := by decide +kernel
theorem d_H_layObject_136 : decode b_H_layObject 136 = .ok (.iinc 3 1, 3) := by decide +kernel
theorem d_H_layObject_139 : decode b_H_layObject 139 = .ok (.goto (-44), 3) := by decide +kernel
theorem d_H_layObject_142 : decode b_H_layObject 142 = .ok (.return_, 1) := by decide +kernel
theorem d_H_keepId_0 : decode b_H_keepId 0 = .ok (.aload_n 0, 1) := by decide +kernel
theorem d_H_keepId_1 : decode b_H_keepId 1 = .ok (.iload_n 1, 1) := by decide +kernel
theorem d_H_keepId_2 : decode b_H_keepId 2 = .ok (.sipush 247, 3) := by decide +kernel
theorem d_H_keepId_5 : decode b_H_keepId 5 = .ok (.invokevirtual 54, 3) := by decide +kernel
theorem d_H_keepId_8 : decode b_H_keepId 8 = .ok (.istore_n 2, 1) := by decide +kernel
theorem d_H_keepId_9 : decode b_H_keepId 9 = .ok (.iload_n 2, 1) := by decide +kernel
theorem d_H_keepId_10 : decode b_H_keepId 10 = .ok (.iconst (-1), 1) := by decide +kernel
theorem d_H_keepId_11 : decode b_H_keepId 11 = .ok (.if_icmp .ne 5, 3) := by decide +kernel
theorem d_H_keepId_14 : decode b_H_keepId 14 = .ok (.iconst 1, 1) := by decide +kernel
theorem d_H_keepId_15 : decode b_H_keepId 15 = .ok (.ireturn, 1) := by decide +kernel
theorem d_H_keepId_16 : decode b_H_keepId 16 = .ok (.aload_n 0, 1) := by decide +kernel
theorem d_H_keepId_17 : decode b_H_keepId 17 = .ok (.getfield 19, 3) := by decide +kernel
theorem d_H_keepId_20 : decode b_H_keepId 20 = .ok (.iload_n 2, 1) := by decide +kernel
theorem d_H_keepId_21 : decode b_H_keepId 21 = .ok (.iaload, 1) := by decide +kernel
theorem d_H_keepId_22 : decode b_H_keepId 22 = .ok (.iconst (-1), 1) := by decide +kernel
theorem d_H_keepId_23 : decode b_H_keepId 23 = .ok (.if_icmp .eq 5, 3) := by decide +kernel
theorem d_H_keepId_26 : decode b_H_keepId 26 = .ok (.iconst 0, 1) := by decide +kernel
theorem d_H_keepId_27 : decode b_H_keepId 27 = .ok (.ireturn, 1) := by decide +kernel
theorem d_H_keepId_28 : decode b_H_keepId 28 = .ok (.aload_n 0, 1) := by decide +kernel
theorem d_H_keepId_29 : decode b_H_keepId 29 = .ok (.getfield 19, 3) := by decide +kernel
theorem d_H_keepId_32 : decode b_H_keepId 32 = .ok (.iload_n 2, 1) := by decide +kernel
theorem d_H_keepId_33 : decode b_H_keepId 33 = .ok (.aload_n 0, 1) := by decide +kernel
theorem d_H_keepId_34 : decode b_H_keepId 34 = .ok (.getfield 15, 3) := by decide +kernel
theorem d_H_keepId_37 : decode b_H_keepId 37 = .ok (.iload_n 1, 1) := by decide +kernel
theorem d_H_keepId_38 : decode b_H_keepId 38 = .ok (.iaload, 1) := by decide +kernel
theorem d_H_keepId_39 : decode b_H_keepId 39 = .ok (.iastore, 1) := by decide +kernel
theorem d_H_keepId_40 : decode b_H_keepId 40 = .ok (.iconst 1, 1) := by decide +kernel
theorem d_H_keepId_41 : decode b_H_keepId 41 = .ok (.ireturn, 1) := by decide +kernel
theorem d_H_mayStandInBody_0 : decode b_H_mayStandInBody 0 = .ok (.iload_n 1, 1) := by decide +kernel
theorem d_H_mayStandInBody_1 : decode b_H_mayStandInBody 1 = .ok (.iload_n 2, 1) := by decide +kernel
theorem d_H_mayStandInBody_2 : decode b_H_mayStandInBody 2 = .ok (.iconst 1, 1) := by decide +kernel
theorem d_H_mayStandInBody_3 : decode b_H_mayStandInBody 3 = .ok (.iadd, 1) := by decide +kernel
theorem d_H_mayStandInBody_4 : decode b_H_mayStandInBody 4 = .ok (.if_icmp .ne 18, 3) := by decide +kernel
theorem d_H_mayStandInBody_7 : decode b_H_mayStandInBody 7 = .ok (.aload_n 0, 1) := by decide +kernel
theorem d_H_mayStandInBody_8 : decode b_H_mayStandInBody 8 = .ok (.iload_n 1, 1) := by decide +kernel
theorem d_H_mayStandInBody_9 : decode b_H_mayStandInBody 9 = .ok (.invokevirtual 92, 3) := by decide +kernel
theorem d_H_mayStandInBody_12 : decode b_H_mayStandInBody 12 = .ok (.iconst (-1), 1) := by decide +kernel
theorem d_H_mayStandInBody_13 : decode b_H_mayStandInBody 13 = .ok (.if_icmp .eq 7, 3) := by decide +kernel
theorem d_H_mayStandInBody_16 : decode b_H_mayStandInBody 16 = .ok (.iconst 1, 1) := by decide +kernel
theorem d_H_mayStandInBody_17 : decode b_H_mayStandInBody 17 = .ok (.goto 4, 3) := by decide +kernel
theorem d_H_mayStandInBody_20 : decode b_H_mayStandInBody 20 = .ok (.iconst 0, 1) := by decide +kernel
theorem d_H_mayStandInBody_21 : decode b_H_mayStandInBody 21 = .ok (.ireturn, 1) := by decide +kernel
theorem d_H_mayStandInBody_22 : decode b_H_mayStandInBody 22 = .ok (.aload_n 0, 1) := by decide +kernel
theorem d_H_mayStandInBody_23 : decode b_H_mayStandInBody 23 = .ok (.iload_n 1, 1) := by decide +kernel
theorem d_H_mayStandInBody_24 : decode b_H_mayStandInBody 24 = .ok (.invokevirtual 135, 3) := by decide +kernel
theorem d_H_mayStandInBody_27 : decode b_H_mayStandInBody 27 = .ok (.ifCond .eq 22, 3) := by decide +kernel
theorem d_H_mayStandInBody_30 : decode b_H_mayStandInBody 30 = .ok (.aload_n 0, 1) := by decide +kernel
theorem d_H_mayStandInBody_31 : decode b_H_mayStandInBody 31 = .ok (.getfield 32, 3) := by decide +kernel
theorem d_H_mayStandInBody_34 : decode b_H_mayStandInBody 34 = .ok (.iload_n 1, 1) := by decide +kernel
theorem d_H_mayStandInBody_35 : decode b_H_mayStandInBody 35 = .ok (.sipush 247, 3) := by decide +kernel
theorem d_H_mayStandInBody_38 : decode b_H_mayStandInBody 38 = .ok (.invokevirtual 120, 3) := by decide +kernel
theorem d_H_mayStandInBody_41 : decode b_H_mayStandInBody 41 = .ok (.iconst (-1), 1) := by decide +kernel
theorem d_H_mayStandInBody_42 : decode b_H_mayStandInBody 42 = .ok (.if_icmp .eq 7, 3) := by decide +kernel
theorem d_H_mayStandInBody_45 : decode b_H_mayStandInBody 45 = .ok (.iconst 1, 1) := by decide +kernel
theorem d_H_mayStandInBody_46 : decode b_H_mayStandInBody 46 = .ok (.goto 4, 3) := by decide +kernel
theorem d_H_mayStandInBody_49 : decode b_H_mayStandInBody 49 = .ok (.iconst 0, 1) := by decide +kernel
theorem d_H_mayStandInBody_50 : decode b_H_mayStandInBody 50 = .ok (.ireturn, 1) := by decide +kernel
theorem d_H_fillSlot_0 : decode b_H_fillSlot 0 = .ok (.aload_n 0, 1) := by decide +kernel
theorem d_H_fillSlot_1 : decode b_H_fillSlot 1 = .ok (.getfield 15, 3) := by decide +kernel
theorem d_H_fillSlot_4 : decode b_H_fillSlot 4 = .ok (.aload_n 0, 1) := by decide +kernel
theorem d_H_fillSlot_5 : decode b_H_fillSlot 5 = .ok (.getfield 32, 3) := by decide +kernel
theorem d_H_fillSlot_8 : decode b_H_fillSlot 8 = .ok (.getfield 51, 3) := by decide +kernel
theorem d_H_fillSlot_11 : decode b_H_fillSlot 11 = .ok (.iload_n 1, 1) := by decide +kernel
theorem d_H_fillSlot_12 : decode b_H_fillSlot 12 = .ok (.iaload, 1) := by decide +kernel
theorem d_H_fillSlot_13 : decode b_H_fillSlot 13 = .ok (.iaload, 1) := by decide +kernel
theorem d_H_fillSlot_14 : decode b_H_fillSlot 14 = .ok (.istore_n 2, 1) := by decide +kernel
theorem d_H_fillSlot_15 : decode b_H_fillSlot 15 = .ok (.iload_n 2, 1) := by decide +kernel
theorem d_H_fillSlot_16 : decode b_H_fillSlot 16 = .ok (.iconst (-1), 1) := by decide +kernel
theorem d_H_fillSlot_17 : decode b_H_fillSlot 17 = .ok (.if_icmp .ne 5, 3) := by decide +kernel
theorem d_H_fillSlot_20 : decode b_H_fillSlot 20 = .ok (.iconst 0, 1) := by decide +kernel
theorem d_H_fillSlot_21 : decode b_H_fillSlot 21 = .ok (.ireturn, 1) := by decide +kernel
theorem d_H_fillSlot_22 : decode b_H_fillSlot 22 = .ok (.aload_n 0, 1) := by decide +kernel
theorem d_H_fillSlot_23 : decode b_H_fillSlot 23 = .ok (.getfield 32, 3) := by decide +kernel
theorem d_H_fillSlot_26 : decode b_H_fillSlot 26 = .ok (.iload_n 1, 1) := by decide +kernel
theorem d_H_fillSlot_27 : decode b_H_fillSlot 27 = .ok (.bipush 47, 2) := by decide +kernel
theorem d_H_fillSlot_29 : decode b_H_fillSlot 29 = .ok (.invokevirtual 120, 3) := by decide +kernel
theorem d_H_fillSlot_32 : decode b_H_fillSlot 32 = .ok (.iconst (-1), 1) := by decide +kernel
theorem d_H_fillSlot_33 : decode b_H_fillSlot 33 = .ok (.if_icmp .ne 12, 3) := by decide +kernel
theorem d_H_fillSlot_36 : decode b_H_fillSlot 36 = .ok (.aload_n 0, 1) := by decide +kernel
theorem d_H_fillSlot_37 : decode b_H_fillSlot 37 = .ok (.getfield 22, 3) := by decide +kernel
theorem d_H_fillSlot_40 : decode b_H_fillSlot 40 = .ok (.iload_n 2, 1) := by decide +kernel
theorem d_H_fillSlot_41 : decode b_H_fillSlot 41 = .ok (.iaload, 1) := by decide +kernel
theorem d_H_fillSlot_42 : decode b_H_fillSlot 42 = .ok (.goto 10, 3) := by decide +kernel
theorem d_H_fillSlot_45 : decode b_H_fillSlot 45 = .ok (.aload_n 0, 1) := by decide +kernel
theorem d_H_fillSlot_46 : decode b_H_fillSlot 46 = .ok (.iload_n 1, 1) := by decide +kernel
theorem d_H_fillSlot_47 : decode b_H_fillSlot 47 = .ok (.bipush 47, 2) := by decide +kernel
theorem d_H_fillSlot_49 : decode b_H_fillSlot 49 = .ok (.invokevirtual 54, 3) := by decide +kernel
theorem d_H_fillSlot_52 : decode b_H_fillSlot 52 = .ok (.istore_n 3, 1) := by decide +kernel
theorem d_H_fillSlot_53 : decode b_H_fillSlot 53 = .ok (.iload_n 3, 1) := by decide +kernel
theorem d_H_fillSlot_54 : decode b_H_fillSlot 54 = .ok (.aload_n 0, 1) := by decide +kernel
theorem d_H_fillSlot_55 : decode b_H_fillSlot 55 = .ok (.getfield 36, 3) := by decide +kernel
theorem d_H_fillSlot_58 : decode b_H_fillSlot 58 = .ok (.getfield 165, 3) := by decide +kernel
theorem d_H_fillSlot_61 : decode b_H_fillSlot 61 = .ok (.iload_n 2, 1) := by decide +kernel
theorem d_H_fillSlot_62 : decode b_H_fillSlot 62 = .ok (.iaload, 1) := by decide +kernel
theorem d_H_fillSlot_63 : decode b_H_fillSlot 63 = .ok (.if_icmp .ge 17, 3) := by decide +kernel
theorem d_H_fillSlot_66 : decode b_H_fillSlot 66 = .ok (.aload_n 0, 1) := by decide +kernel
theorem d_H_fillSlot_67 : decode b_H_fillSlot 67 = .ok (.getfield 25, 3) := by decide +kernel
theorem d_H_fillSlot_70 : decode b_H_fillSlot 70 = .ok (.iload_n 2, 1) := by decide +kernel
theorem d_H_fillSlot_71 : decode b_H_fillSlot 71 = .ok (.iaload, 1) := by decide +kernel
theorem d_H_fillSlot_72 : decode b_H_fillSlot 72 = .ok (.iload_n 3, 1) := by decide +kernel
theorem d_H_fillSlot_73 : decode b_H_fillSlot 73 = .ok (.ishr, 1) := by decide +kernel
theorem d_H_fillSlot_74 : decode b_H_fillSlot 74 = .ok (.iconst 1, 1) := by decide +kernel
theorem d_H_fillSlot_75 : decode b_H_fillSlot 75 = .ok (.iand, 1) := by decide +kernel
theorem d_H_fillSlot_76 : decode b_H_fillSlot 76 = .ok (.iconst 1, 1) := by decide +kernel
theorem d_H_fillSlot_77 : decode b_H_fillSlot 77 = .ok (.if_icmp .ne 5, 3) := by decide +kernel
theorem d_H_fillSlot_80 : decode b_H_fillSlot 80 = .ok (.iconst 0, 1) := by decide +kernel
theorem d_H_fillSlot_81 : decode b_H_fillSlot 81 = .ok (.ireturn, 1) := by decide +kernel
theorem d_H_fillSlot_82 : decode b_H_fillSlot 82 = .ok (.aload_n 0, 1) := by decide +kernel
theorem d_H_fillSlot_83 : decode b_H_fillSlot 83 = .ok (.getfield 22, 3) := by decide +kernel
theorem d_H_fillSlot_86 : decode b_H_fillSlot 86 = .ok (.iload_n 2, 1) := by decide +kernel
theorem d_H_fillSlot_87 : decode b_H_fillSlot 87 = .ok (.iload_n 3, 1) := by decide +kernel
theorem d_H_fillSlot_88 : decode b_H_fillSlot 88 = .ok (.iconst 1, 1) := by decide +kernel
theorem d_H_fillSlot_89 : decode b_H_fillSlot 89 = .ok (.iadd, 1) := by decide +kernel
theorem d_H_fillSlot_90 : decode b_H_fillSlot 90 = .ok (.iastore, 1) := by decide +kernel
theorem d_H_fillSlot_91 : decode b_H_fillSlot 91 = .ok (.aload_n 0, 1) := by decide +kernel
theorem d_H_fillSlot_92 : decode b_H_fillSlot 92 = .ok (.getfield 25, 3) := by decide +kernel
theorem d_H_fillSlot_95 : decode b_H_fillSlot 95 = .ok (.iload_n 2, 1) := by decide +kernel
theorem d_H_fillSlot_96 : decode b_H_fillSlot 96 = .ok (.dup2, 1) := by decide +kernel
theorem d_H_fillSlot_97 : decode b_H_fillSlot 97 = .ok (.iaload, 1) := by decide +kernel
theorem d_H_fillSlot_98 : decode b_H_fillSlot 98 = .ok (.iconst 1, 1) := by decide +kernel
theorem d_H_fillSlot_99 : decode b_H_fillSlot 99 = .ok (.iload_n 3, 1) := by decide +kernel
theorem d_H_fillSlot_100 : decode b_H_fillSlot 100 = .ok (.ishl, 1) := by decide +kernel
theorem d_H_fillSlot_101 : decode b_H_fillSlot 101 = .ok (.ior, 1) := by decide +kernel
theorem d_H_fillSlot_102 : decode b_H_fillSlot 102 = .ok (.iastore, 1) := by decide +kernel
theorem d_H_fillSlot_103 : decode b_H_fillSlot 103 = .ok (.aload_n 0, 1) := by decide +kernel
theorem d_H_fillSlot_104 : decode b_H_fillSlot 104 = .ok (.iload_n 2, 1) := by decide +kernel
theorem d_H_fillSlot_105 : decode b_H_fillSlot 105 = .ok (.iload_n 3, 1) := by decide +kernel
theorem d_H_fillSlot_106 : decode b_H_fillSlot 106 = .ok (.iload_n 1, 1) := by decide +kernel
theorem d_H_fillSlot_107 : decode b_H_fillSlot 107 = .ok (.invokevirtual 168, 3) := by decide +kernel
theorem d_H_fillSlot_110 : decode b_H_fillSlot 110 = .ok (.ireturn, 1) := by decide +kernel
theorem d_H_holdElement_0 : decode b_H_holdElement 0 = .ok (.aload_n 0, 1) := by decide +kernel
theorem d_H_holdElement_1 : decode b_H_holdElement 1 = .ok (.getfield 32, 3) := by decide +kernel
theorem d_H_holdElement_4 : decode b_H_holdElement 4 = .ok (.getfield 40, 3) := by decide +kernel
theorem d_H_holdElement_7 : decode b_H_holdElement 7 = .ok (.iload_n 3, 1) := by decide +kernel
theorem d_H_holdElement_8 : decode b_H_holdElement 8 = .ok (.iaload, 1) := by decide +kernel
theorem d_H_holdElement_9 : decode b_H_holdElement 9 = .ok (.bipush 14, 2) := by decide +kernel
theorem d_H_holdElement_11 : decode b_H_holdElement 11 = .ok (.if_icmp .ne 5, 3) := by decide +kernel
theorem d_H_holdElement_14 : decode b_H_holdElement 14 = .ok (.iconst 1, 1) := by decide +kernel
theorem d_H_holdElement_15 : decode b_H_holdElement 15 = .ok (.ireturn, 1) := by decide +kernel
theorem d_H_holdElement_16 : decode b_H_holdElement 16 = .ok (.aload_n 0, 1) := by decide +kernel
theorem d_H_holdElement_17 : decode b_H_holdElement 17 = .ok (.getfield 32, 3) := by decide +kernel
theorem d_H_holdElement_20 : decode b_H_holdElement 20 = .ok (.getfield 40, 3) := by decide +kernel
theorem d_H_holdElement_23 : decode b_H_holdElement 23 = .ok (.iload_n 3, 1) := by decide +kernel
theorem d_H_holdElement_24 : decode b_H_holdElement 24 = .ok (.iaload, 1) := by decide +kernel
theorem d_H_holdElement_25 : decode b_H_holdElement 25 = .ok (.bipush 9, 2) := by decide +kernel
theorem d_H_holdElement_27 : decode b_H_holdElement 27 = .ok (.if_icmp .ne 21, 3) := by decide +kernel
theorem d_H_holdElement_30 : decode b_H_holdElement 30 = .ok (.aload_n 0, 1) := by decide +kernel
theorem d_H_holdElement_31 : decode b_H_holdElement 31 = .ok (.getfield 36, 3) := by decide +kernel
theorem d_H_holdElement_34 : decode b_H_holdElement 34 = .ok (.iload_n 1, 1) := by decide +kernel
theorem d_H_holdElement_35 : decode b_H_holdElement 35 = .ok (.iload_n 2, 1) := by decide +kernel
theorem d_H_holdElement_36 : decode b_H_holdElement 36 = .ok (.iconst 1, 1) := by decide +kernel
theorem d_H_holdElement_37 : decode b_H_holdElement 37 = .ok (.aload_n 0, 1) := by decide +kernel
theorem d_H_holdElement_38 : decode b_H_holdElement 38 = .ok (.iload_n 3, 1) := by decide +kernel
theorem d_H_holdElement_39 : decode b_H_holdElement 39 = .ok (.invokevirtual 114, 3) := by decide +kernel
theorem d_H_holdElement_42 : decode b_H_holdElement 42 = .ok (.l2i, 1) := by decide +kernel
theorem d_H_holdElement_43 : decode b_H_holdElement 43 = .ok (.invokevirtual 172, 3) := by decide +kernel
theorem d_H_holdElement_46 : decode b_H_holdElement 46 = .ok (.iconst 1, 1) := by decide +kernel
theorem d_H_holdElement_47 : decode b_H_holdElement 47 = .ok (.ireturn, 1) := by decide +kernel
theorem d_H_holdElement_48 : decode b_H_holdElement 48 = .ok (.aload_n 0, 1) := by decide +kernel
theorem d_H_holdElement_49 : decode b_H_holdElement 49 = .ok (.iload_n 3, 1) := by decide +kernel
theorem d_H_holdElement_50 : decode b_H_holdElement 50 = .ok (.invokevirtual 92, 3) := by decide +kernel
theorem d_H_holdElement_53 : decode b_H_holdElement 53 = .ok (.istore 4, 2) := by decide +kernel
theorem d_H_holdElement_55 : decode b_H_holdElement 55 = .ok (.iload 4, 2) := by decide +kernel
theorem d_H_holdElement_57 : decode b_H_holdElement 57 = .ok (.iconst (-1), 1) := by decide +kernel
theorem d_H_holdElement_58 : decode b_H_holdElement 58 = .ok (.if_icmp .ne 5, 3) := by decide +kernel
theorem d_H_holdElement_61 : decode b_H_holdElement 61 = .ok (.iconst 0, 1) := by decide +kernel
theorem d_H_holdElement_62 : decode b_H_holdElement 62 = .ok (.ireturn, 1) := by decide +kernel
theorem d_H_holdElement_63 : decode b_H_holdElement 63 = .ok (.aload_n 0, 1) := by decide +kernel
theorem d_H_holdElement_64 : decode b_H_holdElement 64 = .ok (.getfield 36, 3) := by decide +kernel
theorem d_H_holdElement_67 : decode b_H_holdElement 67 = .ok (.iload_n 1, 1) := by decide +kernel
theorem d_H_holdElement_68 : decode b_H_holdElement 68 = .ok (.iload_n 2, 1) := by decide +kernel
theorem d_H_holdElement_69 : decode b_H_holdElement 69 = .ok (.iconst 2, 1) := by decide +kernel
theorem d_H_holdElement_70 : decode b_H_holdElement 70 = .ok (.iload 4, 2) := by decide +kernel
theorem d_H_holdElement_72 : decode b_H_holdElement 72 = .ok (.invokevirtual 172, 3) := by decide +kernel
theorem d_H_holdElement_75 : decode b_H_holdElement 75 = .ok (.iconst 1, 1) := by decide +kernel
theorem d_H_holdElement_76 : decode b_H_holdElement 76 = .ok (.ireturn, 1) := by decide +kernel
theorem d_H_referredBy_0 : decode b_H_referredBy 0 = .ok (.aload_n 0, 1) := by decide +kernel
theorem d_H_referredBy_1 : decode b_H_referredBy 1 = .ok (.getfield 32, 3) := by decide +kernel
theorem d_H_referredBy_4 : decode b_H_referredBy 4 = .ok (.getfield 40, 3) := by decide +kernel
theorem d_H_referredBy_7 : decode b_H_referredBy 7 = .ok (.iload_n 1, 1) := by decide +kernel
theorem d_H_referredBy_8 : decode b_H_referredBy 8 = .ok (.iaload, 1) := by decide +kernel
theorem d_H_referredBy_9 : decode b_H_referredBy 9 = .ok (.bipush 18, 2) := by decide +kernel
theorem d_H_referredBy_11 : decode b_H_referredBy 11 = .ok (.if_icmp .eq 10, 3) := by decide +kernel
theorem d_H_referredBy_14 : decode b_H_referredBy 14 = .ok (.aload_n 0, 1) := by decide +kernel
theorem d_H_referredBy_15 : decode b_H_referredBy 15 = .ok (.getfield 15, 3) := by decide +kernel
theorem d_H_referredBy_18 : decode b_H_referredBy 18 = .ok (.iload_n 1, 1) := by decide +kernel
theorem d_H_referredBy_19 : decode b_H_referredBy 19 = .ok (.iaload, 1) := by decide +kernel
theorem d_H_referredBy_20 : decode b_H_referredBy 20 = .ok (.ireturn, 1) := by decide +kernel
theorem d_H_referredBy_21 : decode b_H_referredBy 21 = .ok (.aload_n 0, 1) := by decide +kernel
theorem d_H_referredBy_22 : decode b_H_referredBy 22 = .ok (.iload_n 1, 1) := by decide +kernel
theorem d_H_referredBy_23 : decode b_H_referredBy 23 = .ok (.bipush 8, 2) := by decide +kernel
theorem d_H_referredBy_25 : decode b_H_referredBy 25 = .ok (.invokevirtual 54, 3) := by decide +kernel
theorem d_H_referredBy_28 : decode b_H_referredBy 28 = .ok (.istore_n 2, 1) := by decide +kernel
theorem d_H_referredBy_29 : decode b_H_referredBy 29 = .ok (.iload_n 2, 1) := by decide +kernel
theorem d_H_referredBy_30 : decode b_H_referredBy 30 = .ok (.iconst (-1), 1) := by decide +kernel
theorem d_H_referredBy_31 : decode b_H_referredBy 31 = .ok (.if_icmp .ne 7, 3) := by decide +kernel
theorem d_H_referredBy_34 : decode b_H_referredBy 34 = .ok (.iconst (-1), 1) := by decide +kernel
theorem d_H_referredBy_35 : decode b_H_referredBy 35 = .ok (.goto 9, 3) := by decide +kernel
theorem d_H_referredBy_38 : decode b_H_referredBy 38 = .ok (.aload_n 0, 1) := by decide +kernel
theorem d_H_referredBy_39 : decode b_H_referredBy 39 = .ok (.getfield 19, 3) := by decide +kernel
theorem d_H_referredBy_42 : decode b_H_referredBy 42 = .ok (.iload_n 2, 1) := by decide +kernel
theorem d_H_referredBy_43 : decode b_H_referredBy 43 = .ok (.iaload, 1) := by decide +kernel
theorem d_H_referredBy_44 : decode b_H_referredBy 44 = .ok (.ireturn, 1) := by decide +kernel
theorem d_H_isOne_0 : decode b_H_isOne 0 = .ok (.aload_n 0, 1) := by decide +kernel
theorem d_H_isOne_1 : decode b_H_isOne 1 = .ok (.getfield 32, 3) := by decide +kernel
theorem d_H_isOne_4 : decode b_H_isOne 4 = .ok (.iload_n 1, 1) := by decide +kernel
theorem d_H_isOne_5 : decode b_H_isOne 5 = .ok (.iload_n 2, 1) := by decide +kernel
theorem d_H_isOne_6 : decode b_H_isOne 6 = .ok (.invokevirtual 120, 3) := by decide +kernel
theorem d_H_isOne_9 : decode b_H_isOne 9 = .ok (.istore_n 3, 1) := by decide +kernel
theorem d_H_isOne_10 : decode b_H_isOne 10 = .ok (.iload_n 3, 1) := by decide +kernel
theorem d_H_isOne_11 : decode b_H_isOne 11 = .ok (.iconst (-1), 1) := by decide +kernel
theorem d_H_isOne_12 : decode b_H_isOne 12 = .ok (.if_icmp .eq 41, 3) := by decide +kernel
theorem d_H_isOne_15 : decode b_H_isOne 15 = .ok (.aload_n 0, 1) := by decide +kernel
theorem d_H_isOne_16 : decode b_H_isOne 16 = .ok (.getfield 32, 3) := by decide +kernel
theorem d_H_isOne_19 : decode b_H_isOne 19 = .ok (.getfield 176, 3) := by decide +kernel
theorem d_H_isOne_22 : decode b_H_isOne 22 = .ok (.iload_n 3, 1) := by decide +kernel
theorem d_H_isOne_23 : decode b_H_isOne 23 = .ok (.iaload, 1) := by decide +kernel
theorem d_H_isOne_24 : decode b_H_isOne 24 = .ok (.iconst 1, 1) := by decide +kernel
theorem d_H_isOne_25 : decode b_H_isOne 25 = .ok (.if_icmp .ne 28, 3) := by decide +kernel
theorem d_H_isOne_28 : decode b_H_isOne 28 = .ok (.aload_n 0, 1) := by decide +kernel
theorem d_H_isOne_29 : decode b_H_isOne 29 = .ok (.getfield 28, 3) := by decide +kernel
theorem d_H_isOne_32 : decode b_H_isOne 32 = .ok (.aload_n 0, 1) := by decide +kernel
theorem d_H_isOne_33 : decode b_H_isOne 33 = .ok (.getfield 32, 3) := by decide +kernel
theorem d_H_isOne_36 : decode b_H_isOne 36 = .ok (.getfield 179, 3) := by decide +kernel
theorem d_H_isOne_39 : decode b_H_isOne 39 = .ok (.iload_n 3, 1) := by decide +kernel
theorem d_H_isOne_40 : decode b_H_isOne 40 = .ok (.iaload, 1) := by decide +kernel
theorem d_H_isOne_41 : decode b_H_isOne 41 = .ok (.invokevirtual 182, 3) := by decide +kernel
theorem d_H_isOne_44 : decode b_H_isOne 44 = .ok (.bipush 49, 2) := by decide +kernel
theorem d_H_isOne_46 : decode b_H_isOne 46 = .ok (.if_icmp .ne 7, 3) := by decide +kernel
theorem d_H_isOne_49 : decode b_H_isOne 49 = .ok (.iconst 1, 1) := by decide +kernel
theorem d_H_isOne_50 : decode b_H_isOne 50 = .ok (.goto 4, 3) := by decide +kernel
theorem d_H_isOne_53 : decode b_H_isOne 53 = .ok (.iconst 0, 1) := by decide +kernel
theorem d_H_isOne_54 : decode b_H_isOne 54 = .ok (.ireturn, 1) := by decide +kernel
theorem d_H_countIn_0 : decode b_H_countIn 0 = .ok (.aload_n 0, 1) := by decide +kernel
theorem d_H_countIn_1 : decode b_H_countIn 1 = .ok (.getfield 32, 3) := by decide +kernel
theorem d_H_countIn_4 : decode b_H_countIn 4 = .ok (.iload_n 1, 1) := by decide +kernel
theorem d_H_countIn_5 : decode b_H_countIn 5 = .ok (.iload_n 2, 1) := by decide +kernel
theorem d_H_countIn_6 : decode b_H_countIn 6 = .ok (.invokevirtual 120, 3) := by decide +kernel
theorem d_H_countIn_9 : decode b_H_countIn 9 = .ok (.istore_n 3, 1) := by decide +kernel
theorem d_H_countIn_10 : decode b_H_countIn 10 = .ok (.iload_n 3, 1) := by decide +kernel
theorem d_H_countIn_11 : decode b_H_countIn 11 = .ok (.iconst (-1), 1) := by decide +kernel
theorem d_H_countIn_12 : decode b_H_countIn 12 = .ok (.if_icmp .ne 7, 3) := by decide +kernel
theorem d_H_countIn_15 : decode b_H_countIn 15 = .ok (.iconst (-1), 1) := by decide +kernel
theorem d_H_countIn_16 : decode b_H_countIn 16 = .ok (.goto 8, 3) := by decide +kernel
theorem d_H_countIn_19 : decode b_H_countIn 19 = .ok (.aload_n 0, 1) := by decide +kernel
theorem d_H_countIn_20 : decode b_H_countIn 20 = .ok (.iload_n 3, 1) := by decide +kernel
theorem d_H_countIn_21 : decode b_H_countIn 21 = .ok (.invokevirtual 132, 3) := by decide +kernel
theorem d_H_countIn_24 : decode b_H_countIn 24 = .ok (.ireturn, 1) := by decide +kernel
theorem d_H_countOf_0 : decode b_H_countOf 0 = .ok (.aload_n 0, 1) := by decide +kernel
theorem d_H_countOf_1 : decode b_H_countOf 1 = .ok (.getfield 32, 3) := by decide +kernel
theorem d_H_countOf_4 : decode b_H_countOf 4 = .ok (.getfield 176, 3) := by decide +kernel
theorem d_H_countOf_7 : decode b_H_countOf 7 = .ok (.iload_n 1, 1) := by decide +kernel
theorem d_H_countOf_8 : decode b_H_countOf 8 = .ok (.iaload, 1) := by decide +kernel
theorem d_H_countOf_9 : decode b_H_countOf 9 = .ok (.istore_n 2, 1) := by decide +kernel
theorem d_H_countOf_10 : decode b_H_countOf 10 = .ok (.iload_n 2, 1) := by decide +kernel
theorem d_H_countOf_11 : decode b_H_countOf 11 = .ok (.iconst 1, 1) := by decide +kernel
theorem d_H_countOf_12 : decode b_H_countOf 12 = .ok (.if_icmp .eq 10, 3) := by decide +kernel
theorem d_H_countOf_15 : decode b_H_countOf 15 = .ok (.iload_n 2, 1) := by decide +kernel
theorem d_H_countOf_16 : decode b_H_countOf 16 = .ok (.iconst 2, 1) := by decide +kernel
theorem d_H_countOf_17 : decode b_H_countOf 17 = .ok (.if_icmp .eq 5, 3) := by decide +kernel
theorem d_H_countOf_20 : decode b_H_countOf 20 = .ok (.iconst (-1), 1) := by decide +kernel
theorem d_H_countOf_21 : decode b_H_countOf 21 = .ok (.ireturn, 1) := by decide +kernel
theorem d_H_countOf_22 : decode b_H_countOf 22 = .ok (.iconst 0, 1) := by decide +kernel
theorem d_H_countOf_23 : decode b_H_countOf 23 = .ok (.istore_n 3, 1) := by decide +kernel
theorem d_H_countOf_24 : decode b_H_countOf 24 = .ok (.iconst 0, 1) := by decide +kernel
theorem d_H_countOf_25 : decode b_H_countOf 25 = .ok (.istore 4, 2) := by decide +kernel
theorem d_H_countOf_27 : decode b_H_countOf 27 = .ok (.iload 4, 2) := by decide +kernel
theorem d_H_countOf_29 : decode b_H_countOf 29 = .ok (.iload_n 2, 1) := by decide +kernel
theorem d_H_countOf_30 : decode b_H_countOf 30 = .ok (.if_icmp .ge 51, 3) := by decide +kernel
theorem d_H_countOf_33 : decode b_H_countOf 33 = .ok (.aload_n 0, 1) := by decide +kernel
theorem d_H_countOf_34 : decode b_H_countOf 34 = .ok (.getfield 28, 3) := by decide +kernel
theorem d_H_countOf_37 : decode b_H_countOf 37 = .ok (.aload_n 0, 1) := by decide +kernel
theorem d_H_countOf_38 : decode b_H_countOf 38 = .ok (.getfield 32, 3) := by decide +kernel
theorem d_H_countOf_41 : decode b_H_countOf 41 = .ok (.getfield 179, 3) := by decide +kernel
theorem d_H_countOf_44 : decode b_H_countOf 44 = .ok (.iload_n 1, 1) := by decide +kernel
theorem d_H_countOf_45 : decode b_H_countOf 45 = .ok (.iaload, 1) := by decide +kernel
theorem d_H_countOf_46 : decode b_H_countOf 46 = .ok (.iload 4, 2) := by decide +kernel
theorem d_H_countOf_48 : decode b_H_countOf 48 = .ok (.iadd, 1) := by decide +kernel
theorem d_H_countOf_49 : decode b_H_countOf 49 = .ok (.invokevirtual 182, 3) := by decide +kernel
theorem d_H_countOf_52 : decode b_H_countOf 52 = .ok (.istore 5, 2) := by decide +kernel
theorem d_H_countOf_54 : decode b_H_countOf 54 = .ok (.iload 5, 2) := by decide +kernel
theorem d_H_countOf_56 : decode b_H_countOf 56 = .ok (.invokestatic 187, 3) := by decide +kernel
theorem d_H_countOf_59 : decode b_H_countOf 59 = .ok (.ifCond .ne 5, 3) := by decide +kernel
theorem d_H_countOf_62 : decode b_H_countOf 62 = .ok (.iconst (-1), 1) := by decide +kernel
theorem d_H_countOf_63 : decode b_H_countOf 63 = .ok (.ireturn, 1) := by decide +kernel
theorem d_H_countOf_64 : decode b_H_countOf 64 = .ok (.iload_n 3, 1) := by decide +kernel
theorem d_H_countOf_65 : decode b_H_countOf 65 = .ok (.bipush 10, 2) := by decide +kernel
theorem d_H_countOf_67 : decode b_H_countOf 67 = .ok (.imul, 1) := by decide +kernel
theorem d_H_countOf_68 : decode b_H_countOf 68 = .ok (.iload 5, 2) := by decide +kernel
theorem d_H_countOf_70 : decode b_H_countOf 70 = .ok (.iadd, 1) := by decide +kernel
theorem d_H_countOf_71 : decode b_H_countOf 71 = .ok (.bipush 48, 2) := by decide +kernel
theorem d_H_countOf_73 : decode b_H_countOf 73 = .ok (.isub, 1) := by decide +kernel
theorem d_H_countOf_74 : decode b_H_countOf 74 = .ok (.istore_n 3, 1) := by decide +kernel
theorem d_H_countOf_75 : decode b_H_countOf 75 = .ok (.iinc 4 1, 3) := by decide +kernel
theorem d_H_countOf_78 : decode b_H_countOf 78 = .ok (.goto (-51), 3) := by decide +kernel
theorem d_H_countOf_81 : decode b_H_countOf 81 = .ok (.iload_n 3, 1) := by decide +kernel
theorem d_H_countOf_82 : decode b_H_countOf 82 = .ok (.ireturn, 1) := by decide +kernel
theorem d_H_numberIn_0 : decode b_H_numberIn 0 = .ok (.aload_n 0, 1) := by decide +kernel
theorem d_H_numberIn_1 : decode b_H_numberIn 1 = .ok (.getfield 32, 3) := by decide +kernel
theorem d_H_numberIn_4 : decode b_H_numberIn 4 = .ok (.getfield 158, 3) := by decide +kernel
theorem d_H_numberIn_7 : decode b_H_numberIn 7 = .ok (.iload_n 1, 1) := by decide +kernel
theorem d_H_numberIn_8 : decode b_H_numberIn 8 = .ok (.iaload, 1) := by decide +kernel
theorem d_H_numberIn_9 : decode b_H_numberIn 9 = .ok (.istore_n 2, 1) := by decide +kernel
theorem d_H_numberIn_10 : decode b_H_numberIn 10 = .ok (.iload_n 2, 1) := by decide +kernel
theorem d_H_numberIn_11 : decode b_H_numberIn 11 = .ok (.aload_n 0, 1) := by decide +kernel
theorem d_H_numberIn_12 : decode b_H_numberIn 12 = .ok (.getfield 32, 3) := by decide +kernel
theorem d_H_numberIn_15 : decode b_H_numberIn 15 = .ok (.getfield 99, 3) := by decide +kernel
theorem d_H_numberIn_18 : decode b_H_numberIn 18 = .ok (.iload_n 1, 1) := by decide +kernel
theorem d_H_numberIn_19 : decode b_H_numberIn 19 = .ok (.iaload, 1) := by decide +kernel
theorem d_H_numberIn_20 : decode b_H_numberIn 20 = .ok (.iadd, 1) := by decide +kernel
theorem d_H_numberIn_21 : decode b_H_numberIn 21 = .ok (.istore_n 3, 1) := by decide +kernel
theorem d_H_numberIn_22 : decode b_H_numberIn 22 = .ok (.iload_n 2, 1) := by decide +kernel
theorem d_H_numberIn_23 : decode b_H_numberIn 23 = .ok (.iload_n 3, 1) := by decide +kernel
theorem d_H_numberIn_24 : decode b_H_numberIn 24 = .ok (.if_icmp .ge 21, 3) := by decide +kernel
theorem d_H_numberIn_27 : decode b_H_numberIn 27 = .ok (.aload_n 0, 1) := by decide +kernel
theorem d_H_numberIn_28 : decode b_H_numberIn 28 = .ok (.getfield 32, 3) := by decide +kernel
theorem d_H_numberIn_31 : decode b_H_numberIn 31 = .ok (.getfield 154, 3) := by decide +kernel
theorem d_H_numberIn_34 : decode b_H_numberIn 34 = .ok (.iload_n 2, 1) := by decide +kernel
theorem d_H_numberIn_35 : decode b_H_numberIn 35 = .ok (.caload, 1) := by decide +kernel
theorem d_H_numberIn_36 : decode b_H_numberIn 36 = .ok (.bipush 45, 2) := by decide +kernel
theorem d_H_numberIn_38 : decode b_H_numberIn 38 = .ok (.if_icmp .ne 7, 3) := by decide +kernel
theorem d_H_numberIn_41 : decode b_H_numberIn 41 = .ok (.iconst 1, 1) := by decide +kernel
theorem d_H_numberIn_42 : decode b_H_numberIn 42 = .ok (.goto 4, 3) := by decide +kernel
theorem d_H_numberIn_45 : decode b_H_numberIn 45 = .ok (.iconst 0, 1) := by decide +kernel
theorem d_H_numberIn_46 : decode b_H_numberIn 46 = .ok (.istore 4, 2) := by decide +kernel
theorem d_H_numberIn_48 : decode b_H_numberIn 48 = .ok (.iload 4, 2) := by decide +kernel
theorem d_H_numberIn_50 : decode b_H_numberIn 50 = .ok (.ifCond .eq 6, 3) := by decide +kernel
theorem d_H_numberIn_53 : decode b_H_numberIn 53 = .ok (.iinc 2 1, 3) := by decide +kernel
theorem d_H_numberIn_56 : decode b_H_numberIn 56 = .ok (.iload_n 2, 1) := by decide +kernel
theorem d_H_numberIn_57 : decode b_H_numberIn 57 = .ok (.iload_n 3, 1) := by decide +kernel
theorem d_H_numberIn_58 : decode b_H_numberIn 58 = .ok (.if_icmp .ge 11, 3) := by decide +kernel
theorem d_H_numberIn_61 : decode b_H_numberIn 61 = .ok (.iload_n 3, 1) := by decide +kernel
theorem d_H_numberIn_62 : decode b_H_numberIn 62 = .ok (.iload_n 2, 1) := by decide +kernel
theorem d_H_numberIn_63 : decode b_H_numberIn 63 = .ok (.isub, 1) := by decide +kernel
theorem d_H_numberIn_64 : decode b_H_numberIn 64 = .ok (.bipush 10, 2) := by decide +kernel
theorem d_H_numberIn_66 : decode b_H_numberIn 66 = .ok (.if_icmp .le 7, 3) := by decide +kernel
theorem d_H_numberIn_69 : decode b_H_numberIn 69 = .ok (.ldc2_w 118, 3) := by decide +kernel
theorem d_H_numberIn_72 : decode b_H_numberIn 72 = .ok (.lreturn, 1) := by decide +kernel
theorem d_H_numberIn_73 : decode b_H_numberIn 73 = .ok (.lconst 0, 1) := by decide +kernel
theorem d_H_numberIn_74 : decode b_H_numberIn 74 = .ok (.lstore 5, 2) := by decide +kernel
theorem d_H_numberIn_76 : decode b_H_numberIn 76 = .ok (.iload_n 2, 1) := by decide +kernel
theorem d_H_numberIn_77 : decode b_H_numberIn 77 = .ok (.istore 7, 2) := by decide +kernel
theorem d_H_numberIn_79 : decode b_H_numberIn 79 = .ok (.iload 7, 2) := by decide +kernel
theorem d_H_numberIn_81 : decode b_H_numberIn 81 = .ok (.iload_n 3, 1) := by decide +kernel
theorem d_H_numberIn_82 : decode b_H_numberIn 82 = .ok (.if_icmp .ge 53, 3) := by decide +kernel
theorem d_H_numberIn_85 : decode b_H_numberIn 85 = .ok (.aload_n 0, 1) := by decide +kernel
theorem d_H_numberIn_86 : decode b_H_numberIn 86 = .ok (.getfield 32, 3) := by decide +kernel
theorem d_H_numberIn_89 : decode b_H_numberIn 89 = .ok (.getfield 154, 3) := by decide +kernel
theorem d_H_numberIn_92 : decode b_H_numberIn 92 = .ok (.iload 7, 2) := by decide +kernel
theorem d_H_numberIn_94 : decode b_H_numberIn 94 = .ok (.caload, 1) := by decide +kernel
theorem d_H_numberIn_95 : decode b_H_numberIn 95 = .ok (.invokestatic 187, 3) := by decide +kernel
theorem d_H_numberIn_98 : decode b_H_numberIn 98 = .ok (.ifCond .ne 7, 3) := by decide +kernel
theorem d_H_numberIn_101 : decode b_H_numberIn 101 = .ok (.ldc2_w 118, 3) := by decide +kernel
theorem d_H_numberIn_104 : decode b_H_numberIn 104 = .ok (.lreturn, 1) := by decide +kernel
theorem d_H_numberIn_105 : decode b_H_numberIn 105 = .ok (.lload 5, 2) := by decide +kernel
theorem d_H_numberIn_107 : decode b_H_numberIn 107 = .ok (.ldc2_w 190, 3) := by decide +kernel
theorem d_H_numberIn_110 : decode b_H_numberIn 110 = .ok (.lmul, 1) := by decide +kernel
theorem d_H_numberIn_111 : decode b_H_numberIn 111 = .ok (.aload_n 0, 1) := by decide +kernel
theorem d_H_numberIn_112 : decode b_H_numberIn 112 = .ok (.getfield 32, 3) := by decide +kernel
theorem d_H_numberIn_115 : decode b_H_numberIn 115 = .ok (.getfield 154, 3) := by decide +kernel
theorem d_H_numberIn_118 : decode b_H_numberIn 118 = .ok (.iload 7, 2) := by decide +kernel
theorem d_H_numberIn_120 : decode b_H_numberIn 120 = .ok (.caload, 1) := by decide +kernel
theorem d_H_numberIn_121 : decode b_H_numberIn 121 = .ok (.i2l, 1) := by decide +kernel
theorem d_H_numberIn_122 : decode b_H_numberIn 122 = .ok (.ladd, 1) := by decide +kernel
theorem d_H_numberIn_123 : decode b_H_numberIn 123 = .ok (.ldc2_w 192, 3) := by decide +kernel
theorem d_H_numberIn_126 : decode b_H_numberIn 126 = .ok (.lsub, 1) := by decide +kernel
theorem d_H_numberIn_127 : decode b_H_numberIn 127 = .ok (.lstore 5, 2) := by decide +kernel
theorem d_H_numberIn_129 : decode b_H_numberIn 129 = .ok (.iinc 7 1, 3) := by decide +kernel
theorem d_H_numberIn_132 : decode b_H_numberIn 132 = .ok (.goto (-53), 3) := by decide +kernel
theorem d_H_numberIn_135 : decode b_H_numberIn 135 = .ok (.iload 4, 2) := by decide +kernel
theorem d_H_numberIn_137 : decode b_H_numberIn 137 = .ok (.ifCond .eq 9, 3) := by decide +kernel
theorem d_H_numberIn_140 : decode b_H_numberIn 140 = .ok (.lload 5, 2) := by decide +kernel
theorem d_H_numberIn_142 : decode b_H_numberIn 142 = .ok (.lneg, 1) := by decide +kernel
theorem d_H_numberIn_143 : decode b_H_numberIn 143 = .ok (.goto 5, 3) := by decide +kernel
theorem d_H_numberIn_146 : decode b_H_numberIn 146 = .ok (.lload 5, 2) := by decide +kernel
theorem d_H_numberIn_148 : decode b_H_numberIn 148 = .ok (.lstore 5, 2) := by decide +kernel
theorem d_H_numberIn_150 : decode b_H_numberIn 150 = .ok (.lload 5, 2) := by decide +kernel
theorem d_H_numberIn_152 : decode b_H_numberIn 152 = .ok (.lload 5, 2) := by decide +kernel
theorem d_H_numberIn_154 : decode b_H_numberIn 154 = .ok (.l2i, 1) := by decide +kernel
theorem d_H_numberIn_155 : decode b_H_numberIn 155 = .ok (.i2l, 1) := by decide +kernel
theorem d_H_numberIn_156 : decode b_H_numberIn 156 = .ok (.lcmp, 1) := by decide +kernel
theorem d_H_numberIn_157 : decode b_H_numberIn 157 = .ok (.ifCond .ne 8, 3) := by decide +kernel
theorem d_H_numberIn_160 : decode b_H_numberIn 160 = .ok (.lload 5, 2) := by decide +kernel
theorem d_H_numberIn_162 : decode b_H_numberIn 162 = .ok (.goto 6, 3) := by decide +kernel
theorem d_H_numberIn_165 : decode b_H_numberIn 165 = .ok (.ldc2_w 118, 3) := by decide +kernel
theorem d_H_numberIn_168 : decode b_H_numberIn 168 = .ok (.lreturn, 1) := by decide +kernel
theorem d_A_init_0 : decode b_A_init 0 = .ok (.aload_n 0, 1) := by decide +kernel
theorem d_A_init_1 : decode b_A_init 1 = .ok (.invokespecial 3, 3) := by decide +kernel
theorem d_A_init_4 : decode b_A_init 4 = .ok (.aload_n 0, 1) := by decide +kernel
theorem d_A_init_5 : decode b_A_init 5 = .ok (.bipush 16, 2) := by decide +kernel
theorem d_A_init_7 : decode b_A_init 7 = .ok (.newarray .int, 2) := by decide +kernel
theorem d_A_init_9 : decode b_A_init 9 = .ok (.putfield 9, 3) := by decide +kernel
theorem d_A_init_12 : decode b_A_init 12 = .ok (.aload_n 0, 1) := by decide +kernel
theorem d_A_init_13 : decode b_A_init 13 = .ok (.bipush 16, 2) := by decide +kernel
theorem d_A_init_15 : decode b_A_init 15 = .ok (.newarray .int, 2) := by decide +kernel
theorem d_A_init_17 : decode b_A_init 17 = .ok (.putfield 15, 3) := by decide +kernel
theorem d_A_init_20 : decode b_A_init 20 = .ok (.aload_n 0, 1) := by decide +kernel
theorem d_A_init_21 : decode b_A_init 21 = .ok (.bipush 16, 2) := by decide +kernel
theorem d_A_init_23 : decode b_A_init 23 = .ok (.newarray .int, 2) := by decide +kernel
theorem d_A_init_25 : decode b_A_init 25 = .ok (.putfield 18, 3) := by decide +kernel
theorem d_A_init_28 : decode b_A_init 28 = .ok (.aload_n 0, 1) := by decide +kernel
theorem d_A_init_29 : decode b_A_init 29 = .ok (.aload_n 1, 1) := by decide +kernel
theorem d_A_init_30 : decode b_A_init 30 = .ok (.putfield 21, 3) := by decide +kernel
theorem d_A_init_33 : decode b_A_init 33 = .ok (.return_, 1) := by decide +kernel
theorem d_A_exists_0 : decode b_A_exists 0 = .ok (.aload_n 0, 1) := by decide +kernel
theorem d_A_exists_1 : decode b_A_exists 1 = .ok (.getfield 9, 3) := by decide +kernel
theorem d_A_exists_4 : decode b_A_exists 4 = .ok (.iconst (-1), 1) := by decide +kernel
theorem d_A_exists_5 : decode b_A_exists 5 = .ok (.invokestatic 25, 3) := by decide +kernel
theorem d_A_exists_8 : decode b_A_exists 8 = .ok (.aload_n 0, 1) := by decide +kernel
theorem d_A_exists_9 : decode b_A_exists 9 = .ok (.getfield 15, 3) := by decide +kernel
theorem d_A_exists_12 : decode b_A_exists 12 = .ok (.iconst (-1), 1) := by decide +kernel
theorem d_A_exists_13 : decode b_A_exists 13 = .ok (.invokestatic 25, 3) := by decide +kernel
theorem d_A_exists_16 : decode b_A_exists 16 = .ok (.aload_n 0, 1) := by decide +kernel
theorem d_A_exists_17 : decode b_A_exists 17 = .ok (.iconst 0, 1) := by decide +kernel
theorem d_A_exists_18 : decode b_A_exists 18 = .ok (.putfield 31, 3) := by decide +kernel
theorem d_A_exists_21 : decode b_A_exists 21 = .ok (.aload_n 0, 1) := by decide +kernel
theorem d_A_exists_22 : decode b_A_exists 22 = .ok (.iload_n 1, 1) := by decide +kernel
theorem d_A_exists_23 : decode b_A_exists 23 = .ok (.iload_n 2, 1) := by decide +kernel
theorem d_A_exists_24 : decode b_A_exists 24 = .ok (.invokevirtual 35, 3) := by decide +kernel
theorem d_A_exists_27 : decode b_A_exists 27 = .ok (.istore_n 3, 1) := by decide +kernel
theorem d_A_exists_28 : decode b_A_exists 28 = .ok (.iconst 0, 1) := by decide +kernel
theorem d_A_exists_29 : decode b_A_exists 29 = .ok (.istore 4, 2) := by decide +kernel
theorem d_A_exists_31 : decode b_A_exists 31 = .ok (.iload 4, 2) := by decide +kernel
theorem d_A_exists_33 : decode b_A_exists 33 = .ok (.bipush 16, 2) := by decide +kernel
theorem d_A_exists_35 : decode b_A_exists 35 = .ok (.if_icmp .ge 46, 3) := by decide +kernel
theorem d_A_exists_38 : decode b_A_exists 38 = .ok (.iload 4, 2) := by decide +kernel
theorem d_A_exists_40 : decode b_A_exists 40 = .ok (.aload_n 0, 1) := by decide +kernel
theorem d_A_exists_41 : decode b_A_exists 41 = .ok (.getfield 31, 3) := by decide +kernel
theorem d_A_exists_44 : decode b_A_exists 44 = .ok (.if_icmp .ge 37, 3) := by decide +kernel
theorem d_A_exists_47 : decode b_A_exists 47 = .ok (.iload_n 3, 1) := by decide +kernel
theorem d_A_exists_48 : decode b_A_exists 48 = .ok (.ifCond .eq 33, 3) := by decide +kernel
theorem d_A_exists_51 : decode b_A_exists 51 = .ok (.aload_n 0, 1) := by decide +kernel
theorem d_A_exists_52 : decode b_A_exists 52 = .ok (.aload_n 0, 1) := by decide +kernel
theorem d_A_exists_53 : decode b_A_exists 53 = .ok (.getfield 18, 3) := by decide +kernel
theorem d_A_exists_56 : decode b_A_exists 56 = .ok (.iload 4, 2) := by decide +kernel
theorem d_A_exists_58 : decode b_A_exists 58 = .ok (.iaload, 1) := by decide +kernel
theorem d_A_exists_59 : decode b_A_exists 59 = .ok (.aload_n 0, 1) := by decide +kernel
theorem d_A_exists_60 : decode b_A_exists 60 = .ok (.getfield 9, 3) := by decide +kernel
theorem d_A_exists_63 : decode b_A_exists 63 = .ok (.aload_n 0, 1) := by decide +kernel
