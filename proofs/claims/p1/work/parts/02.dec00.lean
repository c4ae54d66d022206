theorem d_E_init_0 : decode b_E_init 0 = .ok (.aload_n 0, 1) := by decide +kernel
theorem d_E_init_1 : decode b_E_init 1 = .ok (.invokespecial 3, 3) := by decide +kernel
theorem d_E_init_4 : decode b_E_init 4 = .ok (.aload_n 0, 1) := by decide +kernel
theorem d_E_init_5 : decode b_E_init 5 = .ok (.sipush 533, 3) := by decide +kernel
theorem d_E_init_8 : decode b_E_init 8 = .ok (.newarray .int, 2) := by decide +kernel
theorem d_E_init_10 : decode b_E_init 10 = .ok (.putfield 11, 3) := by decide +kernel
theorem d_E_init_13 : decode b_E_init 13 = .ok (.aload_n 0, 1) := by decide +kernel
theorem d_E_init_14 : decode b_E_init 14 = .ok (.sipush 533, 3) := by decide +kernel
theorem d_E_init_17 : decode b_E_init 17 = .ok (.newarray .int, 2) := by decide +kernel
theorem d_E_init_19 : decode b_E_init 19 = .ok (.putfield 15, 3) := by decide +kernel
theorem d_E_init_22 : decode b_E_init 22 = .ok (.aload_n 0, 1) := by decide +kernel
theorem d_E_init_23 : decode b_E_init 23 = .ok (.sipush 533, 3) := by decide +kernel
theorem d_E_init_26 : decode b_E_init 26 = .ok (.newarray .int, 2) := by decide +kernel
theorem d_E_init_28 : decode b_E_init 28 = .ok (.putfield 18, 3) := by decide +kernel
theorem d_E_init_31 : decode b_E_init 31 = .ok (.aload_n 0, 1) := by decide +kernel
theorem d_E_init_32 : decode b_E_init 32 = .ok (.sipush 533, 3) := by decide +kernel
theorem d_E_init_35 : decode b_E_init 35 = .ok (.newarray .int, 2) := by decide +kernel
theorem d_E_init_37 : decode b_E_init 37 = .ok (.putfield 21, 3) := by decide +kernel
theorem d_E_init_40 : decode b_E_init 40 = .ok (.aload_n 0, 1) := by decide +kernel
theorem d_E_init_41 : decode b_E_init 41 = .ok (.sipush 533, 3) := by decide +kernel
theorem d_E_init_44 : decode b_E_init 44 = .ok (.newarray .int, 2) := by decide +kernel
theorem d_E_init_46 : decode b_E_init 46 = .ok (.putfield 24, 3) := by decide +kernel
theorem d_E_init_49 : decode b_E_init 49 = .ok (.aload_n 0, 1) := by decide +kernel
theorem d_E_init_50 : decode b_E_init 50 = .ok (.sipush 533, 3) := by decide +kernel
theorem d_E_init_53 : decode b_E_init 53 = .ok (.newarray .int, 2) := by decide +kernel
theorem d_E_init_55 : decode b_E_init 55 = .ok (.putfield 27, 3) := by decide +kernel
theorem d_E_init_58 : decode b_E_init 58 = .ok (.aload_n 0, 1) := by decide +kernel
theorem d_E_init_59 : decode b_E_init 59 = .ok (.sipush 533, 3) := by decide +kernel
theorem d_E_init_62 : decode b_E_init 62 = .ok (.newarray .int, 2) := by decide +kernel
theorem d_E_init_64 : decode b_E_init 64 = .ok (.putfield 30, 3) := by decide +kernel
theorem d_E_init_67 : decode b_E_init 67 = .ok (.aload_n 0, 1) := by decide +kernel
theorem d_E_init_68 : decode b_E_init 68 = .ok (.sipush 320, 3) := by decide +kernel
theorem d_E_init_71 : decode b_E_init 71 = .ok (.newarray .int, 2) := by decide +kernel
theorem d_E_init_73 : decode b_E_init 73 = .ok (.putfield 33, 3) := by decide +kernel
theorem d_E_init_76 : decode b_E_init 76 = .ok (.aload_n 0, 1) := by decide +kernel
theorem d_E_init_77 : decode b_E_init 77 = .ok (.sipush 320, 3) := by decide +kernel
theorem d_E_init_80 : decode b_E_init 80 = .ok (.newarray .int, 2) := by decide +kernel
theorem d_E_init_82 : decode b_E_init 82 = .ok (.putfield 36, 3) := by decide +kernel
theorem d_E_init_85 : decode b_E_init 85 = .ok (.aload_n 0, 1) := by decide +kernel
theorem d_E_init_86 : decode b_E_init 86 = .ok (.sipush 320, 3) := by decide +kernel
theorem d_E_init_89 : decode b_E_init 89 = .ok (.newarray .int, 2) := by decide +kernel
theorem d_E_init_91 : decode b_E_init 91 = .ok (.putfield 39, 3) := by decide +kernel
theorem d_E_init_94 : decode b_E_init 94 = .ok (.aload_n 0, 1) := by decide +kernel
theorem d_E_init_95 : decode b_E_init 95 = .ok (.sipush 1600, 3) := by decide +kernel
theorem d_E_init_98 : decode b_E_init 98 = .ok (.newarray .char, 2) := by decide +kernel
theorem d_E_init_100 : decode b_E_init 100 = .ok (.putfield 42, 3) := by decide +kernel
theorem d_E_init_103 : decode b_E_init 103 = .ok (.return_, 1) := by decide +kernel
theorem d_E_removeAll_0 : decode b_E_removeAll 0 = .ok (.aload_n 0, 1) := by decide +kernel
theorem d_E_removeAll_1 : decode b_E_removeAll 1 = .ok (.iconst 0, 1) := by decide +kernel
theorem d_E_removeAll_2 : decode b_E_removeAll 2 = .ok (.putfield 46, 3) := by decide +kernel
theorem d_E_removeAll_5 : decode b_E_removeAll 5 = .ok (.aload_n 0, 1) := by decide +kernel
theorem d_E_removeAll_6 : decode b_E_removeAll 6 = .ok (.iconst 0, 1) := by decide +kernel
theorem d_E_removeAll_7 : decode b_E_removeAll 7 = .ok (.putfield 50, 3) := by decide +kernel
theorem d_E_removeAll_10 : decode b_E_removeAll 10 = .ok (.aload_n 0, 1) := by decide +kernel
theorem d_E_removeAll_11 : decode b_E_removeAll 11 = .ok (.iconst 0, 1) := by decide +kernel
theorem d_E_removeAll_12 : decode b_E_removeAll 12 = .ok (.putfield 53, 3) := by decide +kernel
theorem d_E_removeAll_15 : decode b_E_removeAll 15 = .ok (.return_, 1) := by decide +kernel
theorem d_F_init_0 : decode b_F_init 0 = .ok (.aload_n 0, 1) := by decide +kernel
theorem d_F_init_1 : decode b_F_init 1 = .ok (.invokespecial 3, 3) := by decide +kernel
theorem d_F_init_4 : decode b_F_init 4 = .ok (.aload_n 0, 1) := by decide +kernel
theorem d_F_init_5 : decode b_F_init 5 = .ok (.aload_n 1, 1) := by decide +kernel
theorem d_F_init_6 : decode b_F_init 6 = .ok (.putfield 9, 3) := by decide +kernel
theorem d_F_init_9 : decode b_F_init 9 = .ok (.aload_n 0, 1) := by decide +kernel
theorem d_F_init_10 : decode b_F_init 10 = .ok (.aload_n 2, 1) := by decide +kernel
theorem d_F_init_11 : decode b_F_init 11 = .ok (.putfield 15, 3) := by decide +kernel
theorem d_F_init_14 : decode b_F_init 14 = .ok (.return_, 1) := by decide +kernel
theorem d_F_isWellFormed_0 : decode b_F_isWellFormed 0 = .ok (.aload_n 0, 1) := by decide +kernel
theorem d_F_isWellFormed_1 : decode b_F_isWellFormed 1 = .ok (.getfield 15, 3) := by decide +kernel
theorem d_F_isWellFormed_4 : decode b_F_isWellFormed 4 = .ok (.invokevirtual 19, 3) := by decide +kernel
theorem d_F_isWellFormed_7 : decode b_F_isWellFormed 7 = .ok (.aload_n 0, 1) := by decide +kernel
theorem d_F_isWellFormed_8 : decode b_F_isWellFormed 8 = .ok (.iconst 0, 1) := by decide +kernel
theorem d_F_isWellFormed_9 : decode b_F_isWellFormed 9 = .ok (.putfield 24, 3) := by decide +kernel
theorem d_F_isWellFormed_12 : decode b_F_isWellFormed 12 = .ok (.aload_n 0, 1) := by decide +kernel
theorem d_F_isWellFormed_13 : decode b_F_isWellFormed 13 = .ok (.iconst (-1), 1) := by decide +kernel
theorem d_F_isWellFormed_14 : decode b_F_isWellFormed 14 = .ok (.putfield 28, 3) := by decide +kernel
theorem d_F_isWellFormed_17 : decode b_F_isWellFormed 17 = .ok (.aload_n 0, 1) := by decide +kernel
theorem d_F_isWellFormed_18 : decode b_F_isWellFormed 18 = .ok (.iconst 0, 1) := by decide +kernel
theorem d_F_isWellFormed_19 : decode b_F_isWellFormed 19 = .ok (.putfield 31, 3) := by decide +kernel
theorem d_F_isWellFormed_22 : decode b_F_isWellFormed 22 = .ok (.iconst 0, 1) := by decide +kernel
theorem d_F_isWellFormed_23 : decode b_F_isWellFormed 23 = .ok (.istore_n 1, 1) := by decide +kernel
theorem d_F_isWellFormed_24 : decode b_F_isWellFormed 24 = .ok (.iload_n 1, 1) := by decide +kernel
theorem d_F_isWellFormed_25 : decode b_F_isWellFormed 25 = .ok (.sipush 1600, 3) := by decide +kernel
theorem d_F_isWellFormed_28 : decode b_F_isWellFormed 28 = .ok (.if_icmp .ge 32, 3) := by decide +kernel
theorem d_F_isWellFormed_31 : decode b_F_isWellFormed 31 = .ok (.aload_n 0, 1) := by decide +kernel
theorem d_F_isWellFormed_32 : decode b_F_isWellFormed 32 = .ok (.getfield 24, 3) := by decide +kernel
theorem d_F_isWellFormed_35 : decode b_F_isWellFormed 35 = .ok (.aload_n 0, 1) := by decide +kernel
theorem d_F_isWellFormed_36 : decode b_F_isWellFormed 36 = .ok (.getfield 9, 3) := by decide +kernel
theorem d_F_isWellFormed_39 : decode b_F_isWellFormed 39 = .ok (.getfield 34, 3) := by decide +kernel
theorem d_F_isWellFormed_42 : decode b_F_isWellFormed 42 = .ok (.if_icmp .ge 18, 3) := by decide +kernel
theorem d_F_isWellFormed_45 : decode b_F_isWellFormed 45 = .ok (.aload_n 0, 1) := by decide +kernel
theorem d_F_isWellFormed_46 : decode b_F_isWellFormed 46 = .ok (.invokevirtual 39, 3) := by decide +kernel
theorem d_F_isWellFormed_49 : decode b_F_isWellFormed 49 = .ok (.ifCond .ne 5, 3) := by decide +kernel
theorem d_F_isWellFormed_52 : decode b_F_isWellFormed 52 = .ok (.iconst 0, 1) := by decide +kernel
theorem d_F_isWellFormed_53 : decode b_F_isWellFormed 53 = .ok (.ireturn, 1) := by decide +kernel
theorem d_F_isWellFormed_54 : decode b_F_isWellFormed 54 = .ok (.iinc 1 1, 3) := by decide +kernel
theorem d_F_isWellFormed_57 : decode b_F_isWellFormed 57 = .ok (.goto (-33), 3) := by decide +kernel
theorem d_F_isWellFormed_60 : decode b_F_isWellFormed 60 = .ok (.aload_n 0, 1) := by decide +kernel
theorem d_F_isWellFormed_61 : decode b_F_isWellFormed 61 = .ok (.getfield 15, 3) := by decide +kernel
theorem d_F_isWellFormed_64 : decode b_F_isWellFormed 64 = .ok (.getfield 43, 3) := by decide +kernel
theorem d_F_isWellFormed_67 : decode b_F_isWellFormed 67 = .ok (.ifCond .le 29, 3) := by decide +kernel
theorem d_F_isWellFormed_70 : decode b_F_isWellFormed 70 = .ok (.aload_n 0, 1) := by decide +kernel
theorem d_F_isWellFormed_71 : decode b_F_isWellFormed 71 = .ok (.getfield 28, 3) := by decide +kernel
theorem d_F_isWellFormed_74 : decode b_F_isWellFormed 74 = .ok (.iconst (-1), 1) := by decide +kernel
theorem d_F_isWellFormed_75 : decode b_F_isWellFormed 75 = .ok (.if_icmp .ne 21, 3) := by decide +kernel
theorem d_F_isWellFormed_78 : decode b_F_isWellFormed 78 = .ok (.aload_n 0, 1) := by decide +kernel
theorem d_F_isWellFormed_79 : decode b_F_isWellFormed 79 = .ok (.getfield 24, 3) := by decide +kernel
theorem d_F_isWellFormed_82 : decode b_F_isWellFormed 82 = .ok (.aload_n 0, 1) := by decide +kernel
theorem d_F_isWellFormed_83 : decode b_F_isWellFormed 83 = .ok (.getfield 9, 3) := by decide +kernel
theorem d_F_isWellFormed_86 : decode b_F_isWellFormed 86 = .ok (.getfield 34, 3) := by decide +kernel
theorem d_F_isWellFormed_89 : decode b_F_isWellFormed 89 = .ok (.if_icmp .lt 7, 3) := by decide +kernel
theorem d_F_isWellFormed_92 : decode b_F_isWellFormed 92 = .ok (.iconst 1, 1) := by decide +kernel
theorem d_F_isWellFormed_93 : decode b_F_isWellFormed 93 = .ok (.goto 4, 3) := by decide +kernel
theorem d_F_isWellFormed_96 : decode b_F_isWellFormed 96 = .ok (.iconst 0, 1) := by decide +kernel
theorem d_F_isWellFormed_97 : decode b_F_isWellFormed 97 = .ok (.ireturn, 1) := by decide +kernel
theorem d_G_init_0 : decode b_G_init 0 = .ok (.aload_n 0, 1) := by decide +kernel
theorem d_G_init_1 : decode b_G_init 1 = .ok (.invokespecial 3, 3) := by decide +kernel
theorem d_G_init_4 : decode b_G_init 4 = .ok (.aload_n 0, 1) := by decide +kernel
theorem d_G_init_5 : decode b_G_init 5 = .ok (.bipush 16, 2) := by decide +kernel
theorem d_G_init_7 : decode b_G_init 7 = .ok (.newarray .int, 2) := by decide +kernel
theorem d_G_init_9 : decode b_G_init 9 = .ok (.putfield 9, 3) := by decide +kernel
theorem d_G_init_12 : decode b_G_init 12 = .ok (.aload_n 0, 1) := by decide +kernel
theorem d_G_init_13 : decode b_G_init 13 = .ok (.bipush 16, 2) := by decide +kernel
theorem d_G_init_15 : decode b_G_init 15 = .ok (.newarray .int, 2) := by decide +kernel
theorem d_G_init_17 : decode b_G_init 17 = .ok (.putfield 15, 3) := by decide +kernel
theorem d_G_init_20 : decode b_G_init 20 = .ok (.aload_n 0, 1) := by decide +kernel
theorem d_G_init_21 : decode b_G_init 21 = .ok (.bipush 64, 2) := by decide +kernel
theorem d_G_init_23 : decode b_G_init 23 = .ok (.newarray .int, 2) := by decide +kernel
theorem d_G_init_25 : decode b_G_init 25 = .ok (.putfield 18, 3) := by decide +kernel
theorem d_G_init_28 : decode b_G_init 28 = .ok (.aload_n 0, 1) := by decide +kernel
theorem d_G_init_29 : decode b_G_init 29 = .ok (.bipush 64, 2) := by decide +kernel
theorem d_G_init_31 : decode b_G_init 31 = .ok (.newarray .int, 2) := by decide +kernel
theorem d_G_init_33 : decode b_G_init 33 = .ok (.putfield 21, 3) := by decide +kernel
theorem d_G_init_36 : decode b_G_init 36 = .ok (.aload_n 0, 1) := by decide +kernel
theorem d_G_init_37 : decode b_G_init 37 = .ok (.bipush 96, 2) := by decide +kernel
theorem d_G_init_39 : decode b_G_init 39 = .ok (.newarray .char, 2) := by decide +kernel
theorem d_G_init_41 : decode b_G_init 41 = .ok (.putfield 24, 3) := by decide +kernel
theorem d_G_init_44 : decode b_G_init 44 = .ok (.return_, 1) := by decide +kernel
theorem d_G_has_0 : decode b_G_has 0 = .ok (.iload_n 1, 1) := by decide +kernel
theorem d_G_has_1 : decode b_G_has 1 = .ok (.ifCond .lt 15, 3) := by decide +kernel
theorem d_G_has_4 : decode b_G_has 4 = .ok (.iload_n 1, 1) := by decide +kernel
theorem d_G_has_5 : decode b_G_has 5 = .ok (.aload_n 0, 1) := by decide +kernel
theorem d_G_has_6 : decode b_G_has 6 = .ok (.getfield 28, 3) := by decide +kernel
theorem d_G_has_9 : decode b_G_has 9 = .ok (.if_icmp .ge 7, 3) := by decide +kernel
theorem d_G_has_12 : decode b_G_has 12 = .ok (.iconst 1, 1) := by decide +kernel
theorem d_G_has_13 : decode b_G_has 13 = .ok (.goto 4, 3) := by decide +kernel
theorem d_G_has_16 : decode b_G_has 16 = .ok (.iconst 0, 1) := by decide +kernel
theorem d_G_has_17 : decode b_G_has 17 = .ok (.ireturn, 1) := by decide +kernel
theorem d_G_isText_0 : decode b_G_isText 0 = .ok (.aload_n 0, 1) := by decide +kernel
theorem d_G_isText_1 : decode b_G_isText 1 = .ok (.iload_n 1, 1) := by decide +kernel
theorem d_G_isText_2 : decode b_G_isText 2 = .ok (.invokevirtual 32, 3) := by decide +kernel
theorem d_G_isText_5 : decode b_G_isText 5 = .ok (.ifCond .eq 17, 3) := by decide +kernel
theorem d_G_isText_8 : decode b_G_isText 8 = .ok (.aload_n 0, 1) := by decide +kernel
theorem d_G_isText_9 : decode b_G_isText 9 = .ok (.getfield 9, 3) := by decide +kernel
theorem d_G_isText_12 : decode b_G_isText 12 = .ok (.iload_n 1, 1) := by decide +kernel
theorem d_G_isText_13 : decode b_G_isText 13 = .ok (.iaload, 1) := by decide +kernel
theorem d_G_isText_14 : decode b_G_isText 14 = .ok (.iconst 2, 1) := by decide +kernel
theorem d_G_isText_15 : decode b_G_isText 15 = .ok (.if_icmp .ne 7, 3) := by decide +kernel
theorem d_G_isText_18 : decode b_G_isText 18 = .ok (.iconst 1, 1) := by decide +kernel
theorem d_G_isText_19 : decode b_G_isText 19 = .ok (.goto 4, 3) := by decide +kernel
theorem d_G_isText_22 : decode b_G_isText 22 = .ok (.iconst 0, 1) := by decide +kernel
theorem d_G_isText_23 : decode b_G_isText 23 = .ok (.ireturn, 1) := by decide +kernel
theorem d_G_hasSlot_0 : decode b_G_hasSlot 0 = .ok (.aload_n 0, 1) := by decide +kernel
theorem d_G_hasSlot_1 : decode b_G_hasSlot 1 = .ok (.iload_n 1, 1) := by decide +kernel
theorem d_G_hasSlot_2 : decode b_G_hasSlot 2 = .ok (.invokevirtual 32, 3) := by decide +kernel
theorem d_G_hasSlot_5 : decode b_G_hasSlot 5 = .ok (.ifCond .eq 31, 3) := by decide +kernel
theorem d_G_hasSlot_8 : decode b_G_hasSlot 8 = .ok (.aload_n 0, 1) := by decide +kernel
theorem d_G_hasSlot_9 : decode b_G_hasSlot 9 = .ok (.getfield 9, 3) := by decide +kernel
theorem d_G_hasSlot_12 : decode b_G_hasSlot 12 = .ok (.iload_n 1, 1) := by decide +kernel
theorem d_G_hasSlot_13 : decode b_G_hasSlot 13 = .ok (.iaload, 1) := by decide +kernel
theorem d_G_hasSlot_14 : decode b_G_hasSlot 14 = .ok (.iconst 2, 1) := by decide +kernel
theorem d_G_hasSlot_15 : decode b_G_hasSlot 15 = .ok (.if_icmp .eq 21, 3) := by decide +kernel
theorem d_G_hasSlot_18 : decode b_G_hasSlot 18 = .ok (.iload_n 2, 1) := by decide +kernel
theorem d_G_hasSlot_19 : decode b_G_hasSlot 19 = .ok (.ifCond .lt 17, 3) := by decide +kernel
theorem d_G_hasSlot_22 : decode b_G_hasSlot 22 = .ok (.iload_n 2, 1) := by decide +kernel
theorem d_G_hasSlot_23 : decode b_G_hasSlot 23 = .ok (.aload_n 0, 1) := by decide +kernel
theorem d_G_hasSlot_24 : decode b_G_hasSlot 24 = .ok (.getfield 15, 3) := by decide +kernel
theorem d_G_hasSlot_27 : decode b_G_hasSlot 27 = .ok (.iload_n 1, 1) := by decide +kernel
theorem d_G_hasSlot_28 : decode b_G_hasSlot 28 = .ok (.iaload, 1) := by decide +kernel
theorem d_G_hasSlot_29 : decode b_G_hasSlot 29 = .ok (.if_icmp .ge 7, 3) := by decide +kernel
theorem d_G_hasSlot_32 : decode b_G_hasSlot 32 = .ok (.iconst 1, 1) := by decide +kernel
theorem d_G_hasSlot_33 : decode b_G_hasSlot 33 = .ok (.goto 4, 3) := by decide +kernel
theorem d_G_hasSlot_36 : decode b_G_hasSlot 36 = .ok (.iconst 0, 1) := by decide +kernel
theorem d_G_hasSlot_37 : decode b_G_hasSlot 37 = .ok (.ireturn, 1) := by decide +kernel
theorem d_G_add_0 : decode b_G_add 0 = .ok (.aload_n 0, 1) := by decide +kernel
theorem d_G_add_1 : decode b_G_add 1 = .ok (.aload_n 0, 1) := by decide +kernel
theorem d_G_add_2 : decode b_G_add 2 = .ok (.getfield 28, 3) := by decide +kernel
theorem d_G_add_5 : decode b_G_add 5 = .ok (.iload_n 1, 1) := by decide +kernel
theorem d_G_add_6 : decode b_G_add 6 = .ok (.iload_n 2, 1) := by decide +kernel
theorem d_G_add_7 : decode b_G_add 7 = .ok (.invokevirtual 36, 3) := by decide +kernel
theorem d_G_add_10 : decode b_G_add 10 = .ok (.aload_n 0, 1) := by decide +kernel
theorem d_G_add_11 : decode b_G_add 11 = .ok (.dup, 1) := by decide +kernel
theorem d_G_add_12 : decode b_G_add 12 = .ok (.getfield 28, 3) := by decide +kernel
theorem d_G_add_15 : decode b_G_add 15 = .ok (.iconst 1, 1) := by decide +kernel
theorem d_G_add_16 : decode b_G_add 16 = .ok (.iadd, 1) := by decide +kernel
theorem d_G_add_17 : decode b_G_add 17 = .ok (.putfield 28, 3) := by decide +kernel
theorem d_G_add_20 : decode b_G_add 20 = .ok (.aload_n 0, 1) := by decide +kernel
theorem d_G_add_21 : decode b_G_add 21 = .ok (.getfield 28, 3) := by decide +kernel
theorem d_G_add_24 : decode b_G_add 24 = .ok (.iconst 1, 1) := by decide +kernel
theorem d_G_add_25 : decode b_G_add 25 = .ok (.isub, 1) := by decide +kernel
theorem d_G_add_26 : decode b_G_add 26 = .ok (.ireturn, 1) := by decide +kernel
theorem d_G_lay_0 : decode b_G_lay 0 = .ok (.aload_n 0, 1) := by decide +kernel
theorem d_G_lay_1 : decode b_G_lay 1 = .ok (.getfield 9, 3) := by decide +kernel
theorem d_G_lay_4 : decode b_G_lay 4 = .ok (.iload_n 1, 1) := by decide +kernel
theorem d_G_lay_5 : decode b_G_lay 5 = .ok (.iload_n 2, 1) := by decide +kernel
theorem d_G_lay_6 : decode b_G_lay 6 = .ok (.iastore, 1) := by decide +kernel
theorem d_G_lay_7 : decode b_G_lay 7 = .ok (.aload_n 0, 1) := by decide +kernel
theorem d_G_lay_8 : decode b_G_lay 8 = .ok (.getfield 15, 3) := by decide +kernel
theorem d_G_lay_11 : decode b_G_lay 11 = .ok (.iload_n 1, 1) := by decide +kernel
theorem d_G_lay_12 : decode b_G_lay 12 = .ok (.iload_n 3, 1) := by decide +kernel
theorem d_G_lay_13 : decode b_G_lay 13 = .ok (.iastore, 1) := by decide +kernel
theorem d_G_lay_14 : decode b_G_lay 14 = .ok (.iconst 0, 1) := by decide +kernel
theorem d_G_lay_15 : decode b_G_lay 15 = .ok (.istore 4, 2) := by decide +kernel
theorem d_G_lay_17 : decode b_G_lay 17 = .ok (.iload 4, 2) := by decide +kernel
theorem d_G_lay_19 : decode b_G_lay 19 = .ok (.iconst 4, 1) := by decide +kernel
theorem d_G_lay_20 : decode b_G_lay 20 = .ok (.if_icmp .ge 18, 3) := by decide +kernel
theorem d_G_lay_23 : decode b_G_lay 23 = .ok (.aload_n 0, 1) := by decide +kernel
theorem d_G_lay_24 : decode b_G_lay 24 = .ok (.iload_n 1, 1) := by decide +kernel
theorem d_G_lay_25 : decode b_G_lay 25 = .ok (.iload 4, 2) := by decide +kernel
theorem d_G_lay_27 : decode b_G_lay 27 = .ok (.iconst 0, 1) := by decide +kernel
theorem d_G_lay_28 : decode b_G_lay 28 = .ok (.iconst 0, 1) := by decide +kernel
theorem d_G_lay_29 : decode b_G_lay 29 = .ok (.invokevirtual 40, 3) := by decide +kernel
theorem d_G_lay_32 : decode b_G_lay 32 = .ok (.iinc 4 1, 3) := by decide +kernel
theorem d_G_lay_35 : decode b_G_lay 35 = .ok (.goto (-18), 3) := by decide +kernel
theorem d_G_lay_38 : decode b_G_lay 38 = .ok (.return_, 1) := by decide +kernel
theorem d_G_setSlot_0 : decode b_G_setSlot 0 = .ok (.aload_n 0, 1) := by decide +kernel
theorem d_G_setSlot_1 : decode b_G_setSlot 1 = .ok (.getfield 18, 3) := by decide +kernel
theorem d_G_setSlot_4 : decode b_G_setSlot 4 = .ok (.iload_n 1, 1) := by decide +kernel
theorem d_G_setSlot_5 : decode b_G_setSlot 5 = .ok (.iconst 4, 1) := by decide +kernel
theorem d_G_setSlot_6 : decode b_G_setSlot 6 = .ok (.imul, 1) := by decide +kernel
theorem d_G_setSlot_7 : decode b_G_setSlot 7 = .ok (.iload_n 2, 1) := by decide +kernel
theorem d_G_setSlot_8 : decode b_G_setSlot 8 = .ok (.iadd, 1) := by decide +kernel
theorem d_G_setSlot_9 : decode b_G_setSlot 9 = .ok (.iload_n 3, 1) := by decide +kernel
theorem d_G_setSlot_10 : decode b_G_setSlot 10 = .ok (.iastore, 1) := by decide +kernel
theorem d_G_setSlot_11 : decode b_G_setSlot 11 = .ok (.aload_n 0, 1) := by decide +kernel
theorem d_G_setSlot_12 : decode b_G_setSlot 12 = .ok (.getfield 21, 3) := by decide +kernel
theorem d_G_setSlot_15 : decode b_G_setSlot 15 = .ok (.iload_n 1, 1) := by decide +kernel
theorem d_G_setSlot_16 : decode b_G_setSlot 16 = .ok (.iconst 4, 1) := by decide +kernel
theorem d_G_setSlot_17 : decode b_G_setSlot 17 = .ok (.imul, 1) := by decide +kernel
theorem d_G_setSlot_18 : decode b_G_setSlot 18 = .ok (.iload_n 2, 1) := by decide +kernel
theorem d_G_setSlot_19 : decode b_G_setSlot 19 = .ok (.iadd, 1) := by decide +kernel
theorem d_G_setSlot_20 : decode b_G_setSlot 20 = .ok (.iload 4, 2) := by decide +kernel
theorem d_G_setSlot_22 : decode b_G_setSlot 22 = .ok (.iastore, 1) := by decide +kernel
theorem d_G_setSlot_23 : decode b_G_setSlot 23 = .ok (.return_, 1) := by decide +kernel
theorem d_G_contentOf_0 : decode b_G_contentOf 0 = .ok (.aload_n 0, 1) := by decide +kernel
theorem d_G_contentOf_1 : decode b_G_contentOf 1 = .ok (.getfield 18, 3) := by decide +kernel
theorem d_G_contentOf_4 : decode b_G_contentOf 4 = .ok (.iload_n 1, 1) := by decide +kernel
theorem d_G_contentOf_5 : decode b_G_contentOf 5 = .ok (.iconst 4, 1) := by decide +kernel
theorem d_G_contentOf_6 : decode b_G_contentOf 6 = .ok (.imul, 1) := by decide +kernel
theorem d_G_contentOf_7 : decode b_G_contentOf 7 = .ok (.iload_n 2, 1) := by decide +kernel
theorem d_G_contentOf_8 : decode b_G_contentOf 8 = .ok (.iadd, 1) := by decide +kernel
theorem d_G_contentOf_9 : decode b_G_contentOf 9 = .ok (.iaload, 1) := by decide +kernel
theorem d_G_contentOf_10 : decode b_G_contentOf 10 = .ok (.ireturn, 1) := by decide +kernel
theorem d_G_valueOf_0 : decode b_G_valueOf 0 = .ok (.aload_n 0, 1) := by decide +kernel
theorem d_G_valueOf_1 : decode b_G_valueOf 1 = .ok (.getfield 21, 3) := by decide +kernel
theorem d_G_valueOf_4 : decode b_G_valueOf 4 = .ok (.iload_n 1, 1) := by decide +kernel
theorem d_G_valueOf_5 : decode b_G_valueOf 5 = .ok (.iconst 4, 1) := by decide +kernel
theorem d_G_valueOf_6 : decode b_G_valueOf 6 = .ok (.imul, 1) := by decide +kernel
theorem d_G_valueOf_7 : decode b_G_valueOf 7 = .ok (.iload_n 2, 1) := by decide +kernel
theorem d_G_valueOf_8 : decode b_G_valueOf 8 = .ok (.iadd, 1) := by decide +kernel
theorem d_G_valueOf_9 : decode b_G_valueOf 9 = .ok (.iaload, 1) := by decide +kernel
theorem d_G_valueOf_10 : decode b_G_valueOf 10 = .ok (.ireturn, 1) := by decide +kernel
theorem d_G_addCharacter_0 : decode b_G_addCharacter 0 = .ok (.aload_n 0, 1) := by decide +kernel
theorem d_G_addCharacter_1 : decode b_G_addCharacter 1 = .ok (.getfield 15, 3) := by decide +kernel
theorem d_G_addCharacter_4 : decode b_G_addCharacter 4 = .ok (.iload_n 1, 1) := by decide +kernel
theorem d_G_addCharacter_5 : decode b_G_addCharacter 5 = .ok (.iaload, 1) := by decide +kernel
theorem d_G_addCharacter_6 : decode b_G_addCharacter 6 = .ok (.bipush 6, 2) := by decide +kernel
theorem d_G_addCharacter_8 : decode b_G_addCharacter 8 = .ok (.if_icmp .lt 5, 3) := by decide +kernel
theorem d_G_addCharacter_11 : decode b_G_addCharacter 11 = .ok (.iconst 0, 1) := by decide +kernel
theorem d_G_addCharacter_12 : decode b_G_addCharacter 12 = .ok (.ireturn, 1) := by decide +kernel
theorem d_G_addCharacter_13 : decode b_G_addCharacter 13 = .ok (.aload_n 0, 1) := by decide +kernel
theorem d_G_addCharacter_14 : decode b_G_addCharacter 14 = .ok (.getfield 24, 3) := by decide +kernel
theorem d_G_addCharacter_17 : decode b_G_addCharacter 17 = .ok (.iload_n 1, 1) := by decide +kernel
theorem d_G_addCharacter_18 : decode b_G_addCharacter 18 = .ok (.bipush 6, 2) := by decide +kernel
theorem d_G_addCharacter_20 : decode b_G_addCharacter 20 = .ok (.imul, 1) := by decide +kernel
theorem d_G_addCharacter_21 : decode b_G_addCharacter 21 = .ok (.aload_n 0, 1) := by decide +kernel
theorem d_G_addCharacter_22 : decode b_G_addCharacter 22 = .ok (.getfield 15, 3) := by decide +kernel
theorem d_G_addCharacter_25 : decode b_G_addCharacter 25 = .ok (.iload_n 1, 1) := by decide +kernel
theorem d_G_addCharacter_26 : decode b_G_addCharacter 26 = .ok (.iaload, 1) := by decide +kernel
theorem d_G_addCharacter_27 : decode b_G_addCharacter 27 = .ok (.iadd, 1) := by decide +kernel
theorem d_G_addCharacter_28 : decode b_G_addCharacter 28 = .ok (.iload_n 2, 1) := by decide +kernel
theorem d_G_addCharacter_29 : decode b_G_addCharacter 29 = .ok (.castore, 1) := by decide +kernel
theorem d_G_addCharacter_30 : decode b_G_addCharacter 30 = .ok (.aload_n 0, 1) := by decide +kernel
theorem d_G_addCharacter_31 : decode b_G_addCharacter 31 = .ok (.getfield 15, 3) := by decide +kernel
theorem d_G_addCharacter_34 : decode b_G_addCharacter 34 = .ok (.iload_n 1, 1) := by decide +kernel
theorem d_G_addCharacter_35 : decode b_G_addCharacter 35 = .ok (.dup2, 1) := by decide +kernel
theorem d_G_addCharacter_36 : decode b_G_addCharacter 36 = .ok (.iaload, 1) := by decide +kernel
theorem d_G_addCharacter_37 : decode b_G_addCharacter 37 = .ok (.iconst 1, 1) := by decide +kernel
theorem d_G_addCharacter_38 : decode b_G_addCharacter 38 = .ok (.iadd, 1) := by decide +kernel
theorem d_G_addCharacter_39 : decode b_G_addCharacter 39 = .ok (.iastore, 1) := by decide +kernel
theorem d_G_addCharacter_40 : decode b_G_addCharacter 40 = .ok (.iconst 1, 1) := by decide +kernel
theorem d_G_addCharacter_41 : decode b_G_addCharacter 41 = .ok (.ireturn, 1) := by decide +kernel
theorem d_G_characterOf_0 : decode b_G_characterOf 0 = .ok (.aload_n 0, 1) := by decide +kernel
theorem d_G_characterOf_1 : decode b_G_characterOf 1 = .ok (.getfield 24, 3) := by decide +kernel
theorem d_G_characterOf_4 : decode b_G_characterOf 4 = .ok (.iload_n 1, 1) := by decide +kernel
theorem d_G_characterOf_5 : decode b_G_characterOf 5 = .ok (.bipush 6, 2) := by decide +kernel
theorem d_G_characterOf_7 : decode b_G_characterOf 7 = .ok (.imul, 1) := by decide +kernel
theorem d_G_characterOf_8 : decode b_G_characterOf 8 = .ok (.iload_n 2, 1) := by decide +kernel
theorem d_G_characterOf_9 : decode b_G_characterOf 9 = .ok (.iadd, 1) := by decide +kernel
theorem d_G_characterOf_10 : decode b_G_characterOf 10 = .ok (.caload, 1) := by decide +kernel
theorem d_G_characterOf_11 : decode b_G_characterOf 11 = .ok (.ireturn, 1) := by decide +kernel
theorem d_H_init_0 : decode b_H_init 0 = .ok (.aload_n 0, 1) := by decide +kernel
theorem d_H_init_1 : decode b_H_init 1 = .ok (.invokespecial 7, 3) := by decide +kernel
theorem d_H_init_4 : decode b_H_init 4 = .ok (.aload_n 0, 1) := by decide +kernel
theorem d_H_init_5 : decode b_H_init 5 = .ok (.sipush 533, 3) := by decide +kernel
theorem d_H_init_8 : decode b_H_init 8 = .ok (.newarray .int, 2) := by decide +kernel
theorem d_H_init_10 : decode b_H_init 10 = .ok (.putfield 15, 3) := by decide +kernel
theorem d_H_init_13 : decode b_H_init 13 = .ok (.aload_n 0, 1) := by decide +kernel
theorem d_H_init_14 : decode b_H_init 14 = .ok (.bipush 100, 2) := by decide +kernel
theorem d_H_init_16 : decode b_H_init 16 = .ok (.newarray .int, 2) := by decide +kernel
theorem d_H_init_18 : decode b_H_init 18 = .ok (.putfield 19, 3) := by decide +kernel
theorem d_H_init_21 : decode b_H_init 21 = .ok (.aload_n 0, 1) := by decide +kernel
theorem d_H_init_22 : decode b_H_init 22 = .ok (.bipush 16, 2) := by decide +kernel
theorem d_H_init_24 : decode b_H_init 24 = .ok (.newarray .int, 2) := by decide +kernel
theorem d_H_init_26 : decode b_H_init 26 = .ok (.putfield 22, 3) := by decide +kernel
theorem d_H_init_29 : decode b_H_init 29 = .ok (.aload_n 0, 1) := by decide +kernel
theorem d_H_init_30 : decode b_H_init 30 = .ok (.bipush 16, 2) := by decide +kernel
theorem d_H_init_32 : decode b_H_init 32 = .ok (.newarray .int, 2) := by decide +kernel
theorem d_H_init_34 : decode b_H_init 34 = .ok (.putfield 25, 3) := by decide +kernel
theorem d_H_init_37 : decode b_H_init 37 = .ok (.aload_n 0, 1) := by decide +kernel
theorem d_H_init_38 : decode b_H_init 38 = .ok (.aload_n 1, 1) := by decide +kernel
theorem d_H_init_39 : decode b_H_init 39 = .ok (.putfield 28, 3) := by decide +kernel
theorem d_H_init_42 : decode b_H_init 42 = .ok (.aload_n 0, 1) := by decide +kernel
theorem d_H_init_43 : decode b_H_init 43 = .ok (.aload_n 2, 1) := by decide +kernel
theorem d_H_init_44 : decode b_H_init 44 = .ok (.putfield 32, 3) := by decide +kernel
theorem d_H_init_47 : decode b_H_init 47 = .ok (.aload_n 0, 1) := by decide +kernel
theorem d_H_init_48 : decode b_H_init 48 = .ok (.aload_n 3, 1) := by decide +kernel
theorem d_H_init_49 : decode b_H_init 49 = .ok (.putfield 36, 3) := by decide +kernel
theorem d_H_init_52 : decode b_H_init 52 = .ok (.return_, 1) := by decide +kernel
theorem d_A_init_0 : decode b_A_init 0 = .ok (.aload_n 0, 1) := by decide +kernel
theorem d_A_init_1 : decode b_A_init 1 = .ok (.invokespecial 3, 3) := by decide +kernel
theorem d_A_init_4 : decode b_A_init 4 = .ok (.aload_n 0, 1) := by decide +kernel
theorem d_A_init_5 : decode b_A_init 5 = .ok (.bipush 16, 2) := by decide +kernel
theorem d_A_init_7 : decode b_A_init 7 = .ok (.newarray .int, 2) := by decide +kernel
theorem d_A_init_9 : decode b_A_init 9 = .ok (.putfield 9, 3) := by decide +kernel
theorem d_A_init_12 : decode b_A_init 12 = .ok (.aload_n 0, 1) := by decide +kernel
theorem d_A_init_13 : decode b_A_init 13 = .ok (.bipush 16, 2) := by decide +kernel
theorem d_A_init_15 : decode b_A_init 15 = .ok (.newarray .int, 2) := by decide +kernel
theorem d_A_init_17 : decode b_A_init 17 = .ok (.putfield 15, 3) := by decide +kernel
theorem d_A_init_20 : decode b_A_init 20 = .ok (.aload_n 0, 1) := by decide +kernel
theorem d_A_init_21 : decode b_A_init 21 = .ok (.bipush 16, 2) := by decide +kernel
theorem d_A_init_23 : decode b_A_init 23 = .ok (.newarray .int, 2) := by decide +kernel
theorem d_A_init_25 : decode b_A_init 25 = .ok (.putfield 18, 3) := by decide +kernel
theorem d_A_init_28 : decode b_A_init 28 = .ok (.aload_n 0, 1) := by decide +kernel
theorem d_A_init_29 : decode b_A_init 29 = .ok (.aload_n 1, 1) := by decide +kernel
theorem d_A_init_30 : decode b_A_init 30 = .ok (.putfield 21, 3) := by decide +kernel
theorem d_A_init_33 : decode b_A_init 33 = .ok (.return_, 1) := by decide +kernel
theorem d_P_init_0 : decode b_P_init 0 = .ok (.aload_n 0, 1) := by decide +kernel
theorem d_P_init_1 : decode b_P_init 1 = .ok (.invokespecial 3, 3) := by decide +kernel
theorem d_P_init_4 : decode b_P_init 4 = .ok (.aload_n 0, 1) := by decide +kernel
theorem d_P_init_5 : decode b_P_init 5 = .ok (.sipush 1600, 3) := by decide +kernel
theorem d_P_init_8 : decode b_P_init 8 = .ok (.newarray .char, 2) := by decide +kernel
theorem d_P_init_10 : decode b_P_init 10 = .ok (.putfield 9, 3) := by decide +kernel
theorem d_P_init_13 : decode b_P_init 13 = .ok (.return_, 1) := by decide +kernel
theorem d_P_codeAt_0 : decode b_P_codeAt 0 = .ok (.iload_n 1, 1) := by decide +kernel
theorem d_P_codeAt_1 : decode b_P_codeAt 1 = .ok (.ifCond .lt 20, 3) := by decide +kernel
theorem d_P_codeAt_4 : decode b_P_codeAt 4 = .ok (.iload_n 1, 1) := by decide +kernel
theorem d_P_codeAt_5 : decode b_P_codeAt 5 = .ok (.aload_n 0, 1) := by decide +kernel
theorem d_P_codeAt_6 : decode b_P_codeAt 6 = .ok (.getfield 15, 3) := by decide +kernel
theorem d_P_codeAt_9 : decode b_P_codeAt 9 = .ok (.if_icmp .ge 12, 3) := by decide +kernel
theorem d_P_codeAt_12 : decode b_P_codeAt 12 = .ok (.aload_n 0, 1) := by decide +kernel
theorem d_P_codeAt_13 : decode b_P_codeAt 13 = .ok (.getfield 9, 3) := by decide +kernel
theorem d_P_codeAt_16 : decode b_P_codeAt 16 = .ok (.iload_n 1, 1) := by decide +kernel
theorem d_P_codeAt_17 : decode b_P_codeAt 17 = .ok (.caload, 1) := by decide +kernel
theorem d_P_codeAt_18 : decode b_P_codeAt 18 = .ok (.goto 4, 3) := by decide +kernel
theorem d_P_codeAt_21 : decode b_P_codeAt 21 = .ok (.iconst (-1), 1) := by decide +kernel
theorem d_P_codeAt_22 : decode b_P_codeAt 22 = .ok (.ireturn, 1) := by decide +kernel
theorem d_P_append_0 : decode b_P_append 0 = .ok (.aload_n 0, 1) := by decide +kernel
theorem d_P_append_1 : decode b_P_append 1 = .ok (.getfield 15, 3) := by decide +kernel
theorem d_P_append_4 : decode b_P_append 4 = .ok (.sipush 1600, 3) := by decide +kernel
theorem d_P_append_7 : decode b_P_append 7 = .ok (.if_icmp .lt 5, 3) := by decide +kernel
theorem d_P_append_10 : decode b_P_append 10 = .ok (.iconst 0, 1) := by decide +kernel
theorem d_P_append_11 : decode b_P_append 11 = .ok (.ireturn, 1) := by decide +kernel
theorem d_P_append_12 : decode b_P_append 12 = .ok (.aload_n 0, 1) := by decide +kernel
theorem d_P_append_13 : decode b_P_append 13 = .ok (.getfield 9, 3) := by decide +kernel
theorem d_P_append_16 : decode b_P_append 16 = .ok (.aload_n 0, 1) := by decide +kernel
theorem d_P_append_17 : decode b_P_append 17 = .ok (.getfield 15, 3) := by decide +kernel
theorem d_P_append_20 : decode b_P_append 20 = .ok (.iload_n 1, 1) := by decide +kernel
theorem d_P_append_21 : decode b_P_append 21 = .ok (.castore, 1) := by decide +kernel
theorem d_P_append_22 : decode b_P_append 22 = .ok (.aload_n 0, 1) := by decide +kernel
theorem d_P_append_23 : decode b_P_append 23 = .ok (.dup, 1) := by decide +kernel
theorem d_P_append_24 : decode b_P_append 24 = .ok (.getfield 15, 3) := by decide +kernel
theorem d_P_append_27 : decode b_P_append 27 = .ok (.iconst 1, 1) := by decide +kernel
theorem d_P_append_28 : decode b_P_append 28 = .ok (.iadd, 1) := by decide +kernel
theorem d_P_append_29 : decode b_P_append 29 = .ok (.putfield 15, 3) := by decide +kernel
theorem d_P_append_32 : decode b_P_append 32 = .ok (.iconst 1, 1) := by decide +kernel
theorem d_P_append_33 : decode b_P_append 33 = .ok (.ireturn, 1) := by decide +kernel
theorem d_R_init_0 : decode b_R_init 0 = .ok (.aload_n 0, 1) := by decide +kernel
theorem d_R_init_1 : decode b_R_init 1 = .ok (.invokespecial 3, 3) := by decide +kernel
theorem d_R_init_4 : decode b_R_init 4 = .ok (.aload_n 0, 1) := by decide +kernel
theorem d_R_init_5 : decode b_R_init 5 = .ok (.bipush 16, 2) := by decide +kernel
theorem d_R_init_7 : decode b_R_init 7 = .ok (.newarray .int, 2) := by decide +kernel
theorem d_R_init_9 : decode b_R_init 9 = .ok (.putfield 9, 3) := by decide +kernel
theorem d_R_init_12 : decode b_R_init 12 = .ok (.aload_n 0, 1) := by decide +kernel
theorem d_R_init_13 : decode b_R_init 13 = .ok (.bipush 16, 2) := by decide +kernel
theorem d_R_init_15 : decode b_R_init 15 = .ok (.newarray .int, 2) := by decide +kernel
theorem d_R_init_17 : decode b_R_init 17 = .ok (.putfield 15, 3) := by decide +kernel
theorem d_R_init_20 : decode b_R_init 20 = .ok (.aload_n 0, 1) := by decide +kernel
theorem d_R_init_21 : decode b_R_init 21 = .ok (.aload_n 1, 1) := by decide +kernel
theorem d_R_init_22 : decode b_R_init 22 = .ok (.putfield 18, 3) := by decide +kernel
theorem d_R_init_25 : decode b_R_init 25 = .ok (.return_, 1) := by decide +kernel
theorem d_W_init_0 : decode b_W_init 0 = .ok (.aload_n 0, 1) := by decide +kernel
theorem d_W_init_1 : decode b_W_init 1 = .ok (.invokespecial 3, 3) := by decide +kernel
theorem d_W_init_4 : decode b_W_init 4 = .ok (.aload_n 0, 1) := by decide +kernel
theorem d_W_init_5 : decode b_W_init 5 = .ok (.bipush 16, 2) := by decide +kernel
theorem d_W_init_7 : decode b_W_init 7 = .ok (.newarray .int, 2) := by decide +kernel
theorem d_W_init_9 : decode b_W_init 9 = .ok (.putfield 9, 3) := by decide +kernel
theorem d_W_init_12 : decode b_W_init 12 = .ok (.aload_n 0, 1) := by decide +kernel
theorem d_W_init_13 : decode b_W_init 13 = .ok (.bipush 16, 2) := by decide +kernel
theorem d_W_init_15 : decode b_W_init 15 = .ok (.newarray .int, 2) := by decide +kernel
theorem d_W_init_17 : decode b_W_init 17 = .ok (.putfield 15, 3) := by decide +kernel
theorem d_W_init_20 : decode b_W_init 20 = .ok (.aload_n 0, 1) := by decide +kernel
theorem d_W_init_21 : decode b_W_init 21 = .ok (.aload_n 1, 1) := by decide +kernel
theorem d_W_init_22 : decode b_W_init 22 = .ok (.putfield 18, 3) := by decide +kernel
theorem d_W_init_25 : decode b_W_init 25 = .ok (.aload_n 0, 1) := by decide +kernel
theorem d_W_init_26 : decode b_W_init 26 = .ok (.aload_n 2, 1) := by decide +kernel
theorem d_W_init_27 : decode b_W_init 27 = .ok (.putfield 22, 3) := by decide +kernel
theorem d_W_init_30 : decode b_W_init 30 = .ok (.aload_n 0, 1) := by decide +kernel
theorem d_W_init_31 : decode b_W_init 31 = .ok (.aload_n 3, 1) := by decide +kernel
theorem d_W_init_32 : decode b_W_init 32 = .ok (.putfield 26, 3) := by decide +kernel
theorem d_W_init_35 : decode b_W_init 35 = .ok (.return_, 1) := by decide +kernel
theorem d_O_init_0 : decode b_O_init 0 = .ok (.aload_n 0, 1) := by decide +kernel
theorem d_O_init_1 : decode b_O_init 1 = .ok (.invokespecial 1, 3) := by decide +kernel
theorem d_O_init_4 : decode b_O_init 4 = .ok (.aload_n 0, 1) := by decide +kernel
theorem d_O_init_5 : decode b_O_init 5 = .ok (.new 7, 3) := by decide +kernel
theorem d_O_init_8 : decode b_O_init 8 = .ok (.dup, 1) := by decide +kernel
theorem d_O_init_9 : decode b_O_init 9 = .ok (.invokespecial 9, 3) := by decide +kernel
theorem d_O_init_12 : decode b_O_init 12 = .ok (.putfield 10, 3) := by decide +kernel
theorem d_O_init_15 : decode b_O_init 15 = .ok (.aload_n 0, 1) := by decide +kernel
theorem d_O_init_16 : decode b_O_init 16 = .ok (.new 16, 3) := by decide +kernel
theorem d_O_init_19 : decode b_O_init 19 = .ok (.dup, 1) := by decide +kernel
theorem d_O_init_20 : decode b_O_init 20 = .ok (.invokespecial 18, 3) := by decide +kernel
theorem d_O_init_23 : decode b_O_init 23 = .ok (.putfield 19, 3) := by decide +kernel
theorem d_O_init_26 : decode b_O_init 26 = .ok (.aload_n 0, 1) := by decide +kernel
theorem d_O_init_27 : decode b_O_init 27 = .ok (.bipush 32, 2) := by decide +kernel
theorem d_O_init_29 : decode b_O_init 29 = .ok (.newarray .boolean, 2) := by decide +kernel
theorem d_O_init_31 : decode b_O_init 31 = .ok (.putfield 23, 3) := by decide +kernel
theorem d_O_init_34 : decode b_O_init 34 = .ok (.aload_n 0, 1) := by decide +kernel
theorem d_O_init_35 : decode b_O_init 35 = .ok (.new 27, 3) := by decide +kernel
theorem d_O_init_38 : decode b_O_init 38 = .ok (.dup, 1) := by decide +kernel
theorem d_O_init_39 : decode b_O_init 39 = .ok (.aload_n 0, 1) := by decide +kernel
theorem d_O_init_40 : decode b_O_init 40 = .ok (.getfield 10, 3) := by decide +kernel
theorem d_O_init_43 : decode b_O_init 43 = .ok (.invokespecial 29, 3) := by decide +kernel
theorem d_O_init_46 : decode b_O_init 46 = .ok (.putfield 32, 3) := by decide +kernel
theorem d_O_init_49 : decode b_O_init 49 = .ok (.aload_n 0, 1) := by decide +kernel
theorem d_O_init_50 : decode b_O_init 50 = .ok (.new 36, 3) := by decide +kernel
theorem d_O_init_53 : decode b_O_init 53 = .ok (.dup, 1) := by decide +kernel
theorem d_O_init_54 : decode b_O_init 54 = .ok (.aload_n 0, 1) := by decide +kernel
theorem d_O_init_55 : decode b_O_init 55 = .ok (.getfield 10, 3) := by decide +kernel
theorem d_O_init_58 : decode b_O_init 58 = .ok (.invokespecial 38, 3) := by decide +kernel
theorem d_O_init_61 : decode b_O_init 61 = .ok (.putfield 39, 3) := by decide +kernel
theorem d_O_init_64 : decode b_O_init 64 = .ok (.aload_n 0, 1) := by decide +kernel
theorem d_O_init_65 : decode b_O_init 65 = .ok (.new 43, 3) := by decide +kernel
theorem d_O_init_68 : decode b_O_init 68 = .ok (.dup, 1) := by decide +kernel
theorem d_O_init_69 : decode b_O_init 69 = .ok (.aload_n 0, 1) := by decide +kernel
theorem d_O_init_70 : decode b_O_init 70 = .ok (.getfield 10, 3) := by decide +kernel
theorem d_O_init_73 : decode b_O_init 73 = .ok (.aload_n 0, 1) := by decide +kernel
theorem d_O_init_74 : decode b_O_init 74 = .ok (.getfield 32, 3) := by decide +kernel
theorem d_O_init_77 : decode b_O_init 77 = .ok (.aload_n 0, 1) := by decide +kernel
theorem d_O_init_78 : decode b_O_init 78 = .ok (.getfield 19, 3) := by decide +kernel
theorem d_O_init_81 : decode b_O_init 81 = .ok (.invokespecial 45, 3) := by decide +kernel
theorem d_O_init_84 : decode b_O_init 84 = .ok (.putfield 48, 3) := by decide +kernel
theorem d_O_init_87 : decode b_O_init 87 = .ok (.new 52, 3) := by decide +kernel
theorem d_O_init_90 : decode b_O_init 90 = .ok (.dup, 1) := by decide +kernel
theorem d_O_init_91 : decode b_O_init 91 = .ok (.invokespecial 54, 3) := by decide +kernel
theorem d_O_init_94 : decode b_O_init 94 = .ok (.astore_n 1, 1) := by decide +kernel
theorem d_O_init_95 : decode b_O_init 95 = .ok (.aload_n 0, 1) := by decide +kernel
theorem d_O_init_96 : decode b_O_init 96 = .ok (.new 55, 3) := by decide +kernel
theorem d_O_init_99 : decode b_O_init 99 = .ok (.dup, 1) := by decide +kernel
theorem d_O_init_100 : decode b_O_init 100 = .ok (.aload_n 0, 1) := by decide +kernel
theorem d_O_init_101 : decode b_O_init 101 = .ok (.getfield 19, 3) := by decide +kernel
theorem d_O_init_104 : decode b_O_init 104 = .ok (.aload_n 1, 1) := by decide +kernel
theorem d_O_init_105 : decode b_O_init 105 = .ok (.invokespecial 57, 3) := by decide +kernel
theorem d_O_init_108 : decode b_O_init 108 = .ok (.putfield 60, 3) := by decide +kernel
theorem d_O_init_111 : decode b_O_init 111 = .ok (.aload_n 0, 1) := by decide +kernel
theorem d_O_init_112 : decode b_O_init 112 = .ok (.new 64, 3) := by decide +kernel
theorem d_O_init_115 : decode b_O_init 115 = .ok (.dup, 1) := by decide +kernel
theorem d_O_init_116 : decode b_O_init 116 = .ok (.aload_n 0, 1) := by decide +kernel
theorem d_O_init_117 : decode b_O_init 117 = .ok (.getfield 19, 3) := by decide +kernel
theorem d_O_init_120 : decode b_O_init 120 = .ok (.aload_n 1, 1) := by decide +kernel
theorem d_O_init_121 : decode b_O_init 121 = .ok (.aload_n 0, 1) := by decide +kernel
theorem d_O_init_122 : decode b_O_init 122 = .ok (.getfield 10, 3) := by decide +kernel
theorem d_O_init_125 : decode b_O_init 125 = .ok (.invokespecial 66, 3) := by decide +kernel
theorem d_O_init_128 : decode b_O_init 128 = .ok (.putfield 69, 3) := by decide +kernel
theorem d_O_init_131 : decode b_O_init 131 = .ok (.return_, 1) := by decide +kernel
theorem d_O_make_0 : decode b_O_make 0 = .ok (.aload_n 0, 1) := by decide +kernel
theorem d_O_make_1 : decode b_O_make 1 = .ok (.getfield 10, 3) := by decide +kernel
theorem d_O_make_4 : decode b_O_make 4 = .ok (.getfield 73, 3) := by decide +kernel
theorem d_O_make_7 : decode b_O_make 7 = .ok (.bipush 16, 2) := by decide +kernel
theorem d_O_make_9 : decode b_O_make 9 = .ok (.if_icmp .lt 5, 3) := by decide +kernel
theorem d_O_make_12 : decode b_O_make 12 = .ok (.iconst (-1), 1) := by decide +kernel
theorem d_O_make_13 : decode b_O_make 13 = .ok (.ireturn, 1) := by decide +kernel
theorem d_O_make_14 : decode b_O_make 14 = .ok (.iload_n 1, 1) := by decide +kernel
theorem d_O_make_15 : decode b_O_make 15 = .ok (.ifCond .ne 13, 3) := by decide +kernel
theorem d_O_make_18 : decode b_O_make 18 = .ok (.aload_n 0, 1) := by decide +kernel
theorem d_O_make_19 : decode b_O_make 19 = .ok (.getfield 10, 3) := by decide +kernel
theorem d_O_make_22 : decode b_O_make 22 = .ok (.iconst 0, 1) := by decide +kernel
theorem d_O_make_23 : decode b_O_make 23 = .ok (.iconst 2, 1) := by decide +kernel
theorem d_O_make_24 : decode b_O_make 24 = .ok (.invokevirtual 77, 3) := by decide +kernel
theorem d_O_make_27 : decode b_O_make 27 = .ok (.ireturn, 1) := by decide +kernel
theorem d_O_make_28 : decode b_O_make 28 = .ok (.iload_n 1, 1) := by decide +kernel
theorem d_O_make_29 : decode b_O_make 29 = .ok (.iconst 1, 1) := by decide +kernel
theorem d_O_make_30 : decode b_O_make 30 = .ok (.if_icmp .ne 22, 3) := by decide +kernel
theorem d_O_make_33 : decode b_O_make 33 = .ok (.iload_n 2, 1) := by decide +kernel
theorem d_O_make_34 : decode b_O_make 34 = .ok (.ifCond .lt 18, 3) := by decide +kernel
theorem d_O_make_37 : decode b_O_make 37 = .ok (.iload_n 2, 1) := by decide +kernel
theorem d_O_make_38 : decode b_O_make 38 = .ok (.iconst 4, 1) := by decide +kernel
theorem d_O_make_39 : decode b_O_make 39 = .ok (.if_icmp .gt 13, 3) := by decide +kernel
theorem d_O_make_42 : decode b_O_make 42 = .ok (.aload_n 0, 1) := by decide +kernel
theorem d_O_make_43 : decode b_O_make 43 = .ok (.getfield 10, 3) := by decide +kernel
theorem d_O_make_46 : decode b_O_make 46 = .ok (.iconst 1, 1) := by decide +kernel
theorem d_O_make_47 : decode b_O_make 47 = .ok (.iload_n 2, 1) := by decide +kernel
theorem d_O_make_48 : decode b_O_make 48 = .ok (.invokevirtual 77, 3) := by decide +kernel
theorem d_O_make_51 : decode b_O_make 51 = .ok (.ireturn, 1) := by decide +kernel
theorem d_O_make_52 : decode b_O_make 52 = .ok (.iload_n 1, 1) := by decide +kernel
theorem d_O_make_53 : decode b_O_make 53 = .ok (.iconst 2, 1) := by decide +kernel
theorem d_O_make_54 : decode b_O_make 54 = .ok (.if_icmp .ne 15, 3) := by decide +kernel
theorem d_O_make_57 : decode b_O_make 57 = .ok (.aload_n 0, 1) := by decide +kernel
theorem d_O_make_58 : decode b_O_make 58 = .ok (.getfield 10, 3) := by decide +kernel
theorem d_O_make_61 : decode b_O_make 61 = .ok (.iconst 2, 1) := by decide +kernel
theorem d_O_make_62 : decode b_O_make 62 = .ok (.iconst 0, 1) := by decide +kernel
theorem d_O_make_63 : decode b_O_make 63 = .ok (.invokevirtual 77, 3) := by decide +kernel
theorem d_O_make_66 : decode b_O_make 66 = .ok (.goto 4, 3) := by decide +kernel
theorem d_O_make_69 : decode b_O_make 69 = .ok (.iconst (-1), 1) := by decide +kernel
theorem d_O_make_70 : decode b_O_make 70 = .ok (.ireturn, 1) := by decide +kernel
theorem d_O_type_0 : decode b_O_type 0 = .ok (.aload_n 0, 1) := by decide +kernel
theorem d_O_type_1 : decode b_O_type 1 = .ok (.getfield 10, 3) := by decide +kernel
theorem d_O_type_4 : decode b_O_type 4 = .ok (.iload_n 1, 1) := by decide +kernel
theorem d_O_type_5 : decode b_O_type 5 = .ok (.invokevirtual 81, 3) := by decide +kernel
theorem d_O_type_8 : decode b_O_type 8 = .ok (.ifCond .eq 26, 3) := by decide +kernel
theorem d_O_type_11 : decode b_O_type 11 = .ok (.iload_n 2, 1) := by decide +kernel
theorem d_O_type_12 : decode b_O_type 12 = .ok (.invokestatic 85, 3) := by decide +kernel
theorem d_O_type_15 : decode b_O_type 15 = .ok (.ifCond .eq 19, 3) := by decide +kernel
theorem d_O_type_18 : decode b_O_type 18 = .ok (.aload_n 0, 1) := by decide +kernel
theorem d_O_type_19 : decode b_O_type 19 = .ok (.getfield 10, 3) := by decide +kernel
theorem d_O_type_22 : decode b_O_type 22 = .ok (.iload_n 1, 1) := by decide +kernel
theorem d_O_type_23 : decode b_O_type 23 = .ok (.iload_n 2, 1) := by decide +kernel
theorem d_O_type_24 : decode b_O_type 24 = .ok (.invokevirtual 88, 3) := by decide +kernel
theorem d_O_type_27 : decode b_O_type 27 = .ok (.ifCond .eq 7, 3) := by decide +kernel
theorem d_O_type_30 : decode b_O_type 30 = .ok (.iconst 1, 1) := by decide +kernel
theorem d_O_type_31 : decode b_O_type 31 = .ok (.goto 4, 3) := by decide +kernel
theorem d_O_type_34 : decode b_O_type 34 = .ok (.iconst 0, 1) := by decide +kernel
theorem d_O_type_35 : decode b_O_type 35 = .ok (.ireturn, 1) := by decide +kernel
theorem d_O_put_0 : decode b_O_put 0 = .ok (.aload_n 0, 1) := by decide +kernel
theorem d_O_put_1 : decode b_O_put 1 = .ok (.getfield 10, 3) := by decide +kernel
theorem d_O_put_4 : decode b_O_put 4 = .ok (.iload_n 1, 1) := by decide +kernel
theorem d_O_put_5 : decode b_O_put 5 = .ok (.iload_n 2, 1) := by decide +kernel
theorem d_O_put_6 : decode b_O_put 6 = .ok (.invokevirtual 92, 3) := by decide +kernel
theorem d_O_put_9 : decode b_O_put 9 = .ok (.ifCond .ne 5, 3) := by decide +kernel
theorem d_O_put_12 : decode b_O_put 12 = .ok (.iconst 0, 1) := by decide +kernel
theorem d_O_put_13 : decode b_O_put 13 = .ok (.ireturn, 1) := by decide +kernel
theorem d_O_put_14 : decode b_O_put 14 = .ok (.aload_n 0, 1) := by decide +kernel
theorem d_O_put_15 : decode b_O_put 15 = .ok (.getfield 10, 3) := by decide +kernel
theorem d_O_put_18 : decode b_O_put 18 = .ok (.iload_n 1, 1) := by decide +kernel
theorem d_O_put_19 : decode b_O_put 19 = .ok (.iload_n 2, 1) := by decide +kernel
theorem d_O_put_20 : decode b_O_put 20 = .ok (.iconst 1, 1) := by decide +kernel
theorem d_O_put_21 : decode b_O_put 21 = .ok (.iload_n 3, 1) := by decide +kernel
theorem d_O_put_22 : decode b_O_put 22 = .ok (.invokevirtual 96, 3) := by decide +kernel
theorem d_O_put_25 : decode b_O_put 25 = .ok (.iconst 1, 1) := by decide +kernel
theorem d_O_put_26 : decode b_O_put 26 = .ok (.ireturn, 1) := by decide +kernel
theorem d_O_link_0 : decode b_O_link 0 = .ok (.aload_n 0, 1) := by decide +kernel
theorem d_O_link_1 : decode b_O_link 1 = .ok (.getfield 10, 3) := by decide +kernel
theorem d_O_link_4 : decode b_O_link 4 = .ok (.iload_n 1, 1) := by decide +kernel
theorem d_O_link_5 : decode b_O_link 5 = .ok (.iload_n 2, 1) := by decide +kernel
theorem d_O_link_6 : decode b_O_link 6 = .ok (.invokevirtual 92, 3) := by decide +kernel
theorem d_O_link_9 : decode b_O_link 9 = .ok (.ifCond .ne 5, 3) := by decide +kernel
theorem d_O_link_12 : decode b_O_link 12 = .ok (.iconst 0, 1) := by decide +kernel
theorem d_O_link_13 : decode b_O_link 13 = .ok (.ireturn, 1) := by decide +kernel
theorem d_O_link_14 : decode b_O_link 14 = .ok (.iload_n 3, 1) := by decide +kernel
theorem d_O_link_15 : decode b_O_link 15 = .ok (.iconst (-1), 1) := by decide +kernel
theorem d_O_link_16 : decode b_O_link 16 = .ok (.if_icmp .ne 16, 3) := by decide +kernel
theorem d_O_link_19 : decode b_O_link 19 = .ok (.aload_n 0, 1) := by decide +kernel
theorem d_O_link_20 : decode b_O_link 20 = .ok (.getfield 10, 3) := by decide +kernel
theorem d_O_link_23 : decode b_O_link 23 = .ok (.iload_n 1, 1) := by decide +kernel
theorem d_O_link_24 : decode b_O_link 24 = .ok (.iload_n 2, 1) := by decide +kernel
theorem d_O_link_25 : decode b_O_link 25 = .ok (.iconst 0, 1) := by decide +kernel
theorem d_O_link_26 : decode b_O_link 26 = .ok (.iconst 0, 1) := by decide +kernel
theorem d_O_link_27 : decode b_O_link 27 = .ok (.invokevirtual 96, 3) := by decide +kernel
theorem d_O_link_30 : decode b_O_link 30 = .ok (.iconst 1, 1) := by decide +kernel
theorem d_O_link_31 : decode b_O_link 31 = .ok (.ireturn, 1) := by decide +kernel
theorem d_O_link_32 : decode b_O_link 32 = .ok (.aload_n 0, 1) := by decide +kernel
theorem d_O_link_33 : decode b_O_link 33 = .ok (.getfield 10, 3) := by decide +kernel
theorem d_O_link_36 : decode b_O_link 36 = .ok (.iload_n 3, 1) := by decide +kernel
theorem d_O_link_37 : decode b_O_link 37 = .ok (.invokevirtual 100, 3) := by decide +kernel
theorem d_O_link_40 : decode b_O_link 40 = .ok (.ifCond .ne 5, 3) := by decide +kernel
theorem d_O_link_43 : decode b_O_link 43 = .ok (.iconst 0, 1) := by decide +kernel
theorem d_O_link_44 : decode b_O_link 44 = .ok (.ireturn, 1) := by decide +kernel
theorem d_O_link_45 : decode b_O_link 45 = .ok (.aload_n 0, 1) := by decide +kernel
theorem d_O_link_46 : decode b_O_link 46 = .ok (.getfield 10, 3) := by decide +kernel
theorem d_O_link_49 : decode b_O_link 49 = .ok (.iload_n 1, 1) := by decide +kernel
theorem d_O_link_50 : decode b_O_link 50 = .ok (.iload_n 2, 1) := by decide +kernel
theorem d_O_link_51 : decode b_O_link 51 = .ok (.iconst 2, 1) := by decide +kernel
theorem d_O_link_52 : decode b_O_link 52 = .ok (.iload_n 3, 1) := by decide +kernel
theorem d_O_link_53 : decode b_O_link 53 = .ok (.invokevirtual 96, 3) := by decide +kernel
theorem d_O_link_56 : decode b_O_link 56 = .ok (.iconst 1, 1) := by decide +kernel
theorem d_O_link_57 : decode b_O_link 57 = .ok (.ireturn, 1) := by decide +kernel
theorem d_O_objects_0 : decode b_O_objects 0 = .ok (.aload_n 0, 1) := by decide +kernel
theorem d_O_objects_1 : decode b_O_objects 1 = .ok (.getfield 10, 3) := by decide +kernel
theorem d_O_objects_4 : decode b_O_objects 4 = .ok (.getfield 73, 3) := by decide +kernel
theorem d_O_objects_7 : decode b_O_objects 7 = .ok (.ireturn, 1) := by decide +kernel
theorem d_O_kind_0 : decode b_O_kind 0 = .ok (.aload_n 0, 1) := by decide +kernel
theorem d_O_kind_1 : decode b_O_kind 1 = .ok (.getfield 10, 3) := by decide +kernel
theorem d_O_kind_4 : decode b_O_kind 4 = .ok (.iload_n 1, 1) := by decide +kernel
theorem d_O_kind_5 : decode b_O_kind 5 = .ok (.invokevirtual 100, 3) := by decide +kernel
theorem d_O_kind_8 : decode b_O_kind 8 = .ok (.ifCond .eq 15, 3) := by decide +kernel
theorem d_O_kind_11 : decode b_O_kind 11 = .ok (.aload_n 0, 1) := by decide +kernel
theorem d_O_kind_12 : decode b_O_kind 12 = .ok (.getfield 10, 3) := by decide +kernel
theorem d_O_kind_15 : decode b_O_kind 15 = .ok (.getfield 103, 3) := by decide +kernel
theorem d_O_kind_18 : decode b_O_kind 18 = .ok (.iload_n 1, 1) := by decide +kernel
theorem d_O_kind_19 : decode b_O_kind 19 = .ok (.iaload, 1) := by decide +kernel
theorem d_O_kind_20 : decode b_O_kind 20 = .ok (.goto 4, 3) := by decide +kernel
theorem d_O_kind_23 : decode b_O_kind 23 = .ok (.iconst (-1), 1) := by decide +kernel
theorem d_O_kind_24 : decode b_O_kind 24 = .ok (.ireturn, 1) := by decide +kernel
theorem d_O_size_0 : decode b_O_size 0 = .ok (.aload_n 0, 1) := by decide +kernel
theorem d_O_size_1 : decode b_O_size 1 = .ok (.getfield 10, 3) := by decide +kernel
theorem d_O_size_4 : decode b_O_size 4 = .ok (.iload_n 1, 1) := by decide +kernel
theorem d_O_size_5 : decode b_O_size 5 = .ok (.invokevirtual 100, 3) := by decide +kernel
theorem d_O_size_8 : decode b_O_size 8 = .ok (.ifCond .eq 15, 3) := by decide +kernel
theorem d_O_size_11 : decode b_O_size 11 = .ok (.aload_n 0, 1) := by decide +kernel
theorem d_O_size_12 : decode b_O_size 12 = .ok (.getfield 10, 3) := by decide +kernel
theorem d_O_size_15 : decode b_O_size 15 = .ok (.getfield 107, 3) := by decide +kernel
theorem d_O_size_18 : decode b_O_size 18 = .ok (.iload_n 1, 1) := by decide +kernel
theorem d_O_size_19 : decode b_O_size 19 = .ok (.iaload, 1) := by decide +kernel
theorem d_O_size_20 : decode b_O_size 20 = .ok (.goto 4, 3) := by decide +kernel
theorem d_O_size_23 : decode b_O_size 23 = .ok (.iconst (-1), 1) := by decide +kernel
theorem d_O_size_24 : decode b_O_size 24 = .ok (.ireturn, 1) := by decide +kernel
theorem d_O_holds_0 : decode b_O_holds 0 = .ok (.aload_n 0, 1) := by decide +kernel
theorem d_O_holds_1 : decode b_O_holds 1 = .ok (.getfield 10, 3) := by decide +kernel
theorem d_O_holds_4 : decode b_O_holds 4 = .ok (.iload_n 1, 1) := by decide +kernel
theorem d_O_holds_5 : decode b_O_holds 5 = .ok (.iload_n 2, 1) := by decide +kernel
theorem d_O_holds_6 : decode b_O_holds 6 = .ok (.invokevirtual 92, 3) := by decide +kernel
theorem d_O_holds_9 : decode b_O_holds 9 = .ok (.ifCond .eq 15, 3) := by decide +kernel
theorem d_O_holds_12 : decode b_O_holds 12 = .ok (.aload_n 0, 1) := by decide +kernel
theorem d_O_holds_13 : decode b_O_holds 13 = .ok (.getfield 10, 3) := by decide +kernel
theorem d_O_holds_16 : decode b_O_holds 16 = .ok (.iload_n 1, 1) := by decide +kernel
theorem d_O_holds_17 : decode b_O_holds 17 = .ok (.iload_n 2, 1) := by decide +kernel
theorem d_O_holds_18 : decode b_O_holds 18 = .ok (.invokevirtual 110, 3) := by decide +kernel
theorem d_O_holds_21 : decode b_O_holds 21 = .ok (.goto 4, 3) := by decide +kernel
theorem d_O_holds_24 : decode b_O_holds 24 = .ok (.iconst (-1), 1) := by decide +kernel
theorem d_O_holds_25 : decode b_O_holds 25 = .ok (.ireturn, 1) := by decide +kernel
theorem d_O_value_0 : decode b_O_value 0 = .ok (.aload_n 0, 1) := by decide +kernel
theorem d_O_value_1 : decode b_O_value 1 = .ok (.getfield 10, 3) := by decide +kernel
theorem d_O_value_4 : decode b_O_value 4 = .ok (.iload_n 1, 1) := by decide +kernel
theorem d_O_value_5 : decode b_O_value 5 = .ok (.iload_n 2, 1) := by decide +kernel
theorem d_O_value_6 : decode b_O_value 6 = .ok (.invokevirtual 92, 3) := by decide +kernel
theorem d_O_value_9 : decode b_O_value 9 = .ok (.ifCond .eq 13, 3) := by decide +kernel
theorem d_O_value_12 : decode b_O_value 12 = .ok (.aload_n 0, 1) := by decide +kernel
theorem d_O_value_13 : decode b_O_value 13 = .ok (.getfield 10, 3) := by decide +kernel
theorem d_O_value_16 : decode b_O_value 16 = .ok (.iload_n 1, 1) := by decide +kernel
theorem d_O_value_17 : decode b_O_value 17 = .ok (.iload_n 2, 1) := by decide +kernel
theorem d_O_value_18 : decode b_O_value 18 = .ok (.invokevirtual 113, 3) := by decide +kernel
theorem d_O_value_21 : decode b_O_value 21 = .ok (.ireturn, 1) := by decide +kernel
theorem d_O_value_22 : decode b_O_value 22 = .ok (.aload_n 0, 1) := by decide +kernel
theorem d_O_value_23 : decode b_O_value 23 = .ok (.getfield 10, 3) := by decide +kernel
theorem d_O_value_26 : decode b_O_value 26 = .ok (.iload_n 1, 1) := by decide +kernel
theorem d_O_value_27 : decode b_O_value 27 = .ok (.invokevirtual 81, 3) := by decide +kernel
theorem d_O_value_30 : decode b_O_value 30 = .ok (.ifCond .eq 30, 3) := by decide +kernel
theorem d_O_value_33 : decode b_O_value 33 = .ok (.iload_n 2, 1) := by decide +kernel
theorem d_O_value_34 : decode b_O_value 34 = .ok (.ifCond .lt 26, 3) := by decide +kernel
theorem d_O_value_37 : decode b_O_value 37 = .ok (.iload_n 2, 1) := by decide +kernel
theorem d_O_value_38 : decode b_O_value 38 = .ok (.aload_n 0, 1) := by decide +kernel
theorem d_O_value_39 : decode b_O_value 39 = .ok (.getfield 10, 3) := by decide +kernel
theorem d_O_value_42 : decode b_O_value 42 = .ok (.getfield 107, 3) := by decide +kernel
theorem d_O_value_45 : decode b_O_value 45 = .ok (.iload_n 1, 1) := by decide +kernel
theorem d_O_value_46 : decode b_O_value 46 = .ok (.iaload, 1) := by decide +kernel
theorem d_O_value_47 : decode b_O_value 47 = .ok (.if_icmp .ge 13, 3) := by decide +kernel
theorem d_O_value_50 : decode b_O_value 50 = .ok (.aload_n 0, 1) := by decide +kernel
theorem d_O_value_51 : decode b_O_value 51 = .ok (.getfield 10, 3) := by decide +kernel
theorem d_O_value_54 : decode b_O_value 54 = .ok (.iload_n 1, 1) := by decide +kernel
theorem d_O_value_55 : decode b_O_value 55 = .ok (.iload_n 2, 1) := by decide +kernel
theorem d_O_value_56 : decode b_O_value 56 = .ok (.invokevirtual 116, 3) := by decide +kernel
theorem d_O_value_59 : decode b_O_value 59 = .ok (.ireturn, 1) := by decide +kernel
theorem d_O_value_60 : decode b_O_value 60 = .ok (.iconst 0, 1) := by decide +kernel
theorem d_O_value_61 : decode b_O_value 61 = .ok (.ireturn, 1) := by decide +kernel
theorem d_O_alike_0 : decode b_O_alike 0 = .ok (.aload_n 0, 1) := by decide +kernel
theorem d_O_alike_1 : decode b_O_alike 1 = .ok (.getfield 10, 3) := by decide +kernel
theorem d_O_alike_4 : decode b_O_alike 4 = .ok (.iload_n 1, 1) := by decide +kernel
theorem d_O_alike_5 : decode b_O_alike 5 = .ok (.invokevirtual 100, 3) := by decide +kernel
theorem d_O_alike_8 : decode b_O_alike 8 = .ok (.ifCond .eq 30, 3) := by decide +kernel
theorem d_O_alike_11 : decode b_O_alike 11 = .ok (.aload_n 0, 1) := by decide +kernel
theorem d_O_alike_12 : decode b_O_alike 12 = .ok (.getfield 10, 3) := by decide +kernel
theorem d_O_alike_15 : decode b_O_alike 15 = .ok (.iload_n 2, 1) := by decide +kernel
theorem d_O_alike_16 : decode b_O_alike 16 = .ok (.invokevirtual 100, 3) := by decide +kernel
theorem d_O_alike_19 : decode b_O_alike 19 = .ok (.ifCond .eq 19, 3) := by decide +kernel
theorem d_O_alike_22 : decode b_O_alike 22 = .ok (.aload_n 0, 1) := by decide +kernel
theorem d_O_alike_23 : decode b_O_alike 23 = .ok (.getfield 39, 3) := by decide +kernel
theorem d_O_alike_26 : decode b_O_alike 26 = .ok (.iload_n 1, 1) := by decide +kernel
theorem d_O_alike_27 : decode b_O_alike 27 = .ok (.iload_n 2, 1) := by decide +kernel
theorem d_O_alike_28 : decode b_O_alike 28 = .ok (.invokevirtual 120, 3) := by decide +kernel
theorem d_O_alike_31 : decode b_O_alike 31 = .ok (.ifCond .eq 7, 3) := by decide +kernel
theorem d_O_alike_34 : decode b_O_alike 34 = .ok (.iconst 1, 1) := by decide +kernel
theorem d_O_alike_35 : decode b_O_alike 35 = .ok (.goto 4, 3) := by decide +kernel
theorem d_O_alike_38 : decode b_O_alike 38 = .ok (.iconst 0, 1) := by decide +kernel
theorem d_O_alike_39 : decode b_O_alike 39 = .ok (.ireturn, 1) := by decide +kernel
theorem d_O_shared_0 : decode b_O_shared 0 = .ok (.aload_n 0, 1) := by decide +kernel
theorem d_O_shared_1 : decode b_O_shared 1 = .ok (.getfield 10, 3) := by decide +kernel
theorem d_O_shared_4 : decode b_O_shared 4 = .ok (.iload_n 1, 1) := by decide +kernel
theorem d_O_shared_5 : decode b_O_shared 5 = .ok (.invokevirtual 100, 3) := by decide +kernel
theorem d_O_shared_8 : decode b_O_shared 8 = .ok (.ifCond .ne 5, 3) := by decide +kernel
theorem d_O_shared_11 : decode b_O_shared 11 = .ok (.iconst (-1), 1) := by decide +kernel
theorem d_O_shared_12 : decode b_O_shared 12 = .ok (.ireturn, 1) := by decide +kernel
theorem d_O_shared_13 : decode b_O_shared 13 = .ok (.aload_n 0, 1) := by decide +kernel
theorem d_O_shared_14 : decode b_O_shared 14 = .ok (.getfield 32, 3) := by decide +kernel
theorem d_O_shared_17 : decode b_O_shared 17 = .ok (.iload_n 1, 1) := by decide +kernel
theorem d_O_shared_18 : decode b_O_shared 18 = .ok (.invokevirtual 123, 3) := by decide +kernel
theorem d_O_shared_21 : decode b_O_shared 21 = .ok (.aload_n 0, 1) := by decide +kernel
theorem d_O_shared_22 : decode b_O_shared 22 = .ok (.getfield 32, 3) := by decide +kernel
theorem d_O_shared_25 : decode b_O_shared 25 = .ok (.invokevirtual 127, 3) := by decide +kernel
theorem d_O_shared_28 : decode b_O_shared 28 = .ok (.ireturn, 1) := by decide +kernel
theorem d_O_encode_0 : decode b_O_encode 0 = .ok (.aload_n 0, 1) := by decide +kernel
theorem d_O_encode_1 : decode b_O_encode 1 = .ok (.getfield 10, 3) := by decide +kernel
theorem d_O_encode_4 : decode b_O_encode 4 = .ok (.iload_n 1, 1) := by decide +kernel
theorem d_O_encode_5 : decode b_O_encode 5 = .ok (.invokevirtual 100, 3) := by decide +kernel
theorem d_O_encode_8 : decode b_O_encode 8 = .ok (.ifCond .ne 5, 3) := by decide +kernel
theorem d_O_encode_11 : decode b_O_encode 11 = .ok (.iconst (-1), 1) := by decide +kernel
theorem d_O_encode_12 : decode b_O_encode 12 = .ok (.ireturn, 1) := by decide +kernel
theorem d_O_encode_13 : decode b_O_encode 13 = .ok (.aload_n 0, 1) := by decide +kernel
theorem d_O_encode_14 : decode b_O_encode 14 = .ok (.getfield 48, 3) := by decide +kernel
theorem d_O_encode_17 : decode b_O_encode 17 = .ok (.iload_n 1, 1) := by decide +kernel
theorem d_O_encode_18 : decode b_O_encode 18 = .ok (.invokevirtual 131, 3) := by decide +kernel
theorem d_O_encode_21 : decode b_O_encode 21 = .ok (.aload_n 0, 1) := by decide +kernel
theorem d_O_encode_22 : decode b_O_encode 22 = .ok (.getfield 19, 3) := by decide +kernel
theorem d_O_encode_25 : decode b_O_encode 25 = .ok (.getfield 134, 3) := by decide +kernel
theorem d_O_encode_28 : decode b_O_encode 28 = .ok (.ireturn, 1) := by decide +kernel
theorem d_O_decode_0 : decode b_O_decode 0 = .ok (.aload_n 0, 1) := by decide +kernel
theorem d_O_decode_1 : decode b_O_decode 1 = .ok (.getfield 60, 3) := by decide +kernel
theorem d_O_decode_4 : decode b_O_decode 4 = .ok (.invokevirtual 137, 3) := by decide +kernel
theorem d_O_decode_7 : decode b_O_decode 7 = .ok (.ifCond .ne 5, 3) := by decide +kernel
theorem d_O_decode_10 : decode b_O_decode 10 = .ok (.iconst (-1), 1) := by decide +kernel
theorem d_O_decode_11 : decode b_O_decode 11 = .ok (.ireturn, 1) := by decide +kernel
theorem d_O_decode_12 : decode b_O_decode 12 = .ok (.aload_n 0, 1) := by decide +kernel
theorem d_O_decode_13 : decode b_O_decode 13 = .ok (.getfield 69, 3) := by decide +kernel
theorem d_O_decode_16 : decode b_O_decode 16 = .ok (.invokevirtual 141, 3) := by decide +kernel
theorem d_O_decode_19 : decode b_O_decode 19 = .ok (.ifCond .ne 6, 3) := by decide +kernel
theorem d_O_decode_22 : decode b_O_decode 22 = .ok (.bipush (-2), 2) := by decide +kernel
theorem d_O_decode_24 : decode b_O_decode 24 = .ok (.ireturn, 1) := by decide +kernel
theorem d_O_decode_25 : decode b_O_decode 25 = .ok (.aload_n 0, 1) := by decide +kernel
theorem d_O_decode_26 : decode b_O_decode 26 = .ok (.getfield 69, 3) := by decide +kernel
theorem d_O_decode_29 : decode b_O_decode 29 = .ok (.aload_n 0, 1) := by decide +kernel
theorem d_O_decode_30 : decode b_O_decode 30 = .ok (.getfield 23, 3) := by decide +kernel
theorem d_O_decode_33 : decode b_O_decode 33 = .ok (.invokevirtual 144, 3) := by decide +kernel
theorem d_O_decode_36 : decode b_O_decode 36 = .ok (.ifCond .ne 6, 3) := by decide +kernel
theorem d_O_decode_39 : decode b_O_decode 39 = .ok (.bipush (-3), 2) := by decide +kernel
theorem d_O_decode_41 : decode b_O_decode 41 = .ok (.ireturn, 1) := by decide +kernel
theorem d_O_decode_42 : decode b_O_decode 42 = .ok (.aload_n 0, 1) := by decide +kernel
theorem d_O_decode_43 : decode b_O_decode 43 = .ok (.getfield 69, 3) := by decide +kernel
theorem d_O_decode_46 : decode b_O_decode 46 = .ok (.invokevirtual 148, 3) := by decide +kernel
theorem d_O_decode_49 : decode b_O_decode 49 = .ok (.istore_n 1, 1) := by decide +kernel
theorem d_O_decode_50 : decode b_O_decode 50 = .ok (.iload_n 1, 1) := by decide +kernel
theorem d_O_decode_51 : decode b_O_decode 51 = .ok (.iconst (-1), 1) := by decide +kernel
theorem d_O_decode_52 : decode b_O_decode 52 = .ok (.if_icmp .ne 8, 3) := by decide +kernel
theorem d_O_decode_55 : decode b_O_decode 55 = .ok (.bipush (-4), 2) := by decide +kernel
theorem d_O_decode_57 : decode b_O_decode 57 = .ok (.goto 4, 3) := by decide +kernel
theorem d_O_decode_60 : decode b_O_decode 60 = .ok (.iload_n 1, 1) := by decide +kernel
theorem d_O_decode_61 : decode b_O_decode 61 = .ok (.ireturn, 1) := by decide +kernel
theorem d_O_clear_0 : decode b_O_clear 0 = .ok (.aload_n 0, 1) := by decide +kernel
theorem d_O_clear_1 : decode b_O_clear 1 = .ok (.getfield 10, 3) := by decide +kernel
theorem d_O_clear_4 : decode b_O_clear 4 = .ok (.iconst 0, 1) := by decide +kernel
theorem d_O_clear_5 : decode b_O_clear 5 = .ok (.putfield 73, 3) := by decide +kernel
theorem d_O_clear_8 : decode b_O_clear 8 = .ok (.return_, 1) := by decide +kernel
theorem d_O_understand_0 : decode b_O_understand 0 = .ok (.iload_n 1, 1) := by decide +kernel
theorem d_O_understand_1 : decode b_O_understand 1 = .ok (.ifCond .lt 19, 3) := by decide +kernel
theorem d_O_understand_4 : decode b_O_understand 4 = .ok (.iload_n 1, 1) := by decide +kernel
theorem d_O_understand_5 : decode b_O_understand 5 = .ok (.bipush 32, 2) := by decide +kernel
theorem d_O_understand_7 : decode b_O_understand 7 = .ok (.if_icmp .ge 13, 3) := by decide +kernel
theorem d_O_understand_10 : decode b_O_understand 10 = .ok (.aload_n 0, 1) := by decide +kernel
theorem d_O_understand_11 : decode b_O_understand 11 = .ok (.getfield 23, 3) := by decide +kernel
theorem d_O_understand_14 : decode b_O_understand 14 = .ok (.iload_n 1, 1) := by decide +kernel
theorem d_O_understand_15 : decode b_O_understand 15 = .ok (.baload, 1) := by decide +kernel
theorem d_O_understand_16 : decode b_O_understand 16 = .ok (.iload_n 2, 1) := by decide +kernel
theorem d_O_understand_17 : decode b_O_understand 17 = .ok (.if_icmp .ne 5, 3) := by decide +kernel
theorem d_O_understand_20 : decode b_O_understand 20 = .ok (.iconst 0, 1) := by decide +kernel
theorem d_O_understand_21 : decode b_O_understand 21 = .ok (.ireturn, 1) := by decide +kernel
theorem d_O_understand_22 : decode b_O_understand 22 = .ok (.aload_n 0, 1) := by decide +kernel
theorem d_O_understand_23 : decode b_O_understand 23 = .ok (.getfield 23, 3) := by decide +kernel
theorem d_O_understand_26 : decode b_O_understand 26 = .ok (.iload_n 1, 1) := by decide +kernel
theorem d_O_understand_27 : decode b_O_understand 27 = .ok (.iload_n 2, 1) := by decide +kernel
theorem d_O_understand_28 : decode b_O_understand 28 = .ok (.bastore, 1) := by decide +kernel
theorem d_O_understand_29 : decode b_O_understand 29 = .ok (.iconst 1, 1) := by decide +kernel
theorem d_O_understand_30 : decode b_O_understand 30 = .ok (.ireturn, 1) := by decide +kernel
theorem d_O_length_0 : decode b_O_length 0 = .ok (.aload_n 0, 1) := by decide +kernel
theorem d_O_length_1 : decode b_O_length 1 = .ok (.getfield 19, 3) := by decide +kernel
theorem d_O_length_4 : decode b_O_length 4 = .ok (.getfield 134, 3) := by decide +kernel
theorem d_O_length_7 : decode b_O_length 7 = .ok (.ireturn, 1) := by decide +kernel
theorem d_O_charAt_0 : decode b_O_charAt 0 = .ok (.aload_n 0, 1) := by decide +kernel
theorem d_O_charAt_1 : decode b_O_charAt 1 = .ok (.getfield 19, 3) := by decide +kernel
theorem d_O_charAt_4 : decode b_O_charAt 4 = .ok (.iload_n 1, 1) := by decide +kernel
theorem d_O_charAt_5 : decode b_O_charAt 5 = .ok (.invokevirtual 151, 3) := by decide +kernel
theorem d_O_charAt_8 : decode b_O_charAt 8 = .ok (.ireturn, 1) := by decide +kernel
theorem d_O_feed_0 : decode b_O_feed 0 = .ok (.iload_n 1, 1) := by decide +kernel
theorem d_O_feed_1 : decode b_O_feed 1 = .ok (.invokestatic 85, 3) := by decide +kernel
theorem d_O_feed_4 : decode b_O_feed 4 = .ok (.ifCond .eq 18, 3) := by decide +kernel
theorem d_O_feed_7 : decode b_O_feed 7 = .ok (.aload_n 0, 1) := by decide +kernel
theorem d_O_feed_8 : decode b_O_feed 8 = .ok (.getfield 19, 3) := by decide +kernel
theorem d_O_feed_11 : decode b_O_feed 11 = .ok (.iload_n 1, 1) := by decide +kernel
theorem d_O_feed_12 : decode b_O_feed 12 = .ok (.invokevirtual 155, 3) := by decide +kernel
theorem d_O_feed_15 : decode b_O_feed 15 = .ok (.ifCond .eq 7, 3) := by decide +kernel
theorem d_O_feed_18 : decode b_O_feed 18 = .ok (.iconst 1, 1) := by decide +kernel
theorem d_O_feed_19 : decode b_O_feed 19 = .ok (.goto 4, 3) := by decide +kernel
theorem d_O_feed_22 : decode b_O_feed 22 = .ok (.iconst 0, 1) := by decide +kernel
theorem d_O_feed_23 : decode b_O_feed 23 = .ok (.ireturn, 1) := by decide +kernel
theorem d_O_alter_0 : decode b_O_alter 0 = .ok (.iload_n 1, 1) := by decide +kernel
theorem d_O_alter_1 : decode b_O_alter 1 = .ok (.ifCond .lt 21, 3) := by decide +kernel
theorem d_O_alter_4 : decode b_O_alter 4 = .ok (.iload_n 1, 1) := by decide +kernel
theorem d_O_alter_5 : decode b_O_alter 5 = .ok (.aload_n 0, 1) := by decide +kernel
theorem d_O_alter_6 : decode b_O_alter 6 = .ok (.getfield 19, 3) := by decide +kernel
theorem d_O_alter_9 : decode b_O_alter 9 = .ok (.getfield 134, 3) := by decide +kernel
theorem d_O_alter_12 : decode b_O_alter 12 = .ok (.if_icmp .ge 10, 3) := by decide +kernel
theorem d_O_alter_15 : decode b_O_alter 15 = .ok (.iload_n 2, 1) := by decide +kernel
theorem d_O_alter_16 : decode b_O_alter 16 = .ok (.invokestatic 85, 3) := by decide +kernel
theorem d_O_alter_19 : decode b_O_alter 19 = .ok (.ifCond .ne 5, 3) := by decide +kernel
theorem d_O_alter_22 : decode b_O_alter 22 = .ok (.iconst 0, 1) := by decide +kernel
theorem d_O_alter_23 : decode b_O_alter 23 = .ok (.ireturn, 1) := by decide +kernel
theorem d_O_alter_24 : decode b_O_alter 24 = .ok (.aload_n 0, 1) := by decide +kernel
theorem d_O_alter_25 : decode b_O_alter 25 = .ok (.getfield 19, 3) := by decide +kernel
theorem d_O_alter_28 : decode b_O_alter 28 = .ok (.getfield 159, 3) := by decide +kernel
theorem d_O_alter_31 : decode b_O_alter 31 = .ok (.iload_n 1, 1) := by decide +kernel
theorem d_O_alter_32 : decode b_O_alter 32 = .ok (.iload_n 2, 1) := by decide +kernel
theorem d_O_alter_33 : decode b_O_alter 33 = .ok (.castore, 1) := by decide +kernel
theorem d_O_alter_34 : decode b_O_alter 34 = .ok (.iconst 1, 1) := by decide +kernel
theorem d_O_alter_35 : decode b_O_alter 35 = .ok (.ireturn, 1) := by decide +kernel
theorem d_O_cut_0 : decode b_O_cut 0 = .ok (.iload_n 1, 1) := by decide +kernel
theorem d_O_cut_1 : decode b_O_cut 1 = .ok (.ifCond .lt 14, 3) := by decide +kernel
theorem d_O_cut_4 : decode b_O_cut 4 = .ok (.iload_n 1, 1) := by decide +kernel
theorem d_O_cut_5 : decode b_O_cut 5 = .ok (.aload_n 0, 1) := by decide +kernel
theorem d_O_cut_6 : decode b_O_cut 6 = .ok (.getfield 19, 3) := by decide +kernel
theorem d_O_cut_9 : decode b_O_cut 9 = .ok (.getfield 134, 3) := by decide +kernel
theorem d_O_cut_12 : decode b_O_cut 12 = .ok (.if_icmp .le 5, 3) := by decide +kernel
theorem d_O_cut_15 : decode b_O_cut 15 = .ok (.iconst 0, 1) := by decide +kernel
theorem d_O_cut_16 : decode b_O_cut 16 = .ok (.ireturn, 1) := by decide +kernel
theorem d_O_cut_17 : decode b_O_cut 17 = .ok (.aload_n 0, 1) := by decide +kernel
theorem d_O_cut_18 : decode b_O_cut 18 = .ok (.getfield 19, 3) := by decide +kernel
theorem d_O_cut_21 : decode b_O_cut 21 = .ok (.iload_n 1, 1) := by decide +kernel
theorem d_O_cut_22 : decode b_O_cut 22 = .ok (.putfield 134, 3) := by decide +kernel
theorem d_O_cut_25 : decode b_O_cut 25 = .ok (.iconst 1, 1) := by decide +kernel
theorem d_O_cut_26 : decode b_O_cut 26 = .ok (.ireturn, 1) := by decide +kernel
theorem d_O_isPrintable_0 : decode b_O_isPrintable 0 = .ok (.iload_n 0, 1) := by decide +kernel
theorem d_O_isPrintable_1 : decode b_O_isPrintable 1 = .ok (.bipush 32, 2) := by decide +kernel
theorem d_O_isPrintable_3 : decode b_O_isPrintable 3 = .ok (.if_icmp .lt 13, 3) := by decide +kernel
theorem d_O_isPrintable_6 : decode b_O_isPrintable 6 = .ok (.iload_n 0, 1) := by decide +kernel
theorem d_O_isPrintable_7 : decode b_O_isPrintable 7 = .ok (.bipush 126, 2) := by decide +kernel
theorem d_O_isPrintable_9 : decode b_O_isPrintable 9 = .ok (.if_icmp .gt 7, 3) := by decide +kernel
theorem d_O_isPrintable_12 : decode b_O_isPrintable 12 = .ok (.iconst 1, 1) := by decide +kernel
theorem d_O_isPrintable_13 : decode b_O_isPrintable 13 = .ok (.goto 4, 3) := by decide +kernel
theorem d_O_isPrintable_16 : decode b_O_isPrintable 16 = .ok (.iconst 0, 1) := by decide +kernel
theorem d_O_isPrintable_17 : decode b_O_isPrintable 17 = .ok (.ireturn, 1) := by decide +kernel
theorem d_M_init_0 : decode b_M_init 0 = .ok (.aload_n 0, 1) := by decide +kernel
theorem d_M_init_1 : decode b_M_init 1 = .ok (.invokespecial 1, 3) := by decide +kernel
theorem d_M_init_4 : decode b_M_init 4 = .ok (.aload_n 0, 1) := by decide +kernel
theorem d_M_init_5 : decode b_M_init 5 = .ok (.bipush 16, 2) := by decide +kernel
theorem d_M_init_7 : decode b_M_init 7 = .ok (.newarray .int, 2) := by decide +kernel
theorem d_M_init_9 : decode b_M_init 9 = .ok (.putfield 7, 3) := by decide +kernel
theorem d_M_init_12 : decode b_M_init 12 = .ok (.aload_n 0, 1) := by decide +kernel
theorem d_M_init_13 : decode b_M_init 13 = .ok (.bipush 16, 2) := by decide +kernel
theorem d_M_init_15 : decode b_M_init 15 = .ok (.newarray .int, 2) := by decide +kernel
theorem d_M_init_17 : decode b_M_init 17 = .ok (.putfield 13, 3) := by decide +kernel
theorem d_M_init_20 : decode b_M_init 20 = .ok (.aload_n 0, 1) := by decide +kernel
theorem d_M_init_21 : decode b_M_init 21 = .ok (.bipush 64, 2) := by decide +kernel
theorem d_M_init_23 : decode b_M_init 23 = .ok (.newarray .int, 2) := by decide +kernel
theorem d_M_init_25 : decode b_M_init 25 = .ok (.putfield 16, 3) := by decide +kernel
theorem d_M_init_28 : decode b_M_init 28 = .ok (.aload_n 0, 1) := by decide +kernel
theorem d_M_init_29 : decode b_M_init 29 = .ok (.bipush 64, 2) := by decide +kernel
theorem d_M_init_31 : decode b_M_init 31 = .ok (.newarray .int, 2) := by decide +kernel
theorem d_M_init_33 : decode b_M_init 33 = .ok (.putfield 19, 3) := by decide +kernel
theorem d_M_init_36 : decode b_M_init 36 = .ok (.aload_n 0, 1) := by decide +kernel
theorem d_M_init_37 : decode b_M_init 37 = .ok (.bipush 96, 2) := by decide +kernel
theorem d_M_init_39 : decode b_M_init 39 = .ok (.newarray .int, 2) := by decide +kernel
theorem d_M_init_41 : decode b_M_init 41 = .ok (.putfield 22, 3) := by decide +kernel
theorem d_M_init_44 : decode b_M_init 44 = .ok (.aload_n 0, 1) := by decide +kernel
theorem d_M_init_45 : decode b_M_init 45 = .ok (.bipush 32, 2) := by decide +kernel
theorem d_M_init_47 : decode b_M_init 47 = .ok (.newarray .boolean, 2) := by decide +kernel
theorem d_M_init_49 : decode b_M_init 49 = .ok (.putfield 25, 3) := by decide +kernel
theorem d_M_init_52 : decode b_M_init 52 = .ok (.aload_n 0, 1) := by decide +kernel
theorem d_M_init_53 : decode b_M_init 53 = .ok (.sipush 1600, 3) := by decide +kernel
theorem d_M_init_56 : decode b_M_init 56 = .ok (.newarray .char, 2) := by decide +kernel
theorem d_M_init_58 : decode b_M_init 58 = .ok (.putfield 29, 3) := by decide +kernel
theorem d_M_init_61 : decode b_M_init 61 = .ok (.aload_n 0, 1) := by decide +kernel
theorem d_M_init_62 : decode b_M_init 62 = .ok (.sipush 420, 3) := by decide +kernel
theorem d_M_init_65 : decode b_M_init 65 = .ok (.newarray .int, 2) := by decide +kernel
theorem d_M_init_67 : decode b_M_init 67 = .ok (.putfield 33, 3) := by decide +kernel
theorem d_M_init_70 : decode b_M_init 70 = .ok (.aload_n 0, 1) := by decide +kernel
theorem d_M_init_71 : decode b_M_init 71 = .ok (.sipush 420, 3) := by decide +kernel
theorem d_M_init_74 : decode b_M_init 74 = .ok (.newarray .int, 2) := by decide +kernel
theorem d_M_init_76 : decode b_M_init 76 = .ok (.putfield 36, 3) := by decide +kernel
theorem d_M_init_79 : decode b_M_init 79 = .ok (.aload_n 0, 1) := by decide +kernel
theorem d_M_init_80 : decode b_M_init 80 = .ok (.sipush 420, 3) := by decide +kernel
theorem d_M_init_83 : decode b_M_init 83 = .ok (.newarray .int, 2) := by decide +kernel
theorem d_M_init_85 : decode b_M_init 85 = .ok (.putfield 39, 3) := by decide +kernel
theorem d_M_init_88 : decode b_M_init 88 = .ok (.aload_n 0, 1) := by decide +kernel
theorem d_M_init_89 : decode b_M_init 89 = .ok (.sipush 420, 3) := by decide +kernel
theorem d_M_init_92 : decode b_M_init 92 = .ok (.newarray .int, 2) := by decide +kernel
theorem d_M_init_94 : decode b_M_init 94 = .ok (.putfield 42, 3) := by decide +kernel
theorem d_M_init_97 : decode b_M_init 97 = .ok (.aload_n 0, 1) := by decide +kernel
theorem d_M_init_98 : decode b_M_init 98 = .ok (.sipush 420, 3) := by decide +kernel
theorem d_M_init_101 : decode b_M_init 101 = .ok (.newarray .int, 2) := by decide +kernel
theorem d_M_init_103 : decode b_M_init 103 = .ok (.putfield 45, 3) := by decide +kernel
theorem d_M_init_106 : decode b_M_init 106 = .ok (.aload_n 0, 1) := by decide +kernel
theorem d_M_init_107 : decode b_M_init 107 = .ok (.sipush 5040, 3) := by decide +kernel
theorem d_M_init_110 : decode b_M_init 110 = .ok (.newarray .char, 2) := by decide +kernel
theorem d_M_init_112 : decode b_M_init 112 = .ok (.putfield 48, 3) := by decide +kernel
theorem d_M_init_115 : decode b_M_init 115 = .ok (.aload_n 0, 1) := by decide +kernel
theorem d_M_init_116 : decode b_M_init 116 = .ok (.sipush 420, 3) := by decide +kernel
theorem d_M_init_119 : decode b_M_init 119 = .ok (.newarray .int, 2) := by decide +kernel
theorem d_M_init_121 : decode b_M_init 121 = .ok (.putfield 51, 3) := by decide +kernel
theorem d_M_init_124 : decode b_M_init 124 = .ok (.aload_n 0, 1) := by decide +kernel
theorem d_M_init_125 : decode b_M_init 125 = .ok (.sipush 420, 3) := by decide +kernel
theorem d_M_init_128 : decode b_M_init 128 = .ok (.newarray .int, 2) := by decide +kernel
theorem d_M_init_130 : decode b_M_init 130 = .ok (.putfield 54, 3) := by decide +kernel
theorem d_M_init_133 : decode b_M_init 133 = .ok (.aload_n 0, 1) := by decide +kernel
theorem d_M_init_134 : decode b_M_init 134 = .ok (.sipush 320, 3) := by decide +kernel
theorem d_M_init_137 : decode b_M_init 137 = .ok (.newarray .int, 2) := by decide +kernel
theorem d_M_init_139 : decode b_M_init 139 = .ok (.putfield 57, 3) := by decide +kernel
theorem d_M_init_142 : decode b_M_init 142 = .ok (.aload_n 0, 1) := by decide +kernel
theorem d_M_init_143 : decode b_M_init 143 = .ok (.sipush 320, 3) := by decide +kernel
theorem d_M_init_146 : decode b_M_init 146 = .ok (.newarray .int, 2) := by decide +kernel
theorem d_M_init_148 : decode b_M_init 148 = .ok (.putfield 60, 3) := by decide +kernel
theorem d_M_init_151 : decode b_M_init 151 = .ok (.aload_n 0, 1) := by decide +kernel
theorem d_M_init_152 : decode b_M_init 152 = .ok (.sipush 320, 3) := by decide +kernel
theorem d_M_init_155 : decode b_M_init 155 = .ok (.newarray .int, 2) := by decide +kernel
theorem d_M_init_157 : decode b_M_init 157 = .ok (.putfield 63, 3) := by decide +kernel
theorem d_M_init_160 : decode b_M_init 160 = .ok (.aload_n 0, 1) := by decide +kernel
theorem d_M_init_161 : decode b_M_init 161 = .ok (.bipush 16, 2) := by decide +kernel
theorem d_M_init_163 : decode b_M_init 163 = .ok (.newarray .boolean, 2) := by decide +kernel
theorem d_M_init_165 : decode b_M_init 165 = .ok (.putfield 66, 3) := by decide +kernel
theorem d_M_init_168 : decode b_M_init 168 = .ok (.aload_n 0, 1) := by decide +kernel
theorem d_M_init_169 : decode b_M_init 169 = .ok (.bipush 16, 2) := by decide +kernel
theorem d_M_init_171 : decode b_M_init 171 = .ok (.newarray .int, 2) := by decide +kernel
theorem d_M_init_173 : decode b_M_init 173 = .ok (.putfield 69, 3) := by decide +kernel
theorem d_M_init_176 : decode b_M_init 176 = .ok (.aload_n 0, 1) := by decide +kernel
theorem d_M_init_177 : decode b_M_init 177 = .ok (.bipush 16, 2) := by decide +kernel
theorem d_M_init_179 : decode b_M_init 179 = .ok (.newarray .int, 2) := by decide +kernel
theorem d_M_init_181 : decode b_M_init 181 = .ok (.putfield 72, 3) := by decide +kernel
theorem d_M_init_184 : decode b_M_init 184 = .ok (.aload_n 0, 1) := by decide +kernel
theorem d_M_init_185 : decode b_M_init 185 = .ok (.bipush 17, 2) := by decide +kernel
theorem d_M_init_187 : decode b_M_init 187 = .ok (.newarray .int, 2) := by decide +kernel
theorem d_M_init_189 : decode b_M_init 189 = .ok (.putfield 75, 3) := by decide +kernel
theorem d_M_init_192 : decode b_M_init 192 = .ok (.aload_n 0, 1) := by decide +kernel
theorem d_M_init_193 : decode b_M_init 193 = .ok (.bipush 96, 2) := by decide +kernel
theorem d_M_init_195 : decode b_M_init 195 = .ok (.newarray .int, 2) := by decide +kernel
theorem d_M_init_197 : decode b_M_init 197 = .ok (.putfield 78, 3) := by decide +kernel
theorem d_M_init_200 : decode b_M_init 200 = .ok (.aload_n 0, 1) := by decide +kernel
theorem d_M_init_201 : decode b_M_init 201 = .ok (.bipush 16, 2) := by decide +kernel
theorem d_M_init_203 : decode b_M_init 203 = .ok (.newarray .int, 2) := by decide +kernel
theorem d_M_init_205 : decode b_M_init 205 = .ok (.putfield 81, 3) := by decide +kernel
theorem d_M_init_208 : decode b_M_init 208 = .ok (.aload_n 0, 1) := by decide +kernel
theorem d_M_init_209 : decode b_M_init 209 = .ok (.bipush 16, 2) := by decide +kernel
theorem d_M_init_211 : decode b_M_init 211 = .ok (.newarray .int, 2) := by decide +kernel
theorem d_M_init_213 : decode b_M_init 213 = .ok (.putfield 84, 3) := by decide +kernel
theorem d_M_init_216 : decode b_M_init 216 = .ok (.return_, 1) := by decide +kernel
theorem d_M_object_0 : decode b_M_object 0 = .ok (.iload_n 1, 1) := by decide +kernel
theorem d_M_object_1 : decode b_M_object 1 = .ok (.ifCond .lt 15, 3) := by decide +kernel
theorem d_M_object_4 : decode b_M_object 4 = .ok (.iload_n 1, 1) := by decide +kernel
theorem d_M_object_5 : decode b_M_object 5 = .ok (.aload_n 0, 1) := by decide +kernel
theorem d_M_object_6 : decode b_M_object 6 = .ok (.getfield 87, 3) := by decide +kernel
theorem d_M_object_9 : decode b_M_object 9 = .ok (.if_icmp .ge 7, 3) := by decide +kernel
theorem d_M_object_12 : decode b_M_object 12 = .ok (.iconst 1, 1) := by decide +kernel
theorem d_M_object_13 : decode b_M_object 13 = .ok (.goto 4, 3) := by decide +kernel
theorem d_M_object_16 : decode b_M_object 16 = .ok (.iconst 0, 1) := by decide +kernel
theorem d_M_object_17 : decode b_M_object 17 = .ok (.ireturn, 1) := by decide +kernel
theorem d_M_slotThere_0 : decode b_M_slotThere 0 = .ok (.aload_n 0, 1) := by decide +kernel
theorem d_M_slotThere_1 : decode b_M_slotThere 1 = .ok (.iload_n 1, 1) := by decide +kernel
theorem d_M_slotThere_2 : decode b_M_slotThere 2 = .ok (.invokevirtual 91, 3) := by decide +kernel
theorem d_M_slotThere_5 : decode b_M_slotThere 5 = .ok (.ifCond .eq 31, 3) := by decide +kernel
theorem d_M_slotThere_8 : decode b_M_slotThere 8 = .ok (.aload_n 0, 1) := by decide +kernel
theorem d_M_slotThere_9 : decode b_M_slotThere 9 = .ok (.getfield 7, 3) := by decide +kernel
theorem d_M_slotThere_12 : decode b_M_slotThere 12 = .ok (.iload_n 1, 1) := by decide +kernel
theorem d_M_slotThere_13 : decode b_M_slotThere 13 = .ok (.iaload, 1) := by decide +kernel
theorem d_M_slotThere_14 : decode b_M_slotThere 14 = .ok (.iconst 2, 1) := by decide +kernel
theorem d_M_slotThere_15 : decode b_M_slotThere 15 = .ok (.if_icmp .eq 21, 3) := by decide +kernel
theorem d_M_slotThere_18 : decode b_M_slotThere 18 = .ok (.iload_n 2, 1) := by decide +kernel
theorem d_M_slotThere_19 : decode b_M_slotThere 19 = .ok (.ifCond .lt 17, 3) := by decide +kernel
theorem d_M_slotThere_22 : decode b_M_slotThere 22 = .ok (.iload_n 2, 1) := by decide +kernel
theorem d_M_slotThere_23 : decode b_M_slotThere 23 = .ok (.aload_n 0, 1) := by decide +kernel
theorem d_M_slotThere_24 : decode b_M_slotThere 24 = .ok (.getfield 13, 3) := by decide +kernel
theorem d_M_slotThere_27 : decode b_M_slotThere 27 = .ok (.iload_n 1, 1) := by decide +kernel
theorem d_M_slotThere_28 : decode b_M_slotThere 28 = .ok (.iaload, 1) := by decide +kernel
theorem d_M_slotThere_29 : decode b_M_slotThere 29 = .ok (.if_icmp .ge 7, 3) := by decide +kernel
theorem d_M_slotThere_32 : decode b_M_slotThere 32 = .ok (.iconst 1, 1) := by decide +kernel
theorem d_M_slotThere_33 : decode b_M_slotThere 33 = .ok (.goto 4, 3) := by decide +kernel
theorem d_M_slotThere_36 : decode b_M_slotThere 36 = .ok (.iconst 0, 1) := by decide +kernel
theorem d_M_slotThere_37 : decode b_M_slotThere 37 = .ok (.ireturn, 1) := by decide +kernel
theorem d_M_make_0 : decode b_M_make 0 = .ok (.iload_n 1, 1) := by decide +kernel
theorem d_M_make_1 : decode b_M_make 1 = .ok (.ifCond .lt 31, 3) := by decide +kernel
theorem d_M_make_4 : decode b_M_make 4 = .ok (.iload_n 1, 1) := by decide +kernel
theorem d_M_make_5 : decode b_M_make 5 = .ok (.iconst 2, 1) := by decide +kernel
theorem d_M_make_6 : decode b_M_make 6 = .ok (.if_icmp .gt 26, 3) := by decide +kernel
theorem d_M_make_9 : decode b_M_make 9 = .ok (.iload_n 1, 1) := by decide +kernel
theorem d_M_make_10 : decode b_M_make 10 = .ok (.iconst 1, 1) := by decide +kernel
theorem d_M_make_11 : decode b_M_make 11 = .ok (.if_icmp .ne 12, 3) := by decide +kernel
theorem d_M_make_14 : decode b_M_make 14 = .ok (.iload_n 2, 1) := by decide +kernel
theorem d_M_make_15 : decode b_M_make 15 = .ok (.ifCond .lt 17, 3) := by decide +kernel
theorem d_M_make_18 : decode b_M_make 18 = .ok (.iload_n 2, 1) := by decide +kernel
theorem d_M_make_19 : decode b_M_make 19 = .ok (.iconst 4, 1) := by decide +kernel
theorem d_M_make_20 : decode b_M_make 20 = .ok (.if_icmp .gt 12, 3) := by decide +kernel
theorem d_M_make_23 : decode b_M_make 23 = .ok (.aload_n 0, 1) := by decide +kernel
theorem d_M_make_24 : decode b_M_make 24 = .ok (.getfield 87, 3) := by decide +kernel
theorem d_M_make_27 : decode b_M_make 27 = .ok (.bipush 16, 2) := by decide +kernel
theorem d_M_make_29 : decode b_M_make 29 = .ok (.if_icmp .ne 5, 3) := by decide +kernel
theorem d_M_make_32 : decode b_M_make 32 = .ok (.iconst (-1), 1) := by decide +kernel
theorem d_M_make_33 : decode b_M_make 33 = .ok (.ireturn, 1) := by decide +kernel
theorem d_M_make_34 : decode b_M_make 34 = .ok (.aload_n 0, 1) := by decide +kernel
