theorem d_A_exists_64 : decode b_A_exists 64 = .ok (.getfield 18, 3) := by decide +kernel
theorem d_A_exists_67 : decode b_A_exists 67 = .ok (.iload 4, 2) := by decide +kernel
theorem d_A_exists_69 : decode b_A_exists 69 = .ok (.iaload, 1) := by decide +kernel
theorem d_A_exists_70 : decode b_A_exists 70 = .ok (.iaload, 1) := by decide +kernel
theorem d_A_exists_71 : decode b_A_exists 71 = .ok (.invokevirtual 39, 3) := by decide +kernel
theorem d_A_exists_74 : decode b_A_exists 74 = .ok (.istore_n 3, 1) := by decide +kernel
theorem d_A_exists_75 : decode b_A_exists 75 = .ok (.iinc 4 1, 3) := by decide +kernel
theorem d_A_exists_78 : decode b_A_exists 78 = .ok (.goto (-47), 3) := by decide +kernel
theorem d_A_exists_81 : decode b_A_exists 81 = .ok (.iload_n 3, 1) := by decide +kernel
theorem d_A_exists_82 : decode b_A_exists 82 = .ok (.ireturn, 1) := by decide +kernel
theorem d_A_match_0 : decode b_A_match 0 = .ok (.aload_n 0, 1) := by decide +kernel
theorem d_A_match_1 : decode b_A_match 1 = .ok (.getfield 9, 3) := by decide +kernel
theorem d_A_match_4 : decode b_A_match 4 = .ok (.iload_n 1, 1) := by decide +kernel
theorem d_A_match_5 : decode b_A_match 5 = .ok (.iaload, 1) := by decide +kernel
theorem d_A_match_6 : decode b_A_match 6 = .ok (.iconst (-1), 1) := by decide +kernel
theorem d_A_match_7 : decode b_A_match 7 = .ok (.if_icmp .ne 49, 3) := by decide +kernel
theorem d_A_match_10 : decode b_A_match 10 = .ok (.aload_n 0, 1) := by decide +kernel
theorem d_A_match_11 : decode b_A_match 11 = .ok (.getfield 15, 3) := by decide +kernel
theorem d_A_match_14 : decode b_A_match 14 = .ok (.iload_n 2, 1) := by decide +kernel
theorem d_A_match_15 : decode b_A_match 15 = .ok (.iaload, 1) := by decide +kernel
theorem d_A_match_16 : decode b_A_match 16 = .ok (.iconst (-1), 1) := by decide +kernel
theorem d_A_match_17 : decode b_A_match 17 = .ok (.if_icmp .ne 39, 3) := by decide +kernel
theorem d_A_match_20 : decode b_A_match 20 = .ok (.aload_n 0, 1) := by decide +kernel
theorem d_A_match_21 : decode b_A_match 21 = .ok (.getfield 9, 3) := by decide +kernel
theorem d_A_match_24 : decode b_A_match 24 = .ok (.iload_n 1, 1) := by decide +kernel
theorem d_A_match_25 : decode b_A_match 25 = .ok (.iload_n 2, 1) := by decide +kernel
theorem d_A_match_26 : decode b_A_match 26 = .ok (.iastore, 1) := by decide +kernel
theorem d_A_match_27 : decode b_A_match 27 = .ok (.aload_n 0, 1) := by decide +kernel
theorem d_A_match_28 : decode b_A_match 28 = .ok (.getfield 15, 3) := by decide +kernel
theorem d_A_match_31 : decode b_A_match 31 = .ok (.iload_n 2, 1) := by decide +kernel
theorem d_A_match_32 : decode b_A_match 32 = .ok (.iload_n 1, 1) := by decide +kernel
theorem d_A_match_33 : decode b_A_match 33 = .ok (.iastore, 1) := by decide +kernel
theorem d_A_match_34 : decode b_A_match 34 = .ok (.aload_n 0, 1) := by decide +kernel
theorem d_A_match_35 : decode b_A_match 35 = .ok (.getfield 18, 3) := by decide +kernel
theorem d_A_match_38 : decode b_A_match 38 = .ok (.aload_n 0, 1) := by decide +kernel
theorem d_A_match_39 : decode b_A_match 39 = .ok (.getfield 31, 3) := by decide +kernel
theorem d_A_match_42 : decode b_A_match 42 = .ok (.iload_n 1, 1) := by decide +kernel
theorem d_A_match_43 : decode b_A_match 43 = .ok (.iastore, 1) := by decide +kernel
theorem d_A_match_44 : decode b_A_match 44 = .ok (.aload_n 0, 1) := by decide +kernel
theorem d_A_match_45 : decode b_A_match 45 = .ok (.dup, 1) := by decide +kernel
theorem d_A_match_46 : decode b_A_match 46 = .ok (.getfield 31, 3) := by decide +kernel
theorem d_A_match_49 : decode b_A_match 49 = .ok (.iconst 1, 1) := by decide +kernel
theorem d_A_match_50 : decode b_A_match 50 = .ok (.iadd, 1) := by decide +kernel
theorem d_A_match_51 : decode b_A_match 51 = .ok (.putfield 31, 3) := by decide +kernel
theorem d_A_match_54 : decode b_A_match 54 = .ok (.iconst 1, 1) := by decide +kernel
theorem d_A_match_55 : decode b_A_match 55 = .ok (.ireturn, 1) := by decide +kernel
theorem d_A_match_56 : decode b_A_match 56 = .ok (.aload_n 0, 1) := by decide +kernel
theorem d_A_match_57 : decode b_A_match 57 = .ok (.getfield 9, 3) := by decide +kernel
theorem d_A_match_60 : decode b_A_match 60 = .ok (.iload_n 1, 1) := by decide +kernel
theorem d_A_match_61 : decode b_A_match 61 = .ok (.iaload, 1) := by decide +kernel
theorem d_A_match_62 : decode b_A_match 62 = .ok (.iload_n 2, 1) := by decide +kernel
theorem d_A_match_63 : decode b_A_match 63 = .ok (.if_icmp .ne 7, 3) := by decide +kernel
theorem d_A_match_66 : decode b_A_match 66 = .ok (.iconst 1, 1) := by decide +kernel
theorem d_A_match_67 : decode b_A_match 67 = .ok (.goto 4, 3) := by decide +kernel
theorem d_A_match_70 : decode b_A_match 70 = .ok (.iconst 0, 1) := by decide +kernel
theorem d_A_match_71 : decode b_A_match 71 = .ok (.ireturn, 1) := by decide +kernel
theorem d_A_haveSameInside_0 : decode b_A_haveSameInside 0 = .ok (.aload_n 0, 1) := by decide +kernel
theorem d_A_haveSameInside_1 : decode b_A_haveSameInside 1 = .ok (.getfield 21, 3) := by decide +kernel
theorem d_A_haveSameInside_4 : decode b_A_haveSameInside 4 = .ok (.getfield 42, 3) := by decide +kernel
theorem d_A_haveSameInside_7 : decode b_A_haveSameInside 7 = .ok (.iload_n 1, 1) := by decide +kernel
theorem d_A_haveSameInside_8 : decode b_A_haveSameInside 8 = .ok (.iaload, 1) := by decide +kernel
theorem d_A_haveSameInside_9 : decode b_A_haveSameInside 9 = .ok (.aload_n 0, 1) := by decide +kernel
theorem d_A_haveSameInside_10 : decode b_A_haveSameInside 10 = .ok (.getfield 21, 3) := by decide +kernel
theorem d_A_haveSameInside_13 : decode b_A_haveSameInside 13 = .ok (.getfield 42, 3) := by decide +kernel
theorem d_A_haveSameInside_16 : decode b_A_haveSameInside 16 = .ok (.iload_n 2, 1) := by decide +kernel
theorem d_A_haveSameInside_17 : decode b_A_haveSameInside 17 = .ok (.iaload, 1) := by decide +kernel
theorem d_A_haveSameInside_18 : decode b_A_haveSameInside 18 = .ok (.if_icmp .ne 24, 3) := by decide +kernel
theorem d_A_haveSameInside_21 : decode b_A_haveSameInside 21 = .ok (.aload_n 0, 1) := by decide +kernel
theorem d_A_haveSameInside_22 : decode b_A_haveSameInside 22 = .ok (.getfield 21, 3) := by decide +kernel
theorem d_A_haveSameInside_25 : decode b_A_haveSameInside 25 = .ok (.getfield 47, 3) := by decide +kernel
theorem d_A_haveSameInside_28 : decode b_A_haveSameInside 28 = .ok (.iload_n 1, 1) := by decide +kernel
theorem d_A_haveSameInside_29 : decode b_A_haveSameInside 29 = .ok (.iaload, 1) := by decide +kernel
theorem d_A_haveSameInside_30 : decode b_A_haveSameInside 30 = .ok (.aload_n 0, 1) := by decide +kernel
theorem d_A_haveSameInside_31 : decode b_A_haveSameInside 31 = .ok (.getfield 21, 3) := by decide +kernel
theorem d_A_haveSameInside_34 : decode b_A_haveSameInside 34 = .ok (.getfield 47, 3) := by decide +kernel
theorem d_A_haveSameInside_37 : decode b_A_haveSameInside 37 = .ok (.iload_n 2, 1) := by decide +kernel
theorem d_A_haveSameInside_38 : decode b_A_haveSameInside 38 = .ok (.iaload, 1) := by decide +kernel
theorem d_A_haveSameInside_39 : decode b_A_haveSameInside 39 = .ok (.if_icmp .eq 5, 3) := by decide +kernel
theorem d_A_haveSameInside_42 : decode b_A_haveSameInside 42 = .ok (.iconst 0, 1) := by decide +kernel
theorem d_A_haveSameInside_43 : decode b_A_haveSameInside 43 = .ok (.ireturn, 1) := by decide +kernel
theorem d_A_haveSameInside_44 : decode b_A_haveSameInside 44 = .ok (.aload_n 0, 1) := by decide +kernel
theorem d_A_haveSameInside_45 : decode b_A_haveSameInside 45 = .ok (.getfield 21, 3) := by decide +kernel
theorem d_A_haveSameInside_48 : decode b_A_haveSameInside 48 = .ok (.iload_n 1, 1) := by decide +kernel
theorem d_A_haveSameInside_49 : decode b_A_haveSameInside 49 = .ok (.invokevirtual 50, 3) := by decide +kernel
theorem d_A_haveSameInside_52 : decode b_A_haveSameInside 52 = .ok (.ifCond .eq 12, 3) := by decide +kernel
theorem d_A_haveSameInside_55 : decode b_A_haveSameInside 55 = .ok (.aload_n 0, 1) := by decide +kernel
theorem d_A_haveSameInside_56 : decode b_A_haveSameInside 56 = .ok (.iload_n 1, 1) := by decide +kernel
theorem d_A_haveSameInside_57 : decode b_A_haveSameInside 57 = .ok (.iload_n 2, 1) := by decide +kernel
theorem d_A_haveSameInside_58 : decode b_A_haveSameInside 58 = .ok (.invokevirtual 54, 3) := by decide +kernel
theorem d_A_haveSameInside_61 : decode b_A_haveSameInside 61 = .ok (.goto 9, 3) := by decide +kernel
theorem d_A_haveSameInside_64 : decode b_A_haveSameInside 64 = .ok (.aload_n 0, 1) := by decide +kernel
theorem d_A_haveSameInside_65 : decode b_A_haveSameInside 65 = .ok (.iload_n 1, 1) := by decide +kernel
theorem d_A_haveSameInside_66 : decode b_A_haveSameInside 66 = .ok (.iload_n 2, 1) := by decide +kernel
theorem d_A_haveSameInside_67 : decode b_A_haveSameInside 67 = .ok (.invokevirtual 57, 3) := by decide +kernel
theorem d_A_haveSameInside_70 : decode b_A_haveSameInside 70 = .ok (.ireturn, 1) := by decide +kernel
theorem d_A_haveSameCharacters_0 : decode b_A_haveSameCharacters 0 = .ok (.iconst 0, 1) := by decide +kernel
theorem d_A_haveSameCharacters_1 : decode b_A_haveSameCharacters 1 = .ok (.istore_n 3, 1) := by decide +kernel
theorem d_A_haveSameCharacters_2 : decode b_A_haveSameCharacters 2 = .ok (.iload_n 3, 1) := by decide +kernel
theorem d_A_haveSameCharacters_3 : decode b_A_haveSameCharacters 3 = .ok (.bipush 6, 2) := by decide +kernel
theorem d_A_haveSameCharacters_5 : decode b_A_haveSameCharacters 5 = .ok (.if_icmp .ge 45, 3) := by decide +kernel
theorem d_A_haveSameCharacters_8 : decode b_A_haveSameCharacters 8 = .ok (.iload_n 3, 1) := by decide +kernel
theorem d_A_haveSameCharacters_9 : decode b_A_haveSameCharacters 9 = .ok (.aload_n 0, 1) := by decide +kernel
theorem d_A_haveSameCharacters_10 : decode b_A_haveSameCharacters 10 = .ok (.getfield 21, 3) := by decide +kernel
theorem d_A_haveSameCharacters_13 : decode b_A_haveSameCharacters 13 = .ok (.getfield 47, 3) := by decide +kernel
theorem d_A_haveSameCharacters_16 : decode b_A_haveSameCharacters 16 = .ok (.iload_n 1, 1) := by decide +kernel
theorem d_A_haveSameCharacters_17 : decode b_A_haveSameCharacters 17 = .ok (.iaload, 1) := by decide +kernel
theorem d_A_haveSameCharacters_18 : decode b_A_haveSameCharacters 18 = .ok (.if_icmp .ge 32, 3) := by decide +kernel
theorem d_A_haveSameCharacters_21 : decode b_A_haveSameCharacters 21 = .ok (.aload_n 0, 1) := by decide +kernel
theorem d_A_haveSameCharacters_22 : decode b_A_haveSameCharacters 22 = .ok (.getfield 21, 3) := by decide +kernel
theorem d_A_haveSameCharacters_25 : decode b_A_haveSameCharacters 25 = .ok (.iload_n 1, 1) := by decide +kernel
theorem d_A_haveSameCharacters_26 : decode b_A_haveSameCharacters 26 = .ok (.iload_n 3, 1) := by decide +kernel
theorem d_A_haveSameCharacters_27 : decode b_A_haveSameCharacters 27 = .ok (.invokevirtual 60, 3) := by decide +kernel
theorem d_A_haveSameCharacters_30 : decode b_A_haveSameCharacters 30 = .ok (.aload_n 0, 1) := by decide +kernel
theorem d_A_haveSameCharacters_31 : decode b_A_haveSameCharacters 31 = .ok (.getfield 21, 3) := by decide +kernel
theorem d_A_haveSameCharacters_34 : decode b_A_haveSameCharacters 34 = .ok (.iload_n 2, 1) := by decide +kernel
theorem d_A_haveSameCharacters_35 : decode b_A_haveSameCharacters 35 = .ok (.iload_n 3, 1) := by decide +kernel
theorem d_A_haveSameCharacters_36 : decode b_A_haveSameCharacters 36 = .ok (.invokevirtual 60, 3) := by decide +kernel
theorem d_A_haveSameCharacters_39 : decode b_A_haveSameCharacters 39 = .ok (.if_icmp .eq 5, 3) := by decide +kernel
theorem d_A_haveSameCharacters_42 : decode b_A_haveSameCharacters 42 = .ok (.iconst 0, 1) := by decide +kernel
theorem d_A_haveSameCharacters_43 : decode b_A_haveSameCharacters 43 = .ok (.ireturn, 1) := by decide +kernel
theorem d_A_haveSameCharacters_44 : decode b_A_haveSameCharacters 44 = .ok (.iinc 3 1, 3) := by decide +kernel
theorem d_A_haveSameCharacters_47 : decode b_A_haveSameCharacters 47 = .ok (.goto (-45), 3) := by decide +kernel
theorem d_A_haveSameCharacters_50 : decode b_A_haveSameCharacters 50 = .ok (.iconst 1, 1) := by decide +kernel
theorem d_A_haveSameCharacters_51 : decode b_A_haveSameCharacters 51 = .ok (.ireturn, 1) := by decide +kernel
theorem d_A_haveSameSlots_0 : decode b_A_haveSameSlots 0 = .ok (.iconst 0, 1) := by decide +kernel
theorem d_A_haveSameSlots_1 : decode b_A_haveSameSlots 1 = .ok (.istore_n 3, 1) := by decide +kernel
theorem d_A_haveSameSlots_2 : decode b_A_haveSameSlots 2 = .ok (.iload_n 3, 1) := by decide +kernel
theorem d_A_haveSameSlots_3 : decode b_A_haveSameSlots 3 = .ok (.iconst 4, 1) := by decide +kernel
theorem d_A_haveSameSlots_4 : decode b_A_haveSameSlots 4 = .ok (.if_icmp .ge 34, 3) := by decide +kernel
theorem d_A_haveSameSlots_7 : decode b_A_haveSameSlots 7 = .ok (.iload_n 3, 1) := by decide +kernel
theorem d_A_haveSameSlots_8 : decode b_A_haveSameSlots 8 = .ok (.aload_n 0, 1) := by decide +kernel
theorem d_A_haveSameSlots_9 : decode b_A_haveSameSlots 9 = .ok (.getfield 21, 3) := by decide +kernel
theorem d_A_haveSameSlots_12 : decode b_A_haveSameSlots 12 = .ok (.getfield 47, 3) := by decide +kernel
theorem d_A_haveSameSlots_15 : decode b_A_haveSameSlots 15 = .ok (.iload_n 1, 1) := by decide +kernel
theorem d_A_haveSameSlots_16 : decode b_A_haveSameSlots 16 = .ok (.iaload, 1) := by decide +kernel
theorem d_A_haveSameSlots_17 : decode b_A_haveSameSlots 17 = .ok (.if_icmp .ge 21, 3) := by decide +kernel
theorem d_A_haveSameSlots_20 : decode b_A_haveSameSlots 20 = .ok (.aload_n 0, 1) := by decide +kernel
theorem d_A_haveSameSlots_21 : decode b_A_haveSameSlots 21 = .ok (.iload_n 1, 1) := by decide +kernel
theorem d_A_haveSameSlots_22 : decode b_A_haveSameSlots 22 = .ok (.iload_n 2, 1) := by decide +kernel
theorem d_A_haveSameSlots_23 : decode b_A_haveSameSlots 23 = .ok (.iload_n 3, 1) := by decide +kernel
theorem d_A_haveSameSlots_24 : decode b_A_haveSameSlots 24 = .ok (.invokevirtual 64, 3) := by decide +kernel
theorem d_A_haveSameSlots_27 : decode b_A_haveSameSlots 27 = .ok (.ifCond .ne 5, 3) := by decide +kernel
theorem d_A_haveSameSlots_30 : decode b_A_haveSameSlots 30 = .ok (.iconst 0, 1) := by decide +kernel
theorem d_A_haveSameSlots_31 : decode b_A_haveSameSlots 31 = .ok (.ireturn, 1) := by decide +kernel
theorem d_A_haveSameSlots_32 : decode b_A_haveSameSlots 32 = .ok (.iinc 3 1, 3) := by decide +kernel
theorem d_A_haveSameSlots_35 : decode b_A_haveSameSlots 35 = .ok (.goto (-33), 3) := by decide +kernel
theorem d_A_haveSameSlots_38 : decode b_A_haveSameSlots 38 = .ok (.iconst 1, 1) := by decide +kernel
theorem d_A_haveSameSlots_39 : decode b_A_haveSameSlots 39 = .ok (.ireturn, 1) := by decide +kernel
theorem d_A_haveSameSlot_0 : decode b_A_haveSameSlot 0 = .ok (.aload_n 0, 1) := by decide +kernel
theorem d_A_haveSameSlot_1 : decode b_A_haveSameSlot 1 = .ok (.getfield 21, 3) := by decide +kernel
theorem d_A_haveSameSlot_4 : decode b_A_haveSameSlot 4 = .ok (.iload_n 1, 1) := by decide +kernel
theorem d_A_haveSameSlot_5 : decode b_A_haveSameSlot 5 = .ok (.iload_n 3, 1) := by decide +kernel
theorem d_A_haveSameSlot_6 : decode b_A_haveSameSlot 6 = .ok (.invokevirtual 68, 3) := by decide +kernel
theorem d_A_haveSameSlot_9 : decode b_A_haveSameSlot 9 = .ok (.aload_n 0, 1) := by decide +kernel
theorem d_A_haveSameSlot_10 : decode b_A_haveSameSlot 10 = .ok (.getfield 21, 3) := by decide +kernel
theorem d_A_haveSameSlot_13 : decode b_A_haveSameSlot 13 = .ok (.iload_n 2, 1) := by decide +kernel
theorem d_A_haveSameSlot_14 : decode b_A_haveSameSlot 14 = .ok (.iload_n 3, 1) := by decide +kernel
theorem d_A_haveSameSlot_15 : decode b_A_haveSameSlot 15 = .ok (.invokevirtual 68, 3) := by decide +kernel
theorem d_A_haveSameSlot_18 : decode b_A_haveSameSlot 18 = .ok (.if_icmp .eq 5, 3) := by decide +kernel
theorem d_A_haveSameSlot_21 : decode b_A_haveSameSlot 21 = .ok (.iconst 0, 1) := by decide +kernel
theorem d_A_haveSameSlot_22 : decode b_A_haveSameSlot 22 = .ok (.ireturn, 1) := by decide +kernel
theorem d_A_haveSameSlot_23 : decode b_A_haveSameSlot 23 = .ok (.aload_n 0, 1) := by decide +kernel
theorem d_A_haveSameSlot_24 : decode b_A_haveSameSlot 24 = .ok (.getfield 21, 3) := by decide +kernel
theorem d_A_haveSameSlot_27 : decode b_A_haveSameSlot 27 = .ok (.iload_n 1, 1) := by decide +kernel
theorem d_A_haveSameSlot_28 : decode b_A_haveSameSlot 28 = .ok (.iload_n 3, 1) := by decide +kernel
theorem d_A_haveSameSlot_29 : decode b_A_haveSameSlot 29 = .ok (.invokevirtual 68, 3) := by decide +kernel
theorem d_A_haveSameSlot_32 : decode b_A_haveSameSlot 32 = .ok (.iconst 2, 1) := by decide +kernel
theorem d_A_haveSameSlot_33 : decode b_A_haveSameSlot 33 = .ok (.if_icmp .ne 26, 3) := by decide +kernel
theorem d_A_haveSameSlot_36 : decode b_A_haveSameSlot 36 = .ok (.aload_n 0, 1) := by decide +kernel
theorem d_A_haveSameSlot_37 : decode b_A_haveSameSlot 37 = .ok (.aload_n 0, 1) := by decide +kernel
theorem d_A_haveSameSlot_38 : decode b_A_haveSameSlot 38 = .ok (.getfield 21, 3) := by decide +kernel
theorem d_A_haveSameSlot_41 : decode b_A_haveSameSlot 41 = .ok (.iload_n 1, 1) := by decide +kernel
theorem d_A_haveSameSlot_42 : decode b_A_haveSameSlot 42 = .ok (.iload_n 3, 1) := by decide +kernel
theorem d_A_haveSameSlot_43 : decode b_A_haveSameSlot 43 = .ok (.invokevirtual 72, 3) := by decide +kernel
theorem d_A_haveSameSlot_46 : decode b_A_haveSameSlot 46 = .ok (.aload_n 0, 1) := by decide +kernel
theorem d_A_haveSameSlot_47 : decode b_A_haveSameSlot 47 = .ok (.getfield 21, 3) := by decide +kernel
theorem d_A_haveSameSlot_50 : decode b_A_haveSameSlot 50 = .ok (.iload_n 2, 1) := by decide +kernel
theorem d_A_haveSameSlot_51 : decode b_A_haveSameSlot 51 = .ok (.iload_n 3, 1) := by decide +kernel
theorem d_A_haveSameSlot_52 : decode b_A_haveSameSlot 52 = .ok (.invokevirtual 72, 3) := by decide +kernel
theorem d_A_haveSameSlot_55 : decode b_A_haveSameSlot 55 = .ok (.invokevirtual 35, 3) := by decide +kernel
theorem d_A_haveSameSlot_58 : decode b_A_haveSameSlot 58 = .ok (.ireturn, 1) := by decide +kernel
theorem d_A_haveSameSlot_59 : decode b_A_haveSameSlot 59 = .ok (.aload_n 0, 1) := by decide +kernel
theorem d_A_haveSameSlot_60 : decode b_A_haveSameSlot 60 = .ok (.getfield 21, 3) := by decide +kernel
theorem d_A_haveSameSlot_63 : decode b_A_haveSameSlot 63 = .ok (.iload_n 1, 1) := by decide +kernel
theorem d_A_haveSameSlot_64 : decode b_A_haveSameSlot 64 = .ok (.iload_n 3, 1) := by decide +kernel
theorem d_A_haveSameSlot_65 : decode b_A_haveSameSlot 65 = .ok (.invokevirtual 72, 3) := by decide +kernel
theorem d_A_haveSameSlot_68 : decode b_A_haveSameSlot 68 = .ok (.aload_n 0, 1) := by decide +kernel
theorem d_A_haveSameSlot_69 : decode b_A_haveSameSlot 69 = .ok (.getfield 21, 3) := by decide +kernel
theorem d_A_haveSameSlot_72 : decode b_A_haveSameSlot 72 = .ok (.iload_n 2, 1) := by decide +kernel
theorem d_A_haveSameSlot_73 : decode b_A_haveSameSlot 73 = .ok (.iload_n 3, 1) := by decide +kernel
theorem d_A_haveSameSlot_74 : decode b_A_haveSameSlot 74 = .ok (.invokevirtual 72, 3) := by decide +kernel
theorem d_A_haveSameSlot_77 : decode b_A_haveSameSlot 77 = .ok (.if_icmp .ne 7, 3) := by decide +kernel
theorem d_A_haveSameSlot_80 : decode b_A_haveSameSlot 80 = .ok (.iconst 1, 1) := by decide +kernel
theorem d_A_haveSameSlot_81 : decode b_A_haveSameSlot 81 = .ok (.goto 4, 3) := by decide +kernel
theorem d_A_haveSameSlot_84 : decode b_A_haveSameSlot 84 = .ok (.iconst 0, 1) := by decide +kernel
theorem d_A_haveSameSlot_85 : decode b_A_haveSameSlot 85 = .ok (.ireturn, 1) := by decide +kernel
theorem d_P_init_0 : decode b_P_init 0 = .ok (.aload_n 0, 1) := by decide +kernel
theorem d_P_init_1 : decode b_P_init 1 = .ok (.invokespecial 3, 3) := by decide +kernel
theorem d_P_init_4 : decode b_P_init 4 = .ok (.aload_n 0, 1) := by decide +kernel
theorem d_P_init_5 : decode b_P_init 5 = .ok (.sipush 1600, 3) := by decide +kernel
theorem d_P_init_8 : decode b_P_init 8 = .ok (.newarray .char, 2) := by decide +kernel
theorem d_P_init_10 : decode b_P_init 10 = .ok (.putfield 9, 3) := by decide +kernel
theorem d_P_init_13 : decode b_P_init 13 = .ok (.return_, 1) := by decide +kernel
theorem d_P_codeAt_0 : decode b_P_codeAt 0 = .ok (.iload_n 1, 1) := by decide +kernel
theorem d_P_codeAt_1 : decode b_P_codeAt 1 = .ok (.ifCond .lt 20, 3) := by decide +kernel
theorem d_P_codeAt_4 : decode b_P_codeAt 4 = .ok (.iload_n 1, 1) := by decide +kernel
theorem d_P_codeAt_5 : decode b_P_codeAt 5 = .ok (.aload_n 0, 1) := by decide +kernel
theorem d_P_codeAt_6 : decode b_P_codeAt 6 = .ok (.getfield 15, 3) := by decide +kernel
theorem d_P_codeAt_9 : decode b_P_codeAt 9 = .ok (.if_icmp .ge 12, 3) := by decide +kernel
theorem d_P_codeAt_12 : decode b_P_codeAt 12 = .ok (.aload_n 0, 1) := by decide +kernel
theorem d_P_codeAt_13 : decode b_P_codeAt 13 = .ok (.getfield 9, 3) := by decide +kernel
theorem d_P_codeAt_16 : decode b_P_codeAt 16 = .ok (.iload_n 1, 1) := by decide +kernel
theorem d_P_codeAt_17 : decode b_P_codeAt 17 = .ok (.caload, 1) := by decide +kernel
theorem d_P_codeAt_18 : decode b_P_codeAt 18 = .ok (.goto 4, 3) := by decide +kernel
theorem d_P_codeAt_21 : decode b_P_codeAt 21 = .ok (.iconst (-1), 1) := by decide +kernel
theorem d_P_codeAt_22 : decode b_P_codeAt 22 = .ok (.ireturn, 1) := by decide +kernel
theorem d_P_append_0 : decode b_P_append 0 = .ok (.aload_n 0, 1) := by decide +kernel
theorem d_P_append_1 : decode b_P_append 1 = .ok (.getfield 15, 3) := by decide +kernel
theorem d_P_append_4 : decode b_P_append 4 = .ok (.sipush 1600, 3) := by decide +kernel
theorem d_P_append_7 : decode b_P_append 7 = .ok (.if_icmp .lt 5, 3) := by decide +kernel
theorem d_P_append_10 : decode b_P_append 10 = .ok (.iconst 0, 1) := by decide +kernel
theorem d_P_append_11 : decode b_P_append 11 = .ok (.ireturn, 1) := by decide +kernel
theorem d_P_append_12 : decode b_P_append 12 = .ok (.aload_n 0, 1) := by decide +kernel
theorem d_P_append_13 : decode b_P_append 13 = .ok (.getfield 9, 3) := by decide +kernel
theorem d_P_append_16 : decode b_P_append 16 = .ok (.aload_n 0, 1) := by decide +kernel
theorem d_P_append_17 : decode b_P_append 17 = .ok (.getfield 15, 3) := by decide +kernel
theorem d_P_append_20 : decode b_P_append 20 = .ok (.iload_n 1, 1) := by decide +kernel
theorem d_P_append_21 : decode b_P_append 21 = .ok (.castore, 1) := by decide +kernel
theorem d_P_append_22 : decode b_P_append 22 = .ok (.aload_n 0, 1) := by decide +kernel
theorem d_P_append_23 : decode b_P_append 23 = .ok (.dup, 1) := by decide +kernel
theorem d_P_append_24 : decode b_P_append 24 = .ok (.getfield 15, 3) := by decide +kernel
theorem d_P_append_27 : decode b_P_append 27 = .ok (.iconst 1, 1) := by decide +kernel
theorem d_P_append_28 : decode b_P_append 28 = .ok (.iadd, 1) := by decide +kernel
theorem d_P_append_29 : decode b_P_append 29 = .ok (.putfield 15, 3) := by decide +kernel
theorem d_P_append_32 : decode b_P_append 32 = .ok (.iconst 1, 1) := by decide +kernel
theorem d_P_append_33 : decode b_P_append 33 = .ok (.ireturn, 1) := by decide +kernel
theorem d_P_showsAt_0 : decode b_P_showsAt 0 = .ok (.iconst 0, 1) := by decide +kernel
theorem d_P_showsAt_1 : decode b_P_showsAt 1 = .ok (.istore_n 3, 1) := by decide +kernel
theorem d_P_showsAt_2 : decode b_P_showsAt 2 = .ok (.iload_n 3, 1) := by decide +kernel
theorem d_P_showsAt_3 : decode b_P_showsAt 3 = .ok (.aload_n 2, 1) := by decide +kernel
theorem d_P_showsAt_4 : decode b_P_showsAt 4 = .ok (.invokevirtual 19, 3) := by decide +kernel
theorem d_P_showsAt_7 : decode b_P_showsAt 7 = .ok (.if_icmp .ge 26, 3) := by decide +kernel
theorem d_P_showsAt_10 : decode b_P_showsAt 10 = .ok (.aload_n 0, 1) := by decide +kernel
theorem d_P_showsAt_11 : decode b_P_showsAt 11 = .ok (.iload_n 1, 1) := by decide +kernel
theorem d_P_showsAt_12 : decode b_P_showsAt 12 = .ok (.iload_n 3, 1) := by decide +kernel
theorem d_P_showsAt_13 : decode b_P_showsAt 13 = .ok (.iadd, 1) := by decide +kernel
theorem d_P_showsAt_14 : decode b_P_showsAt 14 = .ok (.invokevirtual 25, 3) := by decide +kernel
theorem d_P_showsAt_17 : decode b_P_showsAt 17 = .ok (.aload_n 2, 1) := by decide +kernel
theorem d_P_showsAt_18 : decode b_P_showsAt 18 = .ok (.iload_n 3, 1) := by decide +kernel
theorem d_P_showsAt_19 : decode b_P_showsAt 19 = .ok (.invokevirtual 29, 3) := by decide +kernel
theorem d_P_showsAt_22 : decode b_P_showsAt 22 = .ok (.if_icmp .eq 5, 3) := by decide +kernel
theorem d_P_showsAt_25 : decode b_P_showsAt 25 = .ok (.iconst 0, 1) := by decide +kernel
theorem d_P_showsAt_26 : decode b_P_showsAt 26 = .ok (.ireturn, 1) := by decide +kernel
theorem d_P_showsAt_27 : decode b_P_showsAt 27 = .ok (.iinc 3 1, 3) := by decide +kernel
theorem d_P_showsAt_30 : decode b_P_showsAt 30 = .ok (.goto (-28), 3) := by decide +kernel
theorem d_P_showsAt_33 : decode b_P_showsAt 33 = .ok (.iconst 1, 1) := by decide +kernel
theorem d_P_showsAt_34 : decode b_P_showsAt 34 = .ok (.ireturn, 1) := by decide +kernel
theorem d_R_init_0 : decode b_R_init 0 = .ok (.aload_n 0, 1) := by decide +kernel
theorem d_R_init_1 : decode b_R_init 1 = .ok (.invokespecial 3, 3) := by decide +kernel
theorem d_R_init_4 : decode b_R_init 4 = .ok (.aload_n 0, 1) := by decide +kernel
theorem d_R_init_5 : decode b_R_init 5 = .ok (.bipush 16, 2) := by decide +kernel
theorem d_R_init_7 : decode b_R_init 7 = .ok (.newarray .int, 2) := by decide +kernel
theorem d_R_init_9 : decode b_R_init 9 = .ok (.putfield 9, 3) := by decide +kernel
theorem d_R_init_12 : decode b_R_init 12 = .ok (.aload_n 0, 1) := by decide +kernel
theorem d_R_init_13 : decode b_R_init 13 = .ok (.bipush 16, 2) := by decide +kernel
theorem d_R_init_15 : decode b_R_init 15 = .ok (.newarray .int, 2) := by decide +kernel
theorem d_R_init_17 : decode b_R_init 17 = .ok (.putfield 15, 3) := by decide +kernel
theorem d_R_init_20 : decode b_R_init 20 = .ok (.aload_n 0, 1) := by decide +kernel
theorem d_R_init_21 : decode b_R_init 21 = .ok (.aload_n 1, 1) := by decide +kernel
theorem d_R_init_22 : decode b_R_init 22 = .ok (.putfield 18, 3) := by decide +kernel
theorem d_R_init_25 : decode b_R_init 25 = .ok (.return_, 1) := by decide +kernel
theorem d_R_startFrom_0 : decode b_R_startFrom 0 = .ok (.aload_n 0, 1) := by decide +kernel
theorem d_R_startFrom_1 : decode b_R_startFrom 1 = .ok (.getfield 9, 3) := by decide +kernel
theorem d_R_startFrom_4 : decode b_R_startFrom 4 = .ok (.iconst 0, 1) := by decide +kernel
theorem d_R_startFrom_5 : decode b_R_startFrom 5 = .ok (.invokestatic 22, 3) := by decide +kernel
theorem d_R_startFrom_8 : decode b_R_startFrom 8 = .ok (.aload_n 0, 1) := by decide +kernel
theorem d_R_startFrom_9 : decode b_R_startFrom 9 = .ok (.iconst 0, 1) := by decide +kernel
theorem d_R_startFrom_10 : decode b_R_startFrom 10 = .ok (.putfield 28, 3) := by decide +kernel
theorem d_R_startFrom_13 : decode b_R_startFrom 13 = .ok (.aload_n 0, 1) := by decide +kernel
theorem d_R_startFrom_14 : decode b_R_startFrom 14 = .ok (.iload_n 1, 1) := by decide +kernel
theorem d_R_startFrom_15 : decode b_R_startFrom 15 = .ok (.invokevirtual 32, 3) := by decide +kernel
theorem d_R_startFrom_18 : decode b_R_startFrom 18 = .ok (.iconst 0, 1) := by decide +kernel
theorem d_R_startFrom_19 : decode b_R_startFrom 19 = .ok (.istore_n 2, 1) := by decide +kernel
theorem d_R_startFrom_20 : decode b_R_startFrom 20 = .ok (.iload_n 2, 1) := by decide +kernel
theorem d_R_startFrom_21 : decode b_R_startFrom 21 = .ok (.bipush 16, 2) := by decide +kernel
theorem d_R_startFrom_23 : decode b_R_startFrom 23 = .ok (.if_icmp .ge 27, 3) := by decide +kernel
theorem d_R_startFrom_26 : decode b_R_startFrom 26 = .ok (.iload_n 2, 1) := by decide +kernel
theorem d_R_startFrom_27 : decode b_R_startFrom 27 = .ok (.aload_n 0, 1) := by decide +kernel
theorem d_R_startFrom_28 : decode b_R_startFrom 28 = .ok (.getfield 28, 3) := by decide +kernel
theorem d_R_startFrom_31 : decode b_R_startFrom 31 = .ok (.if_icmp .ge 19, 3) := by decide +kernel
theorem d_R_startFrom_34 : decode b_R_startFrom 34 = .ok (.aload_n 0, 1) := by decide +kernel
theorem d_R_startFrom_35 : decode b_R_startFrom 35 = .ok (.aload_n 0, 1) := by decide +kernel
theorem d_R_startFrom_36 : decode b_R_startFrom 36 = .ok (.getfield 15, 3) := by decide +kernel
theorem d_R_startFrom_39 : decode b_R_startFrom 39 = .ok (.iload_n 2, 1) := by decide +kernel
theorem d_R_startFrom_40 : decode b_R_startFrom 40 = .ok (.iaload, 1) := by decide +kernel
theorem d_R_startFrom_41 : decode b_R_startFrom 41 = .ok (.invokevirtual 36, 3) := by decide +kernel
theorem d_R_startFrom_44 : decode b_R_startFrom 44 = .ok (.iinc 2 1, 3) := by decide +kernel
theorem d_R_startFrom_47 : decode b_R_startFrom 47 = .ok (.goto (-27), 3) := by decide +kernel
theorem d_R_startFrom_50 : decode b_R_startFrom 50 = .ok (.return_, 1) := by decide +kernel
theorem d_R_followSlots_0 : decode b_R_followSlots 0 = .ok (.iconst 0, 1) := by decide +kernel
theorem d_R_followSlots_1 : decode b_R_followSlots 1 = .ok (.istore_n 2, 1) := by decide +kernel
theorem d_R_followSlots_2 : decode b_R_followSlots 2 = .ok (.iload_n 2, 1) := by decide +kernel
theorem d_R_followSlots_3 : decode b_R_followSlots 3 = .ok (.iconst 4, 1) := by decide +kernel
theorem d_R_followSlots_4 : decode b_R_followSlots 4 = .ok (.if_icmp .ge 47, 3) := by decide +kernel
theorem d_R_followSlots_7 : decode b_R_followSlots 7 = .ok (.aload_n 0, 1) := by decide +kernel
theorem d_R_followSlots_8 : decode b_R_followSlots 8 = .ok (.getfield 18, 3) := by decide +kernel
theorem d_R_followSlots_11 : decode b_R_followSlots 11 = .ok (.iload_n 1, 1) := by decide +kernel
theorem d_R_followSlots_12 : decode b_R_followSlots 12 = .ok (.iload_n 2, 1) := by decide +kernel
theorem d_R_followSlots_13 : decode b_R_followSlots 13 = .ok (.invokevirtual 39, 3) := by decide +kernel
theorem d_R_followSlots_16 : decode b_R_followSlots 16 = .ok (.ifCond .eq 29, 3) := by decide +kernel
theorem d_R_followSlots_19 : decode b_R_followSlots 19 = .ok (.aload_n 0, 1) := by decide +kernel
theorem d_R_followSlots_20 : decode b_R_followSlots 20 = .ok (.getfield 18, 3) := by decide +kernel
theorem d_R_followSlots_23 : decode b_R_followSlots 23 = .ok (.iload_n 1, 1) := by decide +kernel
theorem d_R_followSlots_24 : decode b_R_followSlots 24 = .ok (.iload_n 2, 1) := by decide +kernel
theorem d_R_followSlots_25 : decode b_R_followSlots 25 = .ok (.invokevirtual 45, 3) := by decide +kernel
theorem d_R_followSlots_28 : decode b_R_followSlots 28 = .ok (.iconst 2, 1) := by decide +kernel
theorem d_R_followSlots_29 : decode b_R_followSlots 29 = .ok (.if_icmp .ne 16, 3) := by decide +kernel
theorem d_R_followSlots_32 : decode b_R_followSlots 32 = .ok (.aload_n 0, 1) := by decide +kernel
theorem d_R_followSlots_33 : decode b_R_followSlots 33 = .ok (.aload_n 0, 1) := by decide +kernel
theorem d_R_followSlots_34 : decode b_R_followSlots 34 = .ok (.getfield 18, 3) := by decide +kernel
theorem d_R_followSlots_37 : decode b_R_followSlots 37 = .ok (.iload_n 1, 1) := by decide +kernel
theorem d_R_followSlots_38 : decode b_R_followSlots 38 = .ok (.iload_n 2, 1) := by decide +kernel
theorem d_R_followSlots_39 : decode b_R_followSlots 39 = .ok (.invokevirtual 49, 3) := by decide +kernel
theorem d_R_followSlots_42 : decode b_R_followSlots 42 = .ok (.invokevirtual 32, 3) := by decide +kernel
theorem d_R_followSlots_45 : decode b_R_followSlots 45 = .ok (.iinc 2 1, 3) := by decide +kernel
theorem d_R_followSlots_48 : decode b_R_followSlots 48 = .ok (.goto (-46), 3) := by decide +kernel
theorem d_R_followSlots_51 : decode b_R_followSlots 51 = .ok (.return_, 1) := by decide +kernel
theorem d_R_refer_0 : decode b_R_refer 0 = .ok (.aload_n 0, 1) := by decide +kernel
theorem d_R_refer_1 : decode b_R_refer 1 = .ok (.getfield 9, 3) := by decide +kernel
theorem d_R_refer_4 : decode b_R_refer 4 = .ok (.iload_n 1, 1) := by decide +kernel
theorem d_R_refer_5 : decode b_R_refer 5 = .ok (.dup2, 1) := by decide +kernel
theorem d_R_refer_6 : decode b_R_refer 6 = .ok (.iaload, 1) := by decide +kernel
theorem d_R_refer_7 : decode b_R_refer 7 = .ok (.iconst 1, 1) := by decide +kernel
theorem d_R_refer_8 : decode b_R_refer 8 = .ok (.iadd, 1) := by decide +kernel
theorem d_R_refer_9 : decode b_R_refer 9 = .ok (.iastore, 1) := by decide +kernel
theorem d_R_refer_10 : decode b_R_refer 10 = .ok (.aload_n 0, 1) := by decide +kernel
theorem d_R_refer_11 : decode b_R_refer 11 = .ok (.getfield 9, 3) := by decide +kernel
theorem d_R_refer_14 : decode b_R_refer 14 = .ok (.iload_n 1, 1) := by decide +kernel
theorem d_R_refer_15 : decode b_R_refer 15 = .ok (.iaload, 1) := by decide +kernel
theorem d_R_refer_16 : decode b_R_refer 16 = .ok (.iconst 1, 1) := by decide +kernel
theorem d_R_refer_17 : decode b_R_refer 17 = .ok (.if_icmp .ne 23, 3) := by decide +kernel
theorem d_R_refer_20 : decode b_R_refer 20 = .ok (.aload_n 0, 1) := by decide +kernel
theorem d_R_refer_21 : decode b_R_refer 21 = .ok (.getfield 15, 3) := by decide +kernel
theorem d_R_refer_24 : decode b_R_refer 24 = .ok (.aload_n 0, 1) := by decide +kernel
theorem d_R_refer_25 : decode b_R_refer 25 = .ok (.getfield 28, 3) := by decide +kernel
theorem d_R_refer_28 : decode b_R_refer 28 = .ok (.iload_n 1, 1) := by decide +kernel
theorem d_R_refer_29 : decode b_R_refer 29 = .ok (.iastore, 1) := by decide +kernel
theorem d_R_refer_30 : decode b_R_refer 30 = .ok (.aload_n 0, 1) := by decide +kernel
theorem d_R_refer_31 : decode b_R_refer 31 = .ok (.dup, 1) := by decide +kernel
theorem d_R_refer_32 : decode b_R_refer 32 = .ok (.getfield 28, 3) := by decide +kernel
theorem d_R_refer_35 : decode b_R_refer 35 = .ok (.iconst 1, 1) := by decide +kernel
theorem d_R_refer_36 : decode b_R_refer 36 = .ok (.iadd, 1) := by decide +kernel
theorem d_R_refer_37 : decode b_R_refer 37 = .ok (.putfield 28, 3) := by decide +kernel
theorem d_R_refer_40 : decode b_R_refer 40 = .ok (.return_, 1) := by decide +kernel
theorem d_R_isShared_0 : decode b_R_isShared 0 = .ok (.aload_n 0, 1) := by decide +kernel
theorem d_R_isShared_1 : decode b_R_isShared 1 = .ok (.getfield 9, 3) := by decide +kernel
theorem d_R_isShared_4 : decode b_R_isShared 4 = .ok (.iload_n 1, 1) := by decide +kernel
theorem d_R_isShared_5 : decode b_R_isShared 5 = .ok (.iaload, 1) := by decide +kernel
theorem d_R_isShared_6 : decode b_R_isShared 6 = .ok (.iconst 2, 1) := by decide +kernel
theorem d_R_isShared_7 : decode b_R_isShared 7 = .ok (.if_icmp .lt 7, 3) := by decide +kernel
theorem d_R_isShared_10 : decode b_R_isShared 10 = .ok (.iconst 1, 1) := by decide +kernel
theorem d_R_isShared_11 : decode b_R_isShared 11 = .ok (.goto 4, 3) := by decide +kernel
theorem d_R_isShared_14 : decode b_R_isShared 14 = .ok (.iconst 0, 1) := by decide +kernel
theorem d_R_isShared_15 : decode b_R_isShared 15 = .ok (.ireturn, 1) := by decide +kernel
theorem d_R_countShared_0 : decode b_R_countShared 0 = .ok (.iconst 0, 1) := by decide +kernel
theorem d_R_countShared_1 : decode b_R_countShared 1 = .ok (.istore_n 1, 1) := by decide +kernel
theorem d_R_countShared_2 : decode b_R_countShared 2 = .ok (.iconst 0, 1) := by decide +kernel
theorem d_R_countShared_3 : decode b_R_countShared 3 = .ok (.istore_n 2, 1) := by decide +kernel
theorem d_R_countShared_4 : decode b_R_countShared 4 = .ok (.iload_n 2, 1) := by decide +kernel
theorem d_R_countShared_5 : decode b_R_countShared 5 = .ok (.bipush 16, 2) := by decide +kernel
theorem d_R_countShared_7 : decode b_R_countShared 7 = .ok (.if_icmp .ge 20, 3) := by decide +kernel
theorem d_R_countShared_10 : decode b_R_countShared 10 = .ok (.aload_n 0, 1) := by decide +kernel
theorem d_R_countShared_11 : decode b_R_countShared 11 = .ok (.iload_n 2, 1) := by decide +kernel
theorem d_R_countShared_12 : decode b_R_countShared 12 = .ok (.invokevirtual 52, 3) := by decide +kernel
theorem d_R_countShared_15 : decode b_R_countShared 15 = .ok (.ifCond .eq 6, 3) := by decide +kernel
theorem d_R_countShared_18 : decode b_R_countShared 18 = .ok (.iinc 1 1, 3) := by decide +kernel
theorem d_R_countShared_21 : decode b_R_countShared 21 = .ok (.iinc 2 1, 3) := by decide +kernel
theorem d_R_countShared_24 : decode b_R_countShared 24 = .ok (.goto (-20), 3) := by decide +kernel
theorem d_R_countShared_27 : decode b_R_countShared 27 = .ok (.iload_n 1, 1) := by decide +kernel
theorem d_R_countShared_28 : decode b_R_countShared 28 = .ok (.ireturn, 1) := by decide +kernel
theorem d_W_init_0 : decode b_W_init 0 = .ok (.aload_n 0, 1) := by decide +kernel
theorem d_W_init_1 : decode b_W_init 1 = .ok (.invokespecial 3, 3) := by decide +kernel
theorem d_W_init_4 : decode b_W_init 4 = .ok (.aload_n 0, 1) := by decide +kernel
theorem d_W_init_5 : decode b_W_init 5 = .ok (.bipush 16, 2) := by decide +kernel
theorem d_W_init_7 : decode b_W_init 7 = .ok (.newarray .int, 2) := by decide +kernel
theorem d_W_init_9 : decode b_W_init 9 = .ok (.putfield 9, 3) := by decide +kernel
theorem d_W_init_12 : decode b_W_init 12 = .ok (.aload_n 0, 1) := by decide +kernel
theorem d_W_init_13 : decode b_W_init 13 = .ok (.bipush 16, 2) := by decide +kernel
theorem d_W_init_15 : decode b_W_init 15 = .ok (.newarray .int, 2) := by decide +kernel
theorem d_W_init_17 : decode b_W_init 17 = .ok (.putfield 15, 3) := by decide +kernel
theorem d_W_init_20 : decode b_W_init 20 = .ok (.aload_n 0, 1) := by decide +kernel
theorem d_W_init_21 : decode b_W_init 21 = .ok (.aload_n 1, 1) := by decide +kernel
theorem d_W_init_22 : decode b_W_init 22 = .ok (.putfield 18, 3) := by decide +kernel
theorem d_W_init_25 : decode b_W_init 25 = .ok (.aload_n 0, 1) := by decide +kernel
theorem d_W_init_26 : decode b_W_init 26 = .ok (.aload_n 2, 1) := by decide +kernel
theorem d_W_init_27 : decode b_W_init 27 = .ok (.putfield 22, 3) := by decide +kernel
theorem d_W_init_30 : decode b_W_init 30 = .ok (.aload_n 0, 1) := by decide +kernel
theorem d_W_init_31 : decode b_W_init 31 = .ok (.aload_n 3, 1) := by decide +kernel
theorem d_W_init_32 : decode b_W_init 32 = .ok (.putfield 26, 3) := by decide +kernel
theorem d_W_init_35 : decode b_W_init 35 = .ok (.return_, 1) := by decide +kernel
theorem d_W_writeFrom_0 : decode b_W_writeFrom 0 = .ok (.aload_n 0, 1) := by decide +kernel
theorem d_W_writeFrom_1 : decode b_W_writeFrom 1 = .ok (.getfield 22, 3) := by decide +kernel
theorem d_W_writeFrom_4 : decode b_W_writeFrom 4 = .ok (.iload_n 1, 1) := by decide +kernel
theorem d_W_writeFrom_5 : decode b_W_writeFrom 5 = .ok (.invokevirtual 30, 3) := by decide +kernel
theorem d_W_writeFrom_8 : decode b_W_writeFrom 8 = .ok (.aload_n 0, 1) := by decide +kernel
theorem d_W_writeFrom_9 : decode b_W_writeFrom 9 = .ok (.getfield 9, 3) := by decide +kernel
theorem d_W_writeFrom_12 : decode b_W_writeFrom 12 = .ok (.iconst 0, 1) := by decide +kernel
theorem d_W_writeFrom_13 : decode b_W_writeFrom 13 = .ok (.invokestatic 36, 3) := by decide +kernel
theorem d_W_writeFrom_16 : decode b_W_writeFrom 16 = .ok (.aload_n 0, 1) := by decide +kernel
theorem d_W_writeFrom_17 : decode b_W_writeFrom 17 = .ok (.iconst 0, 1) := by decide +kernel
theorem d_W_writeFrom_18 : decode b_W_writeFrom 18 = .ok (.putfield 42, 3) := by decide +kernel
theorem d_W_writeFrom_21 : decode b_W_writeFrom 21 = .ok (.aload_n 0, 1) := by decide +kernel
theorem d_W_writeFrom_22 : decode b_W_writeFrom 22 = .ok (.getfield 26, 3) := by decide +kernel
theorem d_W_writeFrom_25 : decode b_W_writeFrom 25 = .ok (.iconst 0, 1) := by decide +kernel
theorem d_W_writeFrom_26 : decode b_W_writeFrom 26 = .ok (.putfield 46, 3) := by decide +kernel
theorem d_W_writeFrom_29 : decode b_W_writeFrom 29 = .ok (.aload_n 0, 1) := by decide +kernel
theorem d_W_writeFrom_30 : decode b_W_writeFrom 30 = .ok (.ldc 51, 2) := by decide +kernel
theorem d_W_writeFrom_32 : decode b_W_writeFrom 32 = .ok (.invokevirtual 53, 3) := by decide +kernel
theorem d_W_writeFrom_35 : decode b_W_writeFrom 35 = .ok (.aload_n 0, 1) := by decide +kernel
theorem d_W_writeFrom_36 : decode b_W_writeFrom 36 = .ok (.iload_n 1, 1) := by decide +kernel
theorem d_W_writeFrom_37 : decode b_W_writeFrom 37 = .ok (.iconst 0, 1) := by decide +kernel
theorem d_W_writeFrom_38 : decode b_W_writeFrom 38 = .ok (.invokevirtual 57, 3) := by decide +kernel
theorem d_W_writeFrom_41 : decode b_W_writeFrom 41 = .ok (.iconst 0, 1) := by decide +kernel
theorem d_W_writeFrom_42 : decode b_W_writeFrom 42 = .ok (.istore_n 2, 1) := by decide +kernel
theorem d_W_writeFrom_43 : decode b_W_writeFrom 43 = .ok (.iload_n 2, 1) := by decide +kernel
theorem d_W_writeFrom_44 : decode b_W_writeFrom 44 = .ok (.bipush 16, 2) := by decide +kernel
theorem d_W_writeFrom_46 : decode b_W_writeFrom 46 = .ok (.if_icmp .ge 28, 3) := by decide +kernel
theorem d_W_writeFrom_49 : decode b_W_writeFrom 49 = .ok (.iload_n 2, 1) := by decide +kernel
theorem d_W_writeFrom_50 : decode b_W_writeFrom 50 = .ok (.aload_n 0, 1) := by decide +kernel
theorem d_W_writeFrom_51 : decode b_W_writeFrom 51 = .ok (.getfield 42, 3) := by decide +kernel
theorem d_W_writeFrom_54 : decode b_W_writeFrom 54 = .ok (.if_icmp .ge 20, 3) := by decide +kernel
theorem d_W_writeFrom_57 : decode b_W_writeFrom 57 = .ok (.aload_n 0, 1) := by decide +kernel
theorem d_W_writeFrom_58 : decode b_W_writeFrom 58 = .ok (.aload_n 0, 1) := by decide +kernel
theorem d_W_writeFrom_59 : decode b_W_writeFrom 59 = .ok (.getfield 15, 3) := by decide +kernel
theorem d_W_writeFrom_62 : decode b_W_writeFrom 62 = .ok (.iload_n 2, 1) := by decide +kernel
theorem d_W_writeFrom_63 : decode b_W_writeFrom 63 = .ok (.iaload, 1) := by decide +kernel
theorem d_W_writeFrom_64 : decode b_W_writeFrom 64 = .ok (.iconst 0, 1) := by decide +kernel
theorem d_W_writeFrom_65 : decode b_W_writeFrom 65 = .ok (.invokevirtual 61, 3) := by decide +kernel
theorem d_W_writeFrom_68 : decode b_W_writeFrom 68 = .ok (.iinc 2 1, 3) := by decide +kernel
theorem d_W_writeFrom_71 : decode b_W_writeFrom 71 = .ok (.goto (-28), 3) := by decide +kernel
theorem d_W_writeFrom_74 : decode b_W_writeFrom 74 = .ok (.aload_n 0, 1) := by decide +kernel
theorem d_W_writeFrom_75 : decode b_W_writeFrom 75 = .ok (.ldc 64, 2) := by decide +kernel
theorem d_W_writeFrom_77 : decode b_W_writeFrom 77 = .ok (.invokevirtual 53, 3) := by decide +kernel
theorem d_W_writeFrom_80 : decode b_W_writeFrom 80 = .ok (.return_, 1) := by decide +kernel
theorem d_W_writeReference_0 : decode b_W_writeReference 0 = .ok (.aload_n 0, 1) := by decide +kernel
theorem d_W_writeReference_1 : decode b_W_writeReference 1 = .ok (.getfield 22, 3) := by decide +kernel
theorem d_W_writeReference_4 : decode b_W_writeReference 4 = .ok (.iload_n 1, 1) := by decide +kernel
theorem d_W_writeReference_5 : decode b_W_writeReference 5 = .ok (.invokevirtual 66, 3) := by decide +kernel
theorem d_W_writeReference_8 : decode b_W_writeReference 8 = .ok (.ifCond .eq 35, 3) := by decide +kernel
theorem d_W_writeReference_11 : decode b_W_writeReference 11 = .ok (.aload_n 0, 1) := by decide +kernel
theorem d_W_writeReference_12 : decode b_W_writeReference 12 = .ok (.iload_n 1, 1) := by decide +kernel
theorem d_W_writeReference_13 : decode b_W_writeReference 13 = .ok (.invokevirtual 70, 3) := by decide +kernel
theorem d_W_writeReference_16 : decode b_W_writeReference 16 = .ok (.aload_n 0, 1) := by decide +kernel
theorem d_W_writeReference_17 : decode b_W_writeReference 17 = .ok (.ldc 73, 2) := by decide +kernel
theorem d_W_writeReference_19 : decode b_W_writeReference 19 = .ok (.invokevirtual 53, 3) := by decide +kernel
theorem d_W_writeReference_22 : decode b_W_writeReference 22 = .ok (.aload_n 0, 1) := by decide +kernel
theorem d_W_writeReference_23 : decode b_W_writeReference 23 = .ok (.ldc 75, 2) := by decide +kernel
theorem d_W_writeReference_25 : decode b_W_writeReference 25 = .ok (.aload_n 0, 1) := by decide +kernel
theorem d_W_writeReference_26 : decode b_W_writeReference 26 = .ok (.getfield 9, 3) := by decide +kernel
theorem d_W_writeReference_29 : decode b_W_writeReference 29 = .ok (.iload_n 1, 1) := by decide +kernel
theorem d_W_writeReference_30 : decode b_W_writeReference 30 = .ok (.iaload, 1) := by decide +kernel
theorem d_W_writeReference_31 : decode b_W_writeReference 31 = .ok (.invokevirtual 77, 3) := by decide +kernel
theorem d_W_writeReference_34 : decode b_W_writeReference 34 = .ok (.aload_n 0, 1) := by decide +kernel
theorem d_W_writeReference_35 : decode b_W_writeReference 35 = .ok (.ldc 81, 2) := by decide +kernel
theorem d_W_writeReference_37 : decode b_W_writeReference 37 = .ok (.invokevirtual 53, 3) := by decide +kernel
theorem d_W_writeReference_40 : decode b_W_writeReference 40 = .ok (.goto 17, 3) := by decide +kernel
theorem d_W_writeReference_43 : decode b_W_writeReference 43 = .ok (.iload_n 2, 1) := by decide +kernel
theorem d_W_writeReference_44 : decode b_W_writeReference 44 = .ok (.bipush 16, 2) := by decide +kernel
theorem d_W_writeReference_46 : decode b_W_writeReference 46 = .ok (.if_icmp .ge 11, 3) := by decide +kernel
theorem d_W_writeReference_49 : decode b_W_writeReference 49 = .ok (.aload_n 0, 1) := by decide +kernel
theorem d_W_writeReference_50 : decode b_W_writeReference 50 = .ok (.iload_n 1, 1) := by decide +kernel
theorem d_W_writeReference_51 : decode b_W_writeReference 51 = .ok (.iload_n 2, 1) := by decide +kernel
theorem d_W_writeReference_52 : decode b_W_writeReference 52 = .ok (.iconst 1, 1) := by decide +kernel
theorem d_W_writeReference_53 : decode b_W_writeReference 53 = .ok (.iadd, 1) := by decide +kernel
theorem d_W_writeReference_54 : decode b_W_writeReference 54 = .ok (.invokevirtual 61, 3) := by decide +kernel
theorem d_W_writeReference_57 : decode b_W_writeReference 57 = .ok (.return_, 1) := by decide +kernel
theorem d_W_giveId_0 : decode b_W_giveId 0 = .ok (.aload_n 0, 1) := by decide +kernel
theorem d_W_giveId_1 : decode b_W_giveId 1 = .ok (.getfield 9, 3) := by decide +kernel
theorem d_W_giveId_4 : decode b_W_giveId 4 = .ok (.iload_n 1, 1) := by decide +kernel
theorem d_W_giveId_5 : decode b_W_giveId 5 = .ok (.iaload, 1) := by decide +kernel
theorem d_W_giveId_6 : decode b_W_giveId 6 = .ok (.ifCond .ne 33, 3) := by decide +kernel
theorem d_W_giveId_9 : decode b_W_giveId 9 = .ok (.aload_n 0, 1) := by decide +kernel
theorem d_W_giveId_10 : decode b_W_giveId 10 = .ok (.getfield 15, 3) := by decide +kernel
theorem d_W_giveId_13 : decode b_W_giveId 13 = .ok (.aload_n 0, 1) := by decide +kernel
theorem d_W_giveId_14 : decode b_W_giveId 14 = .ok (.getfield 42, 3) := by decide +kernel
theorem d_W_giveId_17 : decode b_W_giveId 17 = .ok (.iload_n 1, 1) := by decide +kernel
theorem d_W_giveId_18 : decode b_W_giveId 18 = .ok (.iastore, 1) := by decide +kernel
theorem d_W_giveId_19 : decode b_W_giveId 19 = .ok (.aload_n 0, 1) := by decide +kernel
theorem d_W_giveId_20 : decode b_W_giveId 20 = .ok (.dup, 1) := by decide +kernel
theorem d_W_giveId_21 : decode b_W_giveId 21 = .ok (.getfield 42, 3) := by decide +kernel
theorem d_W_giveId_24 : decode b_W_giveId 24 = .ok (.iconst 1, 1) := by decide +kernel
theorem d_W_giveId_25 : decode b_W_giveId 25 = .ok (.iadd, 1) := by decide +kernel
theorem d_W_giveId_26 : decode b_W_giveId 26 = .ok (.putfield 42, 3) := by decide +kernel
theorem d_W_giveId_29 : decode b_W_giveId 29 = .ok (.aload_n 0, 1) := by decide +kernel
theorem d_W_giveId_30 : decode b_W_giveId 30 = .ok (.getfield 9, 3) := by decide +kernel
theorem d_W_giveId_33 : decode b_W_giveId 33 = .ok (.iload_n 1, 1) := by decide +kernel
theorem d_W_giveId_34 : decode b_W_giveId 34 = .ok (.aload_n 0, 1) := by decide +kernel
theorem d_W_giveId_35 : decode b_W_giveId 35 = .ok (.getfield 42, 3) := by decide +kernel
theorem d_W_giveId_38 : decode b_W_giveId 38 = .ok (.iastore, 1) := by decide +kernel
theorem d_W_giveId_39 : decode b_W_giveId 39 = .ok (.return_, 1) := by decide +kernel
theorem d_W_writeElement_0 : decode b_W_writeElement 0 = .ok (.aload_n 0, 1) := by decide +kernel
theorem d_W_writeElement_1 : decode b_W_writeElement 1 = .ok (.getfield 18, 3) := by decide +kernel
theorem d_W_writeElement_4 : decode b_W_writeElement 4 = .ok (.getfield 83, 3) := by decide +kernel
theorem d_W_writeElement_7 : decode b_W_writeElement 7 = .ok (.iload_n 1, 1) := by decide +kernel
theorem d_W_writeElement_8 : decode b_W_writeElement 8 = .ok (.iaload, 1) := by decide +kernel
theorem d_W_writeElement_9 : decode b_W_writeElement 9 = .ok (.istore_n 3, 1) := by decide +kernel
theorem d_W_writeElement_10 : decode b_W_writeElement 10 = .ok (.aload_n 0, 1) := by decide +kernel
theorem d_W_writeElement_11 : decode b_W_writeElement 11 = .ok (.iload_n 1, 1) := by decide +kernel
theorem d_W_writeElement_12 : decode b_W_writeElement 12 = .ok (.invokevirtual 88, 3) := by decide +kernel
theorem d_W_writeElement_15 : decode b_W_writeElement 15 = .ok (.istore 4, 2) := by decide +kernel
theorem d_W_writeElement_17 : decode b_W_writeElement 17 = .ok (.aload_n 0, 1) := by decide +kernel
theorem d_W_writeElement_18 : decode b_W_writeElement 18 = .ok (.iload_n 3, 1) := by decide +kernel
theorem d_W_writeElement_19 : decode b_W_writeElement 19 = .ok (.ifCond .ne 8, 3) := by decide +kernel
theorem d_W_writeElement_22 : decode b_W_writeElement 22 = .ok (.ldc 92, 2) := by decide +kernel
theorem d_W_writeElement_24 : decode b_W_writeElement 24 = .ok (.goto 15, 3) := by decide +kernel
theorem d_W_writeElement_27 : decode b_W_writeElement 27 = .ok (.iload_n 3, 1) := by decide +kernel
theorem d_W_writeElement_28 : decode b_W_writeElement 28 = .ok (.iconst 1, 1) := by decide +kernel
theorem d_W_writeElement_29 : decode b_W_writeElement 29 = .ok (.if_icmp .ne 8, 3) := by decide +kernel
theorem d_W_writeElement_32 : decode b_W_writeElement 32 = .ok (.ldc 94, 2) := by decide +kernel
theorem d_W_writeElement_34 : decode b_W_writeElement 34 = .ok (.goto 5, 3) := by decide +kernel
theorem d_W_writeElement_37 : decode b_W_writeElement 37 = .ok (.ldc 96, 2) := by decide +kernel
theorem d_W_writeElement_39 : decode b_W_writeElement 39 = .ok (.invokevirtual 53, 3) := by decide +kernel
theorem d_W_writeElement_42 : decode b_W_writeElement 42 = .ok (.aload_n 0, 1) := by decide +kernel
theorem d_W_writeElement_43 : decode b_W_writeElement 43 = .ok (.getfield 9, 3) := by decide +kernel
theorem d_W_writeElement_46 : decode b_W_writeElement 46 = .ok (.iload_n 1, 1) := by decide +kernel
theorem d_W_writeElement_47 : decode b_W_writeElement 47 = .ok (.iaload, 1) := by decide +kernel
theorem d_W_writeElement_48 : decode b_W_writeElement 48 = .ok (.ifCond .eq 15, 3) := by decide +kernel
theorem d_W_writeElement_51 : decode b_W_writeElement 51 = .ok (.aload_n 0, 1) := by decide +kernel
theorem d_W_writeElement_52 : decode b_W_writeElement 52 = .ok (.ldc 98, 2) := by decide +kernel
theorem d_W_writeElement_54 : decode b_W_writeElement 54 = .ok (.aload_n 0, 1) := by decide +kernel
theorem d_W_writeElement_55 : decode b_W_writeElement 55 = .ok (.getfield 9, 3) := by decide +kernel
theorem d_W_writeElement_58 : decode b_W_writeElement 58 = .ok (.iload_n 1, 1) := by decide +kernel
theorem d_W_writeElement_59 : decode b_W_writeElement 59 = .ok (.iaload, 1) := by decide +kernel
theorem d_W_writeElement_60 : decode b_W_writeElement 60 = .ok (.invokevirtual 77, 3) := by decide +kernel
theorem d_W_writeElement_63 : decode b_W_writeElement 63 = .ok (.iload_n 3, 1) := by decide +kernel
theorem d_W_writeElement_64 : decode b_W_writeElement 64 = .ok (.iconst 1, 1) := by decide +kernel
theorem d_W_writeElement_65 : decode b_W_writeElement 65 = .ok (.if_icmp .ne 18, 3) := by decide +kernel
theorem d_W_writeElement_68 : decode b_W_writeElement 68 = .ok (.aload_n 0, 1) := by decide +kernel
theorem d_W_writeElement_69 : decode b_W_writeElement 69 = .ok (.ldc 100, 2) := by decide +kernel
theorem d_W_writeElement_71 : decode b_W_writeElement 71 = .ok (.aload_n 0, 1) := by decide +kernel
theorem d_W_writeElement_72 : decode b_W_writeElement 72 = .ok (.getfield 18, 3) := by decide +kernel
theorem d_W_writeElement_75 : decode b_W_writeElement 75 = .ok (.getfield 102, 3) := by decide +kernel
theorem d_W_writeElement_78 : decode b_W_writeElement 78 = .ok (.iload_n 1, 1) := by decide +kernel
theorem d_W_writeElement_79 : decode b_W_writeElement 79 = .ok (.iaload, 1) := by decide +kernel
theorem d_W_writeElement_80 : decode b_W_writeElement 80 = .ok (.invokevirtual 77, 3) := by decide +kernel
theorem d_W_writeElement_83 : decode b_W_writeElement 83 = .ok (.iload 4, 2) := by decide +kernel
theorem d_W_writeElement_85 : decode b_W_writeElement 85 = .ok (.ifCond .le 11, 3) := by decide +kernel
theorem d_W_writeElement_88 : decode b_W_writeElement 88 = .ok (.aload_n 0, 1) := by decide +kernel
theorem d_W_writeElement_89 : decode b_W_writeElement 89 = .ok (.ldc 105, 2) := by decide +kernel
theorem d_W_writeElement_91 : decode b_W_writeElement 91 = .ok (.iload 4, 2) := by decide +kernel
theorem d_W_writeElement_93 : decode b_W_writeElement 93 = .ok (.invokevirtual 77, 3) := by decide +kernel
theorem d_W_writeElement_96 : decode b_W_writeElement 96 = .ok (.aload_n 0, 1) := by decide +kernel
theorem d_W_writeElement_97 : decode b_W_writeElement 97 = .ok (.getfield 26, 3) := by decide +kernel
theorem d_W_writeElement_100 : decode b_W_writeElement 100 = .ok (.bipush 62, 2) := by decide +kernel
theorem d_W_writeElement_102 : decode b_W_writeElement 102 = .ok (.invokevirtual 107, 3) := by decide +kernel
theorem d_W_writeElement_105 : decode b_W_writeElement 105 = .ok (.pop, 1) := by decide +kernel
theorem d_W_writeElement_106 : decode b_W_writeElement 106 = .ok (.iload_n 3, 1) := by decide +kernel
theorem d_W_writeElement_107 : decode b_W_writeElement 107 = .ok (.iconst 2, 1) := by decide +kernel
theorem d_W_writeElement_108 : decode b_W_writeElement 108 = .ok (.if_icmp .ne 11, 3) := by decide +kernel
theorem d_W_writeElement_111 : decode b_W_writeElement 111 = .ok (.aload_n 0, 1) := by decide +kernel
theorem d_W_writeElement_112 : decode b_W_writeElement 112 = .ok (.iload_n 1, 1) := by decide +kernel
theorem d_W_writeElement_113 : decode b_W_writeElement 113 = .ok (.invokevirtual 111, 3) := by decide +kernel
theorem d_W_writeElement_116 : decode b_W_writeElement 116 = .ok (.goto 11, 3) := by decide +kernel
theorem d_W_writeElement_119 : decode b_W_writeElement 119 = .ok (.aload_n 0, 1) := by decide +kernel
theorem d_W_writeElement_120 : decode b_W_writeElement 120 = .ok (.iload_n 1, 1) := by decide +kernel
theorem d_W_writeElement_121 : decode b_W_writeElement 121 = .ok (.iload 4, 2) := by decide +kernel
theorem d_W_writeElement_123 : decode b_W_writeElement 123 = .ok (.iload_n 2, 1) := by decide +kernel
theorem d_W_writeElement_124 : decode b_W_writeElement 124 = .ok (.invokevirtual 114, 3) := by decide +kernel
theorem d_W_writeElement_127 : decode b_W_writeElement 127 = .ok (.aload_n 0, 1) := by decide +kernel
theorem d_W_writeElement_128 : decode b_W_writeElement 128 = .ok (.iload_n 3, 1) := by decide +kernel
theorem d_W_writeElement_129 : decode b_W_writeElement 129 = .ok (.ifCond .ne 8, 3) := by decide +kernel
theorem d_W_writeElement_132 : decode b_W_writeElement 132 = .ok (.ldc 118, 2) := by decide +kernel
theorem d_W_writeElement_134 : decode b_W_writeElement 134 = .ok (.goto 15, 3) := by decide +kernel
theorem d_W_writeElement_137 : decode b_W_writeElement 137 = .ok (.iload_n 3, 1) := by decide +kernel
theorem d_W_writeElement_138 : decode b_W_writeElement 138 = .ok (.iconst 1, 1) := by decide +kernel
theorem d_W_writeElement_139 : decode b_W_writeElement 139 = .ok (.if_icmp .ne 8, 3) := by decide +kernel
theorem d_W_writeElement_142 : decode b_W_writeElement 142 = .ok (.ldc 120, 2) := by decide +kernel
theorem d_W_writeElement_144 : decode b_W_writeElement 144 = .ok (.goto 5, 3) := by decide +kernel
theorem d_W_writeElement_147 : decode b_W_writeElement 147 = .ok (.ldc 122, 2) := by decide +kernel
theorem d_W_writeElement_149 : decode b_W_writeElement 149 = .ok (.invokevirtual 53, 3) := by decide +kernel
theorem d_W_writeElement_152 : decode b_W_writeElement 152 = .ok (.return_, 1) := by decide +kernel
theorem d_W_firstWrittenSlot_0 : decode b_W_firstWrittenSlot 0 = .ok (.iconst 0, 1) := by decide +kernel
theorem d_W_firstWrittenSlot_1 : decode b_W_firstWrittenSlot 1 = .ok (.istore_n 2, 1) := by decide +kernel
theorem d_W_firstWrittenSlot_2 : decode b_W_firstWrittenSlot 2 = .ok (.aload_n 0, 1) := by decide +kernel
theorem d_W_firstWrittenSlot_3 : decode b_W_firstWrittenSlot 3 = .ok (.getfield 18, 3) := by decide +kernel
theorem d_W_firstWrittenSlot_6 : decode b_W_firstWrittenSlot 6 = .ok (.getfield 83, 3) := by decide +kernel
theorem d_W_firstWrittenSlot_9 : decode b_W_firstWrittenSlot 9 = .ok (.iload_n 1, 1) := by decide +kernel
theorem d_W_firstWrittenSlot_10 : decode b_W_firstWrittenSlot 10 = .ok (.iaload, 1) := by decide +kernel
theorem d_W_firstWrittenSlot_11 : decode b_W_firstWrittenSlot 11 = .ok (.iconst 1, 1) := by decide +kernel
theorem d_W_firstWrittenSlot_12 : decode b_W_firstWrittenSlot 12 = .ok (.if_icmp .ne 36, 3) := by decide +kernel
theorem d_W_firstWrittenSlot_15 : decode b_W_firstWrittenSlot 15 = .ok (.iload_n 2, 1) := by decide +kernel
theorem d_W_firstWrittenSlot_16 : decode b_W_firstWrittenSlot 16 = .ok (.aload_n 0, 1) := by decide +kernel
theorem d_W_firstWrittenSlot_17 : decode b_W_firstWrittenSlot 17 = .ok (.getfield 18, 3) := by decide +kernel
theorem d_W_firstWrittenSlot_20 : decode b_W_firstWrittenSlot 20 = .ok (.getfield 102, 3) := by decide +kernel
theorem d_W_firstWrittenSlot_23 : decode b_W_firstWrittenSlot 23 = .ok (.iload_n 1, 1) := by decide +kernel
theorem d_W_firstWrittenSlot_24 : decode b_W_firstWrittenSlot 24 = .ok (.iaload, 1) := by decide +kernel
theorem d_W_firstWrittenSlot_25 : decode b_W_firstWrittenSlot 25 = .ok (.if_icmp .ge 23, 3) := by decide +kernel
theorem d_W_firstWrittenSlot_28 : decode b_W_firstWrittenSlot 28 = .ok (.aload_n 0, 1) := by decide +kernel
theorem d_W_firstWrittenSlot_29 : decode b_W_firstWrittenSlot 29 = .ok (.getfield 18, 3) := by decide +kernel
theorem d_W_firstWrittenSlot_32 : decode b_W_firstWrittenSlot 32 = .ok (.iload_n 1, 1) := by decide +kernel
theorem d_W_firstWrittenSlot_33 : decode b_W_firstWrittenSlot 33 = .ok (.iload_n 2, 1) := by decide +kernel
theorem d_W_firstWrittenSlot_34 : decode b_W_firstWrittenSlot 34 = .ok (.invokevirtual 124, 3) := by decide +kernel
theorem d_W_firstWrittenSlot_37 : decode b_W_firstWrittenSlot 37 = .ok (.ifCond .eq 5, 3) := by decide +kernel
theorem d_W_firstWrittenSlot_40 : decode b_W_firstWrittenSlot 40 = .ok (.iload_n 2, 1) := by decide +kernel
theorem d_W_firstWrittenSlot_41 : decode b_W_firstWrittenSlot 41 = .ok (.ireturn, 1) := by decide +kernel
theorem d_W_firstWrittenSlot_42 : decode b_W_firstWrittenSlot 42 = .ok (.iinc 2 1, 3) := by decide +kernel
theorem d_W_firstWrittenSlot_45 : decode b_W_firstWrittenSlot 45 = .ok (.goto (-43), 3) := by decide +kernel
theorem d_W_firstWrittenSlot_48 : decode b_W_firstWrittenSlot 48 = .ok (.iconst 0, 1) := by decide +kernel
theorem d_W_firstWrittenSlot_49 : decode b_W_firstWrittenSlot 49 = .ok (.ireturn, 1) := by decide +kernel
theorem d_W_behindLastWrittenSlot_0 : decode b_W_behindLastWrittenSlot 0 = .ok (.aload_n 0, 1) := by decide +kernel
theorem d_W_behindLastWrittenSlot_1 : decode b_W_behindLastWrittenSlot 1 = .ok (.getfield 18, 3) := by decide +kernel
theorem d_W_behindLastWrittenSlot_4 : decode b_W_behindLastWrittenSlot 4 = .ok (.getfield 102, 3) := by decide +kernel
theorem d_W_behindLastWrittenSlot_7 : decode b_W_behindLastWrittenSlot 7 = .ok (.iload_n 1, 1) := by decide +kernel
theorem d_W_behindLastWrittenSlot_8 : decode b_W_behindLastWrittenSlot 8 = .ok (.iaload, 1) := by decide +kernel
theorem d_W_behindLastWrittenSlot_9 : decode b_W_behindLastWrittenSlot 9 = .ok (.istore_n 2, 1) := by decide +kernel
theorem d_W_behindLastWrittenSlot_10 : decode b_W_behindLastWrittenSlot 10 = .ok (.aload_n 0, 1) := by decide +kernel
theorem d_W_behindLastWrittenSlot_11 : decode b_W_behindLastWrittenSlot 11 = .ok (.getfield 18, 3) := by decide +kernel
theorem d_W_behindLastWrittenSlot_14 : decode b_W_behindLastWrittenSlot 14 = .ok (.getfield 83, 3) := by decide +kernel
theorem d_W_behindLastWrittenSlot_17 : decode b_W_behindLastWrittenSlot 17 = .ok (.iload_n 1, 1) := by decide +kernel
theorem d_W_behindLastWrittenSlot_18 : decode b_W_behindLastWrittenSlot 18 = .ok (.iaload, 1) := by decide +kernel
theorem d_W_behindLastWrittenSlot_19 : decode b_W_behindLastWrittenSlot 19 = .ok (.iconst 1, 1) := by decide +kernel
theorem d_W_behindLastWrittenSlot_20 : decode b_W_behindLastWrittenSlot 20 = .ok (.if_icmp .ne 27, 3) := by decide +kernel
theorem d_W_behindLastWrittenSlot_23 : decode b_W_behindLastWrittenSlot 23 = .ok (.iload_n 2, 1) := by decide +kernel
theorem d_W_behindLastWrittenSlot_24 : decode b_W_behindLastWrittenSlot 24 = .ok (.ifCond .le 23, 3) := by decide +kernel
theorem d_W_behindLastWrittenSlot_27 : decode b_W_behindLastWrittenSlot 27 = .ok (.aload_n 0, 1) := by decide +kernel
theorem d_W_behindLastWrittenSlot_28 : decode b_W_behindLastWrittenSlot 28 = .ok (.getfield 18, 3) := by decide +kernel
theorem d_W_behindLastWrittenSlot_31 : decode b_W_behindLastWrittenSlot 31 = .ok (.iload_n 1, 1) := by decide +kernel
theorem d_W_behindLastWrittenSlot_32 : decode b_W_behindLastWrittenSlot 32 = .ok (.iload_n 2, 1) := by decide +kernel
theorem d_W_behindLastWrittenSlot_33 : decode b_W_behindLastWrittenSlot 33 = .ok (.iconst 1, 1) := by decide +kernel
theorem d_W_behindLastWrittenSlot_34 : decode b_W_behindLastWrittenSlot 34 = .ok (.isub, 1) := by decide +kernel
theorem d_W_behindLastWrittenSlot_35 : decode b_W_behindLastWrittenSlot 35 = .ok (.invokevirtual 124, 3) := by decide +kernel
theorem d_W_behindLastWrittenSlot_38 : decode b_W_behindLastWrittenSlot 38 = .ok (.ifCond .ne 9, 3) := by decide +kernel
theorem d_W_behindLastWrittenSlot_41 : decode b_W_behindLastWrittenSlot 41 = .ok (.iinc 2 (-1), 3) := by decide +kernel
theorem d_W_behindLastWrittenSlot_44 : decode b_W_behindLastWrittenSlot 44 = .ok (.goto (-34), 3) := by decide +kernel
theorem d_W_behindLastWrittenSlot_47 : decode b_W_behindLastWrittenSlot 47 = .ok (.iload_n 2, 1) := by decide +kernel
theorem d_W_behindLastWrittenSlot_48 : decode b_W_behindLastWrittenSlot 48 = .ok (.ireturn, 1) := by decide +kernel
theorem d_W_writeSlots_0 : decode b_W_writeSlots 0 = .ok (.aload_n 0, 1) := by decide +kernel
theorem d_W_writeSlots_1 : decode b_W_writeSlots 1 = .ok (.iload_n 1, 1) := by decide +kernel
theorem d_W_writeSlots_2 : decode b_W_writeSlots 2 = .ok (.invokevirtual 128, 3) := by decide +kernel
theorem d_W_writeSlots_5 : decode b_W_writeSlots 5 = .ok (.istore 4, 2) := by decide +kernel
theorem d_W_writeSlots_7 : decode b_W_writeSlots 7 = .ok (.iload_n 2, 1) := by decide +kernel
theorem d_W_writeSlots_8 : decode b_W_writeSlots 8 = .ok (.istore 5, 2) := by decide +kernel
theorem d_W_writeSlots_10 : decode b_W_writeSlots 10 = .ok (.iload 5, 2) := by decide +kernel
theorem d_W_writeSlots_12 : decode b_W_writeSlots 12 = .ok (.iload 4, 2) := by decide +kernel
theorem d_W_writeSlots_14 : decode b_W_writeSlots 14 = .ok (.if_icmp .ge 89, 3) := by decide +kernel
theorem d_W_writeSlots_17 : decode b_W_writeSlots 17 = .ok (.aload_n 0, 1) := by decide +kernel
theorem d_W_writeSlots_18 : decode b_W_writeSlots 18 = .ok (.getfield 18, 3) := by decide +kernel
theorem d_W_writeSlots_21 : decode b_W_writeSlots 21 = .ok (.iload_n 1, 1) := by decide +kernel
theorem d_W_writeSlots_22 : decode b_W_writeSlots 22 = .ok (.iload 5, 2) := by decide +kernel
theorem d_W_writeSlots_24 : decode b_W_writeSlots 24 = .ok (.invokevirtual 124, 3) := by decide +kernel
theorem d_W_writeSlots_27 : decode b_W_writeSlots 27 = .ok (.ifCond .ne 12, 3) := by decide +kernel
theorem d_W_writeSlots_30 : decode b_W_writeSlots 30 = .ok (.aload_n 0, 1) := by decide +kernel
theorem d_W_writeSlots_31 : decode b_W_writeSlots 31 = .ok (.ldc 131, 2) := by decide +kernel
theorem d_W_writeSlots_33 : decode b_W_writeSlots 33 = .ok (.invokevirtual 53, 3) := by decide +kernel
theorem d_W_writeSlots_36 : decode b_W_writeSlots 36 = .ok (.goto 61, 3) := by decide +kernel
theorem d_W_writeSlots_39 : decode b_W_writeSlots 39 = .ok (.aload_n 0, 1) := by decide +kernel
theorem d_W_writeSlots_40 : decode b_W_writeSlots 40 = .ok (.getfield 18, 3) := by decide +kernel
theorem d_W_writeSlots_43 : decode b_W_writeSlots 43 = .ok (.iload_n 1, 1) := by decide +kernel
theorem d_W_writeSlots_44 : decode b_W_writeSlots 44 = .ok (.iload 5, 2) := by decide +kernel
theorem d_W_writeSlots_46 : decode b_W_writeSlots 46 = .ok (.invokevirtual 124, 3) := by decide +kernel
theorem d_W_writeSlots_49 : decode b_W_writeSlots 49 = .ok (.iconst 1, 1) := by decide +kernel
theorem d_W_writeSlots_50 : decode b_W_writeSlots 50 = .ok (.if_icmp .ne 32, 3) := by decide +kernel
theorem d_W_writeSlots_53 : decode b_W_writeSlots 53 = .ok (.aload_n 0, 1) := by decide +kernel
theorem d_W_writeSlots_54 : decode b_W_writeSlots 54 = .ok (.ldc 133, 2) := by decide +kernel
theorem d_W_writeSlots_56 : decode b_W_writeSlots 56 = .ok (.invokevirtual 53, 3) := by decide +kernel
theorem d_W_writeSlots_59 : decode b_W_writeSlots 59 = .ok (.aload_n 0, 1) := by decide +kernel
theorem d_W_writeSlots_60 : decode b_W_writeSlots 60 = .ok (.aload_n 0, 1) := by decide +kernel
theorem d_W_writeSlots_61 : decode b_W_writeSlots 61 = .ok (.getfield 18, 3) := by decide +kernel
theorem d_W_writeSlots_64 : decode b_W_writeSlots 64 = .ok (.iload_n 1, 1) := by decide +kernel
theorem d_W_writeSlots_65 : decode b_W_writeSlots 65 = .ok (.iload 5, 2) := by decide +kernel
theorem d_W_writeSlots_67 : decode b_W_writeSlots 67 = .ok (.invokevirtual 135, 3) := by decide +kernel
theorem d_W_writeSlots_70 : decode b_W_writeSlots 70 = .ok (.invokevirtual 138, 3) := by decide +kernel
theorem d_W_writeSlots_73 : decode b_W_writeSlots 73 = .ok (.aload_n 0, 1) := by decide +kernel
theorem d_W_writeSlots_74 : decode b_W_writeSlots 74 = .ok (.ldc 141, 2) := by decide +kernel
theorem d_W_writeSlots_76 : decode b_W_writeSlots 76 = .ok (.invokevirtual 53, 3) := by decide +kernel
theorem d_W_writeSlots_79 : decode b_W_writeSlots 79 = .ok (.goto 18, 3) := by decide +kernel
theorem d_W_writeSlots_82 : decode b_W_writeSlots 82 = .ok (.aload_n 0, 1) := by decide +kernel
theorem d_W_writeSlots_83 : decode b_W_writeSlots 83 = .ok (.aload_n 0, 1) := by decide +kernel
theorem d_W_writeSlots_84 : decode b_W_writeSlots 84 = .ok (.getfield 18, 3) := by decide +kernel
theorem d_W_writeSlots_87 : decode b_W_writeSlots 87 = .ok (.iload_n 1, 1) := by decide +kernel
theorem d_W_writeSlots_88 : decode b_W_writeSlots 88 = .ok (.iload 5, 2) := by decide +kernel
theorem d_W_writeSlots_90 : decode b_W_writeSlots 90 = .ok (.invokevirtual 135, 3) := by decide +kernel
theorem d_W_writeSlots_93 : decode b_W_writeSlots 93 = .ok (.iload_n 3, 1) := by decide +kernel
theorem d_W_writeSlots_94 : decode b_W_writeSlots 94 = .ok (.invokevirtual 57, 3) := by decide +kernel
theorem d_W_writeSlots_97 : decode b_W_writeSlots 97 = .ok (.iinc 5 1, 3) := by decide +kernel
theorem d_W_writeSlots_100 : decode b_W_writeSlots 100 = .ok (.goto (-90), 3) := by decide +kernel
theorem d_W_writeSlots_103 : decode b_W_writeSlots 103 = .ok (.return_, 1) := by decide +kernel
theorem d_W_writeCharacters_0 : decode b_W_writeCharacters 0 = .ok (.iconst 0, 1) := by decide +kernel
theorem d_W_writeCharacters_1 : decode b_W_writeCharacters 1 = .ok (.istore_n 2, 1) := by decide +kernel
theorem d_W_writeCharacters_2 : decode b_W_writeCharacters 2 = .ok (.iload_n 2, 1) := by decide +kernel
theorem d_W_writeCharacters_3 : decode b_W_writeCharacters 3 = .ok (.aload_n 0, 1) := by decide +kernel
theorem d_W_writeCharacters_4 : decode b_W_writeCharacters 4 = .ok (.getfield 18, 3) := by decide +kernel
theorem d_W_writeCharacters_7 : decode b_W_writeCharacters 7 = .ok (.getfield 102, 3) := by decide +kernel
theorem d_W_writeCharacters_10 : decode b_W_writeCharacters 10 = .ok (.iload_n 1, 1) := by decide +kernel
theorem d_W_writeCharacters_11 : decode b_W_writeCharacters 11 = .ok (.iaload, 1) := by decide +kernel
theorem d_W_writeCharacters_12 : decode b_W_writeCharacters 12 = .ok (.if_icmp .ge 73, 3) := by decide +kernel
theorem d_W_writeCharacters_15 : decode b_W_writeCharacters 15 = .ok (.aload_n 0, 1) := by decide +kernel
theorem d_W_writeCharacters_16 : decode b_W_writeCharacters 16 = .ok (.getfield 18, 3) := by decide +kernel
theorem d_W_writeCharacters_19 : decode b_W_writeCharacters 19 = .ok (.iload_n 1, 1) := by decide +kernel
theorem d_W_writeCharacters_20 : decode b_W_writeCharacters 20 = .ok (.iload_n 2, 1) := by decide +kernel
theorem d_W_writeCharacters_21 : decode b_W_writeCharacters 21 = .ok (.invokevirtual 143, 3) := by decide +kernel
theorem d_W_writeCharacters_24 : decode b_W_writeCharacters 24 = .ok (.istore_n 3, 1) := by decide +kernel
theorem d_W_writeCharacters_25 : decode b_W_writeCharacters 25 = .ok (.iload_n 3, 1) := by decide +kernel
theorem d_W_writeCharacters_26 : decode b_W_writeCharacters 26 = .ok (.bipush 60, 2) := by decide +kernel
theorem d_W_writeCharacters_28 : decode b_W_writeCharacters 28 = .ok (.if_icmp .ne 12, 3) := by decide +kernel
theorem d_W_writeCharacters_31 : decode b_W_writeCharacters 31 = .ok (.aload_n 0, 1) := by decide +kernel
theorem d_W_writeCharacters_32 : decode b_W_writeCharacters 32 = .ok (.ldc 147, 2) := by decide +kernel
theorem d_W_writeCharacters_34 : decode b_W_writeCharacters 34 = .ok (.invokevirtual 53, 3) := by decide +kernel
theorem d_W_writeCharacters_37 : decode b_W_writeCharacters 37 = .ok (.goto 42, 3) := by decide +kernel
theorem d_W_writeCharacters_40 : decode b_W_writeCharacters 40 = .ok (.iload_n 3, 1) := by decide +kernel
theorem d_W_writeCharacters_41 : decode b_W_writeCharacters 41 = .ok (.bipush 62, 2) := by decide +kernel
theorem d_W_writeCharacters_43 : decode b_W_writeCharacters 43 = .ok (.if_icmp .ne 12, 3) := by decide +kernel
theorem d_W_writeCharacters_46 : decode b_W_writeCharacters 46 = .ok (.aload_n 0, 1) := by decide +kernel
theorem d_W_writeCharacters_47 : decode b_W_writeCharacters 47 = .ok (.ldc 149, 2) := by decide +kernel
theorem d_W_writeCharacters_49 : decode b_W_writeCharacters 49 = .ok (.invokevirtual 53, 3) := by decide +kernel
theorem d_W_writeCharacters_52 : decode b_W_writeCharacters 52 = .ok (.goto 27, 3) := by decide +kernel
theorem d_W_writeCharacters_55 : decode b_W_writeCharacters 55 = .ok (.iload_n 3, 1) := by decide +kernel
theorem d_W_writeCharacters_56 : decode b_W_writeCharacters 56 = .ok (.bipush 38, 2) := by decide +kernel
theorem d_W_writeCharacters_58 : decode b_W_writeCharacters 58 = .ok (.if_icmp .ne 12, 3) := by decide +kernel
theorem d_W_writeCharacters_61 : decode b_W_writeCharacters 61 = .ok (.aload_n 0, 1) := by decide +kernel
theorem d_W_writeCharacters_62 : decode b_W_writeCharacters 62 = .ok (.ldc 151, 2) := by decide +kernel
theorem d_W_writeCharacters_64 : decode b_W_writeCharacters 64 = .ok (.invokevirtual 53, 3) := by decide +kernel
theorem d_W_writeCharacters_67 : decode b_W_writeCharacters 67 = .ok (.goto 12, 3) := by decide +kernel
theorem d_W_writeCharacters_70 : decode b_W_writeCharacters 70 = .ok (.aload_n 0, 1) := by decide +kernel
theorem d_W_writeCharacters_71 : decode b_W_writeCharacters 71 = .ok (.getfield 26, 3) := by decide +kernel
theorem d_W_writeCharacters_74 : decode b_W_writeCharacters 74 = .ok (.iload_n 3, 1) := by decide +kernel
theorem d_W_writeCharacters_75 : decode b_W_writeCharacters 75 = .ok (.invokevirtual 107, 3) := by decide +kernel
theorem d_W_writeCharacters_78 : decode b_W_writeCharacters 78 = .ok (.pop, 1) := by decide +kernel
theorem d_W_writeCharacters_79 : decode b_W_writeCharacters 79 = .ok (.iinc 2 1, 3) := by decide +kernel
theorem d_W_writeCharacters_82 : decode b_W_writeCharacters 82 = .ok (.goto (-80), 3) := by decide +kernel
theorem d_W_writeCharacters_85 : decode b_W_writeCharacters 85 = .ok (.return_, 1) := by decide +kernel
theorem d_W_writeAttribute_0 : decode b_W_writeAttribute 0 = .ok (.aload_n 0, 1) := by decide +kernel
theorem d_W_writeAttribute_1 : decode b_W_writeAttribute 1 = .ok (.getfield 26, 3) := by decide +kernel
theorem d_W_writeAttribute_4 : decode b_W_writeAttribute 4 = .ok (.bipush 32, 2) := by decide +kernel
theorem d_W_writeAttribute_6 : decode b_W_writeAttribute 6 = .ok (.invokevirtual 107, 3) := by decide +kernel
theorem d_W_writeAttribute_9 : decode b_W_writeAttribute 9 = .ok (.pop, 1) := by decide +kernel
theorem d_W_writeAttribute_10 : decode b_W_writeAttribute 10 = .ok (.aload_n 0, 1) := by decide +kernel
theorem d_W_writeAttribute_11 : decode b_W_writeAttribute 11 = .ok (.aload_n 1, 1) := by decide +kernel
theorem d_W_writeAttribute_12 : decode b_W_writeAttribute 12 = .ok (.invokevirtual 53, 3) := by decide +kernel
theorem d_W_writeAttribute_15 : decode b_W_writeAttribute 15 = .ok (.aload_n 0, 1) := by decide +kernel
theorem d_W_writeAttribute_16 : decode b_W_writeAttribute 16 = .ok (.ldc 153, 2) := by decide +kernel
theorem d_W_writeAttribute_18 : decode b_W_writeAttribute 18 = .ok (.invokevirtual 53, 3) := by decide +kernel
theorem d_W_writeAttribute_21 : decode b_W_writeAttribute 21 = .ok (.aload_n 0, 1) := by decide +kernel
theorem d_W_writeAttribute_22 : decode b_W_writeAttribute 22 = .ok (.iload_n 2, 1) := by decide +kernel
theorem d_W_writeAttribute_23 : decode b_W_writeAttribute 23 = .ok (.invokevirtual 138, 3) := by decide +kernel
theorem d_W_writeAttribute_26 : decode b_W_writeAttribute 26 = .ok (.aload_n 0, 1) := by decide +kernel
theorem d_W_writeAttribute_27 : decode b_W_writeAttribute 27 = .ok (.getfield 26, 3) := by decide +kernel
theorem d_W_writeAttribute_30 : decode b_W_writeAttribute 30 = .ok (.bipush 34, 2) := by decide +kernel
theorem d_W_writeAttribute_32 : decode b_W_writeAttribute 32 = .ok (.invokevirtual 107, 3) := by decide +kernel
theorem d_W_writeAttribute_35 : decode b_W_writeAttribute 35 = .ok (.pop, 1) := by decide +kernel
theorem d_W_writeAttribute_36 : decode b_W_writeAttribute 36 = .ok (.return_, 1) := by decide +kernel
theorem d_W_writeNumber_0 : decode b_W_writeNumber 0 = .ok (.iload_n 1, 1) := by decide +kernel
theorem d_W_writeNumber_1 : decode b_W_writeNumber 1 = .ok (.i2l, 1) := by decide +kernel
theorem d_W_writeNumber_2 : decode b_W_writeNumber 2 = .ok (.lstore_n 2, 1) := by decide +kernel
theorem d_W_writeNumber_3 : decode b_W_writeNumber 3 = .ok (.lload_n 2, 1) := by decide +kernel
theorem d_W_writeNumber_4 : decode b_W_writeNumber 4 = .ok (.lconst 0, 1) := by decide +kernel
theorem d_W_writeNumber_5 : decode b_W_writeNumber 5 = .ok (.lcmp, 1) := by decide +kernel
theorem d_W_writeNumber_6 : decode b_W_writeNumber 6 = .ok (.ifCond .ge 16, 3) := by decide +kernel
theorem d_W_writeNumber_9 : decode b_W_writeNumber 9 = .ok (.aload_n 0, 1) := by decide +kernel
theorem d_W_writeNumber_10 : decode b_W_writeNumber 10 = .ok (.getfield 26, 3) := by decide +kernel
theorem d_W_writeNumber_13 : decode b_W_writeNumber 13 = .ok (.bipush 45, 2) := by decide +kernel
theorem d_W_writeNumber_15 : decode b_W_writeNumber 15 = .ok (.invokevirtual 107, 3) := by decide +kernel
theorem d_W_writeNumber_18 : decode b_W_writeNumber 18 = .ok (.pop, 1) := by decide +kernel
theorem d_W_writeNumber_19 : decode b_W_writeNumber 19 = .ok (.lload_n 2, 1) := by decide +kernel
theorem d_W_writeNumber_20 : decode b_W_writeNumber 20 = .ok (.lneg, 1) := by decide +kernel
theorem d_W_writeNumber_21 : decode b_W_writeNumber 21 = .ok (.lstore_n 2, 1) := by decide +kernel
theorem d_W_writeNumber_22 : decode b_W_writeNumber 22 = .ok (.lconst 1, 1) := by decide +kernel
theorem d_W_writeNumber_23 : decode b_W_writeNumber 23 = .ok (.lstore 4, 2) := by decide +kernel
theorem d_W_writeNumber_25 : decode b_W_writeNumber 25 = .ok (.iconst 1, 1) := by decide +kernel
theorem d_W_writeNumber_26 : decode b_W_writeNumber 26 = .ok (.istore 6, 2) := by decide +kernel
theorem d_W_writeNumber_28 : decode b_W_writeNumber 28 = .ok (.iload 6, 2) := by decide +kernel
theorem d_W_writeNumber_30 : decode b_W_writeNumber 30 = .ok (.bipush 10, 2) := by decide +kernel
theorem d_W_writeNumber_32 : decode b_W_writeNumber 32 = .ok (.if_icmp .ge 28, 3) := by decide +kernel
theorem d_W_writeNumber_35 : decode b_W_writeNumber 35 = .ok (.lload 4, 2) := by decide +kernel
theorem d_W_writeNumber_37 : decode b_W_writeNumber 37 = .ok (.lload_n 2, 1) := by decide +kernel
theorem d_W_writeNumber_38 : decode b_W_writeNumber 38 = .ok (.ldc2_w 155, 3) := by decide +kernel
theorem d_W_writeNumber_41 : decode b_W_writeNumber 41 = .ok (.ldiv, 1) := by decide +kernel
theorem d_W_writeNumber_42 : decode b_W_writeNumber 42 = .ok (.lcmp, 1) := by decide +kernel
theorem d_W_writeNumber_43 : decode b_W_writeNumber 43 = .ok (.ifCond .gt 17, 3) := by decide +kernel
theorem d_W_writeNumber_46 : decode b_W_writeNumber 46 = .ok (.lload 4, 2) := by decide +kernel
theorem d_W_writeNumber_48 : decode b_W_writeNumber 48 = .ok (.ldc2_w 155, 3) := by decide +kernel
theorem d_W_writeNumber_51 : decode b_W_writeNumber 51 = .ok (.lmul, 1) := by decide +kernel
theorem d_W_writeNumber_52 : decode b_W_writeNumber 52 = .ok (.lstore 4, 2) := by decide +kernel
theorem d_W_writeNumber_54 : decode b_W_writeNumber 54 = .ok (.iinc 6 1, 3) := by decide +kernel
theorem d_W_writeNumber_57 : decode b_W_writeNumber 57 = .ok (.goto (-29), 3) := by decide +kernel
theorem d_W_writeNumber_60 : decode b_W_writeNumber 60 = .ok (.lload 4, 2) := by decide +kernel
theorem d_W_writeNumber_62 : decode b_W_writeNumber 62 = .ok (.lconst 0, 1) := by decide +kernel
theorem d_W_writeNumber_63 : decode b_W_writeNumber 63 = .ok (.lcmp, 1) := by decide +kernel
theorem d_W_writeNumber_64 : decode b_W_writeNumber 64 = .ok (.ifCond .le 35, 3) := by decide +kernel
theorem d_W_writeNumber_67 : decode b_W_writeNumber 67 = .ok (.aload_n 0, 1) := by decide +kernel
theorem d_W_writeNumber_68 : decode b_W_writeNumber 68 = .ok (.getfield 26, 3) := by decide +kernel
theorem d_W_writeNumber_71 : decode b_W_writeNumber 71 = .ok (.bipush 48, 2) := by decide +kernel
theorem d_W_writeNumber_73 : decode b_W_writeNumber 73 = .ok (.lload_n 2, 1) := by decide +kernel
theorem d_W_writeNumber_74 : decode b_W_writeNumber 74 = .ok (.lload 4, 2) := by decide +kernel
theorem d_W_writeNumber_76 : decode b_W_writeNumber 76 = .ok (.ldiv, 1) := by decide +kernel
theorem d_W_writeNumber_77 : decode b_W_writeNumber 77 = .ok (.ldc2_w 155, 3) := by decide +kernel
theorem d_W_writeNumber_80 : decode b_W_writeNumber 80 = .ok (.lrem, 1) := by decide +kernel
theorem d_W_writeNumber_81 : decode b_W_writeNumber 81 = .ok (.l2i, 1) := by decide +kernel
theorem d_W_writeNumber_82 : decode b_W_writeNumber 82 = .ok (.iadd, 1) := by decide +kernel
theorem d_W_writeNumber_83 : decode b_W_writeNumber 83 = .ok (.i2c, 1) := by decide +kernel
theorem d_W_writeNumber_84 : decode b_W_writeNumber 84 = .ok (.invokevirtual 107, 3) := by decide +kernel
theorem d_W_writeNumber_87 : decode b_W_writeNumber 87 = .ok (.pop, 1) := by decide +kernel
theorem d_W_writeNumber_88 : decode b_W_writeNumber 88 = .ok (.lload 4, 2) := by decide +kernel
theorem d_W_writeNumber_90 : decode b_W_writeNumber 90 = .ok (.ldc2_w 155, 3) := by decide +kernel
theorem d_W_writeNumber_93 : decode b_W_writeNumber 93 = .ok (.ldiv, 1) := by decide +kernel
theorem d_W_writeNumber_94 : decode b_W_writeNumber 94 = .ok (.lstore 4, 2) := by decide +kernel
theorem d_W_writeNumber_96 : decode b_W_writeNumber 96 = .ok (.goto (-36), 3) := by decide +kernel
theorem d_W_writeNumber_99 : decode b_W_writeNumber 99 = .ok (.return_, 1) := by decide +kernel
theorem d_W_writeRow_0 : decode b_W_writeRow 0 = .ok (.iconst 0, 1) := by decide +kernel
theorem d_W_writeRow_1 : decode b_W_writeRow 1 = .ok (.istore_n 2, 1) := by decide +kernel
theorem d_W_writeRow_2 : decode b_W_writeRow 2 = .ok (.iload_n 2, 1) := by decide +kernel
theorem d_W_writeRow_3 : decode b_W_writeRow 3 = .ok (.aload_n 1, 1) := by decide +kernel
theorem d_W_writeRow_4 : decode b_W_writeRow 4 = .ok (.invokevirtual 157, 3) := by decide +kernel
theorem d_W_writeRow_7 : decode b_W_writeRow 7 = .ok (.if_icmp .ge 22, 3) := by decide +kernel
theorem d_W_writeRow_10 : decode b_W_writeRow 10 = .ok (.aload_n 0, 1) := by decide +kernel
theorem d_W_writeRow_11 : decode b_W_writeRow 11 = .ok (.getfield 26, 3) := by decide +kernel
theorem d_W_writeRow_14 : decode b_W_writeRow 14 = .ok (.aload_n 1, 1) := by decide +kernel
theorem d_W_writeRow_15 : decode b_W_writeRow 15 = .ok (.iload_n 2, 1) := by decide +kernel
theorem d_W_writeRow_16 : decode b_W_writeRow 16 = .ok (.invokevirtual 163, 3) := by decide +kernel
theorem d_W_writeRow_19 : decode b_W_writeRow 19 = .ok (.invokevirtual 107, 3) := by decide +kernel
theorem d_W_writeRow_22 : decode b_W_writeRow 22 = .ok (.pop, 1) := by decide +kernel
theorem d_W_writeRow_23 : decode b_W_writeRow 23 = .ok (.iinc 2 1, 3) := by decide +kernel
theorem d_W_writeRow_26 : decode b_W_writeRow 26 = .ok (.goto (-24), 3) := by decide +kernel
theorem d_W_writeRow_29 : decode b_W_writeRow 29 = .ok (.return_, 1) := by decide +kernel
theorem d_O_init_0 : decode b_O_init 0 = .ok (.aload_n 0, 1) := by decide +kernel
theorem d_O_init_1 : decode b_O_init 1 = .ok (.invokespecial 1, 3) := by decide +kernel
theorem d_O_init_4 : decode b_O_init 4 = .ok (.aload_n 0, 1) := by decide +kernel
theorem d_O_init_5 : decode b_O_init 5 = .ok (.new 7, 3) := by decide +kernel
theorem d_O_init_8 : decode b_O_init 8 = .ok (.dup, 1) := by decide +kernel
theorem d_O_init_9 : decode b_O_init 9 = .ok (.invokespecial 9, 3) := by decide +kernel
theorem d_O_init_12 : decode b_O_init 12 = .ok (.putfield 10, 3) := by decide +kernel
theorem d_O_init_15 : decode b_O_init 15 = .ok (.aload_n 0, 1) := by decide +kernel
theorem d_O_init_16 : decode b_O_init 16 = .ok (.new 16, 3) := by decide +kernel
theorem d_O_init_19 : decode b_O_init 19 = .ok (.dup, 1) := by decide +kernel
theorem d_O_init_20 : decode b_O_init 20 = .ok (.invokespecial 18, 3) := by decide +kernel
theorem d_O_init_23 : decode b_O_init 23 = .ok (.putfield 19, 3) := by decide +kernel
theorem d_O_init_26 : decode b_O_init 26 = .ok (.aload_n 0, 1) := by decide +kernel
theorem d_O_init_27 : decode b_O_init 27 = .ok (.bipush 32, 2) := by decide +kernel
theorem d_O_init_29 : decode b_O_init 29 = .ok (.newarray .boolean, 2) := by decide +kernel
theorem d_O_init_31 : decode b_O_init 31 = .ok (.putfield 23, 3) := by decide +kernel
theorem d_O_init_34 : decode b_O_init 34 = .ok (.aload_n 0, 1) := by decide +kernel
theorem d_O_init_35 : decode b_O_init 35 = .ok (.new 27, 3) := by decide +kernel
theorem d_O_init_38 : decode b_O_init 38 = .ok (.dup, 1) := by decide +kernel
theorem d_O_init_39 : decode b_O_init 39 = .ok (.aload_n 0, 1) := by decide +kernel
theorem d_O_init_40 : decode b_O_init 40 = .ok (.getfield 10, 3) := by decide +kernel
theorem d_O_init_43 : decode b_O_init 43 = .ok (.invokespecial 29, 3) := by decide +kernel
theorem d_O_init_46 : decode b_O_init 46 = .ok (.putfield 32, 3) := by decide +kernel
theorem d_O_init_49 : decode b_O_init 49 = .ok (.aload_n 0, 1) := by decide +kernel
theorem d_O_init_50 : decode b_O_init 50 = .ok (.new 36, 3) := by decide +kernel
theorem d_O_init_53 : decode b_O_init 53 = .ok (.dup, 1) := by decide +kernel
theorem d_O_init_54 : decode b_O_init 54 = .ok (.aload_n 0, 1) := by decide +kernel
theorem d_O_init_55 : decode b_O_init 55 = .ok (.getfield 10, 3) := by decide +kernel
theorem d_O_init_58 : decode b_O_init 58 = .ok (.invokespecial 38, 3) := by decide +kernel
theorem d_O_init_61 : decode b_O_init 61 = .ok (.putfield 39, 3) := by decide +kernel
theorem d_O_init_64 : decode b_O_init 64 = .ok (.aload_n 0, 1) := by decide +kernel
theorem d_O_init_65 : decode b_O_init 65 = .ok (.new 43, 3) := by decide +kernel
theorem d_O_init_68 : decode b_O_init 68 = .ok (.dup, 1) := by decide +kernel
theorem d_O_init_69 : decode b_O_init 69 = .ok (.aload_n 0, 1) := by decide +kernel
theorem d_O_init_70 : decode b_O_init 70 = .ok (.getfield 10, 3) := by decide +kernel
theorem d_O_init_73 : decode b_O_init 73 = .ok (.aload_n 0, 1) := by decide +kernel
theorem d_O_init_74 : decode b_O_init 74 = .ok (.getfield 32, 3) := by decide +kernel
theorem d_O_init_77 : decode b_O_init 77 = .ok (.aload_n 0, 1) := by decide +kernel
theorem d_O_init_78 : decode b_O_init 78 = .ok (.getfield 19, 3) := by decide +kernel
theorem d_O_init_81 : decode b_O_init 81 = .ok (.invokespecial 45, 3) := by decide +kernel
theorem d_O_init_84 : decode b_O_init 84 = .ok (.putfield 48, 3) := by decide +kernel
theorem d_O_init_87 : decode b_O_init 87 = .ok (.new 52, 3) := by decide +kernel
theorem d_O_init_90 : decode b_O_init 90 = .ok (.dup, 1) := by decide +kernel
theorem d_O_init_91 : decode b_O_init 91 = .ok (.invokespecial 54, 3) := by decide +kernel
theorem d_O_init_94 : decode b_O_init 94 = .ok (.astore_n 1, 1) := by decide +kernel
theorem d_O_init_95 : decode b_O_init 95 = .ok (.aload_n 0, 1) := by decide +kernel
theorem d_O_init_96 : decode b_O_init 96 = .ok (.new 55, 3) := by decide +kernel
theorem d_O_init_99 : decode b_O_init 99 = .ok (.dup, 1) := by decide +kernel
theorem d_O_init_100 : decode b_O_init 100 = .ok (.aload_n 0, 1) := by decide +kernel
theorem d_O_init_101 : decode b_O_init 101 = .ok (.getfield 19, 3) := by decide +kernel
theorem d_O_init_104 : decode b_O_init 104 = .ok (.aload_n 1, 1) := by decide +kernel
theorem d_O_init_105 : decode b_O_init 105 = .ok (.invokespecial 57, 3) := by decide +kernel
theorem d_O_init_108 : decode b_O_init 108 = .ok (.putfield 60, 3) := by decide +kernel
theorem d_O_init_111 : decode b_O_init 111 = .ok (.aload_n 0, 1) := by decide +kernel
theorem d_O_init_112 : decode b_O_init 112 = .ok (.new 64, 3) := by decide +kernel
theorem d_O_init_115 : decode b_O_init 115 = .ok (.dup, 1) := by decide +kernel
theorem d_O_init_116 : decode b_O_init 116 = .ok (.aload_n 0, 1) := by decide +kernel
theorem d_O_init_117 : decode b_O_init 117 = .ok (.getfield 19, 3) := by decide +kernel
theorem d_O_init_120 : decode b_O_init 120 = .ok (.aload_n 1, 1) := by decide +kernel
theorem d_O_init_121 : decode b_O_init 121 = .ok (.aload_n 0, 1) := by decide +kernel
theorem d_O_init_122 : decode b_O_init 122 = .ok (.getfield 10, 3) := by decide +kernel
theorem d_O_init_125 : decode b_O_init 125 = .ok (.invokespecial 66, 3) := by decide +kernel
theorem d_O_init_128 : decode b_O_init 128 = .ok (.putfield 69, 3) := by decide +kernel
theorem d_O_init_131 : decode b_O_init 131 = .ok (.return_, 1) := by decide +kernel
theorem d_O_make_0 : decode b_O_make 0 = .ok (.aload_n 0, 1) := by decide +kernel
theorem d_O_make_1 : decode b_O_make 1 = .ok (.getfield 10, 3) := by decide +kernel
theorem d_O_make_4 : decode b_O_make 4 = .ok (.getfield 73, 3) := by decide +kernel
theorem d_O_make_7 : decode b_O_make 7 = .ok (.bipush 16, 2) := by decide +kernel
theorem d_O_make_9 : decode b_O_make 9 = .ok (.if_icmp .lt 5, 3) := by decide +kernel
theorem d_O_make_12 : decode b_O_make 12 = .ok (.iconst (-1), 1) := by decide +kernel
theorem d_O_make_13 : decode b_O_make 13 = .ok (.ireturn, 1) := by decide +kernel
theorem d_O_make_14 : decode b_O_make 14 = .ok (.iload_n 1, 1) := by decide +kernel
theorem d_O_make_15 : decode b_O_make 15 = .ok (.ifCond .ne 13, 3) := by decide +kernel
theorem d_O_make_18 : decode b_O_make 18 = .ok (.aload_n 0, 1) := by decide +kernel
theorem d_O_make_19 : decode b_O_make 19 = .ok (.getfield 10, 3) := by decide +kernel
theorem d_O_make_22 : decode b_O_make 22 = .ok (.iconst 0, 1) := by decide +kernel
theorem d_O_make_23 : decode b_O_make 23 = .ok (.iconst 2, 1) := by decide +kernel
theorem d_O_make_24 : decode b_O_make 24 = .ok (.invokevirtual 77, 3) := by decide +kernel
theorem d_O_make_27 : decode b_O_make 27 = .ok (.ireturn, 1) := by decide +kernel
theorem d_O_make_28 : decode b_O_make 28 = .ok (.iload_n 1, 1) := by decide +kernel
theorem d_O_make_29 : decode b_O_make 29 = .ok (.iconst 1, 1) := by decide +kernel
theorem d_O_make_30 : decode b_O_make 30 = .ok (.if_icmp .ne 22, 3) := by decide +kernel
theorem d_O_make_33 : decode b_O_make 33 = .ok (.iload_n 2, 1) := by decide +kernel
theorem d_O_make_34 : decode b_O_make 34 = .ok (.ifCond .lt 18, 3) := by decide +kernel
theorem d_O_make_37 : decode b_O_make 37 = .ok (.iload_n 2, 1) := by decide +kernel
theorem d_O_make_38 : decode b_O_make 38 = .ok (.iconst 4, 1) := by decide +kernel
theorem d_O_make_39 : decode b_O_make 39 = .ok (.if_icmp .gt 13, 3) := by decide +kernel
theorem d_O_make_42 : decode b_O_make 42 = .ok (.aload_n 0, 1) := by decide +kernel
theorem d_O_make_43 : decode b_O_make 43 = .ok (.getfield 10, 3) := by decide +kernel
theorem d_O_make_46 : decode b_O_make 46 = .ok (.iconst 1, 1) := by decide +kernel
theorem d_O_make_47 : decode b_O_make 47 = .ok (.iload_n 2, 1) := by decide +kernel
theorem d_O_make_48 : decode b_O_make 48 = .ok (.invokevirtual 77, 3) := by decide +kernel
theorem d_O_make_51 : decode b_O_make 51 = .ok (.ireturn, 1) := by decide +kernel
theorem d_O_make_52 : decode b_O_make 52 = .ok (.iload_n 1, 1) := by decide +kernel
theorem d_O_make_53 : decode b_O_make 53 = .ok (.iconst 2, 1) := by decide +kernel
theorem d_O_make_54 : decode b_O_make 54 = .ok (.if_icmp .ne 15, 3) := by decide +kernel
theorem d_O_make_57 : decode b_O_make 57 = .ok (.aload_n 0, 1) := by decide +kernel
theorem d_O_make_58 : decode b_O_make 58 = .ok (.getfield 10, 3) := by decide +kernel
theorem d_O_make_61 : decode b_O_make 61 = .ok (.iconst 2, 1) := by decide +kernel
theorem d_O_make_62 : decode b_O_make 62 = .ok (.iconst 0, 1) := by decide +kernel
theorem d_O_make_63 : decode b_O_make 63 = .ok (.invokevirtual 77, 3) := by decide +kernel
theorem d_O_make_66 : decode b_O_make 66 = .ok (.goto 4, 3) := by decide +kernel
theorem d_O_make_69 : decode b_O_make 69 = .ok (.iconst (-1), 1) := by decide +kernel
theorem d_O_make_70 : decode b_O_make 70 = .ok (.ireturn, 1) := by decide +kernel
theorem d_O_type_0 : decode b_O_type 0 = .ok (.aload_n 0, 1) := by decide +kernel
theorem d_O_type_1 : decode b_O_type 1 = .ok (.getfield 10, 3) := by decide +kernel
theorem d_O_type_4 : decode b_O_type 4 = .ok (.iload_n 1, 1) := by decide +kernel
theorem d_O_type_5 : decode b_O_type 5 = .ok (.invokevirtual 81, 3) := by decide +kernel
theorem d_O_type_8 : decode b_O_type 8 = .ok (.ifCond .eq 26, 3) := by decide +kernel
theorem d_O_type_11 : decode b_O_type 11 = .ok (.iload_n 2, 1) := by decide +kernel
theorem d_O_type_12 : decode b_O_type 12 = .ok (.invokestatic 85, 3) := by decide +kernel
theorem d_O_type_15 : decode b_O_type 15 = .ok (.ifCond .eq 19, 3) := by decide +kernel
theorem d_O_type_18 : decode b_O_type 18 = .ok (.aload_n 0, 1) := by decide +kernel
theorem d_O_type_19 : decode b_O_type 19 = .ok (.getfield 10, 3) := by decide +kernel
theorem d_O_type_22 : decode b_O_type 22 = .ok (.iload_n 1, 1) := by decide +kernel
theorem d_O_type_23 : decode b_O_type 23 = .ok (.iload_n 2, 1) := by decide +kernel
theorem d_O_type_24 : decode b_O_type 24 = .ok (.invokevirtual 88, 3) := by decide +kernel
theorem d_O_type_27 : decode b_O_type 27 = .ok (.ifCond .eq 7, 3) := by decide +kernel
theorem d_O_type_30 : decode b_O_type 30 = .ok (.iconst 1, 1) := by decide +kernel
theorem d_O_type_31 : decode b_O_type 31 = .ok (.goto 4, 3) := by decide +kernel
theorem d_O_type_34 : decode b_O_type 34 = .ok (.iconst 0, 1) := by decide +kernel
theorem d_O_type_35 : decode b_O_type 35 = .ok (.ireturn, 1) := by decide +kernel
theorem d_O_put_0 : decode b_O_put 0 = .ok (.aload_n 0, 1) := by decide +kernel
theorem d_O_put_1 : decode b_O_put 1 = .ok (.getfield 10, 3) := by decide +kernel
theorem d_O_put_4 : decode b_O_put 4 = .ok (.iload_n 1, 1) := by decide +kernel
theorem d_O_put_5 : decode b_O_put 5 = .ok (.iload_n 2, 1) := by decide +kernel
theorem d_O_put_6 : decode b_O_put 6 = .ok (.invokevirtual 92, 3) := by decide +kernel
theorem d_O_put_9 : decode b_O_put 9 = .ok (.ifCond .ne 5, 3) := by decide +kernel
theorem d_O_put_12 : decode b_O_put 12 = .ok (.iconst 0, 1) := by decide +kernel
theorem d_O_put_13 : decode b_O_put 13 = .ok (.ireturn, 1) := by decide +kernel
theorem d_O_put_14 : decode b_O_put 14 = .ok (.aload_n 0, 1) := by decide +kernel
theorem d_O_put_15 : decode b_O_put 15 = .ok (.getfield 10, 3) := by decide +kernel
theorem d_O_put_18 : decode b_O_put 18 = .ok (.iload_n 1, 1) := by decide +kernel
theorem d_O_put_19 : decode b_O_put 19 = .ok (.iload_n 2, 1) := by decide +kernel
theorem d_O_put_20 : decode b_O_put 20 = .ok (.iconst 1, 1) := by decide +kernel
theorem d_O_put_21 : decode b_O_put 21 = .ok (.iload_n 3, 1) := by decide +kernel
theorem d_O_put_22 : decode b_O_put 22 = .ok (.invokevirtual 96, 3) := by decide +kernel
theorem d_O_put_25 : decode b_O_put 25 = .ok (.iconst 1, 1) := by decide +kernel
theorem d_O_put_26 : decode b_O_put 26 = .ok (.ireturn, 1) := by decide +kernel
theorem d_O_link_0 : decode b_O_link 0 = .ok (.aload_n 0, 1) := by decide +kernel
theorem d_O_link_1 : decode b_O_link 1 = .ok (.getfield 10, 3) := by decide +kernel
theorem d_O_link_4 : decode b_O_link 4 = .ok (.iload_n 1, 1) := by decide +kernel
theorem d_O_link_5 : decode b_O_link 5 = .ok (.iload_n 2, 1) := by decide +kernel
theorem d_O_link_6 : decode b_O_link 6 = .ok (.invokevirtual 92, 3) := by decide +kernel
theorem d_O_link_9 : decode b_O_link 9 = .ok (.ifCond .ne 5, 3) := by decide +kernel
theorem d_O_link_12 : decode b_O_link 12 = .ok (.iconst 0, 1) := by decide +kernel
theorem d_O_link_13 : decode b_O_link 13 = .ok (.ireturn, 1) := by decide +kernel
theorem d_O_link_14 : decode b_O_link 14 = .ok (.iload_n 3, 1) := by decide +kernel
theorem d_O_link_15 : decode b_O_link 15 = .ok (.iconst (-1), 1) := by decide +kernel
theorem d_O_link_16 : decode b_O_link 16 = .ok (.if_icmp .ne 16, 3) := by decide +kernel
theorem d_O_link_19 : decode b_O_link 19 = .ok (.aload_n 0, 1) := by decide +kernel
theorem d_O_link_20 : decode b_O_link 20 = .ok (.getfield 10, 3) := by decide +kernel
theorem d_O_link_23 : decode b_O_link 23 = .ok (.iload_n 1, 1) := by decide +kernel
theorem d_O_link_24 : decode b_O_link 24 = .ok (.iload_n 2, 1) := by decide +kernel
theorem d_O_link_25 : decode b_O_link 25 = .ok (.iconst 0, 1) := by decide +kernel
theorem d_O_link_26 : decode b_O_link 26 = .ok (.iconst 0, 1) := by decide +kernel
theorem d_O_link_27 : decode b_O_link 27 = .ok (.invokevirtual 96, 3) := by decide +kernel
theorem d_O_link_30 : decode b_O_link 30 = .ok (.iconst 1, 1) := by decide +kernel
theorem d_O_link_31 : decode b_O_link 31 = .ok (.ireturn, 1) := by decide +kernel
theorem d_O_link_32 : decode b_O_link 32 = .ok (.aload_n 0, 1) := by decide +kernel
theorem d_O_link_33 : decode b_O_link 33 = .ok (.getfield 10, 3) := by decide +kernel
theorem d_O_link_36 : decode b_O_link 36 = .ok (.iload_n 3, 1) := by decide +kernel
theorem d_O_link_37 : decode b_O_link 37 = .ok (.invokevirtual 100, 3) := by decide +kernel
theorem d_O_link_40 : decode b_O_link 40 = .ok (.ifCond .ne 5, 3) := by decide +kernel
theorem d_O_link_43 : decode b_O_link 43 = .ok (.iconst 0, 1) := by decide +kernel
theorem d_O_link_44 : decode b_O_link 44 = .ok (.ireturn, 1) := by decide +kernel
theorem d_O_link_45 : decode b_O_link 45 = .ok (.aload_n 0, 1) := by decide +kernel
theorem d_O_link_46 : decode b_O_link 46 = .ok (.getfield 10, 3) := by decide +kernel
theorem d_O_link_49 : decode b_O_link 49 = .ok (.iload_n 1, 1) := by decide +kernel
theorem d_O_link_50 : decode b_O_link 50 = .ok (.iload_n 2, 1) := by decide +kernel
theorem d_O_link_51 : decode b_O_link 51 = .ok (.iconst 2, 1) := by decide +kernel
theorem d_O_link_52 : decode b_O_link 52 = .ok (.iload_n 3, 1) := by decide +kernel
theorem d_O_link_53 : decode b_O_link 53 = .ok (.invokevirtual 96, 3) := by decide +kernel
theorem d_O_link_56 : decode b_O_link 56 = .ok (.iconst 1, 1) := by decide +kernel
theorem d_O_link_57 : decode b_O_link 57 = .ok (.ireturn, 1) := by decide +kernel
theorem d_O_objects_0 : decode b_O_objects 0 = .ok (.aload_n 0, 1) := by decide +kernel
