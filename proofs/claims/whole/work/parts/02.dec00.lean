theorem d_E_init_0 : decode b_E_init 0 = .ok (.aload_n 0, 1) := by decide +kernel
theorem d_E_init_1 : decode b_E_init 1 = .ok (.invokespecial 3, 3) := by decide +kernel
theorem d_E_init_4 : decode b_E_init 4 = .ok (.aload_n 0, 1) := by decide +kernel
theorem d_E_init_5 : decode b_E_init 5 = .ok (.sipush 533, 3) := by decide +kernel
theorem d_E_init_8 : decode b_E_init 8 = .ok (.newarray .int, 2) := by decide +kernel
theorem d_E_init_10 : decode b_E_init 10 = .ok (.putfield 11, 3) := by decide +kernel
theorem d_E_init_13 : decode b_E_init 13 = .ok (.aload_n 0, 1) := by decide +kernel
theorem d_E_init_14 : decode b_E_init 14 = .ok (.sipush 533, 3) := by decide +kernel
theorem d_E_init_17 : decode b_E_init 17 = .ok (.newarray .int, 2) := by decide +kernel
theorem d_E_init_19 : decode b_E_init 19 = .ok (.putfield 15, 3) := by decide +kernel
theorem d_E_init_22 : decode b_E_init 22 = .ok (.aload_n 0, 1) := by decide +kernel
theorem d_E_init_23 : decode b_E_init 23 = .ok (.sipush 533, 3) := by decide +kernel
theorem d_E_init_26 : decode b_E_init 26 = .ok (.newarray .int, 2) := by decide +kernel
theorem d_E_init_28 : decode b_E_init 28 = .ok (.putfield 18, 3) := by decide +kernel
theorem d_E_init_31 : decode b_E_init 31 = .ok (.aload_n 0, 1) := by decide +kernel
theorem d_E_init_32 : decode b_E_init 32 = .ok (.sipush 533, 3) := by decide +kernel
theorem d_E_init_35 : decode b_E_init 35 = .ok (.newarray .int, 2) := by decide +kernel
theorem d_E_init_37 : decode b_E_init 37 = .ok (.putfield 21, 3) := by decide +kernel
theorem d_E_init_40 : decode b_E_init 40 = .ok (.aload_n 0, 1) := by decide +kernel
theorem d_E_init_41 : decode b_E_init 41 = .ok (.sipush 533, 3) := by decide +kernel
theorem d_E_init_44 : decode b_E_init 44 = .ok (.newarray .int, 2) := by decide +kernel
theorem d_E_init_46 : decode b_E_init 46 = .ok (.putfield 24, 3) := by decide +kernel
theorem d_E_init_49 : decode b_E_init 49 = .ok (.aload_n 0, 1) := by decide +kernel
theorem d_E_init_50 : decode b_E_init 50 = .ok (.sipush 533, 3) := by decide +kernel
theorem d_E_init_53 : decode b_E_init 53 = .ok (.newarray .int, 2) := by decide +kernel
theorem d_E_init_55 : decode b_E_init 55 = .ok (.putfield 27, 3) := by decide +kernel
theorem d_E_init_58 : decode b_E_init 58 = .ok (.aload_n 0, 1) := by decide +kernel
theorem d_E_init_59 : decode b_E_init 59 = .ok (.sipush 533, 3) := by decide +kernel
theorem d_E_init_62 : decode b_E_init 62 = .ok (.newarray .int, 2) := by decide +kernel
theorem d_E_init_64 : decode b_E_init 64 = .ok (.putfield 30, 3) := by decide +kernel
theorem d_E_init_67 : decode b_E_init 67 = .ok (.aload_n 0, 1) := by decide +kernel
theorem d_E_init_68 : decode b_E_init 68 = .ok (.sipush 320, 3) := by decide +kernel
theorem d_E_init_71 : decode b_E_init 71 = .ok (.newarray .int, 2) := by decide +kernel
theorem d_E_init_73 : decode b_E_init 73 = .ok (.putfield 33, 3) := by decide +kernel
theorem d_E_init_76 : decode b_E_init 76 = .ok (.aload_n 0, 1) := by decide +kernel
theorem d_E_init_77 : decode b_E_init 77 = .ok (.sipush 320, 3) := by decide +kernel
theorem d_E_init_80 : decode b_E_init 80 = .ok (.newarray .int, 2) := by decide +kernel
theorem d_E_init_82 : decode b_E_init 82 = .ok (.putfield 36, 3) := by decide +kernel
theorem d_E_init_85 : decode b_E_init 85 = .ok (.aload_n 0, 1) := by decide +kernel
theorem d_E_init_86 : decode b_E_init 86 = .ok (.sipush 320, 3) := by decide +kernel
theorem d_E_init_89 : decode b_E_init 89 = .ok (.newarray .int, 2) := by decide +kernel
theorem d_E_init_91 : decode b_E_init 91 = .ok (.putfield 39, 3) := by decide +kernel
theorem d_E_init_94 : decode b_E_init 94 = .ok (.aload_n 0, 1) := by decide +kernel
theorem d_E_init_95 : decode b_E_init 95 = .ok (.sipush 1600, 3) := by decide +kernel
theorem d_E_init_98 : decode b_E_init 98 = .ok (.newarray .char, 2) := by decide +kernel
theorem d_E_init_100 : decode b_E_init 100 = .ok (.putfield 42, 3) := by decide +kernel
theorem d_E_init_103 : decode b_E_init 103 = .ok (.return_, 1) := by decide +kernel
theorem d_E_removeAll_0 : decode b_E_removeAll 0 = .ok (.aload_n 0, 1) := by decide +kernel
theorem d_E_removeAll_1 : decode b_E_removeAll 1 = .ok (.iconst 0, 1) := by decide +kernel
theorem d_E_removeAll_2 : decode b_E_removeAll 2 = .ok (.putfield 46, 3) := by decide +kernel
theorem d_E_removeAll_5 : decode b_E_removeAll 5 = .ok (.aload_n 0, 1) := by decide +kernel
theorem d_E_removeAll_6 : decode b_E_removeAll 6 = .ok (.iconst 0, 1) := by decide +kernel
theorem d_E_removeAll_7 : decode b_E_removeAll 7 = .ok (.putfield 50, 3) := by decide +kernel
theorem d_E_removeAll_10 : decode b_E_removeAll 10 = .ok (.aload_n 0, 1) := by decide +kernel
theorem d_E_removeAll_11 : decode b_E_removeAll 11 = .ok (.iconst 0, 1) := by decide +kernel
theorem d_E_removeAll_12 : decode b_E_removeAll 12 = .ok (.putfield 53, 3) := by decide +kernel
theorem d_E_removeAll_15 : decode b_E_removeAll 15 = .ok (.return_, 1) := by decide +kernel
theorem d_E_addElement_0 : decode b_E_addElement 0 = .ok (.aload_n 0, 1) := by decide +kernel
theorem d_E_addElement_1 : decode b_E_addElement 1 = .ok (.getfield 46, 3) := by decide +kernel
theorem d_E_addElement_4 : decode b_E_addElement 4 = .ok (.sipush 533, 3) := by decide +kernel
theorem d_E_addElement_7 : decode b_E_addElement 7 = .ok (.if_icmp .lt 5, 3) := by decide +kernel
theorem d_E_addElement_10 : decode b_E_addElement 10 = .ok (.iconst 0, 1) := by decide +kernel
theorem d_E_addElement_11 : decode b_E_addElement 11 = .ok (.ireturn, 1) := by decide +kernel
theorem d_E_addElement_12 : decode b_E_addElement 12 = .ok (.aload_n 0, 1) := by decide +kernel
theorem d_E_addElement_13 : decode b_E_addElement 13 = .ok (.getfield 11, 3) := by decide +kernel
theorem d_E_addElement_16 : decode b_E_addElement 16 = .ok (.aload_n 0, 1) := by decide +kernel
theorem d_E_addElement_17 : decode b_E_addElement 17 = .ok (.getfield 46, 3) := by decide +kernel
theorem d_E_addElement_20 : decode b_E_addElement 20 = .ok (.iload_n 1, 1) := by decide +kernel
theorem d_E_addElement_21 : decode b_E_addElement 21 = .ok (.iastore, 1) := by decide +kernel
theorem d_E_addElement_22 : decode b_E_addElement 22 = .ok (.aload_n 0, 1) := by decide +kernel
theorem d_E_addElement_23 : decode b_E_addElement 23 = .ok (.getfield 15, 3) := by decide +kernel
theorem d_E_addElement_26 : decode b_E_addElement 26 = .ok (.aload_n 0, 1) := by decide +kernel
theorem d_E_addElement_27 : decode b_E_addElement 27 = .ok (.getfield 46, 3) := by decide +kernel
theorem d_E_addElement_30 : decode b_E_addElement 30 = .ok (.iload_n 2, 1) := by decide +kernel
theorem d_E_addElement_31 : decode b_E_addElement 31 = .ok (.iastore, 1) := by decide +kernel
theorem d_E_addElement_32 : decode b_E_addElement 32 = .ok (.aload_n 0, 1) := by decide +kernel
theorem d_E_addElement_33 : decode b_E_addElement 33 = .ok (.getfield 18, 3) := by decide +kernel
theorem d_E_addElement_36 : decode b_E_addElement 36 = .ok (.aload_n 0, 1) := by decide +kernel
theorem d_E_addElement_37 : decode b_E_addElement 37 = .ok (.getfield 46, 3) := by decide +kernel
theorem d_E_addElement_40 : decode b_E_addElement 40 = .ok (.iconst 0, 1) := by decide +kernel
theorem d_E_addElement_41 : decode b_E_addElement 41 = .ok (.iastore, 1) := by decide +kernel
theorem d_E_addElement_42 : decode b_E_addElement 42 = .ok (.aload_n 0, 1) := by decide +kernel
theorem d_E_addElement_43 : decode b_E_addElement 43 = .ok (.getfield 21, 3) := by decide +kernel
theorem d_E_addElement_46 : decode b_E_addElement 46 = .ok (.aload_n 0, 1) := by decide +kernel
theorem d_E_addElement_47 : decode b_E_addElement 47 = .ok (.getfield 46, 3) := by decide +kernel
theorem d_E_addElement_50 : decode b_E_addElement 50 = .ok (.aload_n 0, 1) := by decide +kernel
theorem d_E_addElement_51 : decode b_E_addElement 51 = .ok (.getfield 50, 3) := by decide +kernel
theorem d_E_addElement_54 : decode b_E_addElement 54 = .ok (.iastore, 1) := by decide +kernel
theorem d_E_addElement_55 : decode b_E_addElement 55 = .ok (.aload_n 0, 1) := by decide +kernel
theorem d_E_addElement_56 : decode b_E_addElement 56 = .ok (.getfield 24, 3) := by decide +kernel
theorem d_E_addElement_59 : decode b_E_addElement 59 = .ok (.aload_n 0, 1) := by decide +kernel
theorem d_E_addElement_60 : decode b_E_addElement 60 = .ok (.getfield 46, 3) := by decide +kernel
theorem d_E_addElement_63 : decode b_E_addElement 63 = .ok (.iconst 0, 1) := by decide +kernel
theorem d_E_addElement_64 : decode b_E_addElement 64 = .ok (.iastore, 1) := by decide +kernel
theorem d_E_addElement_65 : decode b_E_addElement 65 = .ok (.aload_n 0, 1) := by decide +kernel
theorem d_E_addElement_66 : decode b_E_addElement 66 = .ok (.getfield 27, 3) := by decide +kernel
theorem d_E_addElement_69 : decode b_E_addElement 69 = .ok (.aload_n 0, 1) := by decide +kernel
theorem d_E_addElement_70 : decode b_E_addElement 70 = .ok (.getfield 46, 3) := by decide +kernel
theorem d_E_addElement_73 : decode b_E_addElement 73 = .ok (.aload_n 0, 1) := by decide +kernel
theorem d_E_addElement_74 : decode b_E_addElement 74 = .ok (.getfield 53, 3) := by decide +kernel
theorem d_E_addElement_77 : decode b_E_addElement 77 = .ok (.iastore, 1) := by decide +kernel
theorem d_E_addElement_78 : decode b_E_addElement 78 = .ok (.aload_n 0, 1) := by decide +kernel
theorem d_E_addElement_79 : decode b_E_addElement 79 = .ok (.getfield 30, 3) := by decide +kernel
theorem d_E_addElement_82 : decode b_E_addElement 82 = .ok (.aload_n 0, 1) := by decide +kernel
theorem d_E_addElement_83 : decode b_E_addElement 83 = .ok (.getfield 46, 3) := by decide +kernel
theorem d_E_addElement_86 : decode b_E_addElement 86 = .ok (.iconst 0, 1) := by decide +kernel
theorem d_E_addElement_87 : decode b_E_addElement 87 = .ok (.iastore, 1) := by decide +kernel
theorem d_E_addElement_88 : decode b_E_addElement 88 = .ok (.iload_n 2, 1) := by decide +kernel
theorem d_E_addElement_89 : decode b_E_addElement 89 = .ok (.iconst (-1), 1) := by decide +kernel
theorem d_E_addElement_90 : decode b_E_addElement 90 = .ok (.if_icmp .eq 13, 3) := by decide +kernel
theorem d_E_addElement_93 : decode b_E_addElement 93 = .ok (.aload_n 0, 1) := by decide +kernel
theorem d_E_addElement_94 : decode b_E_addElement 94 = .ok (.getfield 18, 3) := by decide +kernel
theorem d_E_addElement_97 : decode b_E_addElement 97 = .ok (.iload_n 2, 1) := by decide +kernel
theorem d_E_addElement_98 : decode b_E_addElement 98 = .ok (.dup2, 1) := by decide +kernel
theorem d_E_addElement_99 : decode b_E_addElement 99 = .ok (.iaload, 1) := by decide +kernel
theorem d_E_addElement_100 : decode b_E_addElement 100 = .ok (.iconst 1, 1) := by decide +kernel
theorem d_E_addElement_101 : decode b_E_addElement 101 = .ok (.iadd, 1) := by decide +kernel
theorem d_E_addElement_102 : decode b_E_addElement 102 = .ok (.iastore, 1) := by decide +kernel
theorem d_E_addElement_103 : decode b_E_addElement 103 = .ok (.aload_n 0, 1) := by decide +kernel
theorem d_E_addElement_104 : decode b_E_addElement 104 = .ok (.dup, 1) := by decide +kernel
theorem d_E_addElement_105 : decode b_E_addElement 105 = .ok (.getfield 46, 3) := by decide +kernel
theorem d_E_addElement_108 : decode b_E_addElement 108 = .ok (.iconst 1, 1) := by decide +kernel
theorem d_E_addElement_109 : decode b_E_addElement 109 = .ok (.iadd, 1) := by decide +kernel
theorem d_E_addElement_110 : decode b_E_addElement 110 = .ok (.putfield 46, 3) := by decide +kernel
theorem d_E_addElement_113 : decode b_E_addElement 113 = .ok (.iconst 1, 1) := by decide +kernel
theorem d_E_addElement_114 : decode b_E_addElement 114 = .ok (.ireturn, 1) := by decide +kernel
theorem d_E_addAttribute_0 : decode b_E_addAttribute 0 = .ok (.aload_n 0, 1) := by decide +kernel
theorem d_E_addAttribute_1 : decode b_E_addAttribute 1 = .ok (.getfield 46, 3) := by decide +kernel
theorem d_E_addAttribute_4 : decode b_E_addAttribute 4 = .ok (.ifCond .eq 13, 3) := by decide +kernel
theorem d_E_addAttribute_7 : decode b_E_addAttribute 7 = .ok (.aload_n 0, 1) := by decide +kernel
theorem d_E_addAttribute_8 : decode b_E_addAttribute 8 = .ok (.getfield 50, 3) := by decide +kernel
theorem d_E_addAttribute_11 : decode b_E_addAttribute 11 = .ok (.sipush 320, 3) := by decide +kernel
theorem d_E_addAttribute_14 : decode b_E_addAttribute 14 = .ok (.if_icmp .lt 5, 3) := by decide +kernel
theorem d_E_addAttribute_17 : decode b_E_addAttribute 17 = .ok (.iconst 0, 1) := by decide +kernel
theorem d_E_addAttribute_18 : decode b_E_addAttribute 18 = .ok (.ireturn, 1) := by decide +kernel
theorem d_E_addAttribute_19 : decode b_E_addAttribute 19 = .ok (.aload_n 0, 1) := by decide +kernel
theorem d_E_addAttribute_20 : decode b_E_addAttribute 20 = .ok (.getfield 33, 3) := by decide +kernel
theorem d_E_addAttribute_23 : decode b_E_addAttribute 23 = .ok (.aload_n 0, 1) := by decide +kernel
theorem d_E_addAttribute_24 : decode b_E_addAttribute 24 = .ok (.getfield 50, 3) := by decide +kernel
theorem d_E_addAttribute_27 : decode b_E_addAttribute 27 = .ok (.iload_n 1, 1) := by decide +kernel
theorem d_E_addAttribute_28 : decode b_E_addAttribute 28 = .ok (.iastore, 1) := by decide +kernel
theorem d_E_addAttribute_29 : decode b_E_addAttribute 29 = .ok (.aload_n 0, 1) := by decide +kernel
theorem d_E_addAttribute_30 : decode b_E_addAttribute 30 = .ok (.getfield 36, 3) := by decide +kernel
theorem d_E_addAttribute_33 : decode b_E_addAttribute 33 = .ok (.aload_n 0, 1) := by decide +kernel
theorem d_E_addAttribute_34 : decode b_E_addAttribute 34 = .ok (.getfield 50, 3) := by decide +kernel
theorem d_E_addAttribute_37 : decode b_E_addAttribute 37 = .ok (.iload_n 2, 1) := by decide +kernel
theorem d_E_addAttribute_38 : decode b_E_addAttribute 38 = .ok (.iastore, 1) := by decide +kernel
theorem d_E_addAttribute_39 : decode b_E_addAttribute 39 = .ok (.aload_n 0, 1) := by decide +kernel
theorem d_E_addAttribute_40 : decode b_E_addAttribute 40 = .ok (.getfield 39, 3) := by decide +kernel
theorem d_E_addAttribute_43 : decode b_E_addAttribute 43 = .ok (.aload_n 0, 1) := by decide +kernel
theorem d_E_addAttribute_44 : decode b_E_addAttribute 44 = .ok (.getfield 50, 3) := by decide +kernel
theorem d_E_addAttribute_47 : decode b_E_addAttribute 47 = .ok (.iload_n 3, 1) := by decide +kernel
theorem d_E_addAttribute_48 : decode b_E_addAttribute 48 = .ok (.iastore, 1) := by decide +kernel
theorem d_E_addAttribute_49 : decode b_E_addAttribute 49 = .ok (.aload_n 0, 1) := by decide +kernel
theorem d_E_addAttribute_50 : decode b_E_addAttribute 50 = .ok (.getfield 24, 3) := by decide +kernel
theorem d_E_addAttribute_53 : decode b_E_addAttribute 53 = .ok (.aload_n 0, 1) := by decide +kernel
theorem d_E_addAttribute_54 : decode b_E_addAttribute 54 = .ok (.getfield 46, 3) := by decide +kernel
theorem d_E_addAttribute_57 : decode b_E_addAttribute 57 = .ok (.iconst 1, 1) := by decide +kernel
theorem d_E_addAttribute_58 : decode b_E_addAttribute 58 = .ok (.isub, 1) := by decide +kernel
theorem d_E_addAttribute_59 : decode b_E_addAttribute 59 = .ok (.dup2, 1) := by decide +kernel
theorem d_E_addAttribute_60 : decode b_E_addAttribute 60 = .ok (.iaload, 1) := by decide +kernel
theorem d_E_addAttribute_61 : decode b_E_addAttribute 61 = .ok (.iconst 1, 1) := by decide +kernel
theorem d_E_addAttribute_62 : decode b_E_addAttribute 62 = .ok (.iadd, 1) := by decide +kernel
theorem d_E_addAttribute_63 : decode b_E_addAttribute 63 = .ok (.iastore, 1) := by decide +kernel
theorem d_E_addAttribute_64 : decode b_E_addAttribute 64 = .ok (.aload_n 0, 1) := by decide +kernel
theorem d_E_addAttribute_65 : decode b_E_addAttribute 65 = .ok (.dup, 1) := by decide +kernel
theorem d_E_addAttribute_66 : decode b_E_addAttribute 66 = .ok (.getfield 50, 3) := by decide +kernel
theorem d_E_addAttribute_69 : decode b_E_addAttribute 69 = .ok (.iconst 1, 1) := by decide +kernel
theorem d_E_addAttribute_70 : decode b_E_addAttribute 70 = .ok (.iadd, 1) := by decide +kernel
theorem d_E_addAttribute_71 : decode b_E_addAttribute 71 = .ok (.putfield 50, 3) := by decide +kernel
theorem d_E_addAttribute_74 : decode b_E_addAttribute 74 = .ok (.iconst 1, 1) := by decide +kernel
theorem d_E_addAttribute_75 : decode b_E_addAttribute 75 = .ok (.ireturn, 1) := by decide +kernel
theorem d_E_addText_0 : decode b_E_addText 0 = .ok (.iload_n 1, 1) := by decide +kernel
theorem d_E_addText_1 : decode b_E_addText 1 = .ok (.iconst (-1), 1) := by decide +kernel
theorem d_E_addText_2 : decode b_E_addText 2 = .ok (.if_icmp .eq 13, 3) := by decide +kernel
theorem d_E_addText_5 : decode b_E_addText 5 = .ok (.aload_n 0, 1) := by decide +kernel
theorem d_E_addText_6 : decode b_E_addText 6 = .ok (.getfield 53, 3) := by decide +kernel
theorem d_E_addText_9 : decode b_E_addText 9 = .ok (.sipush 1600, 3) := by decide +kernel
theorem d_E_addText_12 : decode b_E_addText 12 = .ok (.if_icmp .lt 5, 3) := by decide +kernel
theorem d_E_addText_15 : decode b_E_addText 15 = .ok (.iconst 0, 1) := by decide +kernel
theorem d_E_addText_16 : decode b_E_addText 16 = .ok (.ireturn, 1) := by decide +kernel
theorem d_E_addText_17 : decode b_E_addText 17 = .ok (.aload_n 0, 1) := by decide +kernel
theorem d_E_addText_18 : decode b_E_addText 18 = .ok (.getfield 42, 3) := by decide +kernel
theorem d_E_addText_21 : decode b_E_addText 21 = .ok (.aload_n 0, 1) := by decide +kernel
theorem d_E_addText_22 : decode b_E_addText 22 = .ok (.getfield 53, 3) := by decide +kernel
theorem d_E_addText_25 : decode b_E_addText 25 = .ok (.iload_n 2, 1) := by decide +kernel
theorem d_E_addText_26 : decode b_E_addText 26 = .ok (.i2c, 1) := by decide +kernel
theorem d_E_addText_27 : decode b_E_addText 27 = .ok (.castore, 1) := by decide +kernel
theorem d_E_addText_28 : decode b_E_addText 28 = .ok (.aload_n 0, 1) := by decide +kernel
theorem d_E_addText_29 : decode b_E_addText 29 = .ok (.getfield 30, 3) := by decide +kernel
theorem d_E_addText_32 : decode b_E_addText 32 = .ok (.iload_n 1, 1) := by decide +kernel
theorem d_E_addText_33 : decode b_E_addText 33 = .ok (.dup2, 1) := by decide +kernel
theorem d_E_addText_34 : decode b_E_addText 34 = .ok (.iaload, 1) := by decide +kernel
theorem d_E_addText_35 : decode b_E_addText 35 = .ok (.iconst 1, 1) := by decide +kernel
theorem d_E_addText_36 : decode b_E_addText 36 = .ok (.iadd, 1) := by decide +kernel
theorem d_E_addText_37 : decode b_E_addText 37 = .ok (.iastore, 1) := by decide +kernel
theorem d_E_addText_38 : decode b_E_addText 38 = .ok (.aload_n 0, 1) := by decide +kernel
theorem d_E_addText_39 : decode b_E_addText 39 = .ok (.dup, 1) := by decide +kernel
theorem d_E_addText_40 : decode b_E_addText 40 = .ok (.getfield 53, 3) := by decide +kernel
theorem d_E_addText_43 : decode b_E_addText 43 = .ok (.iconst 1, 1) := by decide +kernel
theorem d_E_addText_44 : decode b_E_addText 44 = .ok (.iadd, 1) := by decide +kernel
theorem d_E_addText_45 : decode b_E_addText 45 = .ok (.putfield 53, 3) := by decide +kernel
theorem d_E_addText_48 : decode b_E_addText 48 = .ok (.iconst 1, 1) := by decide +kernel
theorem d_E_addText_49 : decode b_E_addText 49 = .ok (.ireturn, 1) := by decide +kernel
theorem d_E_findAttribute_0 : decode b_E_findAttribute 0 = .ok (.aload_n 0, 1) := by decide +kernel
theorem d_E_findAttribute_1 : decode b_E_findAttribute 1 = .ok (.getfield 21, 3) := by decide +kernel
theorem d_E_findAttribute_4 : decode b_E_findAttribute 4 = .ok (.iload_n 1, 1) := by decide +kernel
theorem d_E_findAttribute_5 : decode b_E_findAttribute 5 = .ok (.iaload, 1) := by decide +kernel
theorem d_E_findAttribute_6 : decode b_E_findAttribute 6 = .ok (.aload_n 0, 1) := by decide +kernel
theorem d_E_findAttribute_7 : decode b_E_findAttribute 7 = .ok (.getfield 24, 3) := by decide +kernel
theorem d_E_findAttribute_10 : decode b_E_findAttribute 10 = .ok (.iload_n 1, 1) := by decide +kernel
theorem d_E_findAttribute_11 : decode b_E_findAttribute 11 = .ok (.iaload, 1) := by decide +kernel
theorem d_E_findAttribute_12 : decode b_E_findAttribute 12 = .ok (.iadd, 1) := by decide +kernel
theorem d_E_findAttribute_13 : decode b_E_findAttribute 13 = .ok (.istore_n 3, 1) := by decide +kernel
theorem d_E_findAttribute_14 : decode b_E_findAttribute 14 = .ok (.aload_n 0, 1) := by decide +kernel
theorem d_E_findAttribute_15 : decode b_E_findAttribute 15 = .ok (.getfield 21, 3) := by decide +kernel
theorem d_E_findAttribute_18 : decode b_E_findAttribute 18 = .ok (.iload_n 1, 1) := by decide +kernel
theorem d_E_findAttribute_19 : decode b_E_findAttribute 19 = .ok (.iaload, 1) := by decide +kernel
theorem d_E_findAttribute_20 : decode b_E_findAttribute 20 = .ok (.istore 4, 2) := by decide +kernel
theorem d_E_findAttribute_22 : decode b_E_findAttribute 22 = .ok (.iload 4, 2) := by decide +kernel
theorem d_E_findAttribute_24 : decode b_E_findAttribute 24 = .ok (.iload_n 3, 1) := by decide +kernel
theorem d_E_findAttribute_25 : decode b_E_findAttribute 25 = .ok (.if_icmp .ge 23, 3) := by decide +kernel
theorem d_E_findAttribute_28 : decode b_E_findAttribute 28 = .ok (.aload_n 0, 1) := by decide +kernel
theorem d_E_findAttribute_29 : decode b_E_findAttribute 29 = .ok (.getfield 33, 3) := by decide +kernel
theorem d_E_findAttribute_32 : decode b_E_findAttribute 32 = .ok (.iload 4, 2) := by decide +kernel
theorem d_E_findAttribute_34 : decode b_E_findAttribute 34 = .ok (.iaload, 1) := by decide +kernel
theorem d_E_findAttribute_35 : decode b_E_findAttribute 35 = .ok (.iload_n 2, 1) := by decide +kernel
theorem d_E_findAttribute_36 : decode b_E_findAttribute 36 = .ok (.if_icmp .ne 6, 3) := by decide +kernel
theorem d_E_findAttribute_39 : decode b_E_findAttribute 39 = .ok (.iload 4, 2) := by decide +kernel
theorem d_E_findAttribute_41 : decode b_E_findAttribute 41 = .ok (.ireturn, 1) := by decide +kernel
theorem d_E_findAttribute_42 : decode b_E_findAttribute 42 = .ok (.iinc 4 1, 3) := by decide +kernel
theorem d_E_findAttribute_45 : decode b_E_findAttribute 45 = .ok (.goto (-23), 3) := by decide +kernel
theorem d_E_findAttribute_48 : decode b_E_findAttribute 48 = .ok (.iconst (-1), 1) := by decide +kernel
theorem d_E_findAttribute_49 : decode b_E_findAttribute 49 = .ok (.ireturn, 1) := by decide +kernel
theorem d_E_isEmpty_0 : decode b_E_isEmpty 0 = .ok (.aload_n 0, 1) := by decide +kernel
theorem d_E_isEmpty_1 : decode b_E_isEmpty 1 = .ok (.getfield 30, 3) := by decide +kernel
theorem d_E_isEmpty_4 : decode b_E_isEmpty 4 = .ok (.iload_n 1, 1) := by decide +kernel
theorem d_E_isEmpty_5 : decode b_E_isEmpty 5 = .ok (.iaload, 1) := by decide +kernel
theorem d_E_isEmpty_6 : decode b_E_isEmpty 6 = .ok (.ifCond .ne 16, 3) := by decide +kernel
theorem d_E_isEmpty_9 : decode b_E_isEmpty 9 = .ok (.aload_n 0, 1) := by decide +kernel
theorem d_E_isEmpty_10 : decode b_E_isEmpty 10 = .ok (.getfield 18, 3) := by decide +kernel
theorem d_E_isEmpty_13 : decode b_E_isEmpty 13 = .ok (.iload_n 1, 1) := by decide +kernel
theorem d_E_isEmpty_14 : decode b_E_isEmpty 14 = .ok (.iaload, 1) := by decide +kernel
theorem d_E_isEmpty_15 : decode b_E_isEmpty 15 = .ok (.ifCond .ne 7, 3) := by decide +kernel
theorem d_E_isEmpty_18 : decode b_E_isEmpty 18 = .ok (.iconst 1, 1) := by decide +kernel
theorem d_E_isEmpty_19 : decode b_E_isEmpty 19 = .ok (.goto 4, 3) := by decide +kernel
theorem d_E_isEmpty_22 : decode b_E_isEmpty 22 = .ok (.iconst 0, 1) := by decide +kernel
theorem d_E_isEmpty_23 : decode b_E_isEmpty 23 = .ok (.ireturn, 1) := by decide +kernel
theorem d_F_init_0 : decode b_F_init 0 = .ok (.aload_n 0, 1) := by decide +kernel
theorem d_F_init_1 : decode b_F_init 1 = .ok (.invokespecial 3, 3) := by decide +kernel
theorem d_F_init_4 : decode b_F_init 4 = .ok (.aload_n 0, 1) := by decide +kernel
theorem d_F_init_5 : decode b_F_init 5 = .ok (.aload_n 1, 1) := by decide +kernel
theorem d_F_init_6 : decode b_F_init 6 = .ok (.putfield 9, 3) := by decide +kernel
theorem d_F_init_9 : decode b_F_init 9 = .ok (.aload_n 0, 1) := by decide +kernel
theorem d_F_init_10 : decode b_F_init 10 = .ok (.aload_n 2, 1) := by decide +kernel
theorem d_F_init_11 : decode b_F_init 11 = .ok (.putfield 15, 3) := by decide +kernel
theorem d_F_init_14 : decode b_F_init 14 = .ok (.return_, 1) := by decide +kernel
theorem d_F_isWellFormed_0 : decode b_F_isWellFormed 0 = .ok (.aload_n 0, 1) := by decide +kernel
theorem d_F_isWellFormed_1 : decode b_F_isWellFormed 1 = .ok (.getfield 15, 3) := by decide +kernel
theorem d_F_isWellFormed_4 : decode b_F_isWellFormed 4 = .ok (.invokevirtual 19, 3) := by decide +kernel
theorem d_F_isWellFormed_7 : decode b_F_isWellFormed 7 = .ok (.aload_n 0, 1) := by decide +kernel
theorem d_F_isWellFormed_8 : decode b_F_isWellFormed 8 = .ok (.iconst 0, 1) := by decide +kernel
theorem d_F_isWellFormed_9 : decode b_F_isWellFormed 9 = .ok (.putfield 24, 3) := by decide +kernel
theorem d_F_isWellFormed_12 : decode b_F_isWellFormed 12 = .ok (.aload_n 0, 1) := by decide +kernel
theorem d_F_isWellFormed_13 : decode b_F_isWellFormed 13 = .ok (.iconst (-1), 1) := by decide +kernel
theorem d_F_isWellFormed_14 : decode b_F_isWellFormed 14 = .ok (.putfield 28, 3) := by decide +kernel
theorem d_F_isWellFormed_17 : decode b_F_isWellFormed 17 = .ok (.aload_n 0, 1) := by decide +kernel
theorem d_F_isWellFormed_18 : decode b_F_isWellFormed 18 = .ok (.iconst 0, 1) := by decide +kernel
theorem d_F_isWellFormed_19 : decode b_F_isWellFormed 19 = .ok (.putfield 31, 3) := by decide +kernel
theorem d_F_isWellFormed_22 : decode b_F_isWellFormed 22 = .ok (.iconst 0, 1) := by decide +kernel
theorem d_F_isWellFormed_23 : decode b_F_isWellFormed 23 = .ok (.istore_n 1, 1) := by decide +kernel
theorem d_F_isWellFormed_24 : decode b_F_isWellFormed 24 = .ok (.iload_n 1, 1) := by decide +kernel
theorem d_F_isWellFormed_25 : decode b_F_isWellFormed 25 = .ok (.sipush 1600, 3) := by decide +kernel
theorem d_F_isWellFormed_28 : decode b_F_isWellFormed 28 = .ok (.if_icmp .ge 32, 3) := by decide +kernel
theorem d_F_isWellFormed_31 : decode b_F_isWellFormed 31 = .ok (.aload_n 0, 1) := by decide +kernel
theorem d_F_isWellFormed_32 : decode b_F_isWellFormed 32 = .ok (.getfield 24, 3) := by decide +kernel
theorem d_F_isWellFormed_35 : decode b_F_isWellFormed 35 = .ok (.aload_n 0, 1) := by decide +kernel
theorem d_F_isWellFormed_36 : decode b_F_isWellFormed 36 = .ok (.getfield 9, 3) := by decide +kernel
theorem d_F_isWellFormed_39 : decode b_F_isWellFormed 39 = .ok (.getfield 34, 3) := by decide +kernel
theorem d_F_isWellFormed_42 : decode b_F_isWellFormed 42 = .ok (.if_icmp .ge 18, 3) := by decide +kernel
theorem d_F_isWellFormed_45 : decode b_F_isWellFormed 45 = .ok (.aload_n 0, 1) := by decide +kernel
theorem d_F_isWellFormed_46 : decode b_F_isWellFormed 46 = .ok (.invokevirtual 39, 3) := by decide +kernel
theorem d_F_isWellFormed_49 : decode b_F_isWellFormed 49 = .ok (.ifCond .ne 5, 3) := by decide +kernel
theorem d_F_isWellFormed_52 : decode b_F_isWellFormed 52 = .ok (.iconst 0, 1) := by decide +kernel
theorem d_F_isWellFormed_53 : decode b_F_isWellFormed 53 = .ok (.ireturn, 1) := by decide +kernel
theorem d_F_isWellFormed_54 : decode b_F_isWellFormed 54 = .ok (.iinc 1 1, 3) := by decide +kernel
theorem d_F_isWellFormed_57 : decode b_F_isWellFormed 57 = .ok (.goto (-33), 3) := by decide +kernel
theorem d_F_isWellFormed_60 : decode b_F_isWellFormed 60 = .ok (.aload_n 0, 1) := by decide +kernel
theorem d_F_isWellFormed_61 : decode b_F_isWellFormed 61 = .ok (.getfield 15, 3) := by decide +kernel
theorem d_F_isWellFormed_64 : decode b_F_isWellFormed 64 = .ok (.getfield 43, 3) := by decide +kernel
theorem d_F_isWellFormed_67 : decode b_F_isWellFormed 67 = .ok (.ifCond .le 29, 3) := by decide +kernel
theorem d_F_isWellFormed_70 : decode b_F_isWellFormed 70 = .ok (.aload_n 0, 1) := by decide +kernel
theorem d_F_isWellFormed_71 : decode b_F_isWellFormed 71 = .ok (.getfield 28, 3) := by decide +kernel
theorem d_F_isWellFormed_74 : decode b_F_isWellFormed 74 = .ok (.iconst (-1), 1) := by decide +kernel
theorem d_F_isWellFormed_75 : decode b_F_isWellFormed 75 = .ok (.if_icmp .ne 21, 3) := by decide +kernel
theorem d_F_isWellFormed_78 : decode b_F_isWellFormed 78 = .ok (.aload_n 0, 1) := by decide +kernel
theorem d_F_isWellFormed_79 : decode b_F_isWellFormed 79 = .ok (.getfield 24, 3) := by decide +kernel
theorem d_F_isWellFormed_82 : decode b_F_isWellFormed 82 = .ok (.aload_n 0, 1) := by decide +kernel
theorem d_F_isWellFormed_83 : decode b_F_isWellFormed 83 = .ok (.getfield 9, 3) := by decide +kernel
theorem d_F_isWellFormed_86 : decode b_F_isWellFormed 86 = .ok (.getfield 34, 3) := by decide +kernel
theorem d_F_isWellFormed_89 : decode b_F_isWellFormed 89 = .ok (.if_icmp .lt 7, 3) := by decide +kernel
theorem d_F_isWellFormed_92 : decode b_F_isWellFormed 92 = .ok (.iconst 1, 1) := by decide +kernel
theorem d_F_isWellFormed_93 : decode b_F_isWellFormed 93 = .ok (.goto 4, 3) := by decide +kernel
theorem d_F_isWellFormed_96 : decode b_F_isWellFormed 96 = .ok (.iconst 0, 1) := by decide +kernel
theorem d_F_isWellFormed_97 : decode b_F_isWellFormed 97 = .ok (.ireturn, 1) := by decide +kernel
theorem d_F_readPiece_0 : decode b_F_readPiece 0 = .ok (.aload_n 0, 1) := by decide +kernel
theorem d_F_readPiece_1 : decode b_F_readPiece 1 = .ok (.getfield 9, 3) := by decide +kernel
theorem d_F_readPiece_4 : decode b_F_readPiece 4 = .ok (.aload_n 0, 1) := by decide +kernel
theorem d_F_readPiece_5 : decode b_F_readPiece 5 = .ok (.getfield 24, 3) := by decide +kernel
theorem d_F_readPiece_8 : decode b_F_readPiece 8 = .ok (.invokevirtual 46, 3) := by decide +kernel
theorem d_F_readPiece_11 : decode b_F_readPiece 11 = .ok (.istore_n 1, 1) := by decide +kernel
theorem d_F_readPiece_12 : decode b_F_readPiece 12 = .ok (.aload_n 0, 1) := by decide +kernel
theorem d_F_readPiece_13 : decode b_F_readPiece 13 = .ok (.getfield 28, 3) := by decide +kernel
theorem d_F_readPiece_16 : decode b_F_readPiece 16 = .ok (.iconst (-1), 1) := by decide +kernel
theorem d_F_readPiece_17 : decode b_F_readPiece 17 = .ok (.if_icmp .ne 32, 3) := by decide +kernel
theorem d_F_readPiece_20 : decode b_F_readPiece 20 = .ok (.aload_n 0, 1) := by decide +kernel
theorem d_F_readPiece_21 : decode b_F_readPiece 21 = .ok (.getfield 15, 3) := by decide +kernel
theorem d_F_readPiece_24 : decode b_F_readPiece 24 = .ok (.getfield 43, 3) := by decide +kernel
theorem d_F_readPiece_27 : decode b_F_readPiece 27 = .ok (.ifCond .ne 20, 3) := by decide +kernel
theorem d_F_readPiece_30 : decode b_F_readPiece 30 = .ok (.iload_n 1, 1) := by decide +kernel
theorem d_F_readPiece_31 : decode b_F_readPiece 31 = .ok (.bipush 60, 2) := by decide +kernel
theorem d_F_readPiece_33 : decode b_F_readPiece 33 = .ok (.if_icmp .ne 14, 3) := by decide +kernel
theorem d_F_readPiece_36 : decode b_F_readPiece 36 = .ok (.aload_n 0, 1) := by decide +kernel
theorem d_F_readPiece_37 : decode b_F_readPiece 37 = .ok (.invokevirtual 50, 3) := by decide +kernel
theorem d_F_readPiece_40 : decode b_F_readPiece 40 = .ok (.ifCond .eq 7, 3) := by decide +kernel
theorem d_F_readPiece_43 : decode b_F_readPiece 43 = .ok (.iconst 1, 1) := by decide +kernel
theorem d_F_readPiece_44 : decode b_F_readPiece 44 = .ok (.goto 4, 3) := by decide +kernel
theorem d_F_readPiece_47 : decode b_F_readPiece 47 = .ok (.iconst 0, 1) := by decide +kernel
theorem d_F_readPiece_48 : decode b_F_readPiece 48 = .ok (.ireturn, 1) := by decide +kernel
theorem d_F_readPiece_49 : decode b_F_readPiece 49 = .ok (.iload_n 1, 1) := by decide +kernel
theorem d_F_readPiece_50 : decode b_F_readPiece 50 = .ok (.bipush 60, 2) := by decide +kernel
theorem d_F_readPiece_52 : decode b_F_readPiece 52 = .ok (.if_icmp .ne 33, 3) := by decide +kernel
theorem d_F_readPiece_55 : decode b_F_readPiece 55 = .ok (.aload_n 0, 1) := by decide +kernel
theorem d_F_readPiece_56 : decode b_F_readPiece 56 = .ok (.getfield 9, 3) := by decide +kernel
theorem d_F_readPiece_59 : decode b_F_readPiece 59 = .ok (.aload_n 0, 1) := by decide +kernel
theorem d_F_readPiece_60 : decode b_F_readPiece 60 = .ok (.getfield 24, 3) := by decide +kernel
theorem d_F_readPiece_63 : decode b_F_readPiece 63 = .ok (.iconst 1, 1) := by decide +kernel
theorem d_F_readPiece_64 : decode b_F_readPiece 64 = .ok (.iadd, 1) := by decide +kernel
theorem d_F_readPiece_65 : decode b_F_readPiece 65 = .ok (.invokevirtual 46, 3) := by decide +kernel
theorem d_F_readPiece_68 : decode b_F_readPiece 68 = .ok (.bipush 47, 2) := by decide +kernel
theorem d_F_readPiece_70 : decode b_F_readPiece 70 = .ok (.if_icmp .ne 10, 3) := by decide +kernel
theorem d_F_readPiece_73 : decode b_F_readPiece 73 = .ok (.aload_n 0, 1) := by decide +kernel
theorem d_F_readPiece_74 : decode b_F_readPiece 74 = .ok (.invokevirtual 53, 3) := by decide +kernel
theorem d_F_readPiece_77 : decode b_F_readPiece 77 = .ok (.goto 7, 3) := by decide +kernel
theorem d_F_readPiece_80 : decode b_F_readPiece 80 = .ok (.aload_n 0, 1) := by decide +kernel
theorem d_F_readPiece_81 : decode b_F_readPiece 81 = .ok (.invokevirtual 50, 3) := by decide +kernel
theorem d_F_readPiece_84 : decode b_F_readPiece 84 = .ok (.ireturn, 1) := by decide +kernel
theorem d_F_readPiece_85 : decode b_F_readPiece 85 = .ok (.iload_n 1, 1) := by decide +kernel
theorem d_F_readPiece_86 : decode b_F_readPiece 86 = .ok (.bipush 38, 2) := by decide +kernel
theorem d_F_readPiece_88 : decode b_F_readPiece 88 = .ok (.if_icmp .ne 33, 3) := by decide +kernel
theorem d_F_readPiece_91 : decode b_F_readPiece 91 = .ok (.aload_n 0, 1) := by decide +kernel
theorem d_F_readPiece_92 : decode b_F_readPiece 92 = .ok (.getfield 9, 3) := by decide +kernel
theorem d_F_readPiece_95 : decode b_F_readPiece 95 = .ok (.aload_n 0, 1) := by decide +kernel
theorem d_F_readPiece_96 : decode b_F_readPiece 96 = .ok (.getfield 24, 3) := by decide +kernel
theorem d_F_readPiece_99 : decode b_F_readPiece 99 = .ok (.iconst 1, 1) := by decide +kernel
theorem d_F_readPiece_100 : decode b_F_readPiece 100 = .ok (.iadd, 1) := by decide +kernel
theorem d_F_readPiece_101 : decode b_F_readPiece 101 = .ok (.invokevirtual 46, 3) := by decide +kernel
theorem d_F_readPiece_104 : decode b_F_readPiece 104 = .ok (.bipush 35, 2) := by decide +kernel
theorem d_F_readPiece_106 : decode b_F_readPiece 106 = .ok (.if_icmp .ne 10, 3) := by decide +kernel
theorem d_F_readPiece_109 : decode b_F_readPiece 109 = .ok (.aload_n 0, 1) := by decide +kernel
theorem d_F_readPiece_110 : decode b_F_readPiece 110 = .ok (.invokevirtual 56, 3) := by decide +kernel
theorem d_F_readPiece_113 : decode b_F_readPiece 113 = .ok (.goto 7, 3) := by decide +kernel
theorem d_F_readPiece_116 : decode b_F_readPiece 116 = .ok (.aload_n 0, 1) := by decide +kernel
theorem d_F_readPiece_117 : decode b_F_readPiece 117 = .ok (.invokevirtual 59, 3) := by decide +kernel
theorem d_F_readPiece_120 : decode b_F_readPiece 120 = .ok (.ireturn, 1) := by decide +kernel
theorem d_F_readPiece_121 : decode b_F_readPiece 121 = .ok (.aload_n 0, 1) := by decide +kernel
theorem d_F_readPiece_122 : decode b_F_readPiece 122 = .ok (.dup, 1) := by decide +kernel
theorem d_F_readPiece_123 : decode b_F_readPiece 123 = .ok (.getfield 24, 3) := by decide +kernel
theorem d_F_readPiece_126 : decode b_F_readPiece 126 = .ok (.iconst 1, 1) := by decide +kernel
theorem d_F_readPiece_127 : decode b_F_readPiece 127 = .ok (.iadd, 1) := by decide +kernel
theorem d_F_readPiece_128 : decode b_F_readPiece 128 = .ok (.putfield 24, 3) := by decide +kernel
theorem d_F_readPiece_131 : decode b_F_readPiece 131 = .ok (.aload_n 0, 1) := by decide +kernel
theorem d_F_readPiece_132 : decode b_F_readPiece 132 = .ok (.getfield 15, 3) := by decide +kernel
theorem d_F_readPiece_135 : decode b_F_readPiece 135 = .ok (.aload_n 0, 1) := by decide +kernel
theorem d_F_readPiece_136 : decode b_F_readPiece 136 = .ok (.getfield 28, 3) := by decide +kernel
theorem d_F_readPiece_139 : decode b_F_readPiece 139 = .ok (.iload_n 1, 1) := by decide +kernel
theorem d_F_readPiece_140 : decode b_F_readPiece 140 = .ok (.invokevirtual 62, 3) := by decide +kernel
theorem d_F_readPiece_143 : decode b_F_readPiece 143 = .ok (.ireturn, 1) := by decide +kernel
theorem d_F_readStart_0 : decode b_F_readStart 0 = .ok (.aload_n 0, 1) := by decide +kernel
theorem d_F_readStart_1 : decode b_F_readStart 1 = .ok (.dup, 1) := by decide +kernel
theorem d_F_readStart_2 : decode b_F_readStart 2 = .ok (.getfield 24, 3) := by decide +kernel
theorem d_F_readStart_5 : decode b_F_readStart 5 = .ok (.iconst 1, 1) := by decide +kernel
theorem d_F_readStart_6 : decode b_F_readStart 6 = .ok (.iadd, 1) := by decide +kernel
theorem d_F_readStart_7 : decode b_F_readStart 7 = .ok (.putfield 24, 3) := by decide +kernel
theorem d_F_readStart_10 : decode b_F_readStart 10 = .ok (.aload_n 0, 1) := by decide +kernel
theorem d_F_readStart_11 : decode b_F_readStart 11 = .ok (.invokevirtual 66, 3) := by decide +kernel
theorem d_F_readStart_14 : decode b_F_readStart 14 = .ok (.istore_n 1, 1) := by decide +kernel
theorem d_F_readStart_15 : decode b_F_readStart 15 = .ok (.iload_n 1, 1) := by decide +kernel
theorem d_F_readStart_16 : decode b_F_readStart 16 = .ok (.ifCond .eq 27, 3) := by decide +kernel
theorem d_F_readStart_19 : decode b_F_readStart 19 = .ok (.aload_n 0, 1) := by decide +kernel
theorem d_F_readStart_20 : decode b_F_readStart 20 = .ok (.getfield 31, 3) := by decide +kernel
theorem d_F_readStart_23 : decode b_F_readStart 23 = .ok (.bipush 20, 2) := by decide +kernel
theorem d_F_readStart_25 : decode b_F_readStart 25 = .ok (.if_icmp .ge 18, 3) := by decide +kernel
theorem d_F_readStart_28 : decode b_F_readStart 28 = .ok (.aload_n 0, 1) := by decide +kernel
theorem d_F_readStart_29 : decode b_F_readStart 29 = .ok (.getfield 15, 3) := by decide +kernel
theorem d_F_readStart_32 : decode b_F_readStart 32 = .ok (.iload_n 1, 1) := by decide +kernel
theorem d_F_readStart_33 : decode b_F_readStart 33 = .ok (.aload_n 0, 1) := by decide +kernel
theorem d_F_readStart_34 : decode b_F_readStart 34 = .ok (.getfield 28, 3) := by decide +kernel
theorem d_F_readStart_37 : decode b_F_readStart 37 = .ok (.invokevirtual 70, 3) := by decide +kernel
theorem d_F_readStart_40 : decode b_F_readStart 40 = .ok (.ifCond .ne 5, 3) := by decide +kernel
theorem d_F_readStart_43 : decode b_F_readStart 43 = .ok (.iconst 0, 1) := by decide +kernel
theorem d_F_readStart_44 : decode b_F_readStart 44 = .ok (.ireturn, 1) := by decide +kernel
theorem d_F_readStart_45 : decode b_F_readStart 45 = .ok (.aload_n 0, 1) := by decide +kernel
theorem d_F_readStart_46 : decode b_F_readStart 46 = .ok (.getfield 15, 3) := by decide +kernel
theorem d_F_readStart_49 : decode b_F_readStart 49 = .ok (.getfield 43, 3) := by decide +kernel
theorem d_F_readStart_52 : decode b_F_readStart 52 = .ok (.iconst 1, 1) := by decide +kernel
theorem d_F_readStart_53 : decode b_F_readStart 53 = .ok (.isub, 1) := by decide +kernel
theorem d_F_readStart_54 : decode b_F_readStart 54 = .ok (.istore_n 2, 1) := by decide +kernel
theorem d_F_readStart_55 : decode b_F_readStart 55 = .ok (.aload_n 0, 1) := by decide +kernel
theorem d_F_readStart_56 : decode b_F_readStart 56 = .ok (.invokevirtual 73, 3) := by decide +kernel
theorem d_F_readStart_59 : decode b_F_readStart 59 = .ok (.istore_n 3, 1) := by decide +kernel
theorem d_F_readStart_60 : decode b_F_readStart 60 = .ok (.iconst 0, 1) := by decide +kernel
theorem d_F_readStart_61 : decode b_F_readStart 61 = .ok (.istore 4, 2) := by decide +kernel
theorem d_F_readStart_63 : decode b_F_readStart 63 = .ok (.iload 4, 2) := by decide +kernel
theorem d_F_readStart_65 : decode b_F_readStart 65 = .ok (.bipush 6, 2) := by decide +kernel
theorem d_F_readStart_67 : decode b_F_readStart 67 = .ok (.if_icmp .ge 45, 3) := by decide +kernel
theorem d_F_readStart_70 : decode b_F_readStart 70 = .ok (.iload_n 3, 1) := by decide +kernel
theorem d_F_readStart_71 : decode b_F_readStart 71 = .ok (.ifCond .eq 41, 3) := by decide +kernel
theorem d_F_readStart_74 : decode b_F_readStart 74 = .ok (.aload_n 0, 1) := by decide +kernel
theorem d_F_readStart_75 : decode b_F_readStart 75 = .ok (.getfield 9, 3) := by decide +kernel
theorem d_F_readStart_78 : decode b_F_readStart 78 = .ok (.aload_n 0, 1) := by decide +kernel
theorem d_F_readStart_79 : decode b_F_readStart 79 = .ok (.getfield 24, 3) := by decide +kernel
theorem d_F_readStart_82 : decode b_F_readStart 82 = .ok (.invokevirtual 46, 3) := by decide +kernel
theorem d_F_readStart_85 : decode b_F_readStart 85 = .ok (.invokestatic 76, 3) := by decide +kernel
theorem d_F_readStart_88 : decode b_F_readStart 88 = .ok (.ifCond .eq 24, 3) := by decide +kernel
theorem d_F_readStart_91 : decode b_F_readStart 91 = .ok (.aload_n 0, 1) := by decide +kernel
theorem d_F_readStart_92 : decode b_F_readStart 92 = .ok (.iload_n 2, 1) := by decide +kernel
theorem d_F_readStart_93 : decode b_F_readStart 93 = .ok (.invokevirtual 80, 3) := by decide +kernel
theorem d_F_readStart_96 : decode b_F_readStart 96 = .ok (.ifCond .ne 5, 3) := by decide +kernel
theorem d_F_readStart_99 : decode b_F_readStart 99 = .ok (.iconst 0, 1) := by decide +kernel
theorem d_F_readStart_100 : decode b_F_readStart 100 = .ok (.ireturn, 1) := by decide +kernel
theorem d_F_readStart_101 : decode b_F_readStart 101 = .ok (.aload_n 0, 1) := by decide +kernel
theorem d_F_readStart_102 : decode b_F_readStart 102 = .ok (.invokevirtual 73, 3) := by decide +kernel
theorem d_F_readStart_105 : decode b_F_readStart 105 = .ok (.istore_n 3, 1) := by decide +kernel
theorem d_F_readStart_106 : decode b_F_readStart 106 = .ok (.iinc 4 1, 3) := by decide +kernel
theorem d_F_readStart_109 : decode b_F_readStart 109 = .ok (.goto (-46), 3) := by decide +kernel
theorem d_F_readStart_112 : decode b_F_readStart 112 = .ok (.aload_n 0, 1) := by decide +kernel
theorem d_F_readStart_113 : decode b_F_readStart 113 = .ok (.getfield 9, 3) := by decide +kernel
theorem d_F_readStart_116 : decode b_F_readStart 116 = .ok (.aload_n 0, 1) := by decide +kernel
theorem d_F_readStart_117 : decode b_F_readStart 117 = .ok (.getfield 24, 3) := by decide +kernel
theorem d_F_readStart_120 : decode b_F_readStart 120 = .ok (.invokevirtual 46, 3) := by decide +kernel
theorem d_F_readStart_123 : decode b_F_readStart 123 = .ok (.bipush 47, 2) := by decide +kernel
theorem d_F_readStart_125 : decode b_F_readStart 125 = .ok (.if_icmp .ne 20, 3) := by decide +kernel
theorem d_F_readStart_128 : decode b_F_readStart 128 = .ok (.aload_n 0, 1) := by decide +kernel
theorem d_F_readStart_129 : decode b_F_readStart 129 = .ok (.dup, 1) := by decide +kernel
theorem d_F_readStart_130 : decode b_F_readStart 130 = .ok (.getfield 24, 3) := by decide +kernel
theorem d_F_readStart_133 : decode b_F_readStart 133 = .ok (.iconst 1, 1) := by decide +kernel
theorem d_F_readStart_134 : decode b_F_readStart 134 = .ok (.iadd, 1) := by decide +kernel
theorem d_F_readStart_135 : decode b_F_readStart 135 = .ok (.putfield 24, 3) := by decide +kernel
theorem d_F_readStart_138 : decode b_F_readStart 138 = .ok (.aload_n 0, 1) := by decide +kernel
theorem d_F_readStart_139 : decode b_F_readStart 139 = .ok (.bipush 62, 2) := by decide +kernel
theorem d_F_readStart_141 : decode b_F_readStart 141 = .ok (.invokevirtual 83, 3) := by decide +kernel
theorem d_F_readStart_144 : decode b_F_readStart 144 = .ok (.ireturn, 1) := by decide +kernel
theorem d_F_readStart_145 : decode b_F_readStart 145 = .ok (.aload_n 0, 1) := by decide +kernel
theorem d_F_readStart_146 : decode b_F_readStart 146 = .ok (.iload_n 2, 1) := by decide +kernel
theorem d_F_readStart_147 : decode b_F_readStart 147 = .ok (.putfield 28, 3) := by decide +kernel
theorem d_F_readStart_150 : decode b_F_readStart 150 = .ok (.aload_n 0, 1) := by decide +kernel
theorem d_F_readStart_151 : decode b_F_readStart 151 = .ok (.dup, 1) := by decide +kernel
theorem d_F_readStart_152 : decode b_F_readStart 152 = .ok (.getfield 31, 3) := by decide +kernel
theorem d_F_readStart_155 : decode b_F_readStart 155 = .ok (.iconst 1, 1) := by decide +kernel
theorem d_F_readStart_156 : decode b_F_readStart 156 = .ok (.iadd, 1) := by decide +kernel
theorem d_F_readStart_157 : decode b_F_readStart 157 = .ok (.putfield 31, 3) := by decide +kernel
theorem d_F_readStart_160 : decode b_F_readStart 160 = .ok (.aload_n 0, 1) := by decide +kernel
theorem d_F_readStart_161 : decode b_F_readStart 161 = .ok (.bipush 62, 2) := by decide +kernel
theorem d_F_readStart_163 : decode b_F_readStart 163 = .ok (.invokevirtual 83, 3) := by decide +kernel
theorem d_F_readStart_166 : decode b_F_readStart 166 = .ok (.ireturn, 1) := by decide +kernel
theorem d_F_readAttribute_0 : decode b_F_readAttribute 0 = .ok (.aload_n 0, 1) := by decide +kernel
theorem d_F_readAttribute_1 : decode b_F_readAttribute 1 = .ok (.invokevirtual 66, 3) := by decide +kernel
theorem d_F_readAttribute_4 : decode b_F_readAttribute 4 = .ok (.istore_n 2, 1) := by decide +kernel
theorem d_F_readAttribute_5 : decode b_F_readAttribute 5 = .ok (.aload_n 0, 1) := by decide +kernel
theorem d_F_readAttribute_6 : decode b_F_readAttribute 6 = .ok (.getfield 15, 3) := by decide +kernel
theorem d_F_readAttribute_9 : decode b_F_readAttribute 9 = .ok (.iload_n 1, 1) := by decide +kernel
theorem d_F_readAttribute_10 : decode b_F_readAttribute 10 = .ok (.iload_n 2, 1) := by decide +kernel
theorem d_F_readAttribute_11 : decode b_F_readAttribute 11 = .ok (.invokevirtual 87, 3) := by decide +kernel
theorem d_F_readAttribute_14 : decode b_F_readAttribute 14 = .ok (.iconst (-1), 1) := by decide +kernel
theorem d_F_readAttribute_15 : decode b_F_readAttribute 15 = .ok (.if_icmp .ne 21, 3) := by decide +kernel
theorem d_F_readAttribute_18 : decode b_F_readAttribute 18 = .ok (.aload_n 0, 1) := by decide +kernel
theorem d_F_readAttribute_19 : decode b_F_readAttribute 19 = .ok (.bipush 61, 2) := by decide +kernel
theorem d_F_readAttribute_21 : decode b_F_readAttribute 21 = .ok (.invokevirtual 83, 3) := by decide +kernel
theorem d_F_readAttribute_24 : decode b_F_readAttribute 24 = .ok (.ifCond .eq 12, 3) := by decide +kernel
theorem d_F_readAttribute_27 : decode b_F_readAttribute 27 = .ok (.aload_n 0, 1) := by decide +kernel
theorem d_F_readAttribute_28 : decode b_F_readAttribute 28 = .ok (.bipush 34, 2) := by decide +kernel
theorem d_F_readAttribute_30 : decode b_F_readAttribute 30 = .ok (.invokevirtual 83, 3) := by decide +kernel
theorem d_F_readAttribute_33 : decode b_F_readAttribute 33 = .ok (.ifCond .ne 5, 3) := by decide +kernel
theorem d_F_readAttribute_36 : decode b_F_readAttribute 36 = .ok (.iconst 0, 1) := by decide +kernel
theorem d_F_readAttribute_37 : decode b_F_readAttribute 37 = .ok (.ireturn, 1) := by decide +kernel
theorem d_F_readAttribute_38 : decode b_F_readAttribute 38 = .ok (.aload_n 0, 1) := by decide +kernel
theorem d_F_readAttribute_39 : decode b_F_readAttribute 39 = .ok (.getfield 24, 3) := by decide +kernel
theorem d_F_readAttribute_42 : decode b_F_readAttribute 42 = .ok (.istore_n 3, 1) := by decide +kernel
theorem d_F_readAttribute_43 : decode b_F_readAttribute 43 = .ok (.aload_n 0, 1) := by decide +kernel
theorem d_F_readAttribute_44 : decode b_F_readAttribute 44 = .ok (.getfield 24, 3) := by decide +kernel
theorem d_F_readAttribute_47 : decode b_F_readAttribute 47 = .ok (.aload_n 0, 1) := by decide +kernel
theorem d_F_readAttribute_48 : decode b_F_readAttribute 48 = .ok (.getfield 9, 3) := by decide +kernel
theorem d_F_readAttribute_51 : decode b_F_readAttribute 51 = .ok (.getfield 34, 3) := by decide +kernel
theorem d_F_readAttribute_54 : decode b_F_readAttribute 54 = .ok (.if_icmp .ge 33, 3) := by decide +kernel
theorem d_F_readAttribute_57 : decode b_F_readAttribute 57 = .ok (.aload_n 0, 1) := by decide +kernel
theorem d_F_readAttribute_58 : decode b_F_readAttribute 58 = .ok (.getfield 9, 3) := by decide +kernel
theorem d_F_readAttribute_61 : decode b_F_readAttribute 61 = .ok (.aload_n 0, 1) := by decide +kernel
theorem d_F_readAttribute_62 : decode b_F_readAttribute 62 = .ok (.getfield 24, 3) := by decide +kernel
theorem d_F_readAttribute_65 : decode b_F_readAttribute 65 = .ok (.invokevirtual 46, 3) := by decide +kernel
theorem d_F_readAttribute_68 : decode b_F_readAttribute 68 = .ok (.invokestatic 91, 3) := by decide +kernel
theorem d_F_readAttribute_71 : decode b_F_readAttribute 71 = .ok (.ifCond .eq 16, 3) := by decide +kernel
theorem d_F_readAttribute_74 : decode b_F_readAttribute 74 = .ok (.aload_n 0, 1) := by decide +kernel
theorem d_F_readAttribute_75 : decode b_F_readAttribute 75 = .ok (.dup, 1) := by decide +kernel
theorem d_F_readAttribute_76 : decode b_F_readAttribute 76 = .ok (.getfield 24, 3) := by decide +kernel
theorem d_F_readAttribute_79 : decode b_F_readAttribute 79 = .ok (.iconst 1, 1) := by decide +kernel
theorem d_F_readAttribute_80 : decode b_F_readAttribute 80 = .ok (.iadd, 1) := by decide +kernel
theorem d_F_readAttribute_81 : decode b_F_readAttribute 81 = .ok (.putfield 24, 3) := by decide +kernel
theorem d_F_readAttribute_84 : decode b_F_readAttribute 84 = .ok (.goto (-41), 3) := by decide +kernel
theorem d_F_readAttribute_87 : decode b_F_readAttribute 87 = .ok (.aload_n 0, 1) := by decide +kernel
theorem d_F_readAttribute_88 : decode b_F_readAttribute 88 = .ok (.bipush 34, 2) := by decide +kernel
theorem d_F_readAttribute_90 : decode b_F_readAttribute 90 = .ok (.invokevirtual 83, 3) := by decide +kernel
theorem d_F_readAttribute_93 : decode b_F_readAttribute 93 = .ok (.ifCond .eq 27, 3) := by decide +kernel
theorem d_F_readAttribute_96 : decode b_F_readAttribute 96 = .ok (.aload_n 0, 1) := by decide +kernel
theorem d_F_readAttribute_97 : decode b_F_readAttribute 97 = .ok (.getfield 15, 3) := by decide +kernel
theorem d_F_readAttribute_100 : decode b_F_readAttribute 100 = .ok (.iload_n 2, 1) := by decide +kernel
theorem d_F_readAttribute_101 : decode b_F_readAttribute 101 = .ok (.iload_n 3, 1) := by decide +kernel
theorem d_F_readAttribute_102 : decode b_F_readAttribute 102 = .ok (.aload_n 0, 1) := by decide +kernel
theorem d_F_readAttribute_103 : decode b_F_readAttribute 103 = .ok (.getfield 24, 3) := by decide +kernel
theorem d_F_readAttribute_106 : decode b_F_readAttribute 106 = .ok (.iconst 1, 1) := by decide +kernel
theorem d_F_readAttribute_107 : decode b_F_readAttribute 107 = .ok (.isub, 1) := by decide +kernel
theorem d_F_readAttribute_108 : decode b_F_readAttribute 108 = .ok (.iload_n 3, 1) := by decide +kernel
theorem d_F_readAttribute_109 : decode b_F_readAttribute 109 = .ok (.isub, 1) := by decide +kernel
theorem d_F_readAttribute_110 : decode b_F_readAttribute 110 = .ok (.invokevirtual 94, 3) := by decide +kernel
theorem d_F_readAttribute_113 : decode b_F_readAttribute 113 = .ok (.ifCond .eq 7, 3) := by decide +kernel
theorem d_F_readAttribute_116 : decode b_F_readAttribute 116 = .ok (.iconst 1, 1) := by decide +kernel
theorem d_F_readAttribute_117 : decode b_F_readAttribute 117 = .ok (.goto 4, 3) := by decide +kernel
theorem d_F_readAttribute_120 : decode b_F_readAttribute 120 = .ok (.iconst 0, 1) := by decide +kernel
theorem d_F_readAttribute_121 : decode b_F_readAttribute 121 = .ok (.ireturn, 1) := by decide +kernel
theorem d_F_mayStandInValue_0 : decode b_F_mayStandInValue 0 = .ok (.iload_n 0, 1) := by decide +kernel
theorem d_F_mayStandInValue_1 : decode b_F_mayStandInValue 1 = .ok (.bipush 34, 2) := by decide +kernel
theorem d_F_mayStandInValue_3 : decode b_F_mayStandInValue 3 = .ok (.if_icmp .eq 19, 3) := by decide +kernel
theorem d_F_mayStandInValue_6 : decode b_F_mayStandInValue 6 = .ok (.iload_n 0, 1) := by decide +kernel
theorem d_F_mayStandInValue_7 : decode b_F_mayStandInValue 7 = .ok (.bipush 60, 2) := by decide +kernel
theorem d_F_mayStandInValue_9 : decode b_F_mayStandInValue 9 = .ok (.if_icmp .eq 13, 3) := by decide +kernel
theorem d_F_mayStandInValue_12 : decode b_F_mayStandInValue 12 = .ok (.iload_n 0, 1) := by decide +kernel
theorem d_F_mayStandInValue_13 : decode b_F_mayStandInValue 13 = .ok (.bipush 38, 2) := by decide +kernel
theorem d_F_mayStandInValue_15 : decode b_F_mayStandInValue 15 = .ok (.if_icmp .eq 7, 3) := by decide +kernel
theorem d_F_mayStandInValue_18 : decode b_F_mayStandInValue 18 = .ok (.iconst 1, 1) := by decide +kernel
theorem d_F_mayStandInValue_19 : decode b_F_mayStandInValue 19 = .ok (.goto 4, 3) := by decide +kernel
theorem d_F_mayStandInValue_22 : decode b_F_mayStandInValue 22 = .ok (.iconst 0, 1) := by decide +kernel
theorem d_F_mayStandInValue_23 : decode b_F_mayStandInValue 23 = .ok (.ireturn, 1) := by decide +kernel
theorem d_F_readEnd_0 : decode b_F_readEnd 0 = .ok (.aload_n 0, 1) := by decide +kernel
theorem d_F_readEnd_1 : decode b_F_readEnd 1 = .ok (.dup, 1) := by decide +kernel
theorem d_F_readEnd_2 : decode b_F_readEnd 2 = .ok (.getfield 24, 3) := by decide +kernel
theorem d_F_readEnd_5 : decode b_F_readEnd 5 = .ok (.iconst 2, 1) := by decide +kernel
theorem d_F_readEnd_6 : decode b_F_readEnd 6 = .ok (.iadd, 1) := by decide +kernel
theorem d_F_readEnd_7 : decode b_F_readEnd 7 = .ok (.putfield 24, 3) := by decide +kernel
theorem d_F_readEnd_10 : decode b_F_readEnd 10 = .ok (.aload_n 0, 1) := by decide +kernel
theorem d_F_readEnd_11 : decode b_F_readEnd 11 = .ok (.invokevirtual 66, 3) := by decide +kernel
theorem d_F_readEnd_14 : decode b_F_readEnd 14 = .ok (.aload_n 0, 1) := by decide +kernel
theorem d_F_readEnd_15 : decode b_F_readEnd 15 = .ok (.getfield 15, 3) := by decide +kernel
theorem d_F_readEnd_18 : decode b_F_readEnd 18 = .ok (.getfield 98, 3) := by decide +kernel
theorem d_F_readEnd_21 : decode b_F_readEnd 21 = .ok (.aload_n 0, 1) := by decide +kernel
theorem d_F_readEnd_22 : decode b_F_readEnd 22 = .ok (.getfield 28, 3) := by decide +kernel
theorem d_F_readEnd_25 : decode b_F_readEnd 25 = .ok (.iaload, 1) := by decide +kernel
theorem d_F_readEnd_26 : decode b_F_readEnd 26 = .ok (.if_icmp .ne 12, 3) := by decide +kernel
theorem d_F_readEnd_29 : decode b_F_readEnd 29 = .ok (.aload_n 0, 1) := by decide +kernel
theorem d_F_readEnd_30 : decode b_F_readEnd 30 = .ok (.bipush 62, 2) := by decide +kernel
theorem d_F_readEnd_32 : decode b_F_readEnd 32 = .ok (.invokevirtual 83, 3) := by decide +kernel
theorem d_F_readEnd_35 : decode b_F_readEnd 35 = .ok (.ifCond .ne 5, 3) := by decide +kernel
theorem d_F_readEnd_38 : decode b_F_readEnd 38 = .ok (.iconst 0, 1) := by decide +kernel
theorem d_F_readEnd_39 : decode b_F_readEnd 39 = .ok (.ireturn, 1) := by decide +kernel
theorem d_F_readEnd_40 : decode b_F_readEnd 40 = .ok (.aload_n 0, 1) := by decide +kernel
theorem d_F_readEnd_41 : decode b_F_readEnd 41 = .ok (.aload_n 0, 1) := by decide +kernel
theorem d_F_readEnd_42 : decode b_F_readEnd 42 = .ok (.getfield 15, 3) := by decide +kernel
theorem d_F_readEnd_45 : decode b_F_readEnd 45 = .ok (.getfield 102, 3) := by decide +kernel
theorem d_F_readEnd_48 : decode b_F_readEnd 48 = .ok (.aload_n 0, 1) := by decide +kernel
theorem d_F_readEnd_49 : decode b_F_readEnd 49 = .ok (.getfield 28, 3) := by decide +kernel
theorem d_F_readEnd_52 : decode b_F_readEnd 52 = .ok (.iaload, 1) := by decide +kernel
theorem d_F_readEnd_53 : decode b_F_readEnd 53 = .ok (.putfield 28, 3) := by decide +kernel
theorem d_F_readEnd_56 : decode b_F_readEnd 56 = .ok (.aload_n 0, 1) := by decide +kernel
theorem d_F_readEnd_57 : decode b_F_readEnd 57 = .ok (.dup, 1) := by decide +kernel
theorem d_F_readEnd_58 : decode b_F_readEnd 58 = .ok (.getfield 31, 3) := by decide +kernel
theorem d_F_readEnd_61 : decode b_F_readEnd 61 = .ok (.iconst 1, 1) := by decide +kernel
theorem d_F_readEnd_62 : decode b_F_readEnd 62 = .ok (.isub, 1) := by decide +kernel
theorem d_F_readEnd_63 : decode b_F_readEnd 63 = .ok (.putfield 31, 3) := by decide +kernel
theorem d_F_readEnd_66 : decode b_F_readEnd 66 = .ok (.iconst 1, 1) := by decide +kernel
theorem d_F_readEnd_67 : decode b_F_readEnd 67 = .ok (.ireturn, 1) := by decide +kernel
theorem d_F_readEntity_0 : decode b_F_readEntity 0 = .ok (.aload_n 0, 1) := by decide +kernel
theorem d_F_readEntity_1 : decode b_F_readEntity 1 = .ok (.ldc 105, 2) := by decide +kernel
theorem d_F_readEntity_3 : decode b_F_readEntity 3 = .ok (.bipush 60, 2) := by decide +kernel
theorem d_F_readEntity_5 : decode b_F_readEntity 5 = .ok (.invokevirtual 107, 3) := by decide +kernel
theorem d_F_readEntity_8 : decode b_F_readEntity 8 = .ok (.ifCond .ne 36, 3) := by decide +kernel
theorem d_F_readEntity_11 : decode b_F_readEntity 11 = .ok (.aload_n 0, 1) := by decide +kernel
theorem d_F_readEntity_12 : decode b_F_readEntity 12 = .ok (.ldc 111, 2) := by decide +kernel
theorem d_F_readEntity_14 : decode b_F_readEntity 14 = .ok (.bipush 62, 2) := by decide +kernel
theorem d_F_readEntity_16 : decode b_F_readEntity 16 = .ok (.invokevirtual 107, 3) := by decide +kernel
theorem d_F_readEntity_19 : decode b_F_readEntity 19 = .ok (.ifCond .ne 25, 3) := by decide +kernel
theorem d_F_readEntity_22 : decode b_F_readEntity 22 = .ok (.aload_n 0, 1) := by decide +kernel
theorem d_F_readEntity_23 : decode b_F_readEntity 23 = .ok (.ldc 113, 2) := by decide +kernel
theorem d_F_readEntity_25 : decode b_F_readEntity 25 = .ok (.bipush 38, 2) := by decide +kernel
theorem d_F_readEntity_27 : decode b_F_readEntity 27 = .ok (.invokevirtual 107, 3) := by decide +kernel
theorem d_F_readEntity_30 : decode b_F_readEntity 30 = .ok (.ifCond .ne 14, 3) := by decide +kernel
theorem d_F_readEntity_33 : decode b_F_readEntity 33 = .ok (.aload_n 0, 1) := by decide +kernel
theorem d_F_readEntity_34 : decode b_F_readEntity 34 = .ok (.ldc 115, 2) := by decide +kernel
theorem d_F_readEntity_36 : decode b_F_readEntity 36 = .ok (.bipush 34, 2) := by decide +kernel
theorem d_F_readEntity_38 : decode b_F_readEntity 38 = .ok (.invokevirtual 107, 3) := by decide +kernel
theorem d_F_readEntity_41 : decode b_F_readEntity 41 = .ok (.ifCond .eq 7, 3) := by decide +kernel
theorem d_F_readEntity_44 : decode b_F_readEntity 44 = .ok (.iconst 1, 1) := by decide +kernel
theorem d_F_readEntity_45 : decode b_F_readEntity 45 = .ok (.goto 4, 3) := by decide +kernel
theorem d_F_readEntity_48 : decode b_F_readEntity 48 = .ok (.iconst 0, 1) := by decide +kernel
theorem d_F_readEntity_49 : decode b_F_readEntity 49 = .ok (.ireturn, 1) := by decide +kernel
theorem d_F_readEntityOf_0 : decode b_F_readEntityOf 0 = .ok (.aload_n 0, 1) := by decide +kernel
theorem d_F_readEntityOf_1 : decode b_F_readEntityOf 1 = .ok (.getfield 9, 3) := by decide +kernel
theorem d_F_readEntityOf_4 : decode b_F_readEntityOf 4 = .ok (.aload_n 0, 1) := by decide +kernel
theorem d_F_readEntityOf_5 : decode b_F_readEntityOf 5 = .ok (.getfield 24, 3) := by decide +kernel
theorem d_F_readEntityOf_8 : decode b_F_readEntityOf 8 = .ok (.aload_n 1, 1) := by decide +kernel
theorem d_F_readEntityOf_9 : decode b_F_readEntityOf 9 = .ok (.invokevirtual 117, 3) := by decide +kernel
theorem d_F_readEntityOf_12 : decode b_F_readEntityOf 12 = .ok (.ifCond .ne 5, 3) := by decide +kernel
theorem d_F_readEntityOf_15 : decode b_F_readEntityOf 15 = .ok (.iconst 0, 1) := by decide +kernel
theorem d_F_readEntityOf_16 : decode b_F_readEntityOf 16 = .ok (.ireturn, 1) := by decide +kernel
theorem d_F_readEntityOf_17 : decode b_F_readEntityOf 17 = .ok (.aload_n 0, 1) := by decide +kernel
theorem d_F_readEntityOf_18 : decode b_F_readEntityOf 18 = .ok (.dup, 1) := by decide +kernel
theorem d_F_readEntityOf_19 : decode b_F_readEntityOf 19 = .ok (.getfield 24, 3) := by decide +kernel
theorem d_F_readEntityOf_22 : decode b_F_readEntityOf 22 = .ok (.aload_n 1, 1) := by decide +kernel
theorem d_F_readEntityOf_23 : decode b_F_readEntityOf 23 = .ok (.invokevirtual 121, 3) := by decide +kernel
theorem d_F_readEntityOf_26 : decode b_F_readEntityOf 26 = .ok (.iadd, 1) := by decide +kernel
theorem d_F_readEntityOf_27 : decode b_F_readEntityOf 27 = .ok (.putfield 24, 3) := by decide +kernel
theorem d_F_readEntityOf_30 : decode b_F_readEntityOf 30 = .ok (.aload_n 0, 1) := by decide +kernel
theorem d_F_readEntityOf_31 : decode b_F_readEntityOf 31 = .ok (.getfield 15, 3) := by decide +kernel
theorem d_F_readEntityOf_34 : decode b_F_readEntityOf 34 = .ok (.aload_n 0, 1) := by decide +kernel
theorem d_F_readEntityOf_35 : decode b_F_readEntityOf 35 = .ok (.getfield 28, 3) := by decide +kernel
theorem d_F_readEntityOf_38 : decode b_F_readEntityOf 38 = .ok (.iload_n 2, 1) := by decide +kernel
theorem d_F_readEntityOf_39 : decode b_F_readEntityOf 39 = .ok (.invokevirtual 62, 3) := by decide +kernel
theorem d_F_readEntityOf_42 : decode b_F_readEntityOf 42 = .ok (.ireturn, 1) := by decide +kernel
theorem d_F_readCode_0 : decode b_F_readCode 0 = .ok (.aload_n 0, 1) := by decide +kernel
theorem d_F_readCode_1 : decode b_F_readCode 1 = .ok (.dup, 1) := by decide +kernel
theorem d_F_readCode_2 : decode b_F_readCode 2 = .ok (.getfield 24, 3) := by decide +kernel
theorem d_F_readCode_5 : decode b_F_readCode 5 = .ok (.iconst 2, 1) := by decide +kernel
theorem d_F_readCode_6 : decode b_F_readCode 6 = .ok (.iadd, 1) := by decide +kernel
theorem d_F_readCode_7 : decode b_F_readCode 7 = .ok (.putfield 24, 3) := by decide +kernel
theorem d_F_readCode_10 : decode b_F_readCode 10 = .ok (.iconst 0, 1) := by decide +kernel
theorem d_F_readCode_11 : decode b_F_readCode 11 = .ok (.istore_n 1, 1) := by decide +kernel
theorem d_F_readCode_12 : decode b_F_readCode 12 = .ok (.iconst 0, 1) := by decide +kernel
theorem d_F_readCode_13 : decode b_F_readCode 13 = .ok (.istore_n 2, 1) := by decide +kernel
theorem d_F_readCode_14 : decode b_F_readCode 14 = .ok (.iload_n 2, 1) := by decide +kernel
theorem d_F_readCode_15 : decode b_F_readCode 15 = .ok (.iconst 3, 1) := by decide +kernel
theorem d_F_readCode_16 : decode b_F_readCode 16 = .ok (.if_icmp .ge 56, 3) := by decide +kernel
theorem d_F_readCode_19 : decode b_F_readCode 19 = .ok (.aload_n 0, 1) := by decide +kernel
theorem d_F_readCode_20 : decode b_F_readCode 20 = .ok (.getfield 9, 3) := by decide +kernel
theorem d_F_readCode_23 : decode b_F_readCode 23 = .ok (.aload_n 0, 1) := by decide +kernel
theorem d_F_readCode_24 : decode b_F_readCode 24 = .ok (.getfield 24, 3) := by decide +kernel
theorem d_F_readCode_27 : decode b_F_readCode 27 = .ok (.invokevirtual 46, 3) := by decide +kernel
theorem d_F_readCode_30 : decode b_F_readCode 30 = .ok (.invokestatic 126, 3) := by decide +kernel
theorem d_F_readCode_33 : decode b_F_readCode 33 = .ok (.ifCond .eq 39, 3) := by decide +kernel
theorem d_F_readCode_36 : decode b_F_readCode 36 = .ok (.iload_n 1, 1) := by decide +kernel
theorem d_F_readCode_37 : decode b_F_readCode 37 = .ok (.bipush 10, 2) := by decide +kernel
theorem d_F_readCode_39 : decode b_F_readCode 39 = .ok (.imul, 1) := by decide +kernel
theorem d_F_readCode_40 : decode b_F_readCode 40 = .ok (.aload_n 0, 1) := by decide +kernel
theorem d_F_readCode_41 : decode b_F_readCode 41 = .ok (.getfield 9, 3) := by decide +kernel
theorem d_F_readCode_44 : decode b_F_readCode 44 = .ok (.aload_n 0, 1) := by decide +kernel
theorem d_F_readCode_45 : decode b_F_readCode 45 = .ok (.getfield 24, 3) := by decide +kernel
theorem d_F_readCode_48 : decode b_F_readCode 48 = .ok (.invokevirtual 46, 3) := by decide +kernel
theorem d_F_readCode_51 : decode b_F_readCode 51 = .ok (.iadd, 1) := by decide +kernel
theorem d_F_readCode_52 : decode b_F_readCode 52 = .ok (.bipush 48, 2) := by decide +kernel
theorem d_F_readCode_54 : decode b_F_readCode 54 = .ok (.isub, 1) := by decide +kernel
theorem d_F_readCode_55 : decode b_F_readCode 55 = .ok (.istore_n 1, 1) := by decide +kernel
theorem d_F_readCode_56 : decode b_F_readCode 56 = .ok (.aload_n 0, 1) := by decide +kernel
theorem d_F_readCode_57 : decode b_F_readCode 57 = .ok (.dup, 1) := by decide +kernel
theorem d_F_readCode_58 : decode b_F_readCode 58 = .ok (.getfield 24, 3) := by decide +kernel
theorem d_F_readCode_61 : decode b_F_readCode 61 = .ok (.iconst 1, 1) := by decide +kernel
theorem d_F_readCode_62 : decode b_F_readCode 62 = .ok (.iadd, 1) := by decide +kernel
theorem d_F_readCode_63 : decode b_F_readCode 63 = .ok (.putfield 24, 3) := by decide +kernel
theorem d_F_readCode_66 : decode b_F_readCode 66 = .ok (.iinc 2 1, 3) := by decide +kernel
theorem d_F_readCode_69 : decode b_F_readCode 69 = .ok (.goto (-55), 3) := by decide +kernel
theorem d_F_readCode_72 : decode b_F_readCode 72 = .ok (.iload_n 1, 1) := by decide +kernel
theorem d_F_readCode_73 : decode b_F_readCode 73 = .ok (.invokestatic 129, 3) := by decide +kernel
theorem d_F_readCode_76 : decode b_F_readCode 76 = .ok (.ifCond .eq 31, 3) := by decide +kernel
theorem d_F_readCode_79 : decode b_F_readCode 79 = .ok (.aload_n 0, 1) := by decide +kernel
theorem d_F_readCode_80 : decode b_F_readCode 80 = .ok (.bipush 59, 2) := by decide +kernel
theorem d_F_readCode_82 : decode b_F_readCode 82 = .ok (.invokevirtual 83, 3) := by decide +kernel
theorem d_F_readCode_85 : decode b_F_readCode 85 = .ok (.ifCond .eq 22, 3) := by decide +kernel
theorem d_F_readCode_88 : decode b_F_readCode 88 = .ok (.aload_n 0, 1) := by decide +kernel
theorem d_F_readCode_89 : decode b_F_readCode 89 = .ok (.getfield 15, 3) := by decide +kernel
theorem d_F_readCode_92 : decode b_F_readCode 92 = .ok (.aload_n 0, 1) := by decide +kernel
theorem d_F_readCode_93 : decode b_F_readCode 93 = .ok (.getfield 28, 3) := by decide +kernel
theorem d_F_readCode_96 : decode b_F_readCode 96 = .ok (.iload_n 1, 1) := by decide +kernel
theorem d_F_readCode_97 : decode b_F_readCode 97 = .ok (.invokevirtual 62, 3) := by decide +kernel
theorem d_F_readCode_100 : decode b_F_readCode 100 = .ok (.ifCond .eq 7, 3) := by decide +kernel
theorem d_F_readCode_103 : decode b_F_readCode 103 = .ok (.iconst 1, 1) := by decide +kernel
theorem d_F_readCode_104 : decode b_F_readCode 104 = .ok (.goto 4, 3) := by decide +kernel
theorem d_F_readCode_107 : decode b_F_readCode 107 = .ok (.iconst 0, 1) := by decide +kernel
theorem d_F_readCode_108 : decode b_F_readCode 108 = .ok (.ireturn, 1) := by decide +kernel
theorem d_F_readName_0 : decode b_F_readName 0 = .ok (.iconst 0, 1) := by decide +kernel
theorem d_F_readName_1 : decode b_F_readName 1 = .ok (.istore_n 1, 1) := by decide +kernel
theorem d_F_readName_2 : decode b_F_readName 2 = .ok (.iconst 0, 1) := by decide +kernel
theorem d_F_readName_3 : decode b_F_readName 3 = .ok (.istore_n 2, 1) := by decide +kernel
theorem d_F_readName_4 : decode b_F_readName 4 = .ok (.iload_n 2, 1) := by decide +kernel
theorem d_F_readName_5 : decode b_F_readName 5 = .ok (.bipush 6, 2) := by decide +kernel
theorem d_F_readName_7 : decode b_F_readName 7 = .ok (.if_icmp .ge 58, 3) := by decide +kernel
theorem d_F_readName_10 : decode b_F_readName 10 = .ok (.aload_n 0, 1) := by decide +kernel
theorem d_F_readName_11 : decode b_F_readName 11 = .ok (.getfield 9, 3) := by decide +kernel
theorem d_F_readName_14 : decode b_F_readName 14 = .ok (.aload_n 0, 1) := by decide +kernel
theorem d_F_readName_15 : decode b_F_readName 15 = .ok (.getfield 24, 3) := by decide +kernel
theorem d_F_readName_18 : decode b_F_readName 18 = .ok (.invokevirtual 46, 3) := by decide +kernel
theorem d_F_readName_21 : decode b_F_readName 21 = .ok (.invokestatic 76, 3) := by decide +kernel
theorem d_F_readName_24 : decode b_F_readName 24 = .ok (.ifCond .eq 41, 3) := by decide +kernel
theorem d_F_readName_27 : decode b_F_readName 27 = .ok (.iload_n 1, 1) := by decide +kernel
theorem d_F_readName_28 : decode b_F_readName 28 = .ok (.bipush 27, 2) := by decide +kernel
theorem d_F_readName_30 : decode b_F_readName 30 = .ok (.imul, 1) := by decide +kernel
theorem d_F_readName_31 : decode b_F_readName 31 = .ok (.aload_n 0, 1) := by decide +kernel
theorem d_F_readName_32 : decode b_F_readName 32 = .ok (.getfield 9, 3) := by decide +kernel
theorem d_F_readName_35 : decode b_F_readName 35 = .ok (.aload_n 0, 1) := by decide +kernel
theorem d_F_readName_36 : decode b_F_readName 36 = .ok (.getfield 24, 3) := by decide +kernel
theorem d_F_readName_39 : decode b_F_readName 39 = .ok (.invokevirtual 46, 3) := by decide +kernel
theorem d_F_readName_42 : decode b_F_readName 42 = .ok (.iadd, 1) := by decide +kernel
theorem d_F_readName_43 : decode b_F_readName 43 = .ok (.bipush 97, 2) := by decide +kernel
theorem d_F_readName_45 : decode b_F_readName 45 = .ok (.isub, 1) := by decide +kernel
theorem d_F_readName_46 : decode b_F_readName 46 = .ok (.iconst 1, 1) := by decide +kernel
theorem d_F_readName_47 : decode b_F_readName 47 = .ok (.iadd, 1) := by decide +kernel
theorem d_F_readName_48 : decode b_F_readName 48 = .ok (.istore_n 1, 1) := by decide +kernel
theorem d_F_readName_49 : decode b_F_readName 49 = .ok (.aload_n 0, 1) := by decide +kernel
theorem d_F_readName_50 : decode b_F_readName 50 = .ok (.dup, 1) := by decide +kernel
theorem d_F_readName_51 : decode b_F_readName 51 = .ok (.getfield 24, 3) := by decide +kernel
theorem d_F_readName_54 : decode b_F_readName 54 = .ok (.iconst 1, 1) := by decide +kernel
theorem d_F_readName_55 : decode b_F_readName 55 = .ok (.iadd, 1) := by decide +kernel
theorem d_F_readName_56 : decode b_F_readName 56 = .ok (.putfield 24, 3) := by decide +kernel
theorem d_F_readName_59 : decode b_F_readName 59 = .ok (.iinc 2 1, 3) := by decide +kernel
theorem d_F_readName_62 : decode b_F_readName 62 = .ok (.goto (-58), 3) := by decide +kernel
theorem d_F_readName_65 : decode b_F_readName 65 = .ok (.iload_n 1, 1) := by decide +kernel
theorem d_F_readName_66 : decode b_F_readName 66 = .ok (.ireturn, 1) := by decide +kernel
theorem d_F_skipSpaces_0 : decode b_F_skipSpaces 0 = .ok (.aload_n 0, 1) := by decide +kernel
theorem d_F_skipSpaces_1 : decode b_F_skipSpaces 1 = .ok (.getfield 24, 3) := by decide +kernel
theorem d_F_skipSpaces_4 : decode b_F_skipSpaces 4 = .ok (.istore_n 1, 1) := by decide +kernel
theorem d_F_skipSpaces_5 : decode b_F_skipSpaces 5 = .ok (.aload_n 0, 1) := by decide +kernel
theorem d_F_skipSpaces_6 : decode b_F_skipSpaces 6 = .ok (.getfield 24, 3) := by decide +kernel
theorem d_F_skipSpaces_9 : decode b_F_skipSpaces 9 = .ok (.aload_n 0, 1) := by decide +kernel
theorem d_F_skipSpaces_10 : decode b_F_skipSpaces 10 = .ok (.getfield 9, 3) := by decide +kernel
theorem d_F_skipSpaces_13 : decode b_F_skipSpaces 13 = .ok (.getfield 34, 3) := by decide +kernel
theorem d_F_skipSpaces_16 : decode b_F_skipSpaces 16 = .ok (.if_icmp .ge 32, 3) := by decide +kernel
theorem d_F_skipSpaces_19 : decode b_F_skipSpaces 19 = .ok (.aload_n 0, 1) := by decide +kernel
theorem d_F_skipSpaces_20 : decode b_F_skipSpaces 20 = .ok (.getfield 9, 3) := by decide +kernel
theorem d_F_skipSpaces_23 : decode b_F_skipSpaces 23 = .ok (.aload_n 0, 1) := by decide +kernel
theorem d_F_skipSpaces_24 : decode b_F_skipSpaces 24 = .ok (.getfield 24, 3) := by decide +kernel
theorem d_F_skipSpaces_27 : decode b_F_skipSpaces 27 = .ok (.invokevirtual 46, 3) := by decide +kernel
theorem d_F_skipSpaces_30 : decode b_F_skipSpaces 30 = .ok (.bipush 32, 2) := by decide +kernel
theorem d_F_skipSpaces_32 : decode b_F_skipSpaces 32 = .ok (.if_icmp .ne 16, 3) := by decide +kernel
theorem d_F_skipSpaces_35 : decode b_F_skipSpaces 35 = .ok (.aload_n 0, 1) := by decide +kernel
theorem d_F_skipSpaces_36 : decode b_F_skipSpaces 36 = .ok (.dup, 1) := by decide +kernel
theorem d_F_skipSpaces_37 : decode b_F_skipSpaces 37 = .ok (.getfield 24, 3) := by decide +kernel
theorem d_F_skipSpaces_40 : decode b_F_skipSpaces 40 = .ok (.iconst 1, 1) := by decide +kernel
theorem d_F_skipSpaces_41 : decode b_F_skipSpaces 41 = .ok (.iadd, 1) := by decide +kernel
theorem d_F_skipSpaces_42 : decode b_F_skipSpaces 42 = .ok (.putfield 24, 3) := by decide +kernel
theorem d_F_skipSpaces_45 : decode b_F_skipSpaces 45 = .ok (.goto (-40), 3) := by decide +kernel
theorem d_F_skipSpaces_48 : decode b_F_skipSpaces 48 = .ok (.aload_n 0, 1) := by decide +kernel
theorem d_F_skipSpaces_49 : decode b_F_skipSpaces 49 = .ok (.getfield 24, 3) := by decide +kernel
theorem d_F_skipSpaces_52 : decode b_F_skipSpaces 52 = .ok (.iload_n 1, 1) := by decide +kernel
theorem d_F_skipSpaces_53 : decode b_F_skipSpaces 53 = .ok (.if_icmp .le 7, 3) := by decide +kernel
theorem d_F_skipSpaces_56 : decode b_F_skipSpaces 56 = .ok (.iconst 1, 1) := by decide +kernel
theorem d_F_skipSpaces_57 : decode b_F_skipSpaces 57 = .ok (.goto 4, 3) := by decide +kernel
theorem d_F_skipSpaces_60 : decode b_F_skipSpaces 60 = .ok (.iconst 0, 1) := by decide +kernel
theorem d_F_skipSpaces_61 : decode b_F_skipSpaces 61 = .ok (.ireturn, 1) := by decide +kernel
theorem d_F_skip_0 : decode b_F_skip 0 = .ok (.aload_n 0, 1) := by decide +kernel
theorem d_F_skip_1 : decode b_F_skip 1 = .ok (.getfield 9, 3) := by decide +kernel
theorem d_F_skip_4 : decode b_F_skip 4 = .ok (.aload_n 0, 1) := by decide +kernel
theorem d_F_skip_5 : decode b_F_skip 5 = .ok (.getfield 24, 3) := by decide +kernel
theorem d_F_skip_8 : decode b_F_skip 8 = .ok (.invokevirtual 46, 3) := by decide +kernel
theorem d_F_skip_11 : decode b_F_skip 11 = .ok (.iload_n 1, 1) := by decide +kernel
theorem d_F_skip_12 : decode b_F_skip 12 = .ok (.if_icmp .eq 5, 3) := by decide +kernel
theorem d_F_skip_15 : decode b_F_skip 15 = .ok (.iconst 0, 1) := by decide +kernel
theorem d_F_skip_16 : decode b_F_skip 16 = .ok (.ireturn, 1) := by decide +kernel
theorem d_F_skip_17 : decode b_F_skip 17 = .ok (.aload_n 0, 1) := by decide +kernel
theorem d_F_skip_18 : decode b_F_skip 18 = .ok (.dup, 1) := by decide +kernel
theorem d_F_skip_19 : decode b_F_skip 19 = .ok (.getfield 24, 3) := by decide +kernel
theorem d_F_skip_22 : decode b_F_skip 22 = .ok (.iconst 1, 1) := by decide +kernel
theorem d_F_skip_23 : decode b_F_skip 23 = .ok (.iadd, 1) := by decide +kernel
theorem d_F_skip_24 : decode b_F_skip 24 = .ok (.putfield 24, 3) := by decide +kernel
theorem d_F_skip_27 : decode b_F_skip 27 = .ok (.iconst 1, 1) := by decide +kernel
theorem d_F_skip_28 : decode b_F_skip 28 = .ok (.ireturn, 1) := by decide +kernel
theorem d_G_init_0 : decode b_G_init 0 = .ok (.aload_n 0, 1) := by decide +kernel
theorem d_G_init_1 : decode b_G_init 1 = .ok (.invokespecial 3, 3) := by decide +kernel
theorem d_G_init_4 : decode b_G_init 4 = .ok (.aload_n 0, 1) := by decide +kernel
theorem d_G_init_5 : decode b_G_init 5 = .ok (.bipush 16, 2) := by decide +kernel
theorem d_G_init_7 : decode b_G_init 7 = .ok (.newarray .int, 2) := by decide +kernel
theorem d_G_init_9 : decode b_G_init 9 = .ok (.putfield 9, 3) := by decide +kernel
theorem d_G_init_12 : decode b_G_init 12 = .ok (.aload_n 0, 1) := by decide +kernel
theorem d_G_init_13 : decode b_G_init 13 = .ok (.bipush 16, 2) := by decide +kernel
theorem d_G_init_15 : decode b_G_init 15 = .ok (.newarray .int, 2) := by decide +kernel
theorem d_G_init_17 : decode b_G_init 17 = .ok (.putfield 15, 3) := by decide +kernel
theorem d_G_init_20 : decode b_G_init 20 = .ok (.aload_n 0, 1) := by decide +kernel
theorem d_G_init_21 : decode b_G_init 21 = .ok (.bipush 64, 2) := by decide +kernel
theorem d_G_init_23 : decode b_G_init 23 = .ok (.newarray .int, 2) := by decide +kernel
theorem d_G_init_25 : decode b_G_init 25 = .ok (.putfield 18, 3) := by decide +kernel
theorem d_G_init_28 : decode b_G_init 28 = .ok (.aload_n 0, 1) := by decide +kernel
theorem d_G_init_29 : decode b_G_init 29 = .ok (.bipush 64, 2) := by decide +kernel
theorem d_G_init_31 : decode b_G_init 31 = .ok (.newarray .int, 2) := by decide +kernel
theorem d_G_init_33 : decode b_G_init 33 = .ok (.putfield 21, 3) := by decide +kernel
theorem d_G_init_36 : decode b_G_init 36 = .ok (.aload_n 0, 1) := by decide +kernel
theorem d_G_init_37 : decode b_G_init 37 = .ok (.bipush 96, 2) := by decide +kernel
theorem d_G_init_39 : decode b_G_init 39 = .ok (.newarray .char, 2) := by decide +kernel
theorem d_G_init_41 : decode b_G_init 41 = .ok (.putfield 24, 3) := by decide +kernel
theorem d_G_init_44 : decode b_G_init 44 = .ok (.return_, 1) := by decide +kernel
theorem d_G_has_0 : decode b_G_has 0 = .ok (.iload_n 1, 1) := by decide +kernel
theorem d_G_has_1 : decode b_G_has 1 = .ok (.ifCond .lt 15, 3) := by decide +kernel
theorem d_G_has_4 : decode b_G_has 4 = .ok (.iload_n 1, 1) := by decide +kernel
theorem d_G_has_5 : decode b_G_has 5 = .ok (.aload_n 0, 1) := by decide +kernel
theorem d_G_has_6 : decode b_G_has 6 = .ok (.getfield 28, 3) := by decide +kernel
theorem d_G_has_9 : decode b_G_has 9 = .ok (.if_icmp .ge 7, 3) := by decide +kernel
theorem d_G_has_12 : decode b_G_has 12 = .ok (.iconst 1, 1) := by decide +kernel
theorem d_G_has_13 : decode b_G_has 13 = .ok (.goto 4, 3) := by decide +kernel
theorem d_G_has_16 : decode b_G_has 16 = .ok (.iconst 0, 1) := by decide +kernel
theorem d_G_has_17 : decode b_G_has 17 = .ok (.ireturn, 1) := by decide +kernel
theorem d_G_isText_0 : decode b_G_isText 0 = .ok (.aload_n 0, 1) := by decide +kernel
theorem d_G_isText_1 : decode b_G_isText 1 = .ok (.iload_n 1, 1) := by decide +kernel
theorem d_G_isText_2 : decode b_G_isText 2 = .ok (.invokevirtual 32, 3) := by decide +kernel
theorem d_G_isText_5 : decode b_G_isText 5 = .ok (.ifCond .eq 17, 3) := by decide +kernel
theorem d_G_isText_8 : decode b_G_isText 8 = .ok (.aload_n 0, 1) := by decide +kernel
theorem d_G_isText_9 : decode b_G_isText 9 = .ok (.getfield 9, 3) := by decide +kernel
theorem d_G_isText_12 : decode b_G_isText 12 = .ok (.iload_n 1, 1) := by decide +kernel
theorem d_G_isText_13 : decode b_G_isText 13 = .ok (.iaload, 1) := by decide +kernel
theorem d_G_isText_14 : decode b_G_isText 14 = .ok (.iconst 2, 1) := by decide +kernel
theorem d_G_isText_15 : decode b_G_isText 15 = .ok (.if_icmp .ne 7, 3) := by decide +kernel
theorem d_G_isText_18 : decode b_G_isText 18 = .ok (.iconst 1, 1) := by decide +kernel
theorem d_G_isText_19 : decode b_G_isText 19 = .ok (.goto 4, 3) := by decide +kernel
theorem d_G_isText_22 : decode b_G_isText 22 = .ok (.iconst 0, 1) := by decide +kernel
theorem d_G_isText_23 : decode b_G_isText 23 = .ok (.ireturn, 1) := by decide +kernel
theorem d_G_hasSlot_0 : decode b_G_hasSlot 0 = .ok (.aload_n 0, 1) := by decide +kernel
theorem d_G_hasSlot_1 : decode b_G_hasSlot 1 = .ok (.iload_n 1, 1) := by decide +kernel
theorem d_G_hasSlot_2 : decode b_G_hasSlot 2 = .ok (.invokevirtual 32, 3) := by decide +kernel
theorem d_G_hasSlot_5 : decode b_G_hasSlot 5 = .ok (.ifCond .eq 31, 3) := by decide +kernel
theorem d_G_hasSlot_8 : decode b_G_hasSlot 8 = .ok (.aload_n 0, 1) := by decide +kernel
theorem d_G_hasSlot_9 : decode b_G_hasSlot 9 = .ok (.getfield 9, 3) := by decide +kernel
theorem d_G_hasSlot_12 : decode b_G_hasSlot 12 = .ok (.iload_n 1, 1) := by decide +kernel
theorem d_G_hasSlot_13 : decode b_G_hasSlot 13 = .ok (.iaload, 1) := by decide +kernel
theorem d_G_hasSlot_14 : decode b_G_hasSlot 14 = .ok (.iconst 2, 1) := by decide +kernel
theorem d_G_hasSlot_15 : decode b_G_hasSlot 15 = .ok (.if_icmp .eq 21, 3) := by decide +kernel
theorem d_G_hasSlot_18 : decode b_G_hasSlot 18 = .ok (.iload_n 2, 1) := by decide +kernel
theorem d_G_hasSlot_19 : decode b_G_hasSlot 19 = .ok (.ifCond .lt 17, 3) := by decide +kernel
theorem d_G_hasSlot_22 : decode b_G_hasSlot 22 = .ok (.iload_n 2, 1) := by decide +kernel
theorem d_G_hasSlot_23 : decode b_G_hasSlot 23 = .ok (.aload_n 0, 1) := by decide +kernel
theorem d_G_hasSlot_24 : decode b_G_hasSlot 24 = .ok (.getfield 15, 3) := by decide +kernel
theorem d_G_hasSlot_27 : decode b_G_hasSlot 27 = .ok (.iload_n 1, 1) := by decide +kernel
theorem d_G_hasSlot_28 : decode b_G_hasSlot 28 = .ok (.iaload, 1) := by decide +kernel
theorem d_G_hasSlot_29 : decode b_G_hasSlot 29 = .ok (.if_icmp .ge 7, 3) := by decide +kernel
theorem d_G_hasSlot_32 : decode b_G_hasSlot 32 = .ok (.iconst 1, 1) := by decide +kernel
theorem d_G_hasSlot_33 : decode b_G_hasSlot 33 = .ok (.goto 4, 3) := by decide +kernel
theorem d_G_hasSlot_36 : decode b_G_hasSlot 36 = .ok (.iconst 0, 1) := by decide +kernel
theorem d_G_hasSlot_37 : decode b_G_hasSlot 37 = .ok (.ireturn, 1) := by decide +kernel
theorem d_G_add_0 : decode b_G_add 0 = .ok (.aload_n 0, 1) := by decide +kernel
theorem d_G_add_1 : decode b_G_add 1 = .ok (.aload_n 0, 1) := by decide +kernel
theorem d_G_add_2 : decode b_G_add 2 = .ok (.getfield 28, 3) := by decide +kernel
theorem d_G_add_5 : decode b_G_add 5 = .ok (.iload_n 1, 1) := by decide +kernel
theorem d_G_add_6 : decode b_G_add 6 = .ok (.iload_n 2, 1) := by decide +kernel
theorem d_G_add_7 : decode b_G_add 7 = .ok (.invokevirtual 36, 3) := by decide +kernel
theorem d_G_add_10 : decode b_G_add 10 = .ok (.aload_n 0, 1) := by decide +kernel
theorem d_G_add_11 : decode b_G_add 11 = .ok (.dup, 1) := by decide +kernel
theorem d_G_add_12 : decode b_G_add 12 = .ok (.getfield 28, 3) := by decide +kernel
theorem d_G_add_15 : decode b_G_add 15 = .ok (.iconst 1, 1) := by decide +kernel
theorem d_G_add_16 : decode b_G_add 16 = .ok (.iadd, 1) := by decide +kernel
theorem d_G_add_17 : decode b_G_add 17 = .ok (.putfield 28, 3) := by decide +kernel
theorem d_G_add_20 : decode b_G_add 20 = .ok (.aload_n 0, 1) := by decide +kernel
theorem d_G_add_21 : decode b_G_add 21 = .ok (.getfield 28, 3) := by decide +kernel
theorem d_G_add_24 : decode b_G_add 24 = .ok (.iconst 1, 1) := by decide +kernel
theorem d_G_add_25 : decode b_G_add 25 = .ok (.isub, 1) := by decide +kernel
theorem d_G_add_26 : decode b_G_add 26 = .ok (.ireturn, 1) := by decide +kernel
theorem d_G_lay_0 : decode b_G_lay 0 = .ok (.aload_n 0, 1) := by decide +kernel
theorem d_G_lay_1 : decode b_G_lay 1 = .ok (.getfield 9, 3) := by decide +kernel
theorem d_G_lay_4 : decode b_G_lay 4 = .ok (.iload_n 1, 1) := by decide +kernel
theorem d_G_lay_5 : decode b_G_lay 5 = .ok (.iload_n 2, 1) := by decide +kernel
theorem d_G_lay_6 : decode b_G_lay 6 = .ok (.iastore, 1) := by decide +kernel
theorem d_G_lay_7 : decode b_G_lay 7 = .ok (.aload_n 0, 1) := by decide +kernel
theorem d_G_lay_8 : decode b_G_lay 8 = .ok (.getfield 15, 3) := by decide +kernel
theorem d_G_lay_11 : decode b_G_lay 11 = .ok (.iload_n 1, 1) := by decide +kernel
theorem d_G_lay_12 : decode b_G_lay 12 = .ok (.iload_n 3, 1) := by decide +kernel
theorem d_G_lay_13 : decode b_G_lay 13 = .ok (.iastore, 1) := by decide +kernel
theorem d_G_lay_14 : decode b_G_lay 14 = .ok (.iconst 0, 1) := by decide +kernel
theorem d_G_lay_15 : decode b_G_lay 15 = .ok (.istore 4, 2) := by decide +kernel
theorem d_G_lay_17 : decode b_G_lay 17 = .ok (.iload 4, 2) := by decide +kernel
theorem d_G_lay_19 : decode b_G_lay 19 = .ok (.iconst 4, 1) := by decide +kernel
theorem d_G_lay_20 : decode b_G_lay 20 = .ok (.if_icmp .ge 18, 3) := by decide +kernel
theorem d_G_lay_23 : decode b_G_lay 23 = .ok (.aload_n 0, 1) := by decide +kernel
theorem d_G_lay_24 : decode b_G_lay 24 = .ok (.iload_n 1, 1) := by decide +kernel
theorem d_G_lay_25 : decode b_G_lay 25 = .ok (.iload 4, 2) := by decide +kernel
theorem d_G_lay_27 : decode b_G_lay 27 = .ok (.iconst 0, 1) := by decide +kernel
theorem d_G_lay_28 : decode b_G_lay 28 = .ok (.iconst 0, 1) := by decide +kernel
theorem d_G_lay_29 : decode b_G_lay 29 = .ok (.invokevirtual 40, 3) := by decide +kernel
theorem d_G_lay_32 : decode b_G_lay 32 = .ok (.iinc 4 1, 3) := by decide +kernel
theorem d_G_lay_35 : decode b_G_lay 35 = .ok (.goto (-18), 3) := by decide +kernel
theorem d_G_lay_38 : decode b_G_lay 38 = .ok (.return_, 1) := by decide +kernel
theorem d_G_setSlot_0 : decode b_G_setSlot 0 = .ok (.aload_n 0, 1) := by decide +kernel
theorem d_G_setSlot_1 : decode b_G_setSlot 1 = .ok (.getfield 18, 3) := by decide +kernel
theorem d_G_setSlot_4 : decode b_G_setSlot 4 = .ok (.iload_n 1, 1) := by decide +kernel
theorem d_G_setSlot_5 : decode b_G_setSlot 5 = .ok (.iconst 4, 1) := by decide +kernel
theorem d_G_setSlot_6 : decode b_G_setSlot 6 = .ok (.imul, 1) := by decide +kernel
theorem d_G_setSlot_7 : decode b_G_setSlot 7 = .ok (.iload_n 2, 1) := by decide +kernel
theorem d_G_setSlot_8 : decode b_G_setSlot 8 = .ok (.iadd, 1) := by decide +kernel
theorem d_G_setSlot_9 : decode b_G_setSlot 9 = .ok (.iload_n 3, 1) := by decide +kernel
theorem d_G_setSlot_10 : decode b_G_setSlot 10 = .ok (.iastore, 1) := by decide +kernel
theorem d_G_setSlot_11 : decode b_G_setSlot 11 = .ok (.aload_n 0, 1) := by decide +kernel
theorem d_G_setSlot_12 : decode b_G_setSlot 12 = .ok (.getfield 21, 3) := by decide +kernel
theorem d_G_setSlot_15 : decode b_G_setSlot 15 = .ok (.iload_n 1, 1) := by decide +kernel
theorem d_G_setSlot_16 : decode b_G_setSlot 16 = .ok (.iconst 4, 1) := by decide +kernel
theorem d_G_setSlot_17 : decode b_G_setSlot 17 = .ok (.imul, 1) := by decide +kernel
theorem d_G_setSlot_18 : decode b_G_setSlot 18 = .ok (.iload_n 2, 1) := by decide +kernel
theorem d_G_setSlot_19 : decode b_G_setSlot 19 = .ok (.iadd, 1) := by decide +kernel
theorem d_G_setSlot_20 : decode b_G_setSlot 20 = .ok (.iload 4, 2) := by decide +kernel
theorem d_G_setSlot_22 : decode b_G_setSlot 22 = .ok (.iastore, 1) := by decide +kernel
theorem d_G_setSlot_23 : decode b_G_setSlot 23 = .ok (.return_, 1) := by decide +kernel
theorem d_G_contentOf_0 : decode b_G_contentOf 0 = .ok (.aload_n 0, 1) := by decide +kernel
theorem d_G_contentOf_1 : decode b_G_contentOf 1 = .ok (.getfield 18, 3) := by decide +kernel
theorem d_G_contentOf_4 : decode b_G_contentOf 4 = .ok (.iload_n 1, 1) := by decide +kernel
theorem d_G_contentOf_5 : decode b_G_contentOf 5 = .ok (.iconst 4, 1) := by decide +kernel
theorem d_G_contentOf_6 : decode b_G_contentOf 6 = .ok (.imul, 1) := by decide +kernel
theorem d_G_contentOf_7 : decode b_G_contentOf 7 = .ok (.iload_n 2, 1) := by decide +kernel
theorem d_G_contentOf_8 : decode b_G_contentOf 8 = .ok (.iadd, 1) := by decide +kernel
theorem d_G_contentOf_9 : decode b_G_contentOf 9 = .ok (.iaload, 1) := by decide +kernel
theorem d_G_contentOf_10 : decode b_G_contentOf 10 = .ok (.ireturn, 1) := by decide +kernel
theorem d_G_valueOf_0 : decode b_G_valueOf 0 = .ok (.aload_n 0, 1) := by decide +kernel
theorem d_G_valueOf_1 : decode b_G_valueOf 1 = .ok (.getfield 21, 3) := by decide +kernel
theorem d_G_valueOf_4 : decode b_G_valueOf 4 = .ok (.iload_n 1, 1) := by decide +kernel
theorem d_G_valueOf_5 : decode b_G_valueOf 5 = .ok (.iconst 4, 1) := by decide +kernel
theorem d_G_valueOf_6 : decode b_G_valueOf 6 = .ok (.imul, 1) := by decide +kernel
theorem d_G_valueOf_7 : decode b_G_valueOf 7 = .ok (.iload_n 2, 1) := by decide +kernel
theorem d_G_valueOf_8 : decode b_G_valueOf 8 = .ok (.iadd, 1) := by decide +kernel
theorem d_G_valueOf_9 : decode b_G_valueOf 9 = .ok (.iaload, 1) := by decide +kernel
theorem d_G_valueOf_10 : decode b_G_valueOf 10 = .ok (.ireturn, 1) := by decide +kernel
theorem d_G_addCharacter_0 : decode b_G_addCharacter 0 = .ok (.aload_n 0, 1) := by decide +kernel
theorem d_G_addCharacter_1 : decode b_G_addCharacter 1 = .ok (.getfield 15, 3) := by decide +kernel
theorem d_G_addCharacter_4 : decode b_G_addCharacter 4 = .ok (.iload_n 1, 1) := by decide +kernel
theorem d_G_addCharacter_5 : decode b_G_addCharacter 5 = .ok (.iaload, 1) := by decide +kernel
theorem d_G_addCharacter_6 : decode b_G_addCharacter 6 = .ok (.bipush 6, 2) := by decide +kernel
theorem d_G_addCharacter_8 : decode b_G_addCharacter 8 = .ok (.if_icmp .lt 5, 3) := by decide +kernel
theorem d_G_addCharacter_11 : decode b_G_addCharacter 11 = .ok (.iconst 0, 1) := by decide +kernel
theorem d_G_addCharacter_12 : decode b_G_addCharacter 12 = .ok (.ireturn, 1) := by decide +kernel
theorem d_G_addCharacter_13 : decode b_G_addCharacter 13 = .ok (.aload_n 0, 1) := by decide +kernel
theorem d_G_addCharacter_14 : decode b_G_addCharacter 14 = .ok (.getfield 24, 3) := by decide +kernel
theorem d_G_addCharacter_17 : decode b_G_addCharacter 17 = .ok (.iload_n 1, 1) := by decide +kernel
theorem d_G_addCharacter_18 : decode b_G_addCharacter 18 = .ok (.bipush 6, 2) := by decide +kernel
theorem d_G_addCharacter_20 : decode b_G_addCharacter 20 = .ok (.imul, 1) := by decide +kernel
theorem d_G_addCharacter_21 : decode b_G_addCharacter 21 = .ok (.aload_n 0, 1) := by decide +kernel
theorem d_G_addCharacter_22 : decode b_G_addCharacter 22 = .ok (.getfield 15, 3) := by decide +kernel
theorem d_G_addCharacter_25 : decode b_G_addCharacter 25 = .ok (.iload_n 1, 1) := by decide +kernel
theorem d_G_addCharacter_26 : decode b_G_addCharacter 26 = .ok (.iaload, 1) := by decide +kernel
theorem d_G_addCharacter_27 : decode b_G_addCharacter 27 = .ok (.iadd, 1) := by decide +kernel
theorem d_G_addCharacter_28 : decode b_G_addCharacter 28 = .ok (.iload_n 2, 1) := by decide +kernel
theorem d_G_addCharacter_29 : decode b_G_addCharacter 29 = .ok (.castore, 1) := by decide +kernel
theorem d_G_addCharacter_30 : decode b_G_addCharacter 30 = .ok (.aload_n 0, 1) := by decide +kernel
theorem d_G_addCharacter_31 : decode b_G_addCharacter 31 = .ok (.getfield 15, 3) := by decide +kernel
theorem d_G_addCharacter_34 : decode b_G_addCharacter 34 = .ok (.iload_n 1, 1) := by decide +kernel
theorem d_G_addCharacter_35 : decode b_G_addCharacter 35 = .ok (.dup2, 1) := by decide +kernel
theorem d_G_addCharacter_36 : decode b_G_addCharacter 36 = .ok (.iaload, 1) := by decide +kernel
theorem d_G_addCharacter_37 : decode b_G_addCharacter 37 = .ok (.iconst 1, 1) := by decide +kernel
theorem d_G_addCharacter_38 : decode b_G_addCharacter 38 = .ok (.iadd, 1) := by decide +kernel
theorem d_G_addCharacter_39 : decode b_G_addCharacter 39 = .ok (.iastore, 1) := by decide +kernel
theorem d_G_addCharacter_40 : decode b_G_addCharacter 40 = .ok (.iconst 1, 1) := by decide +kernel
theorem d_G_addCharacter_41 : decode b_G_addCharacter 41 = .ok (.ireturn, 1) := by decide +kernel
theorem d_G_characterOf_0 : decode b_G_characterOf 0 = .ok (.aload_n 0, 1) := by decide +kernel
theorem d_G_characterOf_1 : decode b_G_characterOf 1 = .ok (.getfield 24, 3) := by decide +kernel
theorem d_G_characterOf_4 : decode b_G_characterOf 4 = .ok (.iload_n 1, 1) := by decide +kernel
theorem d_G_characterOf_5 : decode b_G_characterOf 5 = .ok (.bipush 6, 2) := by decide +kernel
theorem d_G_characterOf_7 : decode b_G_characterOf 7 = .ok (.imul, 1) := by decide +kernel
theorem d_G_characterOf_8 : decode b_G_characterOf 8 = .ok (.iload_n 2, 1) := by decide +kernel
theorem d_G_characterOf_9 : decode b_G_characterOf 9 = .ok (.iadd, 1) := by decide +kernel
theorem d_G_characterOf_10 : decode b_G_characterOf 10 = .ok (.caload, 1) := by decide +kernel
theorem d_G_characterOf_11 : decode b_G_characterOf 11 = .ok (.ireturn, 1) := by decide +kernel
theorem d_H_init_0 : decode b_H_init 0 = .ok (.aload_n 0, 1) := by decide +kernel
theorem d_H_init_1 : decode b_H_init 1 = .ok (.invokespecial 7, 3) := by decide +kernel
theorem d_H_init_4 : decode b_H_init 4 = .ok (.aload_n 0, 1) := by decide +kernel
theorem d_H_init_5 : decode b_H_init 5 = .ok (.sipush 533, 3) := by decide +kernel
theorem d_H_init_8 : decode b_H_init 8 = .ok (.newarray .int, 2) := by decide +kernel
theorem d_H_init_10 : decode b_H_init 10 = .ok (.putfield 15, 3) := by decide +kernel
theorem d_H_init_13 : decode b_H_init 13 = .ok (.aload_n 0, 1) := by decide +kernel
theorem d_H_init_14 : decode b_H_init 14 = .ok (.bipush 100, 2) := by decide +kernel
theorem d_H_init_16 : decode b_H_init 16 = .ok (.newarray .int, 2) := by decide +kernel
theorem d_H_init_18 : decode b_H_init 18 = .ok (.putfield 19, 3) := by decide +kernel
theorem d_H_init_21 : decode b_H_init 21 = .ok (.aload_n 0, 1) := by decide +kernel
theorem d_H_init_22 : decode b_H_init 22 = .ok (.bipush 16, 2) := by decide +kernel
theorem d_H_init_24 : decode b_H_init 24 = .ok (.newarray .int, 2) := by decide +kernel
theorem d_H_init_26 : decode b_H_init 26 = .ok (.putfield 22, 3) := by decide +kernel
theorem d_H_init_29 : decode b_H_init 29 = .ok (.aload_n 0, 1) := by decide +kernel
theorem d_H_init_30 : decode b_H_init 30 = .ok (.bipush 16, 2) := by decide +kernel
theorem d_H_init_32 : decode b_H_init 32 = .ok (.newarray .int, 2) := by decide +kernel
theorem d_H_init_34 : decode b_H_init 34 = .ok (.putfield 25, 3) := by decide +kernel
theorem d_H_init_37 : decode b_H_init 37 = .ok (.aload_n 0, 1) := by decide +kernel
theorem d_H_init_38 : decode b_H_init 38 = .ok (.aload_n 1, 1) := by decide +kernel
theorem d_H_init_39 : decode b_H_init 39 = .ok (.putfield 28, 3) := by decide +kernel
theorem d_H_init_42 : decode b_H_init 42 = .ok (.aload_n 0, 1) := by decide +kernel
theorem d_H_init_43 : decode b_H_init 43 = .ok (.aload_n 2, 1) := by decide +kernel
theorem d_H_init_44 : decode b_H_init 44 = .ok (.putfield 32, 3) := by decide +kernel
theorem d_H_init_47 : decode b_H_init 47 = .ok (.aload_n 0, 1) := by decide +kernel
theorem d_H_init_48 : decode b_H_init 48 = .ok (.aload_n 3, 1) := by decide +kernel
theorem d_H_init_49 : decode b_H_init 49 = .ok (.putfield 36, 3) := by decide +kernel
theorem d_H_init_52 : decode b_H_init 52 = .ok (.return_, 1) := by decide +kernel
theorem d_H_knowsVersion_0 : decode b_H_knowsVersion 0 = .ok (.aload_n 0, 1) := by decide +kernel
theorem d_H_knowsVersion_1 : decode b_H_knowsVersion 1 = .ok (.getfield 32, 3) := by decide +kernel
theorem d_H_knowsVersion_4 : decode b_H_knowsVersion 4 = .ok (.getfield 40, 3) := by decide +kernel
theorem d_H_knowsVersion_7 : decode b_H_knowsVersion 7 = .ok (.iconst 0, 1) := by decide +kernel
theorem d_H_knowsVersion_8 : decode b_H_knowsVersion 8 = .ok (.iaload, 1) := by decide +kernel
theorem d_H_knowsVersion_9 : decode b_H_knowsVersion 9 = .ok (.iconst 5, 1) := by decide +kernel
theorem d_H_knowsVersion_10 : decode b_H_knowsVersion 10 = .ok (.if_icmp .ne 17, 3) := by decide +kernel
theorem d_H_knowsVersion_13 : decode b_H_knowsVersion 13 = .ok (.aload_n 0, 1) := by decide +kernel
theorem d_H_knowsVersion_14 : decode b_H_knowsVersion 14 = .ok (.iconst 0, 1) := by decide +kernel
theorem d_H_knowsVersion_15 : decode b_H_knowsVersion 15 = .ok (.bipush 22, 2) := by decide +kernel
theorem d_H_knowsVersion_17 : decode b_H_knowsVersion 17 = .ok (.invokevirtual 43, 3) := by decide +kernel
theorem d_H_knowsVersion_20 : decode b_H_knowsVersion 20 = .ok (.ifCond .eq 7, 3) := by decide +kernel
theorem d_H_knowsVersion_23 : decode b_H_knowsVersion 23 = .ok (.iconst 1, 1) := by decide +kernel
theorem d_H_knowsVersion_24 : decode b_H_knowsVersion 24 = .ok (.goto 4, 3) := by decide +kernel
theorem d_H_knowsVersion_27 : decode b_H_knowsVersion 27 = .ok (.iconst 0, 1) := by decide +kernel
theorem d_H_knowsVersion_28 : decode b_H_knowsVersion 28 = .ok (.ireturn, 1) := by decide +kernel
