theorem d_M_make_35 : decode b_M_make 35 = .ok (.getfield 7, 3) := by decide +kernel
theorem d_M_make_38 : decode b_M_make 38 = .ok (.aload_n 0, 1) := by decide +kernel
theorem d_M_make_39 : decode b_M_make 39 = .ok (.getfield 87, 3) := by decide +kernel
theorem d_M_make_42 : decode b_M_make 42 = .ok (.iload_n 1, 1) := by decide +kernel
theorem d_M_make_43 : decode b_M_make 43 = .ok (.iastore, 1) := by decide +kernel
theorem d_M_make_44 : decode b_M_make 44 = .ok (.aload_n 0, 1) := by decide +kernel
theorem d_M_make_45 : decode b_M_make 45 = .ok (.getfield 13, 3) := by decide +kernel
theorem d_M_make_48 : decode b_M_make 48 = .ok (.aload_n 0, 1) := by decide +kernel
theorem d_M_make_49 : decode b_M_make 49 = .ok (.getfield 87, 3) := by decide +kernel
theorem d_M_make_52 : decode b_M_make 52 = .ok (.iload_n 1, 1) := by decide +kernel
theorem d_M_make_53 : decode b_M_make 53 = .ok (.ifCond .ne 7, 3) := by decide +kernel
theorem d_M_make_56 : decode b_M_make 56 = .ok (.iconst 2, 1) := by decide +kernel
theorem d_M_make_57 : decode b_M_make 57 = .ok (.goto 13, 3) := by decide +kernel
theorem d_M_make_60 : decode b_M_make 60 = .ok (.iload_n 1, 1) := by decide +kernel
theorem d_M_make_61 : decode b_M_make 61 = .ok (.iconst 1, 1) := by decide +kernel
theorem d_M_make_62 : decode b_M_make 62 = .ok (.if_icmp .ne 7, 3) := by decide +kernel
theorem d_M_make_65 : decode b_M_make 65 = .ok (.iload_n 2, 1) := by decide +kernel
theorem d_M_make_66 : decode b_M_make 66 = .ok (.goto 4, 3) := by decide +kernel
theorem d_M_make_69 : decode b_M_make 69 = .ok (.iconst 0, 1) := by decide +kernel
theorem d_M_make_70 : decode b_M_make 70 = .ok (.iastore, 1) := by decide +kernel
theorem d_M_make_71 : decode b_M_make 71 = .ok (.iconst 0, 1) := by decide +kernel
theorem d_M_make_72 : decode b_M_make 72 = .ok (.istore_n 3, 1) := by decide +kernel
theorem d_M_make_73 : decode b_M_make 73 = .ok (.iload_n 3, 1) := by decide +kernel
theorem d_M_make_74 : decode b_M_make 74 = .ok (.iconst 4, 1) := by decide +kernel
theorem d_M_make_75 : decode b_M_make 75 = .ok (.if_icmp .ge 23, 3) := by decide +kernel
theorem d_M_make_78 : decode b_M_make 78 = .ok (.aload_n 0, 1) := by decide +kernel
theorem d_M_make_79 : decode b_M_make 79 = .ok (.getfield 16, 3) := by decide +kernel
theorem d_M_make_82 : decode b_M_make 82 = .ok (.iconst 4, 1) := by decide +kernel
theorem d_M_make_83 : decode b_M_make 83 = .ok (.aload_n 0, 1) := by decide +kernel
theorem d_M_make_84 : decode b_M_make 84 = .ok (.getfield 87, 3) := by decide +kernel
theorem d_M_make_87 : decode b_M_make 87 = .ok (.imul, 1) := by decide +kernel
theorem d_M_make_88 : decode b_M_make 88 = .ok (.iload_n 3, 1) := by decide +kernel
theorem d_M_make_89 : decode b_M_make 89 = .ok (.iadd, 1) := by decide +kernel
theorem d_M_make_90 : decode b_M_make 90 = .ok (.iconst 0, 1) := by decide +kernel
theorem d_M_make_91 : decode b_M_make 91 = .ok (.iastore, 1) := by decide +kernel
theorem d_M_make_92 : decode b_M_make 92 = .ok (.iinc 3 1, 3) := by decide +kernel
theorem d_M_make_95 : decode b_M_make 95 = .ok (.goto (-22), 3) := by decide +kernel
theorem d_M_make_98 : decode b_M_make 98 = .ok (.aload_n 0, 1) := by decide +kernel
theorem d_M_make_99 : decode b_M_make 99 = .ok (.dup, 1) := by decide +kernel
theorem d_M_make_100 : decode b_M_make 100 = .ok (.getfield 87, 3) := by decide +kernel
theorem d_M_make_103 : decode b_M_make 103 = .ok (.iconst 1, 1) := by decide +kernel
theorem d_M_make_104 : decode b_M_make 104 = .ok (.iadd, 1) := by decide +kernel
theorem d_M_make_105 : decode b_M_make 105 = .ok (.putfield 87, 3) := by decide +kernel
theorem d_M_make_108 : decode b_M_make 108 = .ok (.aload_n 0, 1) := by decide +kernel
theorem d_M_make_109 : decode b_M_make 109 = .ok (.getfield 87, 3) := by decide +kernel
theorem d_M_make_112 : decode b_M_make 112 = .ok (.iconst 1, 1) := by decide +kernel
theorem d_M_make_113 : decode b_M_make 113 = .ok (.isub, 1) := by decide +kernel
theorem d_M_make_114 : decode b_M_make 114 = .ok (.ireturn, 1) := by decide +kernel
theorem d_M_type_0 : decode b_M_type 0 = .ok (.aload_n 0, 1) := by decide +kernel
theorem d_M_type_1 : decode b_M_type 1 = .ok (.iload_n 1, 1) := by decide +kernel
theorem d_M_type_2 : decode b_M_type 2 = .ok (.invokevirtual 91, 3) := by decide +kernel
theorem d_M_type_5 : decode b_M_type 5 = .ok (.ifCond .eq 36, 3) := by decide +kernel
theorem d_M_type_8 : decode b_M_type 8 = .ok (.aload_n 0, 1) := by decide +kernel
theorem d_M_type_9 : decode b_M_type 9 = .ok (.getfield 7, 3) := by decide +kernel
theorem d_M_type_12 : decode b_M_type 12 = .ok (.iload_n 1, 1) := by decide +kernel
theorem d_M_type_13 : decode b_M_type 13 = .ok (.iaload, 1) := by decide +kernel
theorem d_M_type_14 : decode b_M_type 14 = .ok (.iconst 2, 1) := by decide +kernel
theorem d_M_type_15 : decode b_M_type 15 = .ok (.if_icmp .ne 26, 3) := by decide +kernel
theorem d_M_type_18 : decode b_M_type 18 = .ok (.iload_n 2, 1) := by decide +kernel
theorem d_M_type_19 : decode b_M_type 19 = .ok (.bipush 32, 2) := by decide +kernel
theorem d_M_type_21 : decode b_M_type 21 = .ok (.if_icmp .lt 20, 3) := by decide +kernel
theorem d_M_type_24 : decode b_M_type 24 = .ok (.iload_n 2, 1) := by decide +kernel
theorem d_M_type_25 : decode b_M_type 25 = .ok (.bipush 126, 2) := by decide +kernel
theorem d_M_type_27 : decode b_M_type 27 = .ok (.if_icmp .gt 14, 3) := by decide +kernel
theorem d_M_type_30 : decode b_M_type 30 = .ok (.aload_n 0, 1) := by decide +kernel
theorem d_M_type_31 : decode b_M_type 31 = .ok (.getfield 13, 3) := by decide +kernel
theorem d_M_type_34 : decode b_M_type 34 = .ok (.iload_n 1, 1) := by decide +kernel
theorem d_M_type_35 : decode b_M_type 35 = .ok (.iaload, 1) := by decide +kernel
theorem d_M_type_36 : decode b_M_type 36 = .ok (.bipush 6, 2) := by decide +kernel
theorem d_M_type_38 : decode b_M_type 38 = .ok (.if_icmp .ne 5, 3) := by decide +kernel
theorem d_M_type_41 : decode b_M_type 41 = .ok (.iconst 0, 1) := by decide +kernel
theorem d_M_type_42 : decode b_M_type 42 = .ok (.ireturn, 1) := by decide +kernel
theorem d_M_type_43 : decode b_M_type 43 = .ok (.aload_n 0, 1) := by decide +kernel
theorem d_M_type_44 : decode b_M_type 44 = .ok (.getfield 22, 3) := by decide +kernel
theorem d_M_type_47 : decode b_M_type 47 = .ok (.bipush 6, 2) := by decide +kernel
theorem d_M_type_49 : decode b_M_type 49 = .ok (.iload_n 1, 1) := by decide +kernel
theorem d_M_type_50 : decode b_M_type 50 = .ok (.imul, 1) := by decide +kernel
theorem d_M_type_51 : decode b_M_type 51 = .ok (.aload_n 0, 1) := by decide +kernel
theorem d_M_type_52 : decode b_M_type 52 = .ok (.getfield 13, 3) := by decide +kernel
theorem d_M_type_55 : decode b_M_type 55 = .ok (.iload_n 1, 1) := by decide +kernel
theorem d_M_type_56 : decode b_M_type 56 = .ok (.iaload, 1) := by decide +kernel
theorem d_M_type_57 : decode b_M_type 57 = .ok (.iadd, 1) := by decide +kernel
theorem d_M_type_58 : decode b_M_type 58 = .ok (.iload_n 2, 1) := by decide +kernel
theorem d_M_type_59 : decode b_M_type 59 = .ok (.iastore, 1) := by decide +kernel
theorem d_M_type_60 : decode b_M_type 60 = .ok (.aload_n 0, 1) := by decide +kernel
theorem d_M_type_61 : decode b_M_type 61 = .ok (.getfield 13, 3) := by decide +kernel
theorem d_M_type_64 : decode b_M_type 64 = .ok (.iload_n 1, 1) := by decide +kernel
theorem d_M_type_65 : decode b_M_type 65 = .ok (.dup2, 1) := by decide +kernel
theorem d_M_type_66 : decode b_M_type 66 = .ok (.iaload, 1) := by decide +kernel
theorem d_M_type_67 : decode b_M_type 67 = .ok (.iconst 1, 1) := by decide +kernel
theorem d_M_type_68 : decode b_M_type 68 = .ok (.iadd, 1) := by decide +kernel
theorem d_M_type_69 : decode b_M_type 69 = .ok (.iastore, 1) := by decide +kernel
theorem d_M_type_70 : decode b_M_type 70 = .ok (.iconst 1, 1) := by decide +kernel
theorem d_M_type_71 : decode b_M_type 71 = .ok (.ireturn, 1) := by decide +kernel
theorem d_M_put_0 : decode b_M_put 0 = .ok (.aload_n 0, 1) := by decide +kernel
theorem d_M_put_1 : decode b_M_put 1 = .ok (.iload_n 1, 1) := by decide +kernel
theorem d_M_put_2 : decode b_M_put 2 = .ok (.iload_n 2, 1) := by decide +kernel
theorem d_M_put_3 : decode b_M_put 3 = .ok (.invokevirtual 95, 3) := by decide +kernel
theorem d_M_put_6 : decode b_M_put 6 = .ok (.ifCond .ne 5, 3) := by decide +kernel
theorem d_M_put_9 : decode b_M_put 9 = .ok (.iconst 0, 1) := by decide +kernel
theorem d_M_put_10 : decode b_M_put 10 = .ok (.ireturn, 1) := by decide +kernel
theorem d_M_put_11 : decode b_M_put 11 = .ok (.aload_n 0, 1) := by decide +kernel
theorem d_M_put_12 : decode b_M_put 12 = .ok (.getfield 16, 3) := by decide +kernel
theorem d_M_put_15 : decode b_M_put 15 = .ok (.iconst 4, 1) := by decide +kernel
theorem d_M_put_16 : decode b_M_put 16 = .ok (.iload_n 1, 1) := by decide +kernel
theorem d_M_put_17 : decode b_M_put 17 = .ok (.imul, 1) := by decide +kernel
theorem d_M_put_18 : decode b_M_put 18 = .ok (.iload_n 2, 1) := by decide +kernel
theorem d_M_put_19 : decode b_M_put 19 = .ok (.iadd, 1) := by decide +kernel
theorem d_M_put_20 : decode b_M_put 20 = .ok (.iconst 1, 1) := by decide +kernel
theorem d_M_put_21 : decode b_M_put 21 = .ok (.iastore, 1) := by decide +kernel
theorem d_M_put_22 : decode b_M_put 22 = .ok (.aload_n 0, 1) := by decide +kernel
theorem d_M_put_23 : decode b_M_put 23 = .ok (.getfield 19, 3) := by decide +kernel
theorem d_M_put_26 : decode b_M_put 26 = .ok (.iconst 4, 1) := by decide +kernel
theorem d_M_put_27 : decode b_M_put 27 = .ok (.iload_n 1, 1) := by decide +kernel
theorem d_M_put_28 : decode b_M_put 28 = .ok (.imul, 1) := by decide +kernel
theorem d_M_put_29 : decode b_M_put 29 = .ok (.iload_n 2, 1) := by decide +kernel
theorem d_M_put_30 : decode b_M_put 30 = .ok (.iadd, 1) := by decide +kernel
theorem d_M_put_31 : decode b_M_put 31 = .ok (.iload_n 3, 1) := by decide +kernel
theorem d_M_put_32 : decode b_M_put 32 = .ok (.iastore, 1) := by decide +kernel
theorem d_M_put_33 : decode b_M_put 33 = .ok (.iconst 1, 1) := by decide +kernel
theorem d_M_put_34 : decode b_M_put 34 = .ok (.ireturn, 1) := by decide +kernel
theorem d_M_link_0 : decode b_M_link 0 = .ok (.aload_n 0, 1) := by decide +kernel
theorem d_M_link_1 : decode b_M_link 1 = .ok (.iload_n 1, 1) := by decide +kernel
theorem d_M_link_2 : decode b_M_link 2 = .ok (.iload_n 2, 1) := by decide +kernel
theorem d_M_link_3 : decode b_M_link 3 = .ok (.invokevirtual 95, 3) := by decide +kernel
theorem d_M_link_6 : decode b_M_link 6 = .ok (.ifCond .eq 16, 3) := by decide +kernel
theorem d_M_link_9 : decode b_M_link 9 = .ok (.iload_n 3, 1) := by decide +kernel
theorem d_M_link_10 : decode b_M_link 10 = .ok (.iconst (-1), 1) := by decide +kernel
theorem d_M_link_11 : decode b_M_link 11 = .ok (.if_icmp .eq 13, 3) := by decide +kernel
theorem d_M_link_14 : decode b_M_link 14 = .ok (.aload_n 0, 1) := by decide +kernel
theorem d_M_link_15 : decode b_M_link 15 = .ok (.iload_n 3, 1) := by decide +kernel
theorem d_M_link_16 : decode b_M_link 16 = .ok (.invokevirtual 91, 3) := by decide +kernel
theorem d_M_link_19 : decode b_M_link 19 = .ok (.ifCond .ne 5, 3) := by decide +kernel
theorem d_M_link_22 : decode b_M_link 22 = .ok (.iconst 0, 1) := by decide +kernel
theorem d_M_link_23 : decode b_M_link 23 = .ok (.ireturn, 1) := by decide +kernel
theorem d_M_link_24 : decode b_M_link 24 = .ok (.aload_n 0, 1) := by decide +kernel
theorem d_M_link_25 : decode b_M_link 25 = .ok (.getfield 16, 3) := by decide +kernel
theorem d_M_link_28 : decode b_M_link 28 = .ok (.iconst 4, 1) := by decide +kernel
theorem d_M_link_29 : decode b_M_link 29 = .ok (.iload_n 1, 1) := by decide +kernel
theorem d_M_link_30 : decode b_M_link 30 = .ok (.imul, 1) := by decide +kernel
theorem d_M_link_31 : decode b_M_link 31 = .ok (.iload_n 2, 1) := by decide +kernel
theorem d_M_link_32 : decode b_M_link 32 = .ok (.iadd, 1) := by decide +kernel
theorem d_M_link_33 : decode b_M_link 33 = .ok (.iload_n 3, 1) := by decide +kernel
theorem d_M_link_34 : decode b_M_link 34 = .ok (.iconst (-1), 1) := by decide +kernel
theorem d_M_link_35 : decode b_M_link 35 = .ok (.if_icmp .ne 7, 3) := by decide +kernel
theorem d_M_link_38 : decode b_M_link 38 = .ok (.iconst 0, 1) := by decide +kernel
theorem d_M_link_39 : decode b_M_link 39 = .ok (.goto 4, 3) := by decide +kernel
theorem d_M_link_42 : decode b_M_link 42 = .ok (.iconst 2, 1) := by decide +kernel
theorem d_M_link_43 : decode b_M_link 43 = .ok (.iastore, 1) := by decide +kernel
theorem d_M_link_44 : decode b_M_link 44 = .ok (.aload_n 0, 1) := by decide +kernel
theorem d_M_link_45 : decode b_M_link 45 = .ok (.getfield 19, 3) := by decide +kernel
theorem d_M_link_48 : decode b_M_link 48 = .ok (.iconst 4, 1) := by decide +kernel
theorem d_M_link_49 : decode b_M_link 49 = .ok (.iload_n 1, 1) := by decide +kernel
theorem d_M_link_50 : decode b_M_link 50 = .ok (.imul, 1) := by decide +kernel
theorem d_M_link_51 : decode b_M_link 51 = .ok (.iload_n 2, 1) := by decide +kernel
theorem d_M_link_52 : decode b_M_link 52 = .ok (.iadd, 1) := by decide +kernel
theorem d_M_link_53 : decode b_M_link 53 = .ok (.iload_n 3, 1) := by decide +kernel
theorem d_M_link_54 : decode b_M_link 54 = .ok (.iastore, 1) := by decide +kernel
theorem d_M_link_55 : decode b_M_link 55 = .ok (.iconst 1, 1) := by decide +kernel
theorem d_M_link_56 : decode b_M_link 56 = .ok (.ireturn, 1) := by decide +kernel
theorem d_M_objects_0 : decode b_M_objects 0 = .ok (.aload_n 0, 1) := by decide +kernel
theorem d_M_objects_1 : decode b_M_objects 1 = .ok (.getfield 87, 3) := by decide +kernel
theorem d_M_objects_4 : decode b_M_objects 4 = .ok (.ireturn, 1) := by decide +kernel
theorem d_M_kind_0 : decode b_M_kind 0 = .ok (.aload_n 0, 1) := by decide +kernel
theorem d_M_kind_1 : decode b_M_kind 1 = .ok (.iload_n 1, 1) := by decide +kernel
theorem d_M_kind_2 : decode b_M_kind 2 = .ok (.invokevirtual 91, 3) := by decide +kernel
theorem d_M_kind_5 : decode b_M_kind 5 = .ok (.ifCond .eq 12, 3) := by decide +kernel
theorem d_M_kind_8 : decode b_M_kind 8 = .ok (.aload_n 0, 1) := by decide +kernel
theorem d_M_kind_9 : decode b_M_kind 9 = .ok (.getfield 7, 3) := by decide +kernel
theorem d_M_kind_12 : decode b_M_kind 12 = .ok (.iload_n 1, 1) := by decide +kernel
theorem d_M_kind_13 : decode b_M_kind 13 = .ok (.iaload, 1) := by decide +kernel
theorem d_M_kind_14 : decode b_M_kind 14 = .ok (.goto 4, 3) := by decide +kernel
theorem d_M_kind_17 : decode b_M_kind 17 = .ok (.iconst (-1), 1) := by decide +kernel
theorem d_M_kind_18 : decode b_M_kind 18 = .ok (.ireturn, 1) := by decide +kernel
theorem d_M_size_0 : decode b_M_size 0 = .ok (.aload_n 0, 1) := by decide +kernel
theorem d_M_size_1 : decode b_M_size 1 = .ok (.iload_n 1, 1) := by decide +kernel
theorem d_M_size_2 : decode b_M_size 2 = .ok (.invokevirtual 91, 3) := by decide +kernel
theorem d_M_size_5 : decode b_M_size 5 = .ok (.ifCond .eq 12, 3) := by decide +kernel
theorem d_M_size_8 : decode b_M_size 8 = .ok (.aload_n 0, 1) := by decide +kernel
theorem d_M_size_9 : decode b_M_size 9 = .ok (.getfield 13, 3) := by decide +kernel
theorem d_M_size_12 : decode b_M_size 12 = .ok (.iload_n 1, 1) := by decide +kernel
theorem d_M_size_13 : decode b_M_size 13 = .ok (.iaload, 1) := by decide +kernel
theorem d_M_size_14 : decode b_M_size 14 = .ok (.goto 4, 3) := by decide +kernel
theorem d_M_size_17 : decode b_M_size 17 = .ok (.iconst (-1), 1) := by decide +kernel
theorem d_M_size_18 : decode b_M_size 18 = .ok (.ireturn, 1) := by decide +kernel
theorem d_M_holds_0 : decode b_M_holds 0 = .ok (.aload_n 0, 1) := by decide +kernel
theorem d_M_holds_1 : decode b_M_holds 1 = .ok (.iload_n 1, 1) := by decide +kernel
theorem d_M_holds_2 : decode b_M_holds 2 = .ok (.iload_n 2, 1) := by decide +kernel
theorem d_M_holds_3 : decode b_M_holds 3 = .ok (.invokevirtual 95, 3) := by decide +kernel
theorem d_M_holds_6 : decode b_M_holds 6 = .ok (.ifCond .eq 16, 3) := by decide +kernel
theorem d_M_holds_9 : decode b_M_holds 9 = .ok (.aload_n 0, 1) := by decide +kernel
theorem d_M_holds_10 : decode b_M_holds 10 = .ok (.getfield 16, 3) := by decide +kernel
theorem d_M_holds_13 : decode b_M_holds 13 = .ok (.iconst 4, 1) := by decide +kernel
theorem d_M_holds_14 : decode b_M_holds 14 = .ok (.iload_n 1, 1) := by decide +kernel
theorem d_M_holds_15 : decode b_M_holds 15 = .ok (.imul, 1) := by decide +kernel
theorem d_M_holds_16 : decode b_M_holds 16 = .ok (.iload_n 2, 1) := by decide +kernel
theorem d_M_holds_17 : decode b_M_holds 17 = .ok (.iadd, 1) := by decide +kernel
theorem d_M_holds_18 : decode b_M_holds 18 = .ok (.iaload, 1) := by decide +kernel
theorem d_M_holds_19 : decode b_M_holds 19 = .ok (.goto 4, 3) := by decide +kernel
theorem d_M_holds_22 : decode b_M_holds 22 = .ok (.iconst (-1), 1) := by decide +kernel
theorem d_M_holds_23 : decode b_M_holds 23 = .ok (.ireturn, 1) := by decide +kernel
theorem d_M_value_0 : decode b_M_value 0 = .ok (.aload_n 0, 1) := by decide +kernel
theorem d_M_value_1 : decode b_M_value 1 = .ok (.iload_n 1, 1) := by decide +kernel
theorem d_M_value_2 : decode b_M_value 2 = .ok (.invokevirtual 91, 3) := by decide +kernel
theorem d_M_value_5 : decode b_M_value 5 = .ok (.ifCond .eq 43, 3) := by decide +kernel
theorem d_M_value_8 : decode b_M_value 8 = .ok (.aload_n 0, 1) := by decide +kernel
theorem d_M_value_9 : decode b_M_value 9 = .ok (.getfield 7, 3) := by decide +kernel
theorem d_M_value_12 : decode b_M_value 12 = .ok (.iload_n 1, 1) := by decide +kernel
theorem d_M_value_13 : decode b_M_value 13 = .ok (.iaload, 1) := by decide +kernel
theorem d_M_value_14 : decode b_M_value 14 = .ok (.iconst 2, 1) := by decide +kernel
theorem d_M_value_15 : decode b_M_value 15 = .ok (.if_icmp .ne 33, 3) := by decide +kernel
theorem d_M_value_18 : decode b_M_value 18 = .ok (.iload_n 2, 1) := by decide +kernel
theorem d_M_value_19 : decode b_M_value 19 = .ok (.ifCond .lt 27, 3) := by decide +kernel
theorem d_M_value_22 : decode b_M_value 22 = .ok (.iload_n 2, 1) := by decide +kernel
theorem d_M_value_23 : decode b_M_value 23 = .ok (.aload_n 0, 1) := by decide +kernel
theorem d_M_value_24 : decode b_M_value 24 = .ok (.getfield 13, 3) := by decide +kernel
theorem d_M_value_27 : decode b_M_value 27 = .ok (.iload_n 1, 1) := by decide +kernel
theorem d_M_value_28 : decode b_M_value 28 = .ok (.iaload, 1) := by decide +kernel
theorem d_M_value_29 : decode b_M_value 29 = .ok (.if_icmp .ge 17, 3) := by decide +kernel
theorem d_M_value_32 : decode b_M_value 32 = .ok (.aload_n 0, 1) := by decide +kernel
theorem d_M_value_33 : decode b_M_value 33 = .ok (.getfield 22, 3) := by decide +kernel
theorem d_M_value_36 : decode b_M_value 36 = .ok (.bipush 6, 2) := by decide +kernel
theorem d_M_value_38 : decode b_M_value 38 = .ok (.iload_n 1, 1) := by decide +kernel
theorem d_M_value_39 : decode b_M_value 39 = .ok (.imul, 1) := by decide +kernel
theorem d_M_value_40 : decode b_M_value 40 = .ok (.iload_n 2, 1) := by decide +kernel
theorem d_M_value_41 : decode b_M_value 41 = .ok (.iadd, 1) := by decide +kernel
theorem d_M_value_42 : decode b_M_value 42 = .ok (.iaload, 1) := by decide +kernel
theorem d_M_value_43 : decode b_M_value 43 = .ok (.goto 4, 3) := by decide +kernel
theorem d_M_value_46 : decode b_M_value 46 = .ok (.iconst 0, 1) := by decide +kernel
theorem d_M_value_47 : decode b_M_value 47 = .ok (.ireturn, 1) := by decide +kernel
theorem d_M_value_48 : decode b_M_value 48 = .ok (.aload_n 0, 1) := by decide +kernel
theorem d_M_value_49 : decode b_M_value 49 = .ok (.iload_n 1, 1) := by decide +kernel
theorem d_M_value_50 : decode b_M_value 50 = .ok (.iload_n 2, 1) := by decide +kernel
theorem d_M_value_51 : decode b_M_value 51 = .ok (.invokevirtual 95, 3) := by decide +kernel
theorem d_M_value_54 : decode b_M_value 54 = .ok (.ifCond .eq 29, 3) := by decide +kernel
theorem d_M_value_57 : decode b_M_value 57 = .ok (.aload_n 0, 1) := by decide +kernel
theorem d_M_value_58 : decode b_M_value 58 = .ok (.getfield 16, 3) := by decide +kernel
theorem d_M_value_61 : decode b_M_value 61 = .ok (.iconst 4, 1) := by decide +kernel
theorem d_M_value_62 : decode b_M_value 62 = .ok (.iload_n 1, 1) := by decide +kernel
theorem d_M_value_63 : decode b_M_value 63 = .ok (.imul, 1) := by decide +kernel
theorem d_M_value_64 : decode b_M_value 64 = .ok (.iload_n 2, 1) := by decide +kernel
theorem d_M_value_65 : decode b_M_value 65 = .ok (.iadd, 1) := by decide +kernel
theorem d_M_value_66 : decode b_M_value 66 = .ok (.iaload, 1) := by decide +kernel
theorem d_M_value_67 : decode b_M_value 67 = .ok (.ifCond .eq 16, 3) := by decide +kernel
theorem d_M_value_70 : decode b_M_value 70 = .ok (.aload_n 0, 1) := by decide +kernel
theorem d_M_value_71 : decode b_M_value 71 = .ok (.getfield 19, 3) := by decide +kernel
theorem d_M_value_74 : decode b_M_value 74 = .ok (.iconst 4, 1) := by decide +kernel
theorem d_M_value_75 : decode b_M_value 75 = .ok (.iload_n 1, 1) := by decide +kernel
theorem d_M_value_76 : decode b_M_value 76 = .ok (.imul, 1) := by decide +kernel
theorem d_M_value_77 : decode b_M_value 77 = .ok (.iload_n 2, 1) := by decide +kernel
theorem d_M_value_78 : decode b_M_value 78 = .ok (.iadd, 1) := by decide +kernel
theorem d_M_value_79 : decode b_M_value 79 = .ok (.iaload, 1) := by decide +kernel
theorem d_M_value_80 : decode b_M_value 80 = .ok (.goto 4, 3) := by decide +kernel
theorem d_M_value_83 : decode b_M_value 83 = .ok (.iconst 0, 1) := by decide +kernel
theorem d_M_value_84 : decode b_M_value 84 = .ok (.ireturn, 1) := by decide +kernel
theorem d_M_clear_0 : decode b_M_clear 0 = .ok (.aload_n 0, 1) := by decide +kernel
theorem d_M_clear_1 : decode b_M_clear 1 = .ok (.iconst 0, 1) := by decide +kernel
theorem d_M_clear_2 : decode b_M_clear 2 = .ok (.putfield 87, 3) := by decide +kernel
theorem d_M_clear_5 : decode b_M_clear 5 = .ok (.return_, 1) := by decide +kernel
theorem d_M_alike_0 : decode b_M_alike 0 = .ok (.aload_n 0, 1) := by decide +kernel
theorem d_M_alike_1 : decode b_M_alike 1 = .ok (.iload_n 1, 1) := by decide +kernel
theorem d_M_alike_2 : decode b_M_alike 2 = .ok (.invokevirtual 91, 3) := by decide +kernel
theorem d_M_alike_5 : decode b_M_alike 5 = .ok (.ifCond .eq 11, 3) := by decide +kernel
theorem d_M_alike_8 : decode b_M_alike 8 = .ok (.aload_n 0, 1) := by decide +kernel
theorem d_M_alike_9 : decode b_M_alike 9 = .ok (.iload_n 2, 1) := by decide +kernel
theorem d_M_alike_10 : decode b_M_alike 10 = .ok (.invokevirtual 91, 3) := by decide +kernel
theorem d_M_alike_13 : decode b_M_alike 13 = .ok (.ifCond .ne 5, 3) := by decide +kernel
theorem d_M_alike_16 : decode b_M_alike 16 = .ok (.iconst 0, 1) := by decide +kernel
theorem d_M_alike_17 : decode b_M_alike 17 = .ok (.ireturn, 1) := by decide +kernel
theorem d_M_alike_18 : decode b_M_alike 18 = .ok (.iconst 0, 1) := by decide +kernel
theorem d_M_alike_19 : decode b_M_alike 19 = .ok (.istore_n 3, 1) := by decide +kernel
theorem d_M_alike_20 : decode b_M_alike 20 = .ok (.iload_n 3, 1) := by decide +kernel
theorem d_M_alike_21 : decode b_M_alike 21 = .ok (.bipush 16, 2) := by decide +kernel
theorem d_M_alike_23 : decode b_M_alike 23 = .ok (.if_icmp .ge 23, 3) := by decide +kernel
theorem d_M_alike_26 : decode b_M_alike 26 = .ok (.aload_n 0, 1) := by decide +kernel
theorem d_M_alike_27 : decode b_M_alike 27 = .ok (.getfield 81, 3) := by decide +kernel
theorem d_M_alike_30 : decode b_M_alike 30 = .ok (.iload_n 3, 1) := by decide +kernel
theorem d_M_alike_31 : decode b_M_alike 31 = .ok (.iconst (-1), 1) := by decide +kernel
theorem d_M_alike_32 : decode b_M_alike 32 = .ok (.iastore, 1) := by decide +kernel
theorem d_M_alike_33 : decode b_M_alike 33 = .ok (.aload_n 0, 1) := by decide +kernel
theorem d_M_alike_34 : decode b_M_alike 34 = .ok (.getfield 84, 3) := by decide +kernel
theorem d_M_alike_37 : decode b_M_alike 37 = .ok (.iload_n 3, 1) := by decide +kernel
theorem d_M_alike_38 : decode b_M_alike 38 = .ok (.iconst (-1), 1) := by decide +kernel
theorem d_M_alike_39 : decode b_M_alike 39 = .ok (.iastore, 1) := by decide +kernel
theorem d_M_alike_40 : decode b_M_alike 40 = .ok (.iinc 3 1, 3) := by decide +kernel
theorem d_M_alike_43 : decode b_M_alike 43 = .ok (.goto (-23), 3) := by decide +kernel
theorem d_M_alike_46 : decode b_M_alike 46 = .ok (.aload_n 0, 1) := by decide +kernel
theorem d_M_alike_47 : decode b_M_alike 47 = .ok (.getfield 81, 3) := by decide +kernel
theorem d_M_alike_50 : decode b_M_alike 50 = .ok (.iload_n 1, 1) := by decide +kernel
theorem d_M_alike_51 : decode b_M_alike 51 = .ok (.iload_n 2, 1) := by decide +kernel
theorem d_M_alike_52 : decode b_M_alike 52 = .ok (.iastore, 1) := by decide +kernel
theorem d_M_alike_53 : decode b_M_alike 53 = .ok (.aload_n 0, 1) := by decide +kernel
theorem d_M_alike_54 : decode b_M_alike 54 = .ok (.getfield 84, 3) := by decide +kernel
theorem d_M_alike_57 : decode b_M_alike 57 = .ok (.iload_n 2, 1) := by decide +kernel
theorem d_M_alike_58 : decode b_M_alike 58 = .ok (.iload_n 1, 1) := by decide +kernel
theorem d_M_alike_59 : decode b_M_alike 59 = .ok (.iastore, 1) := by decide +kernel
theorem d_M_alike_60 : decode b_M_alike 60 = .ok (.iconst 0, 1) := by decide +kernel
theorem d_M_alike_61 : decode b_M_alike 61 = .ok (.istore_n 3, 1) := by decide +kernel
theorem d_M_alike_62 : decode b_M_alike 62 = .ok (.iload_n 3, 1) := by decide +kernel
theorem d_M_alike_63 : decode b_M_alike 63 = .ok (.bipush 17, 2) := by decide +kernel
theorem d_M_alike_65 : decode b_M_alike 65 = .ok (.aload_n 0, 1) := by decide +kernel
theorem d_M_alike_66 : decode b_M_alike 66 = .ok (.getfield 87, 3) := by decide +kernel
theorem d_M_alike_69 : decode b_M_alike 69 = .ok (.imul, 1) := by decide +kernel
theorem d_M_alike_70 : decode b_M_alike 70 = .ok (.if_icmp .ge 192, 3) := by decide +kernel
theorem d_M_alike_73 : decode b_M_alike 73 = .ok (.iload_n 3, 1) := by decide +kernel
theorem d_M_alike_74 : decode b_M_alike 74 = .ok (.aload_n 0, 1) := by decide +kernel
theorem d_M_alike_75 : decode b_M_alike 75 = .ok (.getfield 87, 3) := by decide +kernel
theorem d_M_alike_78 : decode b_M_alike 78 = .ok (.irem, 1) := by decide +kernel
theorem d_M_alike_79 : decode b_M_alike 79 = .ok (.istore 4, 2) := by decide +kernel
theorem d_M_alike_81 : decode b_M_alike 81 = .ok (.aload_n 0, 1) := by decide +kernel
theorem d_M_alike_82 : decode b_M_alike 82 = .ok (.getfield 81, 3) := by decide +kernel
theorem d_M_alike_85 : decode b_M_alike 85 = .ok (.iload 4, 2) := by decide +kernel
theorem d_M_alike_87 : decode b_M_alike 87 = .ok (.iaload, 1) := by decide +kernel
theorem d_M_alike_88 : decode b_M_alike 88 = .ok (.istore 5, 2) := by decide +kernel
theorem d_M_alike_90 : decode b_M_alike 90 = .ok (.iload 5, 2) := by decide +kernel
theorem d_M_alike_92 : decode b_M_alike 92 = .ok (.ifCond .lt 16, 3) := by decide +kernel
theorem d_M_alike_95 : decode b_M_alike 95 = .ok (.aload_n 0, 1) := by decide +kernel
theorem d_M_alike_96 : decode b_M_alike 96 = .ok (.iload 4, 2) := by decide +kernel
theorem d_M_alike_98 : decode b_M_alike 98 = .ok (.iload 5, 2) := by decide +kernel
theorem d_M_alike_100 : decode b_M_alike 100 = .ok (.invokevirtual 99, 3) := by decide +kernel
theorem d_M_alike_103 : decode b_M_alike 103 = .ok (.ifCond .ne 5, 3) := by decide +kernel
theorem d_M_alike_106 : decode b_M_alike 106 = .ok (.iconst 0, 1) := by decide +kernel
theorem d_M_alike_107 : decode b_M_alike 107 = .ok (.ireturn, 1) := by decide +kernel
theorem d_M_alike_108 : decode b_M_alike 108 = .ok (.iconst 0, 1) := by decide +kernel
theorem d_M_alike_109 : decode b_M_alike 109 = .ok (.istore 6, 2) := by decide +kernel
theorem d_M_alike_111 : decode b_M_alike 111 = .ok (.iload 5, 2) := by decide +kernel
theorem d_M_alike_113 : decode b_M_alike 113 = .ok (.ifCond .lt 143, 3) := by decide +kernel
theorem d_M_alike_116 : decode b_M_alike 116 = .ok (.aload_n 0, 1) := by decide +kernel
theorem d_M_alike_117 : decode b_M_alike 117 = .ok (.getfield 7, 3) := by decide +kernel
theorem d_M_alike_120 : decode b_M_alike 120 = .ok (.iload 4, 2) := by decide +kernel
theorem d_M_alike_122 : decode b_M_alike 122 = .ok (.iaload, 1) := by decide +kernel
theorem d_M_alike_123 : decode b_M_alike 123 = .ok (.iconst 2, 1) := by decide +kernel
theorem d_M_alike_124 : decode b_M_alike 124 = .ok (.if_icmp .eq 132, 3) := by decide +kernel
theorem d_M_alike_127 : decode b_M_alike 127 = .ok (.iload 6, 2) := by decide +kernel
theorem d_M_alike_129 : decode b_M_alike 129 = .ok (.aload_n 0, 1) := by decide +kernel
theorem d_M_alike_130 : decode b_M_alike 130 = .ok (.getfield 13, 3) := by decide +kernel
theorem d_M_alike_133 : decode b_M_alike 133 = .ok (.iload 4, 2) := by decide +kernel
theorem d_M_alike_135 : decode b_M_alike 135 = .ok (.iaload, 1) := by decide +kernel
theorem d_M_alike_136 : decode b_M_alike 136 = .ok (.if_icmp .ge 120, 3) := by decide +kernel
theorem d_M_alike_139 : decode b_M_alike 139 = .ok (.aload_n 0, 1) := by decide +kernel
theorem d_M_alike_140 : decode b_M_alike 140 = .ok (.getfield 16, 3) := by decide +kernel
theorem d_M_alike_143 : decode b_M_alike 143 = .ok (.iconst 4, 1) := by decide +kernel
theorem d_M_alike_144 : decode b_M_alike 144 = .ok (.iload 4, 2) := by decide +kernel
theorem d_M_alike_146 : decode b_M_alike 146 = .ok (.imul, 1) := by decide +kernel
theorem d_M_alike_147 : decode b_M_alike 147 = .ok (.iload 6, 2) := by decide +kernel
theorem d_M_alike_149 : decode b_M_alike 149 = .ok (.iadd, 1) := by decide +kernel
theorem d_M_alike_150 : decode b_M_alike 150 = .ok (.iaload, 1) := by decide +kernel
theorem d_M_alike_151 : decode b_M_alike 151 = .ok (.iconst 2, 1) := by decide +kernel
theorem d_M_alike_152 : decode b_M_alike 152 = .ok (.if_icmp .eq 6, 3) := by decide +kernel
theorem d_M_alike_155 : decode b_M_alike 155 = .ok (.goto 95, 3) := by decide +kernel
theorem d_M_alike_158 : decode b_M_alike 158 = .ok (.aload_n 0, 1) := by decide +kernel
theorem d_M_alike_159 : decode b_M_alike 159 = .ok (.getfield 19, 3) := by decide +kernel
theorem d_M_alike_162 : decode b_M_alike 162 = .ok (.iconst 4, 1) := by decide +kernel
theorem d_M_alike_163 : decode b_M_alike 163 = .ok (.iload 4, 2) := by decide +kernel
theorem d_M_alike_165 : decode b_M_alike 165 = .ok (.imul, 1) := by decide +kernel
theorem d_M_alike_166 : decode b_M_alike 166 = .ok (.iload 6, 2) := by decide +kernel
theorem d_M_alike_168 : decode b_M_alike 168 = .ok (.iadd, 1) := by decide +kernel
theorem d_M_alike_169 : decode b_M_alike 169 = .ok (.iaload, 1) := by decide +kernel
theorem d_M_alike_170 : decode b_M_alike 170 = .ok (.istore 7, 2) := by decide +kernel
theorem d_M_alike_172 : decode b_M_alike 172 = .ok (.aload_n 0, 1) := by decide +kernel
theorem d_M_alike_173 : decode b_M_alike 173 = .ok (.getfield 19, 3) := by decide +kernel
theorem d_M_alike_176 : decode b_M_alike 176 = .ok (.iconst 4, 1) := by decide +kernel
theorem d_M_alike_177 : decode b_M_alike 177 = .ok (.iload 5, 2) := by decide +kernel
theorem d_M_alike_179 : decode b_M_alike 179 = .ok (.imul, 1) := by decide +kernel
theorem d_M_alike_180 : decode b_M_alike 180 = .ok (.iload 6, 2) := by decide +kernel
theorem d_M_alike_182 : decode b_M_alike 182 = .ok (.iadd, 1) := by decide +kernel
theorem d_M_alike_183 : decode b_M_alike 183 = .ok (.iaload, 1) := by decide +kernel
theorem d_M_alike_184 : decode b_M_alike 184 = .ok (.istore 8, 2) := by decide +kernel
theorem d_M_alike_186 : decode b_M_alike 186 = .ok (.aload_n 0, 1) := by decide +kernel
theorem d_M_alike_187 : decode b_M_alike 187 = .ok (.getfield 81, 3) := by decide +kernel
theorem d_M_alike_190 : decode b_M_alike 190 = .ok (.iload 7, 2) := by decide +kernel
theorem d_M_alike_192 : decode b_M_alike 192 = .ok (.iaload, 1) := by decide +kernel
theorem d_M_alike_193 : decode b_M_alike 193 = .ok (.ifCond .ge 31, 3) := by decide +kernel
theorem d_M_alike_196 : decode b_M_alike 196 = .ok (.aload_n 0, 1) := by decide +kernel
theorem d_M_alike_197 : decode b_M_alike 197 = .ok (.getfield 84, 3) := by decide +kernel
theorem d_M_alike_200 : decode b_M_alike 200 = .ok (.iload 8, 2) := by decide +kernel
theorem d_M_alike_202 : decode b_M_alike 202 = .ok (.iaload, 1) := by decide +kernel
theorem d_M_alike_203 : decode b_M_alike 203 = .ok (.ifCond .ge 21, 3) := by decide +kernel
theorem d_M_alike_206 : decode b_M_alike 206 = .ok (.aload_n 0, 1) := by decide +kernel
theorem d_M_alike_207 : decode b_M_alike 207 = .ok (.getfield 81, 3) := by decide +kernel
theorem d_M_alike_210 : decode b_M_alike 210 = .ok (.iload 7, 2) := by decide +kernel
theorem d_M_alike_212 : decode b_M_alike 212 = .ok (.iload 8, 2) := by decide +kernel
theorem d_M_alike_214 : decode b_M_alike 214 = .ok (.iastore, 1) := by decide +kernel
theorem d_M_alike_215 : decode b_M_alike 215 = .ok (.aload_n 0, 1) := by decide +kernel
theorem d_M_alike_216 : decode b_M_alike 216 = .ok (.getfield 84, 3) := by decide +kernel
theorem d_M_alike_219 : decode b_M_alike 219 = .ok (.iload 8, 2) := by decide +kernel
theorem d_M_alike_221 : decode b_M_alike 221 = .ok (.iload 7, 2) := by decide +kernel
theorem d_M_alike_223 : decode b_M_alike 223 = .ok (.iastore, 1) := by decide +kernel
theorem d_M_alike_224 : decode b_M_alike 224 = .ok (.aload_n 0, 1) := by decide +kernel
theorem d_M_alike_225 : decode b_M_alike 225 = .ok (.getfield 81, 3) := by decide +kernel
theorem d_M_alike_228 : decode b_M_alike 228 = .ok (.iload 7, 2) := by decide +kernel
theorem d_M_alike_230 : decode b_M_alike 230 = .ok (.iaload, 1) := by decide +kernel
theorem d_M_alike_231 : decode b_M_alike 231 = .ok (.iload 8, 2) := by decide +kernel
theorem d_M_alike_233 : decode b_M_alike 233 = .ok (.if_icmp .ne 15, 3) := by decide +kernel
theorem d_M_alike_236 : decode b_M_alike 236 = .ok (.aload_n 0, 1) := by decide +kernel
theorem d_M_alike_237 : decode b_M_alike 237 = .ok (.getfield 84, 3) := by decide +kernel
theorem d_M_alike_240 : decode b_M_alike 240 = .ok (.iload 8, 2) := by decide +kernel
theorem d_M_alike_242 : decode b_M_alike 242 = .ok (.iaload, 1) := by decide +kernel
theorem d_M_alike_243 : decode b_M_alike 243 = .ok (.iload 7, 2) := by decide +kernel
theorem d_M_alike_245 : decode b_M_alike 245 = .ok (.if_icmp .eq 5, 3) := by decide +kernel
theorem d_M_alike_248 : decode b_M_alike 248 = .ok (.iconst 0, 1) := by decide +kernel
theorem d_M_alike_249 : decode b_M_alike 249 = .ok (.ireturn, 1) := by decide +kernel
theorem d_M_alike_250 : decode b_M_alike 250 = .ok (.iinc 6 1, 3) := by decide +kernel
theorem d_M_alike_253 : decode b_M_alike 253 = .ok (.goto (-142), 3) := by decide +kernel
theorem d_M_alike_256 : decode b_M_alike 256 = .ok (.iinc 3 1, 3) := by decide +kernel
theorem d_M_alike_259 : decode b_M_alike 259 = .ok (.goto (-197), 3) := by decide +kernel
theorem d_M_alike_262 : decode b_M_alike 262 = .ok (.iconst 1, 1) := by decide +kernel
theorem d_M_alike_263 : decode b_M_alike 263 = .ok (.ireturn, 1) := by decide +kernel
theorem d_M_shared_0 : decode b_M_shared 0 = .ok (.aload_n 0, 1) := by decide +kernel
theorem d_M_shared_1 : decode b_M_shared 1 = .ok (.iload_n 1, 1) := by decide +kernel
theorem d_M_shared_2 : decode b_M_shared 2 = .ok (.invokevirtual 91, 3) := by decide +kernel
theorem d_M_shared_5 : decode b_M_shared 5 = .ok (.ifCond .ne 5, 3) := by decide +kernel
theorem d_M_shared_8 : decode b_M_shared 8 = .ok (.iconst (-1), 1) := by decide +kernel
theorem d_M_shared_9 : decode b_M_shared 9 = .ok (.ireturn, 1) := by decide +kernel
theorem d_M_shared_10 : decode b_M_shared 10 = .ok (.aload_n 0, 1) := by decide +kernel
theorem d_M_shared_11 : decode b_M_shared 11 = .ok (.iload_n 1, 1) := by decide +kernel
theorem d_M_shared_12 : decode b_M_shared 12 = .ok (.invokevirtual 106, 3) := by decide +kernel
theorem d_M_shared_15 : decode b_M_shared 15 = .ok (.iconst 0, 1) := by decide +kernel
theorem d_M_shared_16 : decode b_M_shared 16 = .ok (.istore_n 2, 1) := by decide +kernel
theorem d_M_shared_17 : decode b_M_shared 17 = .ok (.iconst 0, 1) := by decide +kernel
theorem d_M_shared_18 : decode b_M_shared 18 = .ok (.istore_n 3, 1) := by decide +kernel
theorem d_M_shared_19 : decode b_M_shared 19 = .ok (.iload_n 3, 1) := by decide +kernel
theorem d_M_shared_20 : decode b_M_shared 20 = .ok (.bipush 16, 2) := by decide +kernel
theorem d_M_shared_22 : decode b_M_shared 22 = .ok (.if_icmp .ge 22, 3) := by decide +kernel
theorem d_M_shared_25 : decode b_M_shared 25 = .ok (.aload_n 0, 1) := by decide +kernel
theorem d_M_shared_26 : decode b_M_shared 26 = .ok (.getfield 69, 3) := by decide +kernel
theorem d_M_shared_29 : decode b_M_shared 29 = .ok (.iload_n 3, 1) := by decide +kernel
theorem d_M_shared_30 : decode b_M_shared 30 = .ok (.iaload, 1) := by decide +kernel
theorem d_M_shared_31 : decode b_M_shared 31 = .ok (.iconst 2, 1) := by decide +kernel
theorem d_M_shared_32 : decode b_M_shared 32 = .ok (.if_icmp .lt 6, 3) := by decide +kernel
theorem d_M_shared_35 : decode b_M_shared 35 = .ok (.iinc 2 1, 3) := by decide +kernel
theorem d_M_shared_38 : decode b_M_shared 38 = .ok (.iinc 3 1, 3) := by decide +kernel
theorem d_M_shared_41 : decode b_M_shared 41 = .ok (.goto (-22), 3) := by decide +kernel
theorem d_M_shared_44 : decode b_M_shared 44 = .ok (.iload_n 2, 1) := by decide +kernel
theorem d_M_shared_45 : decode b_M_shared 45 = .ok (.ireturn, 1) := by decide +kernel
theorem d_M_encode_0 : decode b_M_encode 0 = .ok (.aload_n 0, 1) := by decide +kernel
theorem d_M_encode_1 : decode b_M_encode 1 = .ok (.iload_n 1, 1) := by decide +kernel
theorem d_M_encode_2 : decode b_M_encode 2 = .ok (.invokevirtual 91, 3) := by decide +kernel
theorem d_M_encode_5 : decode b_M_encode 5 = .ok (.ifCond .ne 5, 3) := by decide +kernel
theorem d_M_encode_8 : decode b_M_encode 8 = .ok (.iconst (-1), 1) := by decide +kernel
theorem d_M_encode_9 : decode b_M_encode 9 = .ok (.ireturn, 1) := by decide +kernel
theorem d_M_encode_10 : decode b_M_encode 10 = .ok (.aload_n 0, 1) := by decide +kernel
theorem d_M_encode_11 : decode b_M_encode 11 = .ok (.iload_n 1, 1) := by decide +kernel
theorem d_M_encode_12 : decode b_M_encode 12 = .ok (.invokevirtual 106, 3) := by decide +kernel
theorem d_M_encode_15 : decode b_M_encode 15 = .ok (.aload_n 0, 1) := by decide +kernel
theorem d_M_encode_16 : decode b_M_encode 16 = .ok (.iconst 0, 1) := by decide +kernel
theorem d_M_encode_17 : decode b_M_encode 17 = .ok (.putfield 128, 3) := by decide +kernel
theorem d_M_encode_20 : decode b_M_encode 20 = .ok (.aload_n 0, 1) := by decide +kernel
theorem d_M_encode_21 : decode b_M_encode 21 = .ok (.iconst 0, 1) := by decide +kernel
theorem d_M_encode_22 : decode b_M_encode 22 = .ok (.putfield 138, 3) := by decide +kernel
theorem d_M_encode_25 : decode b_M_encode 25 = .ok (.aload_n 0, 1) := by decide +kernel
theorem d_M_encode_26 : decode b_M_encode 26 = .ok (.iconst 0, 1) := by decide +kernel
theorem d_M_encode_27 : decode b_M_encode 27 = .ok (.putfield 110, 3) := by decide +kernel
theorem d_M_encode_30 : decode b_M_encode 30 = .ok (.aload_n 0, 1) := by decide +kernel
theorem d_M_encode_31 : decode b_M_encode 31 = .ok (.bipush 60, 2) := by decide +kernel
theorem d_M_encode_33 : decode b_M_encode 33 = .ok (.bipush 101, 2) := by decide +kernel
theorem d_M_encode_35 : decode b_M_encode 35 = .ok (.bipush 32, 2) := by decide +kernel
theorem d_M_encode_37 : decode b_M_encode 37 = .ok (.bipush 118, 2) := by decide +kernel
theorem d_M_encode_39 : decode b_M_encode 39 = .ok (.invokevirtual 113, 3) := by decide +kernel
theorem d_M_encode_42 : decode b_M_encode 42 = .ok (.aload_n 0, 1) := by decide +kernel
theorem d_M_encode_43 : decode b_M_encode 43 = .ok (.bipush 61, 2) := by decide +kernel
theorem d_M_encode_45 : decode b_M_encode 45 = .ok (.bipush 34, 2) := by decide +kernel
theorem d_M_encode_47 : decode b_M_encode 47 = .ok (.bipush 49, 2) := by decide +kernel
theorem d_M_encode_49 : decode b_M_encode 49 = .ok (.bipush 34, 2) := by decide +kernel
theorem d_M_encode_51 : decode b_M_encode 51 = .ok (.invokevirtual 113, 3) := by decide +kernel
theorem d_M_encode_54 : decode b_M_encode 54 = .ok (.aload_n 0, 1) := by decide +kernel
theorem d_M_encode_55 : decode b_M_encode 55 = .ok (.bipush 62, 2) := by decide +kernel
theorem d_M_encode_57 : decode b_M_encode 57 = .ok (.bipush 60, 2) := by decide +kernel
theorem d_M_encode_59 : decode b_M_encode 59 = .ok (.bipush 98, 2) := by decide +kernel
theorem d_M_encode_61 : decode b_M_encode 61 = .ok (.bipush 62, 2) := by decide +kernel
theorem d_M_encode_63 : decode b_M_encode 63 = .ok (.invokevirtual 113, 3) := by decide +kernel
theorem d_M_encode_66 : decode b_M_encode 66 = .ok (.aload_n 0, 1) := by decide +kernel
theorem d_M_encode_67 : decode b_M_encode 67 = .ok (.iload_n 1, 1) := by decide +kernel
theorem d_M_encode_68 : decode b_M_encode 68 = .ok (.invokevirtual 141, 3) := by decide +kernel
theorem d_M_encode_71 : decode b_M_encode 71 = .ok (.aload_n 0, 1) := by decide +kernel
theorem d_M_encode_72 : decode b_M_encode 72 = .ok (.invokevirtual 144, 3) := by decide +kernel
theorem d_M_encode_75 : decode b_M_encode 75 = .ok (.iconst 1, 1) := by decide +kernel
theorem d_M_encode_76 : decode b_M_encode 76 = .ok (.istore_n 2, 1) := by decide +kernel
theorem d_M_encode_77 : decode b_M_encode 77 = .ok (.iload_n 2, 1) := by decide +kernel
theorem d_M_encode_78 : decode b_M_encode 78 = .ok (.aload_n 0, 1) := by decide +kernel
theorem d_M_encode_79 : decode b_M_encode 79 = .ok (.getfield 128, 3) := by decide +kernel
theorem d_M_encode_82 : decode b_M_encode 82 = .ok (.if_icmp .gt 23, 3) := by decide +kernel
theorem d_M_encode_85 : decode b_M_encode 85 = .ok (.aload_n 0, 1) := by decide +kernel
theorem d_M_encode_86 : decode b_M_encode 86 = .ok (.aload_n 0, 1) := by decide +kernel
theorem d_M_encode_87 : decode b_M_encode 87 = .ok (.getfield 75, 3) := by decide +kernel
theorem d_M_encode_90 : decode b_M_encode 90 = .ok (.iload_n 2, 1) := by decide +kernel
theorem d_M_encode_91 : decode b_M_encode 91 = .ok (.iaload, 1) := by decide +kernel
theorem d_M_encode_92 : decode b_M_encode 92 = .ok (.invokevirtual 125, 3) := by decide +kernel
theorem d_M_encode_95 : decode b_M_encode 95 = .ok (.aload_n 0, 1) := by decide +kernel
theorem d_M_encode_96 : decode b_M_encode 96 = .ok (.invokevirtual 144, 3) := by decide +kernel
theorem d_M_encode_99 : decode b_M_encode 99 = .ok (.iinc 2 1, 3) := by decide +kernel
theorem d_M_encode_102 : decode b_M_encode 102 = .ok (.goto (-25), 3) := by decide +kernel
theorem d_M_encode_105 : decode b_M_encode 105 = .ok (.aload_n 0, 1) := by decide +kernel
theorem d_M_encode_106 : decode b_M_encode 106 = .ok (.bipush 60, 2) := by decide +kernel
theorem d_M_encode_108 : decode b_M_encode 108 = .ok (.bipush 47, 2) := by decide +kernel
theorem d_M_encode_110 : decode b_M_encode 110 = .ok (.bipush 98, 2) := by decide +kernel
theorem d_M_encode_112 : decode b_M_encode 112 = .ok (.bipush 62, 2) := by decide +kernel
theorem d_M_encode_114 : decode b_M_encode 114 = .ok (.invokevirtual 113, 3) := by decide +kernel
theorem d_M_encode_117 : decode b_M_encode 117 = .ok (.aload_n 0, 1) := by decide +kernel
theorem d_M_encode_118 : decode b_M_encode 118 = .ok (.bipush 60, 2) := by decide +kernel
theorem d_M_encode_120 : decode b_M_encode 120 = .ok (.bipush 47, 2) := by decide +kernel
theorem d_M_encode_122 : decode b_M_encode 122 = .ok (.bipush 101, 2) := by decide +kernel
theorem d_M_encode_124 : decode b_M_encode 124 = .ok (.bipush 62, 2) := by decide +kernel
theorem d_M_encode_126 : decode b_M_encode 126 = .ok (.invokevirtual 113, 3) := by decide +kernel
theorem d_M_encode_129 : decode b_M_encode 129 = .ok (.aload_n 0, 1) := by decide +kernel
theorem d_M_encode_130 : decode b_M_encode 130 = .ok (.getfield 110, 3) := by decide +kernel
theorem d_M_encode_133 : decode b_M_encode 133 = .ok (.ireturn, 1) := by decide +kernel
theorem d_M_length_0 : decode b_M_length 0 = .ok (.aload_n 0, 1) := by decide +kernel
theorem d_M_length_1 : decode b_M_length 1 = .ok (.getfield 110, 3) := by decide +kernel
theorem d_M_length_4 : decode b_M_length 4 = .ok (.ireturn, 1) := by decide +kernel
theorem d_M_charAt_0 : decode b_M_charAt 0 = .ok (.iload_n 1, 1) := by decide +kernel
theorem d_M_charAt_1 : decode b_M_charAt 1 = .ok (.ifCond .lt 20, 3) := by decide +kernel
theorem d_M_charAt_4 : decode b_M_charAt 4 = .ok (.iload_n 1, 1) := by decide +kernel
theorem d_M_charAt_5 : decode b_M_charAt 5 = .ok (.aload_n 0, 1) := by decide +kernel
theorem d_M_charAt_6 : decode b_M_charAt 6 = .ok (.getfield 110, 3) := by decide +kernel
theorem d_M_charAt_9 : decode b_M_charAt 9 = .ok (.if_icmp .ge 12, 3) := by decide +kernel
theorem d_M_charAt_12 : decode b_M_charAt 12 = .ok (.aload_n 0, 1) := by decide +kernel
theorem d_M_charAt_13 : decode b_M_charAt 13 = .ok (.getfield 29, 3) := by decide +kernel
theorem d_M_charAt_16 : decode b_M_charAt 16 = .ok (.iload_n 1, 1) := by decide +kernel
theorem d_M_charAt_17 : decode b_M_charAt 17 = .ok (.caload, 1) := by decide +kernel
theorem d_M_charAt_18 : decode b_M_charAt 18 = .ok (.goto 4, 3) := by decide +kernel
theorem d_M_charAt_21 : decode b_M_charAt 21 = .ok (.iconst (-1), 1) := by decide +kernel
theorem d_M_charAt_22 : decode b_M_charAt 22 = .ok (.ireturn, 1) := by decide +kernel
theorem d_M_feed_0 : decode b_M_feed 0 = .ok (.iload_n 1, 1) := by decide +kernel
theorem d_M_feed_1 : decode b_M_feed 1 = .ok (.bipush 32, 2) := by decide +kernel
theorem d_M_feed_3 : decode b_M_feed 3 = .ok (.if_icmp .lt 19, 3) := by decide +kernel
theorem d_M_feed_6 : decode b_M_feed 6 = .ok (.iload_n 1, 1) := by decide +kernel
theorem d_M_feed_7 : decode b_M_feed 7 = .ok (.bipush 126, 2) := by decide +kernel
theorem d_M_feed_9 : decode b_M_feed 9 = .ok (.if_icmp .gt 13, 3) := by decide +kernel
theorem d_M_feed_12 : decode b_M_feed 12 = .ok (.aload_n 0, 1) := by decide +kernel
theorem d_M_feed_13 : decode b_M_feed 13 = .ok (.getfield 110, 3) := by decide +kernel
theorem d_M_feed_16 : decode b_M_feed 16 = .ok (.sipush 1600, 3) := by decide +kernel
theorem d_M_feed_19 : decode b_M_feed 19 = .ok (.if_icmp .ne 5, 3) := by decide +kernel
theorem d_M_feed_22 : decode b_M_feed 22 = .ok (.iconst 0, 1) := by decide +kernel
theorem d_M_feed_23 : decode b_M_feed 23 = .ok (.ireturn, 1) := by decide +kernel
theorem d_M_feed_24 : decode b_M_feed 24 = .ok (.aload_n 0, 1) := by decide +kernel
theorem d_M_feed_25 : decode b_M_feed 25 = .ok (.getfield 29, 3) := by decide +kernel
theorem d_M_feed_28 : decode b_M_feed 28 = .ok (.aload_n 0, 1) := by decide +kernel
theorem d_M_feed_29 : decode b_M_feed 29 = .ok (.getfield 110, 3) := by decide +kernel
theorem d_M_feed_32 : decode b_M_feed 32 = .ok (.iload_n 1, 1) := by decide +kernel
theorem d_M_feed_33 : decode b_M_feed 33 = .ok (.castore, 1) := by decide +kernel
theorem d_M_feed_34 : decode b_M_feed 34 = .ok (.aload_n 0, 1) := by decide +kernel
theorem d_M_feed_35 : decode b_M_feed 35 = .ok (.dup, 1) := by decide +kernel
theorem d_M_feed_36 : decode b_M_feed 36 = .ok (.getfield 110, 3) := by decide +kernel
theorem d_M_feed_39 : decode b_M_feed 39 = .ok (.iconst 1, 1) := by decide +kernel
theorem d_M_feed_40 : decode b_M_feed 40 = .ok (.iadd, 1) := by decide +kernel
theorem d_M_feed_41 : decode b_M_feed 41 = .ok (.putfield 110, 3) := by decide +kernel
theorem d_M_feed_44 : decode b_M_feed 44 = .ok (.iconst 1, 1) := by decide +kernel
theorem d_M_feed_45 : decode b_M_feed 45 = .ok (.ireturn, 1) := by decide +kernel
theorem d_M_alter_0 : decode b_M_alter 0 = .ok (.iload_n 1, 1) := by decide +kernel
theorem d_M_alter_1 : decode b_M_alter 1 = .ok (.ifCond .lt 23, 3) := by decide +kernel
theorem d_M_alter_4 : decode b_M_alter 4 = .ok (.iload_n 1, 1) := by decide +kernel
theorem d_M_alter_5 : decode b_M_alter 5 = .ok (.aload_n 0, 1) := by decide +kernel
theorem d_M_alter_6 : decode b_M_alter 6 = .ok (.getfield 110, 3) := by decide +kernel
theorem d_M_alter_9 : decode b_M_alter 9 = .ok (.if_icmp .ge 15, 3) := by decide +kernel
theorem d_M_alter_12 : decode b_M_alter 12 = .ok (.iload_n 2, 1) := by decide +kernel
theorem d_M_alter_13 : decode b_M_alter 13 = .ok (.bipush 32, 2) := by decide +kernel
theorem d_M_alter_15 : decode b_M_alter 15 = .ok (.if_icmp .lt 9, 3) := by decide +kernel
theorem d_M_alter_18 : decode b_M_alter 18 = .ok (.iload_n 2, 1) := by decide +kernel
theorem d_M_alter_19 : decode b_M_alter 19 = .ok (.bipush 126, 2) := by decide +kernel
theorem d_M_alter_21 : decode b_M_alter 21 = .ok (.if_icmp .le 5, 3) := by decide +kernel
theorem d_M_alter_24 : decode b_M_alter 24 = .ok (.iconst 0, 1) := by decide +kernel
theorem d_M_alter_25 : decode b_M_alter 25 = .ok (.ireturn, 1) := by decide +kernel
theorem d_M_alter_26 : decode b_M_alter 26 = .ok (.aload_n 0, 1) := by decide +kernel
theorem d_M_alter_27 : decode b_M_alter 27 = .ok (.getfield 29, 3) := by decide +kernel
theorem d_M_alter_30 : decode b_M_alter 30 = .ok (.iload_n 1, 1) := by decide +kernel
theorem d_M_alter_31 : decode b_M_alter 31 = .ok (.iload_n 2, 1) := by decide +kernel
theorem d_M_alter_32 : decode b_M_alter 32 = .ok (.castore, 1) := by decide +kernel
theorem d_M_alter_33 : decode b_M_alter 33 = .ok (.iconst 1, 1) := by decide +kernel
theorem d_M_alter_34 : decode b_M_alter 34 = .ok (.ireturn, 1) := by decide +kernel
theorem d_M_cut_0 : decode b_M_cut 0 = .ok (.iload_n 1, 1) := by decide +kernel
theorem d_M_cut_1 : decode b_M_cut 1 = .ok (.ifCond .lt 11, 3) := by decide +kernel
theorem d_M_cut_4 : decode b_M_cut 4 = .ok (.iload_n 1, 1) := by decide +kernel
theorem d_M_cut_5 : decode b_M_cut 5 = .ok (.aload_n 0, 1) := by decide +kernel
theorem d_M_cut_6 : decode b_M_cut 6 = .ok (.getfield 110, 3) := by decide +kernel
theorem d_M_cut_9 : decode b_M_cut 9 = .ok (.if_icmp .le 5, 3) := by decide +kernel
theorem d_M_cut_12 : decode b_M_cut 12 = .ok (.iconst 0, 1) := by decide +kernel
theorem d_M_cut_13 : decode b_M_cut 13 = .ok (.ireturn, 1) := by decide +kernel
theorem d_M_cut_14 : decode b_M_cut 14 = .ok (.aload_n 0, 1) := by decide +kernel
theorem d_M_cut_15 : decode b_M_cut 15 = .ok (.iload_n 1, 1) := by decide +kernel
theorem d_M_cut_16 : decode b_M_cut 16 = .ok (.putfield 110, 3) := by decide +kernel
theorem d_M_cut_19 : decode b_M_cut 19 = .ok (.iconst 1, 1) := by decide +kernel
theorem d_M_cut_20 : decode b_M_cut 20 = .ok (.ireturn, 1) := by decide +kernel
theorem d_M_understand_0 : decode b_M_understand 0 = .ok (.iload_n 1, 1) := by decide +kernel
theorem d_M_understand_1 : decode b_M_understand 1 = .ok (.ifCond .lt 19, 3) := by decide +kernel
theorem d_M_understand_4 : decode b_M_understand 4 = .ok (.iload_n 1, 1) := by decide +kernel
theorem d_M_understand_5 : decode b_M_understand 5 = .ok (.bipush 31, 2) := by decide +kernel
theorem d_M_understand_7 : decode b_M_understand 7 = .ok (.if_icmp .gt 13, 3) := by decide +kernel
theorem d_M_understand_10 : decode b_M_understand 10 = .ok (.aload_n 0, 1) := by decide +kernel
theorem d_M_understand_11 : decode b_M_understand 11 = .ok (.getfield 25, 3) := by decide +kernel
theorem d_M_understand_14 : decode b_M_understand 14 = .ok (.iload_n 1, 1) := by decide +kernel
theorem d_M_understand_15 : decode b_M_understand 15 = .ok (.baload, 1) := by decide +kernel
theorem d_M_understand_16 : decode b_M_understand 16 = .ok (.iload_n 2, 1) := by decide +kernel
theorem d_M_understand_17 : decode b_M_understand 17 = .ok (.if_icmp .ne 5, 3) := by decide +kernel
theorem d_M_understand_20 : decode b_M_understand 20 = .ok (.iconst 0, 1) := by decide +kernel
theorem d_M_understand_21 : decode b_M_understand 21 = .ok (.ireturn, 1) := by decide +kernel
theorem d_M_understand_22 : decode b_M_understand 22 = .ok (.aload_n 0, 1) := by decide +kernel
theorem d_M_understand_23 : decode b_M_understand 23 = .ok (.getfield 25, 3) := by decide +kernel
theorem d_M_understand_26 : decode b_M_understand 26 = .ok (.iload_n 1, 1) := by decide +kernel
theorem d_M_understand_27 : decode b_M_understand 27 = .ok (.iload_n 2, 1) := by decide +kernel
theorem d_M_understand_28 : decode b_M_understand 28 = .ok (.bastore, 1) := by decide +kernel
theorem d_M_understand_29 : decode b_M_understand 29 = .ok (.iconst 1, 1) := by decide +kernel
theorem d_M_understand_30 : decode b_M_understand 30 = .ok (.ireturn, 1) := by decide +kernel
theorem d_M_wellFormed_0 : decode b_M_wellFormed 0 = .ok (.aload_n 0, 1) := by decide +kernel
theorem d_M_wellFormed_1 : decode b_M_wellFormed 1 = .ok (.iconst 0, 1) := by decide +kernel
theorem d_M_wellFormed_2 : decode b_M_wellFormed 2 = .ok (.putfield 154, 3) := by decide +kernel
theorem d_M_wellFormed_5 : decode b_M_wellFormed 5 = .ok (.aload_n 0, 1) := by decide +kernel
theorem d_M_wellFormed_6 : decode b_M_wellFormed 6 = .ok (.iconst (-1), 1) := by decide +kernel
theorem d_M_wellFormed_7 : decode b_M_wellFormed 7 = .ok (.putfield 157, 3) := by decide +kernel
theorem d_M_wellFormed_10 : decode b_M_wellFormed 10 = .ok (.aload_n 0, 1) := by decide +kernel
theorem d_M_wellFormed_11 : decode b_M_wellFormed 11 = .ok (.iconst 0, 1) := by decide +kernel
theorem d_M_wellFormed_12 : decode b_M_wellFormed 12 = .ok (.putfield 160, 3) := by decide +kernel
theorem d_M_wellFormed_15 : decode b_M_wellFormed 15 = .ok (.aload_n 0, 1) := by decide +kernel
theorem d_M_wellFormed_16 : decode b_M_wellFormed 16 = .ok (.iconst 0, 1) := by decide +kernel
theorem d_M_wellFormed_17 : decode b_M_wellFormed 17 = .ok (.putfield 163, 3) := by decide +kernel
theorem d_M_wellFormed_20 : decode b_M_wellFormed 20 = .ok (.aload_n 0, 1) := by decide +kernel
theorem d_M_wellFormed_21 : decode b_M_wellFormed 21 = .ok (.iconst 0, 1) := by decide +kernel
theorem d_M_wellFormed_22 : decode b_M_wellFormed 22 = .ok (.putfield 166, 3) := by decide +kernel
theorem d_M_wellFormed_25 : decode b_M_wellFormed 25 = .ok (.aload_n 0, 1) := by decide +kernel
theorem d_M_wellFormed_26 : decode b_M_wellFormed 26 = .ok (.getfield 154, 3) := by decide +kernel
theorem d_M_wellFormed_29 : decode b_M_wellFormed 29 = .ok (.aload_n 0, 1) := by decide +kernel
theorem d_M_wellFormed_30 : decode b_M_wellFormed 30 = .ok (.getfield 110, 3) := by decide +kernel
theorem d_M_wellFormed_33 : decode b_M_wellFormed 33 = .ok (.if_icmp .ge 105, 3) := by decide +kernel
theorem d_M_wellFormed_36 : decode b_M_wellFormed 36 = .ok (.aload_n 0, 1) := by decide +kernel
theorem d_M_wellFormed_37 : decode b_M_wellFormed 37 = .ok (.getfield 163, 3) := by decide +kernel
theorem d_M_wellFormed_40 : decode b_M_wellFormed 40 = .ok (.ifCond .le 12, 3) := by decide +kernel
theorem d_M_wellFormed_43 : decode b_M_wellFormed 43 = .ok (.aload_n 0, 1) := by decide +kernel
theorem d_M_wellFormed_44 : decode b_M_wellFormed 44 = .ok (.getfield 157, 3) := by decide +kernel
theorem d_M_wellFormed_47 : decode b_M_wellFormed 47 = .ok (.ifCond .ge 5, 3) := by decide +kernel
theorem d_M_wellFormed_50 : decode b_M_wellFormed 50 = .ok (.iconst 0, 1) := by decide +kernel
theorem d_M_wellFormed_51 : decode b_M_wellFormed 51 = .ok (.ireturn, 1) := by decide +kernel
theorem d_M_wellFormed_52 : decode b_M_wellFormed 52 = .ok (.aload_n 0, 1) := by decide +kernel
theorem d_M_wellFormed_53 : decode b_M_wellFormed 53 = .ok (.getfield 29, 3) := by decide +kernel
theorem d_M_wellFormed_56 : decode b_M_wellFormed 56 = .ok (.aload_n 0, 1) := by decide +kernel
theorem d_M_wellFormed_57 : decode b_M_wellFormed 57 = .ok (.getfield 154, 3) := by decide +kernel
theorem d_M_wellFormed_60 : decode b_M_wellFormed 60 = .ok (.caload, 1) := by decide +kernel
theorem d_M_wellFormed_61 : decode b_M_wellFormed 61 = .ok (.bipush 60, 2) := by decide +kernel
theorem d_M_wellFormed_63 : decode b_M_wellFormed 63 = .ok (.if_icmp .ne 7, 3) := by decide +kernel
theorem d_M_wellFormed_66 : decode b_M_wellFormed 66 = .ok (.iconst 1, 1) := by decide +kernel
theorem d_M_wellFormed_67 : decode b_M_wellFormed 67 = .ok (.goto 4, 3) := by decide +kernel
theorem d_M_wellFormed_70 : decode b_M_wellFormed 70 = .ok (.iconst 0, 1) := by decide +kernel
theorem d_M_wellFormed_71 : decode b_M_wellFormed 71 = .ok (.istore_n 1, 1) := by decide +kernel
theorem d_M_wellFormed_72 : decode b_M_wellFormed 72 = .ok (.iload_n 1, 1) := by decide +kernel
theorem d_M_wellFormed_73 : decode b_M_wellFormed 73 = .ok (.ifCond .eq 25, 3) := by decide +kernel
theorem d_M_wellFormed_76 : decode b_M_wellFormed 76 = .ok (.aload_n 0, 1) := by decide +kernel
theorem d_M_wellFormed_77 : decode b_M_wellFormed 77 = .ok (.aload_n 0, 1) := by decide +kernel
theorem d_M_wellFormed_78 : decode b_M_wellFormed 78 = .ok (.getfield 154, 3) := by decide +kernel
theorem d_M_wellFormed_81 : decode b_M_wellFormed 81 = .ok (.iconst 1, 1) := by decide +kernel
theorem d_M_wellFormed_82 : decode b_M_wellFormed 82 = .ok (.iadd, 1) := by decide +kernel
theorem d_M_wellFormed_83 : decode b_M_wellFormed 83 = .ok (.invokevirtual 147, 3) := by decide +kernel
theorem d_M_wellFormed_86 : decode b_M_wellFormed 86 = .ok (.bipush 47, 2) := by decide +kernel
theorem d_M_wellFormed_88 : decode b_M_wellFormed 88 = .ok (.if_icmp .ne 10, 3) := by decide +kernel
theorem d_M_wellFormed_91 : decode b_M_wellFormed 91 = .ok (.aload_n 0, 1) := by decide +kernel
theorem d_M_wellFormed_92 : decode b_M_wellFormed 92 = .ok (.invokevirtual 169, 3) := by decide +kernel
theorem d_M_wellFormed_95 : decode b_M_wellFormed 95 = .ok (.goto 33, 3) := by decide +kernel
theorem d_M_wellFormed_98 : decode b_M_wellFormed 98 = .ok (.iload_n 1, 1) := by decide +kernel
theorem d_M_wellFormed_99 : decode b_M_wellFormed 99 = .ok (.ifCond .eq 10, 3) := by decide +kernel
theorem d_M_wellFormed_102 : decode b_M_wellFormed 102 = .ok (.aload_n 0, 1) := by decide +kernel
theorem d_M_wellFormed_103 : decode b_M_wellFormed 103 = .ok (.invokevirtual 173, 3) := by decide +kernel
theorem d_M_wellFormed_106 : decode b_M_wellFormed 106 = .ok (.goto 22, 3) := by decide +kernel
theorem d_M_wellFormed_109 : decode b_M_wellFormed 109 = .ok (.aload_n 0, 1) := by decide +kernel
theorem d_M_wellFormed_110 : decode b_M_wellFormed 110 = .ok (.getfield 157, 3) := by decide +kernel
theorem d_M_wellFormed_113 : decode b_M_wellFormed 113 = .ok (.ifCond .lt 14, 3) := by decide +kernel
theorem d_M_wellFormed_116 : decode b_M_wellFormed 116 = .ok (.aload_n 0, 1) := by decide +kernel
theorem d_M_wellFormed_117 : decode b_M_wellFormed 117 = .ok (.invokevirtual 176, 3) := by decide +kernel
theorem d_M_wellFormed_120 : decode b_M_wellFormed 120 = .ok (.ifCond .eq 7, 3) := by decide +kernel
theorem d_M_wellFormed_123 : decode b_M_wellFormed 123 = .ok (.iconst 1, 1) := by decide +kernel
theorem d_M_wellFormed_124 : decode b_M_wellFormed 124 = .ok (.goto 4, 3) := by decide +kernel
theorem d_M_wellFormed_127 : decode b_M_wellFormed 127 = .ok (.iconst 0, 1) := by decide +kernel
theorem d_M_wellFormed_128 : decode b_M_wellFormed 128 = .ok (.istore_n 2, 1) := by decide +kernel
theorem d_M_wellFormed_129 : decode b_M_wellFormed 129 = .ok (.iload_n 2, 1) := by decide +kernel
theorem d_M_wellFormed_130 : decode b_M_wellFormed 130 = .ok (.ifCond .ne 5, 3) := by decide +kernel
theorem d_M_wellFormed_133 : decode b_M_wellFormed 133 = .ok (.iconst 0, 1) := by decide +kernel
theorem d_M_wellFormed_134 : decode b_M_wellFormed 134 = .ok (.ireturn, 1) := by decide +kernel
theorem d_M_wellFormed_135 : decode b_M_wellFormed 135 = .ok (.goto (-110), 3) := by decide +kernel
theorem d_M_wellFormed_138 : decode b_M_wellFormed 138 = .ok (.aload_n 0, 1) := by decide +kernel
theorem d_M_wellFormed_139 : decode b_M_wellFormed 139 = .ok (.getfield 163, 3) := by decide +kernel
theorem d_M_wellFormed_142 : decode b_M_wellFormed 142 = .ok (.ifCond .le 14, 3) := by decide +kernel
theorem d_M_wellFormed_145 : decode b_M_wellFormed 145 = .ok (.aload_n 0, 1) := by decide +kernel
theorem d_M_wellFormed_146 : decode b_M_wellFormed 146 = .ok (.getfield 157, 3) := by decide +kernel
theorem d_M_wellFormed_149 : decode b_M_wellFormed 149 = .ok (.ifCond .ge 7, 3) := by decide +kernel
theorem d_M_wellFormed_152 : decode b_M_wellFormed 152 = .ok (.iconst 1, 1) := by decide +kernel
theorem d_M_wellFormed_153 : decode b_M_wellFormed 153 = .ok (.goto 4, 3) := by decide +kernel
theorem d_M_wellFormed_156 : decode b_M_wellFormed 156 = .ok (.iconst 0, 1) := by decide +kernel
theorem d_M_wellFormed_157 : decode b_M_wellFormed 157 = .ok (.ireturn, 1) := by decide +kernel
theorem d_M_decode_0 : decode b_M_decode 0 = .ok (.aload_n 0, 1) := by decide +kernel
theorem d_M_decode_1 : decode b_M_decode 1 = .ok (.invokevirtual 223, 3) := by decide +kernel
theorem d_M_decode_4 : decode b_M_decode 4 = .ok (.ifCond .ne 5, 3) := by decide +kernel
theorem d_M_decode_7 : decode b_M_decode 7 = .ok (.iconst (-1), 1) := by decide +kernel
theorem d_M_decode_8 : decode b_M_decode 8 = .ok (.ireturn, 1) := by decide +kernel
theorem d_M_decode_9 : decode b_M_decode 9 = .ok (.aload_n 0, 1) := by decide +kernel
theorem d_M_decode_10 : decode b_M_decode 10 = .ok (.getfield 33, 3) := by decide +kernel
theorem d_M_decode_13 : decode b_M_decode 13 = .ok (.iconst 0, 1) := by decide +kernel
theorem d_M_decode_14 : decode b_M_decode 14 = .ok (.iaload, 1) := by decide +kernel
theorem d_M_decode_15 : decode b_M_decode 15 = .ok (.iconst 5, 1) := by decide +kernel
theorem d_M_decode_16 : decode b_M_decode 16 = .ok (.if_icmp .ne 13, 3) := by decide +kernel
theorem d_M_decode_19 : decode b_M_decode 19 = .ok (.aload_n 0, 1) := by decide +kernel
theorem d_M_decode_20 : decode b_M_decode 20 = .ok (.iconst 0, 1) := by decide +kernel
theorem d_M_decode_21 : decode b_M_decode 21 = .ok (.bipush 22, 2) := by decide +kernel
theorem d_M_decode_23 : decode b_M_decode 23 = .ok (.invokevirtual 197, 3) := by decide +kernel
theorem d_M_decode_26 : decode b_M_decode 26 = .ok (.ifCond .ne 6, 3) := by decide +kernel
theorem d_M_decode_29 : decode b_M_decode 29 = .ok (.bipush (-2), 2) := by decide +kernel
theorem d_M_decode_31 : decode b_M_decode 31 = .ok (.ireturn, 1) := by decide +kernel
theorem d_M_decode_32 : decode b_M_decode 32 = .ok (.aload_n 0, 1) := by decide +kernel
theorem d_M_decode_33 : decode b_M_decode 33 = .ok (.invokevirtual 226, 3) := by decide +kernel
theorem d_M_decode_36 : decode b_M_decode 36 = .ok (.ifCond .eq 6, 3) := by decide +kernel
theorem d_M_decode_39 : decode b_M_decode 39 = .ok (.bipush (-3), 2) := by decide +kernel
theorem d_M_decode_41 : decode b_M_decode 41 = .ok (.ireturn, 1) := by decide +kernel
theorem d_M_decode_42 : decode b_M_decode 42 = .ok (.aload_n 0, 1) := by decide +kernel
theorem d_M_decode_43 : decode b_M_decode 43 = .ok (.invokevirtual 229, 3) := by decide +kernel
theorem d_M_decode_46 : decode b_M_decode 46 = .ok (.istore_n 1, 1) := by decide +kernel
theorem d_M_decode_47 : decode b_M_decode 47 = .ok (.iload_n 1, 1) := by decide +kernel
theorem d_M_decode_48 : decode b_M_decode 48 = .ok (.ifCond .lt 11, 3) := by decide +kernel
theorem d_M_decode_51 : decode b_M_decode 51 = .ok (.aload_n 0, 1) := by decide +kernel
theorem d_M_decode_52 : decode b_M_decode 52 = .ok (.iload_n 1, 1) := by decide +kernel
theorem d_M_decode_53 : decode b_M_decode 53 = .ok (.invokevirtual 233, 3) := by decide +kernel
theorem d_M_decode_56 : decode b_M_decode 56 = .ok (.ifCond .ne 6, 3) := by decide +kernel
theorem d_M_decode_59 : decode b_M_decode 59 = .ok (.bipush (-4), 2) := by decide +kernel
theorem d_M_decode_61 : decode b_M_decode 61 = .ok (.ireturn, 1) := by decide +kernel
theorem d_M_decode_62 : decode b_M_decode 62 = .ok (.iload_n 1, 1) := by decide +kernel
theorem d_M_decode_63 : decode b_M_decode 63 = .ok (.iconst 1, 1) := by decide +kernel
theorem d_M_decode_64 : decode b_M_decode 64 = .ok (.iadd, 1) := by decide +kernel
theorem d_M_decode_65 : decode b_M_decode 65 = .ok (.istore_n 2, 1) := by decide +kernel
theorem d_M_decode_66 : decode b_M_decode 66 = .ok (.iload_n 2, 1) := by decide +kernel
theorem d_M_decode_67 : decode b_M_decode 67 = .ok (.aload_n 0, 1) := by decide +kernel
theorem d_M_decode_68 : decode b_M_decode 68 = .ok (.getfield 163, 3) := by decide +kernel
theorem d_M_decode_71 : decode b_M_decode 71 = .ok (.if_icmp .ge 132, 3) := by decide +kernel
theorem d_M_decode_74 : decode b_M_decode 74 = .ok (.aload_n 0, 1) := by decide +kernel
theorem d_M_decode_75 : decode b_M_decode 75 = .ok (.iload_n 2, 1) := by decide +kernel
theorem d_M_decode_76 : decode b_M_decode 76 = .ok (.invokevirtual 203, 3) := by decide +kernel
theorem d_M_decode_79 : decode b_M_decode 79 = .ok (.ifCond .ne 6, 3) := by decide +kernel
theorem d_M_decode_82 : decode b_M_decode 82 = .ok (.goto 115, 3) := by decide +kernel
theorem d_M_decode_85 : decode b_M_decode 85 = .ok (.aload_n 0, 1) := by decide +kernel
theorem d_M_decode_86 : decode b_M_decode 86 = .ok (.getfield 54, 3) := by decide +kernel
theorem d_M_decode_89 : decode b_M_decode 89 = .ok (.iload_n 2, 1) := by decide +kernel
theorem d_M_decode_90 : decode b_M_decode 90 = .ok (.aload_n 0, 1) := by decide +kernel
theorem d_M_decode_91 : decode b_M_decode 91 = .ok (.aload_n 0, 1) := by decide +kernel
theorem d_M_decode_92 : decode b_M_decode 92 = .ok (.getfield 33, 3) := by decide +kernel
theorem d_M_decode_95 : decode b_M_decode 95 = .ok (.iload_n 2, 1) := by decide +kernel
theorem d_M_decode_96 : decode b_M_decode 96 = .ok (.iaload, 1) := by decide +kernel
theorem d_M_decode_97 : decode b_M_decode 97 = .ok (.bipush 16, 2) := by decide +kernel
theorem d_M_decode_99 : decode b_M_decode 99 = .ok (.if_icmp .ne 7, 3) := by decide +kernel
theorem d_M_decode_102 : decode b_M_decode 102 = .ok (.iconst 0, 1) := by decide +kernel
theorem d_M_decode_103 : decode b_M_decode 103 = .ok (.goto 18, 3) := by decide +kernel
theorem d_M_decode_106 : decode b_M_decode 106 = .ok (.aload_n 0, 1) := by decide +kernel
theorem d_M_decode_107 : decode b_M_decode 107 = .ok (.getfield 33, 3) := by decide +kernel
theorem d_M_decode_110 : decode b_M_decode 110 = .ok (.iload_n 2, 1) := by decide +kernel
theorem d_M_decode_111 : decode b_M_decode 111 = .ok (.iaload, 1) := by decide +kernel
theorem d_M_decode_112 : decode b_M_decode 112 = .ok (.iconst 1, 1) := by decide +kernel
theorem d_M_decode_113 : decode b_M_decode 113 = .ok (.if_icmp .ne 7, 3) := by decide +kernel
theorem d_M_decode_116 : decode b_M_decode 116 = .ok (.iconst 1, 1) := by decide +kernel
theorem d_M_decode_117 : decode b_M_decode 117 = .ok (.goto 4, 3) := by decide +kernel
theorem d_M_decode_120 : decode b_M_decode 120 = .ok (.iconst 2, 1) := by decide +kernel
theorem d_M_decode_121 : decode b_M_decode 121 = .ok (.aload_n 0, 1) := by decide +kernel
theorem d_M_decode_122 : decode b_M_decode 122 = .ok (.getfield 33, 3) := by decide +kernel
theorem d_M_decode_125 : decode b_M_decode 125 = .ok (.iload_n 2, 1) := by decide +kernel
theorem d_M_decode_126 : decode b_M_decode 126 = .ok (.iaload, 1) := by decide +kernel
theorem d_M_decode_127 : decode b_M_decode 127 = .ok (.iconst 1, 1) := by decide +kernel
theorem d_M_decode_128 : decode b_M_decode 128 = .ok (.if_icmp .ne 13, 3) := by decide +kernel
theorem d_M_decode_131 : decode b_M_decode 131 = .ok (.aload_n 0, 1) := by decide +kernel
theorem d_M_decode_132 : decode b_M_decode 132 = .ok (.iload_n 2, 1) := by decide +kernel
theorem d_M_decode_133 : decode b_M_decode 133 = .ok (.bipush 14, 2) := by decide +kernel
theorem d_M_decode_135 : decode b_M_decode 135 = .ok (.invokevirtual 200, 3) := by decide +kernel
theorem d_M_decode_138 : decode b_M_decode 138 = .ok (.goto 4, 3) := by decide +kernel
theorem d_M_decode_141 : decode b_M_decode 141 = .ok (.iconst 0, 1) := by decide +kernel
theorem d_M_decode_142 : decode b_M_decode 142 = .ok (.invokevirtual 236, 3) := by decide +kernel
theorem d_M_decode_145 : decode b_M_decode 145 = .ok (.iastore, 1) := by decide +kernel
theorem d_M_decode_146 : decode b_M_decode 146 = .ok (.iconst 0, 1) := by decide +kernel
theorem d_M_decode_147 : decode b_M_decode 147 = .ok (.istore_n 3, 1) := by decide +kernel
theorem d_M_decode_148 : decode b_M_decode 148 = .ok (.aload_n 0, 1) := by decide +kernel
theorem d_M_decode_149 : decode b_M_decode 149 = .ok (.getfield 33, 3) := by decide +kernel
theorem d_M_decode_152 : decode b_M_decode 152 = .ok (.iload_n 2, 1) := by decide +kernel
theorem d_M_decode_153 : decode b_M_decode 153 = .ok (.iaload, 1) := by decide +kernel
theorem d_M_decode_154 : decode b_M_decode 154 = .ok (.bipush 20, 2) := by decide +kernel
theorem d_M_decode_156 : decode b_M_decode 156 = .ok (.if_icmp .ne 41, 3) := by decide +kernel
theorem d_M_decode_159 : decode b_M_decode 159 = .ok (.iload_n 3, 1) := by decide +kernel
theorem d_M_decode_160 : decode b_M_decode 160 = .ok (.aload_n 0, 1) := by decide +kernel
theorem d_M_decode_161 : decode b_M_decode 161 = .ok (.getfield 45, 3) := by decide +kernel
theorem d_M_decode_164 : decode b_M_decode 164 = .ok (.iload_n 2, 1) := by decide +kernel
theorem d_M_decode_165 : decode b_M_decode 165 = .ok (.iaload, 1) := by decide +kernel
theorem d_M_decode_166 : decode b_M_decode 166 = .ok (.if_icmp .ge 31, 3) := by decide +kernel
theorem d_M_decode_169 : decode b_M_decode 169 = .ok (.aload_n 0, 1) := by decide +kernel
theorem d_M_decode_170 : decode b_M_decode 170 = .ok (.aload_n 0, 1) := by decide +kernel
theorem d_M_decode_171 : decode b_M_decode 171 = .ok (.getfield 54, 3) := by decide +kernel
theorem d_M_decode_174 : decode b_M_decode 174 = .ok (.iload_n 2, 1) := by decide +kernel
theorem d_M_decode_175 : decode b_M_decode 175 = .ok (.iaload, 1) := by decide +kernel
theorem d_M_decode_176 : decode b_M_decode 176 = .ok (.aload_n 0, 1) := by decide +kernel
theorem d_M_decode_177 : decode b_M_decode 177 = .ok (.getfield 48, 3) := by decide +kernel
theorem d_M_decode_180 : decode b_M_decode 180 = .ok (.bipush 12, 2) := by decide +kernel
theorem d_M_decode_182 : decode b_M_decode 182 = .ok (.iload_n 2, 1) := by decide +kernel
theorem d_M_decode_183 : decode b_M_decode 183 = .ok (.imul, 1) := by decide +kernel
theorem d_M_decode_184 : decode b_M_decode 184 = .ok (.iload_n 3, 1) := by decide +kernel
theorem d_M_decode_185 : decode b_M_decode 185 = .ok (.iadd, 1) := by decide +kernel
theorem d_M_decode_186 : decode b_M_decode 186 = .ok (.caload, 1) := by decide +kernel
theorem d_M_decode_187 : decode b_M_decode 187 = .ok (.invokevirtual 239, 3) := by decide +kernel
theorem d_M_decode_190 : decode b_M_decode 190 = .ok (.pop, 1) := by decide +kernel
theorem d_M_decode_191 : decode b_M_decode 191 = .ok (.iinc 3 1, 3) := by decide +kernel
theorem d_M_decode_194 : decode b_M_decode 194 = .ok (.goto (-46), 3) := by decide +kernel
theorem d_M_decode_197 : decode b_M_decode 197 = .ok (.iinc 2 1, 3) := by decide +kernel
theorem d_M_decode_200 : decode b_M_decode 200 = .ok (.goto (-134), 3) := by decide +kernel
theorem d_M_decode_203 : decode b_M_decode 203 = .ok (.iload_n 1, 1) := by decide +kernel
theorem d_M_decode_204 : decode b_M_decode 204 = .ok (.iconst 1, 1) := by decide +kernel
theorem d_M_decode_205 : decode b_M_decode 205 = .ok (.iadd, 1) := by decide +kernel
theorem d_M_decode_206 : decode b_M_decode 206 = .ok (.istore_n 2, 1) := by decide +kernel
theorem d_M_decode_207 : decode b_M_decode 207 = .ok (.iload_n 2, 1) := by decide +kernel
theorem d_M_decode_208 : decode b_M_decode 208 = .ok (.aload_n 0, 1) := by decide +kernel
theorem d_M_decode_209 : decode b_M_decode 209 = .ok (.getfield 163, 3) := by decide +kernel
theorem d_M_decode_212 : decode b_M_decode 212 = .ok (.if_icmp .ge 100, 3) := by decide +kernel
theorem d_M_decode_215 : decode b_M_decode 215 = .ok (.aload_n 0, 1) := by decide +kernel
theorem d_M_decode_216 : decode b_M_decode 216 = .ok (.getfield 36, 3) := by decide +kernel
theorem d_M_decode_219 : decode b_M_decode 219 = .ok (.iload_n 2, 1) := by decide +kernel
theorem d_M_decode_220 : decode b_M_decode 220 = .ok (.iaload, 1) := by decide +kernel
theorem d_M_decode_221 : decode b_M_decode 221 = .ok (.iload_n 1, 1) := by decide +kernel
theorem d_M_decode_222 : decode b_M_decode 222 = .ok (.if_icmp .eq 84, 3) := by decide +kernel
theorem d_M_decode_225 : decode b_M_decode 225 = .ok (.aload_n 0, 1) := by decide +kernel
theorem d_M_decode_226 : decode b_M_decode 226 = .ok (.getfield 33, 3) := by decide +kernel
theorem d_M_decode_229 : decode b_M_decode 229 = .ok (.iload_n 2, 1) := by decide +kernel
theorem d_M_decode_230 : decode b_M_decode 230 = .ok (.iaload, 1) := by decide +kernel
theorem d_M_decode_231 : decode b_M_decode 231 = .ok (.bipush 14, 2) := by decide +kernel
theorem d_M_decode_233 : decode b_M_decode 233 = .ok (.if_icmp .ne 6, 3) := by decide +kernel
theorem d_M_decode_236 : decode b_M_decode 236 = .ok (.goto 70, 3) := by decide +kernel
theorem d_M_decode_239 : decode b_M_decode 239 = .ok (.aload_n 0, 1) := by decide +kernel
theorem d_M_decode_240 : decode b_M_decode 240 = .ok (.getfield 54, 3) := by decide +kernel
theorem d_M_decode_243 : decode b_M_decode 243 = .ok (.aload_n 0, 1) := by decide +kernel
theorem d_M_decode_244 : decode b_M_decode 244 = .ok (.getfield 36, 3) := by decide +kernel
theorem d_M_decode_247 : decode b_M_decode 247 = .ok (.iload_n 2, 1) := by decide +kernel
theorem d_M_decode_248 : decode b_M_decode 248 = .ok (.iaload, 1) := by decide +kernel
theorem d_M_decode_249 : decode b_M_decode 249 = .ok (.iaload, 1) := by decide +kernel
theorem d_M_decode_250 : decode b_M_decode 250 = .ok (.istore_n 3, 1) := by decide +kernel
theorem d_M_decode_251 : decode b_M_decode 251 = .ok (.aload_n 0, 1) := by decide +kernel
theorem d_M_decode_252 : decode b_M_decode 252 = .ok (.getfield 33, 3) := by decide +kernel
theorem d_M_decode_255 : decode b_M_decode 255 = .ok (.iload_n 2, 1) := by decide +kernel
theorem d_M_decode_256 : decode b_M_decode 256 = .ok (.iaload, 1) := by decide +kernel
theorem d_M_decode_257 : decode b_M_decode 257 = .ok (.bipush 9, 2) := by decide +kernel
theorem d_M_decode_259 : decode b_M_decode 259 = .ok (.if_icmp .ne 24, 3) := by decide +kernel
theorem d_M_decode_262 : decode b_M_decode 262 = .ok (.aload_n 0, 1) := by decide +kernel
theorem d_M_decode_263 : decode b_M_decode 263 = .ok (.iload_n 3, 1) := by decide +kernel
theorem d_M_decode_264 : decode b_M_decode 264 = .ok (.aload_n 0, 1) := by decide +kernel
theorem d_M_decode_265 : decode b_M_decode 265 = .ok (.getfield 51, 3) := by decide +kernel
theorem d_M_decode_268 : decode b_M_decode 268 = .ok (.iload_n 2, 1) := by decide +kernel
theorem d_M_decode_269 : decode b_M_decode 269 = .ok (.iaload, 1) := by decide +kernel
theorem d_M_decode_270 : decode b_M_decode 270 = .ok (.aload_n 0, 1) := by decide +kernel
theorem d_M_decode_271 : decode b_M_decode 271 = .ok (.iload_n 2, 1) := by decide +kernel
theorem d_M_decode_272 : decode b_M_decode 272 = .ok (.invokevirtual 209, 3) := by decide +kernel
theorem d_M_decode_275 : decode b_M_decode 275 = .ok (.l2i, 1) := by decide +kernel
theorem d_M_decode_276 : decode b_M_decode 276 = .ok (.invokevirtual 243, 3) := by decide +kernel
theorem d_M_decode_279 : decode b_M_decode 279 = .ok (.pop, 1) := by decide +kernel
theorem d_M_decode_280 : decode b_M_decode 280 = .ok (.goto 26, 3) := by decide +kernel
theorem d_M_decode_283 : decode b_M_decode 283 = .ok (.aload_n 0, 1) := by decide +kernel
theorem d_M_decode_284 : decode b_M_decode 284 = .ok (.iload_n 3, 1) := by decide +kernel
theorem d_M_decode_285 : decode b_M_decode 285 = .ok (.aload_n 0, 1) := by decide +kernel
theorem d_M_decode_286 : decode b_M_decode 286 = .ok (.getfield 51, 3) := by decide +kernel
theorem d_M_decode_289 : decode b_M_decode 289 = .ok (.iload_n 2, 1) := by decide +kernel
theorem d_M_decode_290 : decode b_M_decode 290 = .ok (.iaload, 1) := by decide +kernel
theorem d_M_decode_291 : decode b_M_decode 291 = .ok (.aload_n 0, 1) := by decide +kernel
theorem d_M_decode_292 : decode b_M_decode 292 = .ok (.getfield 54, 3) := by decide +kernel
theorem d_M_decode_295 : decode b_M_decode 295 = .ok (.aload_n 0, 1) := by decide +kernel
theorem d_M_decode_296 : decode b_M_decode 296 = .ok (.iload_n 2, 1) := by decide +kernel
theorem d_M_decode_297 : decode b_M_decode 297 = .ok (.iload_n 1, 1) := by decide +kernel
theorem d_M_decode_298 : decode b_M_decode 298 = .ok (.invokevirtual 247, 3) := by decide +kernel
theorem d_M_decode_301 : decode b_M_decode 301 = .ok (.iaload, 1) := by decide +kernel
theorem d_M_decode_302 : decode b_M_decode 302 = .ok (.invokevirtual 250, 3) := by decide +kernel
theorem d_M_decode_305 : decode b_M_decode 305 = .ok (.pop, 1) := by decide +kernel
theorem d_M_decode_306 : decode b_M_decode 306 = .ok (.iinc 2 1, 3) := by decide +kernel
theorem d_M_decode_309 : decode b_M_decode 309 = .ok (.goto (-102), 3) := by decide +kernel
theorem d_M_decode_312 : decode b_M_decode 312 = .ok (.aload_n 0, 1) := by decide +kernel
theorem d_M_decode_313 : decode b_M_decode 313 = .ok (.getfield 54, 3) := by decide +kernel
theorem d_M_decode_316 : decode b_M_decode 316 = .ok (.aload_n 0, 1) := by decide +kernel
theorem d_M_decode_317 : decode b_M_decode 317 = .ok (.iload_n 1, 1) := by decide +kernel
theorem d_M_decode_318 : decode b_M_decode 318 = .ok (.iconst 1, 1) := by decide +kernel
theorem d_M_decode_319 : decode b_M_decode 319 = .ok (.iadd, 1) := by decide +kernel
theorem d_M_decode_320 : decode b_M_decode 320 = .ok (.iload_n 1, 1) := by decide +kernel
theorem d_M_decode_321 : decode b_M_decode 321 = .ok (.invokevirtual 247, 3) := by decide +kernel
theorem d_M_decode_324 : decode b_M_decode 324 = .ok (.iaload, 1) := by decide +kernel
theorem d_M_decode_325 : decode b_M_decode 325 = .ok (.ireturn, 1) := by decide +kernel
theorem d_L_law_0 : decode b_L_law 0 = .ok (.new 7, 3) := by decide +kernel
theorem d_L_law_3 : decode b_L_law 3 = .ok (.dup, 1) := by decide +kernel
theorem d_L_law_4 : decode b_L_law 4 = .ok (.invokespecial 9, 3) := by decide +kernel
theorem d_L_law_7 : decode b_L_law 7 = .ok (.astore_n 1, 1) := by decide +kernel
theorem d_L_law_8 : decode b_L_law 8 = .ok (.new 10, 3) := by decide +kernel
theorem d_L_law_11 : decode b_L_law 11 = .ok (.dup, 1) := by decide +kernel
theorem d_L_law_12 : decode b_L_law 12 = .ok (.invokespecial 12, 3) := by decide +kernel
theorem d_L_law_15 : decode b_L_law 15 = .ok (.astore_n 2, 1) := by decide +kernel
theorem d_L_law_16 : decode b_L_law 16 = .ok (.iconst 0, 1) := by decide +kernel
theorem d_L_law_17 : decode b_L_law 17 = .ok (.istore_n 3, 1) := by decide +kernel
theorem d_L_law_18 : decode b_L_law 18 = .ok (.iload_n 3, 1) := by decide +kernel
theorem d_L_law_19 : decode b_L_law 19 = .ok (.aload_n 0, 1) := by decide +kernel
theorem d_L_law_20 : decode b_L_law 20 = .ok (.arraylength, 1) := by decide +kernel
theorem d_L_law_21 : decode b_L_law 21 = .ok (.iconst 4, 1) := by decide +kernel
theorem d_L_law_22 : decode b_L_law 22 = .ok (.isub, 1) := by decide +kernel
theorem d_L_law_23 : decode b_L_law 23 = .ok (.if_icmp .gt 661, 3) := by decide +kernel
theorem d_L_law_26 : decode b_L_law 26 = .ok (.aload_n 0, 1) := by decide +kernel
theorem d_L_law_27 : decode b_L_law 27 = .ok (.iload_n 3, 1) := by decide +kernel
theorem d_L_law_28 : decode b_L_law 28 = .ok (.iaload, 1) := by decide +kernel
theorem d_L_law_29 : decode b_L_law 29 = .ok (.bipush 31, 2) := by decide +kernel
theorem d_L_law_31 : decode b_L_law 31 = .ok (.iand, 1) := by decide +kernel
theorem d_L_law_32 : decode b_L_law 32 = .ok (.tableswitch 646 0 19 #[96, 129, 164, 207, 250, 263, 286, 309, 342, 375, 408, 431, 454, 467, 478, 527, 540, 563, 588, 623], 96) := by decide +kernel
theorem d_L_law_128 : decode b_L_law 128 = .ok (.aload_n 1, 1) := by decide +kernel
theorem d_L_law_129 : decode b_L_law 129 = .ok (.aload_n 0, 1) := by decide +kernel
theorem d_L_law_130 : decode b_L_law 130 = .ok (.iload_n 3, 1) := by decide +kernel
theorem d_L_law_131 : decode b_L_law 131 = .ok (.iconst 1, 1) := by decide +kernel
theorem d_L_law_132 : decode b_L_law 132 = .ok (.iadd, 1) := by decide +kernel
theorem d_L_law_133 : decode b_L_law 133 = .ok (.iaload, 1) := by decide +kernel
theorem d_L_law_134 : decode b_L_law 134 = .ok (.aload_n 0, 1) := by decide +kernel
theorem d_L_law_135 : decode b_L_law 135 = .ok (.iload_n 3, 1) := by decide +kernel
theorem d_L_law_136 : decode b_L_law 136 = .ok (.iconst 2, 1) := by decide +kernel
theorem d_L_law_137 : decode b_L_law 137 = .ok (.iadd, 1) := by decide +kernel
theorem d_L_law_138 : decode b_L_law 138 = .ok (.iaload, 1) := by decide +kernel
theorem d_L_law_139 : decode b_L_law 139 = .ok (.invokevirtual 13, 3) := by decide +kernel
theorem d_L_law_142 : decode b_L_law 142 = .ok (.aload_n 2, 1) := by decide +kernel
theorem d_L_law_143 : decode b_L_law 143 = .ok (.aload_n 0, 1) := by decide +kernel
theorem d_L_law_144 : decode b_L_law 144 = .ok (.iload_n 3, 1) := by decide +kernel
theorem d_L_law_145 : decode b_L_law 145 = .ok (.iconst 1, 1) := by decide +kernel
theorem d_L_law_146 : decode b_L_law 146 = .ok (.iadd, 1) := by decide +kernel
theorem d_L_law_147 : decode b_L_law 147 = .ok (.iaload, 1) := by decide +kernel
theorem d_L_law_148 : decode b_L_law 148 = .ok (.aload_n 0, 1) := by decide +kernel
theorem d_L_law_149 : decode b_L_law 149 = .ok (.iload_n 3, 1) := by decide +kernel
theorem d_L_law_150 : decode b_L_law 150 = .ok (.iconst 2, 1) := by decide +kernel
theorem d_L_law_151 : decode b_L_law 151 = .ok (.iadd, 1) := by decide +kernel
theorem d_L_law_152 : decode b_L_law 152 = .ok (.iaload, 1) := by decide +kernel
theorem d_L_law_153 : decode b_L_law 153 = .ok (.invokevirtual 17, 3) := by decide +kernel
theorem d_L_law_156 : decode b_L_law 156 = .ok (.if_icmp .eq 522, 3) := by decide +kernel
theorem d_L_law_159 : decode b_L_law 159 = .ok (.iconst 0, 1) := by decide +kernel
theorem d_L_law_160 : decode b_L_law 160 = .ok (.ireturn, 1) := by decide +kernel
theorem d_L_law_161 : decode b_L_law 161 = .ok (.aload_n 1, 1) := by decide +kernel
theorem d_L_law_162 : decode b_L_law 162 = .ok (.aload_n 0, 1) := by decide +kernel
theorem d_L_law_163 : decode b_L_law 163 = .ok (.iload_n 3, 1) := by decide +kernel
theorem d_L_law_164 : decode b_L_law 164 = .ok (.iconst 1, 1) := by decide +kernel
theorem d_L_law_165 : decode b_L_law 165 = .ok (.iadd, 1) := by decide +kernel
theorem d_L_law_166 : decode b_L_law 166 = .ok (.iaload, 1) := by decide +kernel
theorem d_L_law_167 : decode b_L_law 167 = .ok (.aload_n 0, 1) := by decide +kernel
theorem d_L_law_168 : decode b_L_law 168 = .ok (.iload_n 3, 1) := by decide +kernel
theorem d_L_law_169 : decode b_L_law 169 = .ok (.iconst 2, 1) := by decide +kernel
theorem d_L_law_170 : decode b_L_law 170 = .ok (.iadd, 1) := by decide +kernel
theorem d_L_law_171 : decode b_L_law 171 = .ok (.iaload, 1) := by decide +kernel
theorem d_L_law_172 : decode b_L_law 172 = .ok (.i2c, 1) := by decide +kernel
theorem d_L_law_173 : decode b_L_law 173 = .ok (.invokevirtual 18, 3) := by decide +kernel
theorem d_L_law_176 : decode b_L_law 176 = .ok (.aload_n 2, 1) := by decide +kernel
theorem d_L_law_177 : decode b_L_law 177 = .ok (.aload_n 0, 1) := by decide +kernel
theorem d_L_law_178 : decode b_L_law 178 = .ok (.iload_n 3, 1) := by decide +kernel
theorem d_L_law_179 : decode b_L_law 179 = .ok (.iconst 1, 1) := by decide +kernel
theorem d_L_law_180 : decode b_L_law 180 = .ok (.iadd, 1) := by decide +kernel
theorem d_L_law_181 : decode b_L_law 181 = .ok (.iaload, 1) := by decide +kernel
theorem d_L_law_182 : decode b_L_law 182 = .ok (.aload_n 0, 1) := by decide +kernel
theorem d_L_law_183 : decode b_L_law 183 = .ok (.iload_n 3, 1) := by decide +kernel
theorem d_L_law_184 : decode b_L_law 184 = .ok (.iconst 2, 1) := by decide +kernel
theorem d_L_law_185 : decode b_L_law 185 = .ok (.iadd, 1) := by decide +kernel
theorem d_L_law_186 : decode b_L_law 186 = .ok (.iaload, 1) := by decide +kernel
theorem d_L_law_187 : decode b_L_law 187 = .ok (.i2c, 1) := by decide +kernel
theorem d_L_law_188 : decode b_L_law 188 = .ok (.invokevirtual 22, 3) := by decide +kernel
theorem d_L_law_191 : decode b_L_law 191 = .ok (.if_icmp .eq 487, 3) := by decide +kernel
theorem d_L_law_194 : decode b_L_law 194 = .ok (.iconst 0, 1) := by decide +kernel
theorem d_L_law_195 : decode b_L_law 195 = .ok (.ireturn, 1) := by decide +kernel
theorem d_L_law_196 : decode b_L_law 196 = .ok (.aload_n 1, 1) := by decide +kernel
theorem d_L_law_197 : decode b_L_law 197 = .ok (.aload_n 0, 1) := by decide +kernel
theorem d_L_law_198 : decode b_L_law 198 = .ok (.iload_n 3, 1) := by decide +kernel
theorem d_L_law_199 : decode b_L_law 199 = .ok (.iconst 1, 1) := by decide +kernel
theorem d_L_law_200 : decode b_L_law 200 = .ok (.iadd, 1) := by decide +kernel
theorem d_L_law_201 : decode b_L_law 201 = .ok (.iaload, 1) := by decide +kernel
theorem d_L_law_202 : decode b_L_law 202 = .ok (.aload_n 0, 1) := by decide +kernel
theorem d_L_law_203 : decode b_L_law 203 = .ok (.iload_n 3, 1) := by decide +kernel
theorem d_L_law_204 : decode b_L_law 204 = .ok (.iconst 2, 1) := by decide +kernel
theorem d_L_law_205 : decode b_L_law 205 = .ok (.iadd, 1) := by decide +kernel
theorem d_L_law_206 : decode b_L_law 206 = .ok (.iaload, 1) := by decide +kernel
theorem d_L_law_207 : decode b_L_law 207 = .ok (.aload_n 0, 1) := by decide +kernel
theorem d_L_law_208 : decode b_L_law 208 = .ok (.iload_n 3, 1) := by decide +kernel
theorem d_L_law_209 : decode b_L_law 209 = .ok (.iconst 3, 1) := by decide +kernel
theorem d_L_law_210 : decode b_L_law 210 = .ok (.iadd, 1) := by decide +kernel
theorem d_L_law_211 : decode b_L_law 211 = .ok (.iaload, 1) := by decide +kernel
theorem d_L_law_212 : decode b_L_law 212 = .ok (.invokevirtual 23, 3) := by decide +kernel
theorem d_L_law_215 : decode b_L_law 215 = .ok (.aload_n 2, 1) := by decide +kernel
theorem d_L_law_216 : decode b_L_law 216 = .ok (.aload_n 0, 1) := by decide +kernel
theorem d_L_law_217 : decode b_L_law 217 = .ok (.iload_n 3, 1) := by decide +kernel
theorem d_L_law_218 : decode b_L_law 218 = .ok (.iconst 1, 1) := by decide +kernel
theorem d_L_law_219 : decode b_L_law 219 = .ok (.iadd, 1) := by decide +kernel
theorem d_L_law_220 : decode b_L_law 220 = .ok (.iaload, 1) := by decide +kernel
theorem d_L_law_221 : decode b_L_law 221 = .ok (.aload_n 0, 1) := by decide +kernel
theorem d_L_law_222 : decode b_L_law 222 = .ok (.iload_n 3, 1) := by decide +kernel
theorem d_L_law_223 : decode b_L_law 223 = .ok (.iconst 2, 1) := by decide +kernel
theorem d_L_law_224 : decode b_L_law 224 = .ok (.iadd, 1) := by decide +kernel
theorem d_L_law_225 : decode b_L_law 225 = .ok (.iaload, 1) := by decide +kernel
theorem d_L_law_226 : decode b_L_law 226 = .ok (.aload_n 0, 1) := by decide +kernel
theorem d_L_law_227 : decode b_L_law 227 = .ok (.iload_n 3, 1) := by decide +kernel
theorem d_L_law_228 : decode b_L_law 228 = .ok (.iconst 3, 1) := by decide +kernel
theorem d_L_law_229 : decode b_L_law 229 = .ok (.iadd, 1) := by decide +kernel
theorem d_L_law_230 : decode b_L_law 230 = .ok (.iaload, 1) := by decide +kernel
theorem d_L_law_231 : decode b_L_law 231 = .ok (.invokevirtual 27, 3) := by decide +kernel
theorem d_L_law_234 : decode b_L_law 234 = .ok (.if_icmp .eq 444, 3) := by decide +kernel
theorem d_L_law_237 : decode b_L_law 237 = .ok (.iconst 0, 1) := by decide +kernel
theorem d_L_law_238 : decode b_L_law 238 = .ok (.ireturn, 1) := by decide +kernel
theorem d_L_law_239 : decode b_L_law 239 = .ok (.aload_n 1, 1) := by decide +kernel
theorem d_L_law_240 : decode b_L_law 240 = .ok (.aload_n 0, 1) := by decide +kernel
theorem d_L_law_241 : decode b_L_law 241 = .ok (.iload_n 3, 1) := by decide +kernel
theorem d_L_law_242 : decode b_L_law 242 = .ok (.iconst 1, 1) := by decide +kernel
theorem d_L_law_243 : decode b_L_law 243 = .ok (.iadd, 1) := by decide +kernel
theorem d_L_law_244 : decode b_L_law 244 = .ok (.iaload, 1) := by decide +kernel
theorem d_L_law_245 : decode b_L_law 245 = .ok (.aload_n 0, 1) := by decide +kernel
theorem d_L_law_246 : decode b_L_law 246 = .ok (.iload_n 3, 1) := by decide +kernel
theorem d_L_law_247 : decode b_L_law 247 = .ok (.iconst 2, 1) := by decide +kernel
theorem d_L_law_248 : decode b_L_law 248 = .ok (.iadd, 1) := by decide +kernel
