theorem d_O_objects_1 : decode b_O_objects 1 = .ok (.getfield 10, 3) := by decide +kernel
theorem d_O_objects_4 : decode b_O_objects 4 = .ok (.getfield 73, 3) := by decide +kernel
theorem d_O_objects_7 : decode b_O_objects 7 = .ok (.ireturn, 1) := by decide +kernel
theorem d_O_kind_0 : decode b_O_kind 0 = .ok (.aload_n 0, 1) := by decide +kernel
theorem d_O_kind_1 : decode b_O_kind 1 = .ok (.getfield 10, 3) := by decide +kernel
theorem d_O_kind_4 : decode b_O_kind 4 = .ok (.iload_n 1, 1) := by decide +kernel
theorem d_O_kind_5 : decode b_O_kind 5 = .ok (.invokevirtual 100, 3) := by decide +kernel
theorem d_O_kind_8 : decode b_O_kind 8 = .ok (.ifCond .eq 15, 3) := by decide +kernel
theorem d_O_kind_11 : decode b_O_kind 11 = .ok (.aload_n 0, 1) := by decide +kernel
theorem d_O_kind_12 : decode b_O_kind 12 = .ok (.getfield 10, 3) := by decide +kernel
theorem d_O_kind_15 : decode b_O_kind 15 = .ok (.getfield 103, 3) := by decide +kernel
theorem d_O_kind_18 : decode b_O_kind 18 = .ok (.iload_n 1, 1) := by decide +kernel
theorem d_O_kind_19 : decode b_O_kind 19 = .ok (.iaload, 1) := by decide +kernel
theorem d_O_kind_20 : decode b_O_kind 20 = .ok (.goto 4, 3) := by decide +kernel
theorem d_O_kind_23 : decode b_O_kind 23 = .ok (.iconst (-1), 1) := by decide +kernel
theorem d_O_kind_24 : decode b_O_kind 24 = .ok (.ireturn, 1) := by decide +kernel
theorem d_O_size_0 : decode b_O_size 0 = .ok (.aload_n 0, 1) := by decide +kernel
theorem d_O_size_1 : decode b_O_size 1 = .ok (.getfield 10, 3) := by decide +kernel
theorem d_O_size_4 : decode b_O_size 4 = .ok (.iload_n 1, 1) := by decide +kernel
theorem d_O_size_5 : decode b_O_size 5 = .ok (.invokevirtual 100, 3) := by decide +kernel
theorem d_O_size_8 : decode b_O_size 8 = .ok (.ifCond .eq 15, 3) := by decide +kernel
theorem d_O_size_11 : decode b_O_size 11 = .ok (.aload_n 0, 1) := by decide +kernel
theorem d_O_size_12 : decode b_O_size 12 = .ok (.getfield 10, 3) := by decide +kernel
theorem d_O_size_15 : decode b_O_size 15 = .ok (.getfield 107, 3) := by decide +kernel
theorem d_O_size_18 : decode b_O_size 18 = .ok (.iload_n 1, 1) := by decide +kernel
theorem d_O_size_19 : decode b_O_size 19 = .ok (.iaload, 1) := by decide +kernel
theorem d_O_size_20 : decode b_O_size 20 = .ok (.goto 4, 3) := by decide +kernel
theorem d_O_size_23 : decode b_O_size 23 = .ok (.iconst (-1), 1) := by decide +kernel
theorem d_O_size_24 : decode b_O_size 24 = .ok (.ireturn, 1) := by decide +kernel
theorem d_O_holds_0 : decode b_O_holds 0 = .ok (.aload_n 0, 1) := by decide +kernel
theorem d_O_holds_1 : decode b_O_holds 1 = .ok (.getfield 10, 3) := by decide +kernel
theorem d_O_holds_4 : decode b_O_holds 4 = .ok (.iload_n 1, 1) := by decide +kernel
theorem d_O_holds_5 : decode b_O_holds 5 = .ok (.iload_n 2, 1) := by decide +kernel
theorem d_O_holds_6 : decode b_O_holds 6 = .ok (.invokevirtual 92, 3) := by decide +kernel
theorem d_O_holds_9 : decode b_O_holds 9 = .ok (.ifCond .eq 15, 3) := by decide +kernel
theorem d_O_holds_12 : decode b_O_holds 12 = .ok (.aload_n 0, 1) := by decide +kernel
theorem d_O_holds_13 : decode b_O_holds 13 = .ok (.getfield 10, 3) := by decide +kernel
theorem d_O_holds_16 : decode b_O_holds 16 = .ok (.iload_n 1, 1) := by decide +kernel
theorem d_O_holds_17 : decode b_O_holds 17 = .ok (.iload_n 2, 1) := by decide +kernel
theorem d_O_holds_18 : decode b_O_holds 18 = .ok (.invokevirtual 110, 3) := by decide +kernel
theorem d_O_holds_21 : decode b_O_holds 21 = .ok (.goto 4, 3) := by decide +kernel
theorem d_O_holds_24 : decode b_O_holds 24 = .ok (.iconst (-1), 1) := by decide +kernel
theorem d_O_holds_25 : decode b_O_holds 25 = .ok (.ireturn, 1) := by decide +kernel
theorem d_O_value_0 : decode b_O_value 0 = .ok (.aload_n 0, 1) := by decide +kernel
theorem d_O_value_1 : decode b_O_value 1 = .ok (.getfield 10, 3) := by decide +kernel
theorem d_O_value_4 : decode b_O_value 4 = .ok (.iload_n 1, 1) := by decide +kernel
theorem d_O_value_5 : decode b_O_value 5 = .ok (.iload_n 2, 1) := by decide +kernel
theorem d_O_value_6 : decode b_O_value 6 = .ok (.invokevirtual 92, 3) := by decide +kernel
theorem d_O_value_9 : decode b_O_value 9 = .ok (.ifCond .eq 13, 3) := by decide +kernel
theorem d_O_value_12 : decode b_O_value 12 = .ok (.aload_n 0, 1) := by decide +kernel
theorem d_O_value_13 : decode b_O_value 13 = .ok (.getfield 10, 3) := by decide +kernel
theorem d_O_value_16 : decode b_O_value 16 = .ok (.iload_n 1, 1) := by decide +kernel
theorem d_O_value_17 : decode b_O_value 17 = .ok (.iload_n 2, 1) := by decide +kernel
theorem d_O_value_18 : decode b_O_value 18 = .ok (.invokevirtual 113, 3) := by decide +kernel
theorem d_O_value_21 : decode b_O_value 21 = .ok (.ireturn, 1) := by decide +kernel
theorem d_O_value_22 : decode b_O_value 22 = .ok (.aload_n 0, 1) := by decide +kernel
theorem d_O_value_23 : decode b_O_value 23 = .ok (.getfield 10, 3) := by decide +kernel
theorem d_O_value_26 : decode b_O_value 26 = .ok (.iload_n 1, 1) := by decide +kernel
theorem d_O_value_27 : decode b_O_value 27 = .ok (.invokevirtual 81, 3) := by decide +kernel
theorem d_O_value_30 : decode b_O_value 30 = .ok (.ifCond .eq 30, 3) := by decide +kernel
theorem d_O_value_33 : decode b_O_value 33 = .ok (.iload_n 2, 1) := by decide +kernel
theorem d_O_value_34 : decode b_O_value 34 = .ok (.ifCond .lt 26, 3) := by decide +kernel
theorem d_O_value_37 : decode b_O_value 37 = .ok (.iload_n 2, 1) := by decide +kernel
theorem d_O_value_38 : decode b_O_value 38 = .ok (.aload_n 0, 1) := by decide +kernel
theorem d_O_value_39 : decode b_O_value 39 = .ok (.getfield 10, 3) := by decide +kernel
theorem d_O_value_42 : decode b_O_value 42 = .ok (.getfield 107, 3) := by decide +kernel
theorem d_O_value_45 : decode b_O_value 45 = .ok (.iload_n 1, 1) := by decide +kernel
theorem d_O_value_46 : decode b_O_value 46 = .ok (.iaload, 1) := by decide +kernel
theorem d_O_value_47 : decode b_O_value 47 = .ok (.if_icmp .ge 13, 3) := by decide +kernel
theorem d_O_value_50 : decode b_O_value 50 = .ok (.aload_n 0, 1) := by decide +kernel
theorem d_O_value_51 : decode b_O_value 51 = .ok (.getfield 10, 3) := by decide +kernel
theorem d_O_value_54 : decode b_O_value 54 = .ok (.iload_n 1, 1) := by decide +kernel
theorem d_O_value_55 : decode b_O_value 55 = .ok (.iload_n 2, 1) := by decide +kernel
theorem d_O_value_56 : decode b_O_value 56 = .ok (.invokevirtual 116, 3) := by decide +kernel
theorem d_O_value_59 : decode b_O_value 59 = .ok (.ireturn, 1) := by decide +kernel
theorem d_O_value_60 : decode b_O_value 60 = .ok (.iconst 0, 1) := by decide +kernel
theorem d_O_value_61 : decode b_O_value 61 = .ok (.ireturn, 1) := by decide +kernel
theorem d_O_alike_0 : decode b_O_alike 0 = .ok (.aload_n 0, 1) := by decide +kernel
theorem d_O_alike_1 : decode b_O_alike 1 = .ok (.getfield 10, 3) := by decide +kernel
theorem d_O_alike_4 : decode b_O_alike 4 = .ok (.iload_n 1, 1) := by decide +kernel
theorem d_O_alike_5 : decode b_O_alike 5 = .ok (.invokevirtual 100, 3) := by decide +kernel
theorem d_O_alike_8 : decode b_O_alike 8 = .ok (.ifCond .eq 30, 3) := by decide +kernel
theorem d_O_alike_11 : decode b_O_alike 11 = .ok (.aload_n 0, 1) := by decide +kernel
theorem d_O_alike_12 : decode b_O_alike 12 = .ok (.getfield 10, 3) := by decide +kernel
theorem d_O_alike_15 : decode b_O_alike 15 = .ok (.iload_n 2, 1) := by decide +kernel
theorem d_O_alike_16 : decode b_O_alike 16 = .ok (.invokevirtual 100, 3) := by decide +kernel
theorem d_O_alike_19 : decode b_O_alike 19 = .ok (.ifCond .eq 19, 3) := by decide +kernel
theorem d_O_alike_22 : decode b_O_alike 22 = .ok (.aload_n 0, 1) := by decide +kernel
theorem d_O_alike_23 : decode b_O_alike 23 = .ok (.getfield 39, 3) := by decide +kernel
theorem d_O_alike_26 : decode b_O_alike 26 = .ok (.iload_n 1, 1) := by decide +kernel
theorem d_O_alike_27 : decode b_O_alike 27 = .ok (.iload_n 2, 1) := by decide +kernel
theorem d_O_alike_28 : decode b_O_alike 28 = .ok (.invokevirtual 120, 3) := by decide +kernel
theorem d_O_alike_31 : decode b_O_alike 31 = .ok (.ifCond .eq 7, 3) := by decide +kernel
theorem d_O_alike_34 : decode b_O_alike 34 = .ok (.iconst 1, 1) := by decide +kernel
theorem d_O_alike_35 : decode b_O_alike 35 = .ok (.goto 4, 3) := by decide +kernel
theorem d_O_alike_38 : decode b_O_alike 38 = .ok (.iconst 0, 1) := by decide +kernel
theorem d_O_alike_39 : decode b_O_alike 39 = .ok (.ireturn, 1) := by decide +kernel
theorem d_O_shared_0 : decode b_O_shared 0 = .ok (.aload_n 0, 1) := by decide +kernel
theorem d_O_shared_1 : decode b_O_shared 1 = .ok (.getfield 10, 3) := by decide +kernel
theorem d_O_shared_4 : decode b_O_shared 4 = .ok (.iload_n 1, 1) := by decide +kernel
theorem d_O_shared_5 : decode b_O_shared 5 = .ok (.invokevirtual 100, 3) := by decide +kernel
theorem d_O_shared_8 : decode b_O_shared 8 = .ok (.ifCond .ne 5, 3) := by decide +kernel
theorem d_O_shared_11 : decode b_O_shared 11 = .ok (.iconst (-1), 1) := by decide +kernel
theorem d_O_shared_12 : decode b_O_shared 12 = .ok (.ireturn, 1) := by decide +kernel
theorem d_O_shared_13 : decode b_O_shared 13 = .ok (.aload_n 0, 1) := by decide +kernel
theorem d_O_shared_14 : decode b_O_shared 14 = .ok (.getfield 32, 3) := by decide +kernel
theorem d_O_shared_17 : decode b_O_shared 17 = .ok (.iload_n 1, 1) := by decide +kernel
theorem d_O_shared_18 : decode b_O_shared 18 = .ok (.invokevirtual 123, 3) := by decide +kernel
theorem d_O_shared_21 : decode b_O_shared 21 = .ok (.aload_n 0, 1) := by decide +kernel
theorem d_O_shared_22 : decode b_O_shared 22 = .ok (.getfield 32, 3) := by decide +kernel
theorem d_O_shared_25 : decode b_O_shared 25 = .ok (.invokevirtual 127, 3) := by decide +kernel
theorem d_O_shared_28 : decode b_O_shared 28 = .ok (.ireturn, 1) := by decide +kernel
theorem d_O_encode_0 : decode b_O_encode 0 = .ok (.aload_n 0, 1) := by decide +kernel
theorem d_O_encode_1 : decode b_O_encode 1 = .ok (.getfield 10, 3) := by decide +kernel
theorem d_O_encode_4 : decode b_O_encode 4 = .ok (.iload_n 1, 1) := by decide +kernel
theorem d_O_encode_5 : decode b_O_encode 5 = .ok (.invokevirtual 100, 3) := by decide +kernel
theorem d_O_encode_8 : decode b_O_encode 8 = .ok (.ifCond .ne 5, 3) := by decide +kernel
theorem d_O_encode_11 : decode b_O_encode 11 = .ok (.iconst (-1), 1) := by decide +kernel
theorem d_O_encode_12 : decode b_O_encode 12 = .ok (.ireturn, 1) := by decide +kernel
theorem d_O_encode_13 : decode b_O_encode 13 = .ok (.aload_n 0, 1) := by decide +kernel
theorem d_O_encode_14 : decode b_O_encode 14 = .ok (.getfield 48, 3) := by decide +kernel
theorem d_O_encode_17 : decode b_O_encode 17 = .ok (.iload_n 1, 1) := by decide +kernel
theorem d_O_encode_18 : decode b_O_encode 18 = .ok (.invokevirtual 131, 3) := by decide +kernel
theorem d_O_encode_21 : decode b_O_encode 21 = .ok (.aload_n 0, 1) := by decide +kernel
theorem d_O_encode_22 : decode b_O_encode 22 = .ok (.getfield 19, 3) := by decide +kernel
theorem d_O_encode_25 : decode b_O_encode 25 = .ok (.getfield 134, 3) := by decide +kernel
theorem d_O_encode_28 : decode b_O_encode 28 = .ok (.ireturn, 1) := by decide +kernel
theorem d_O_decode_0 : decode b_O_decode 0 = .ok (.aload_n 0, 1) := by decide +kernel
theorem d_O_decode_1 : decode b_O_decode 1 = .ok (.getfield 60, 3) := by decide +kernel
theorem d_O_decode_4 : decode b_O_decode 4 = .ok (.invokevirtual 137, 3) := by decide +kernel
theorem d_O_decode_7 : decode b_O_decode 7 = .ok (.ifCond .ne 5, 3) := by decide +kernel
theorem d_O_decode_10 : decode b_O_decode 10 = .ok (.iconst (-1), 1) := by decide +kernel
theorem d_O_decode_11 : decode b_O_decode 11 = .ok (.ireturn, 1) := by decide +kernel
theorem d_O_decode_12 : decode b_O_decode 12 = .ok (.aload_n 0, 1) := by decide +kernel
theorem d_O_decode_13 : decode b_O_decode 13 = .ok (.getfield 69, 3) := by decide +kernel
theorem d_O_decode_16 : decode b_O_decode 16 = .ok (.invokevirtual 141, 3) := by decide +kernel
theorem d_O_decode_19 : decode b_O_decode 19 = .ok (.ifCond .ne 6, 3) := by decide +kernel
theorem d_O_decode_22 : decode b_O_decode 22 = .ok (.bipush (-2), 2) := by decide +kernel
theorem d_O_decode_24 : decode b_O_decode 24 = .ok (.ireturn, 1) := by decide +kernel
theorem d_O_decode_25 : decode b_O_decode 25 = .ok (.aload_n 0, 1) := by decide +kernel
theorem d_O_decode_26 : decode b_O_decode 26 = .ok (.getfield 69, 3) := by decide +kernel
theorem d_O_decode_29 : decode b_O_decode 29 = .ok (.aload_n 0, 1) := by decide +kernel
theorem d_O_decode_30 : decode b_O_decode 30 = .ok (.getfield 23, 3) := by decide +kernel
theorem d_O_decode_33 : decode b_O_decode 33 = .ok (.invokevirtual 144, 3) := by decide +kernel
theorem d_O_decode_36 : decode b_O_decode 36 = .ok (.ifCond .ne 6, 3) := by decide +kernel
theorem d_O_decode_39 : decode b_O_decode 39 = .ok (.bipush (-3), 2) := by decide +kernel
theorem d_O_decode_41 : decode b_O_decode 41 = .ok (.ireturn, 1) := by decide +kernel
theorem d_O_decode_42 : decode b_O_decode 42 = .ok (.aload_n 0, 1) := by decide +kernel
theorem d_O_decode_43 : decode b_O_decode 43 = .ok (.getfield 69, 3) := by decide +kernel
theorem d_O_decode_46 : decode b_O_decode 46 = .ok (.invokevirtual 148, 3) := by decide +kernel
theorem d_O_decode_49 : decode b_O_decode 49 = .ok (.istore_n 1, 1) := by decide +kernel
theorem d_O_decode_50 : decode b_O_decode 50 = .ok (.iload_n 1, 1) := by decide +kernel
theorem d_O_decode_51 : decode b_O_decode 51 = .ok (.iconst (-1), 1) := by decide +kernel
theorem d_O_decode_52 : decode b_O_decode 52 = .ok (.if_icmp .ne 8, 3) := by decide +kernel
theorem d_O_decode_55 : decode b_O_decode 55 = .ok (.bipush (-4), 2) := by decide +kernel
theorem d_O_decode_57 : decode b_O_decode 57 = .ok (.goto 4, 3) := by decide +kernel
theorem d_O_decode_60 : decode b_O_decode 60 = .ok (.iload_n 1, 1) := by decide +kernel
theorem d_O_decode_61 : decode b_O_decode 61 = .ok (.ireturn, 1) := by decide +kernel
theorem d_O_clear_0 : decode b_O_clear 0 = .ok (.aload_n 0, 1) := by decide +kernel
theorem d_O_clear_1 : decode b_O_clear 1 = .ok (.getfield 10, 3) := by decide +kernel
theorem d_O_clear_4 : decode b_O_clear 4 = .ok (.iconst 0, 1) := by decide +kernel
theorem d_O_clear_5 : decode b_O_clear 5 = .ok (.putfield 73, 3) := by decide +kernel
theorem d_O_clear_8 : decode b_O_clear 8 = .ok (.return_, 1) := by decide +kernel
theorem d_O_understand_0 : decode b_O_understand 0 = .ok (.iload_n 1, 1) := by decide +kernel
theorem d_O_understand_1 : decode b_O_understand 1 = .ok (.ifCond .lt 19, 3) := by decide +kernel
theorem d_O_understand_4 : decode b_O_understand 4 = .ok (.iload_n 1, 1) := by decide +kernel
theorem d_O_understand_5 : decode b_O_understand 5 = .ok (.bipush 32, 2) := by decide +kernel
theorem d_O_understand_7 : decode b_O_understand 7 = .ok (.if_icmp .ge 13, 3) := by decide +kernel
theorem d_O_understand_10 : decode b_O_understand 10 = .ok (.aload_n 0, 1) := by decide +kernel
theorem d_O_understand_11 : decode b_O_understand 11 = .ok (.getfield 23, 3) := by decide +kernel
theorem d_O_understand_14 : decode b_O_understand 14 = .ok (.iload_n 1, 1) := by decide +kernel
theorem d_O_understand_15 : decode b_O_understand 15 = .ok (.baload, 1) := by decide +kernel
theorem d_O_understand_16 : decode b_O_understand 16 = .ok (.iload_n 2, 1) := by decide +kernel
theorem d_O_understand_17 : decode b_O_understand 17 = .ok (.if_icmp .ne 5, 3) := by decide +kernel
theorem d_O_understand_20 : decode b_O_understand 20 = .ok (.iconst 0, 1) := by decide +kernel
theorem d_O_understand_21 : decode b_O_understand 21 = .ok (.ireturn, 1) := by decide +kernel
theorem d_O_understand_22 : decode b_O_understand 22 = .ok (.aload_n 0, 1) := by decide +kernel
theorem d_O_understand_23 : decode b_O_understand 23 = .ok (.getfield 23, 3) := by decide +kernel
theorem d_O_understand_26 : decode b_O_understand 26 = .ok (.iload_n 1, 1) := by decide +kernel
theorem d_O_understand_27 : decode b_O_understand 27 = .ok (.iload_n 2, 1) := by decide +kernel
theorem d_O_understand_28 : decode b_O_understand 28 = .ok (.bastore, 1) := by decide +kernel
theorem d_O_understand_29 : decode b_O_understand 29 = .ok (.iconst 1, 1) := by decide +kernel
theorem d_O_understand_30 : decode b_O_understand 30 = .ok (.ireturn, 1) := by decide +kernel
theorem d_O_length_0 : decode b_O_length 0 = .ok (.aload_n 0, 1) := by decide +kernel
theorem d_O_length_1 : decode b_O_length 1 = .ok (.getfield 19, 3) := by decide +kernel
theorem d_O_length_4 : decode b_O_length 4 = .ok (.getfield 134, 3) := by decide +kernel
theorem d_O_length_7 : decode b_O_length 7 = .ok (.ireturn, 1) := by decide +kernel
theorem d_O_charAt_0 : decode b_O_charAt 0 = .ok (.aload_n 0, 1) := by decide +kernel
theorem d_O_charAt_1 : decode b_O_charAt 1 = .ok (.getfield 19, 3) := by decide +kernel
theorem d_O_charAt_4 : decode b_O_charAt 4 = .ok (.iload_n 1, 1) := by decide +kernel
theorem d_O_charAt_5 : decode b_O_charAt 5 = .ok (.invokevirtual 151, 3) := by decide +kernel
theorem d_O_charAt_8 : decode b_O_charAt 8 = .ok (.ireturn, 1) := by decide +kernel
theorem d_O_feed_0 : decode b_O_feed 0 = .ok (.iload_n 1, 1) := by decide +kernel
theorem d_O_feed_1 : decode b_O_feed 1 = .ok (.invokestatic 85, 3) := by decide +kernel
theorem d_O_feed_4 : decode b_O_feed 4 = .ok (.ifCond .eq 18, 3) := by decide +kernel
theorem d_O_feed_7 : decode b_O_feed 7 = .ok (.aload_n 0, 1) := by decide +kernel
theorem d_O_feed_8 : decode b_O_feed 8 = .ok (.getfield 19, 3) := by decide +kernel
theorem d_O_feed_11 : decode b_O_feed 11 = .ok (.iload_n 1, 1) := by decide +kernel
theorem d_O_feed_12 : decode b_O_feed 12 = .ok (.invokevirtual 155, 3) := by decide +kernel
theorem d_O_feed_15 : decode b_O_feed 15 = .ok (.ifCond .eq 7, 3) := by decide +kernel
theorem d_O_feed_18 : decode b_O_feed 18 = .ok (.iconst 1, 1) := by decide +kernel
theorem d_O_feed_19 : decode b_O_feed 19 = .ok (.goto 4, 3) := by decide +kernel
theorem d_O_feed_22 : decode b_O_feed 22 = .ok (.iconst 0, 1) := by decide +kernel
theorem d_O_feed_23 : decode b_O_feed 23 = .ok (.ireturn, 1) := by decide +kernel
theorem d_O_alter_0 : decode b_O_alter 0 = .ok (.iload_n 1, 1) := by decide +kernel
theorem d_O_alter_1 : decode b_O_alter 1 = .ok (.ifCond .lt 21, 3) := by decide +kernel
theorem d_O_alter_4 : decode b_O_alter 4 = .ok (.iload_n 1, 1) := by decide +kernel
theorem d_O_alter_5 : decode b_O_alter 5 = .ok (.aload_n 0, 1) := by decide +kernel
theorem d_O_alter_6 : decode b_O_alter 6 = .ok (.getfield 19, 3) := by decide +kernel
theorem d_O_alter_9 : decode b_O_alter 9 = .ok (.getfield 134, 3) := by decide +kernel
theorem d_O_alter_12 : decode b_O_alter 12 = .ok (.if_icmp .ge 10, 3) := by decide +kernel
theorem d_O_alter_15 : decode b_O_alter 15 = .ok (.iload_n 2, 1) := by decide +kernel
theorem d_O_alter_16 : decode b_O_alter 16 = .ok (.invokestatic 85, 3) := by decide +kernel
theorem d_O_alter_19 : decode b_O_alter 19 = .ok (.ifCond .ne 5, 3) := by decide +kernel
theorem d_O_alter_22 : decode b_O_alter 22 = .ok (.iconst 0, 1) := by decide +kernel
theorem d_O_alter_23 : decode b_O_alter 23 = .ok (.ireturn, 1) := by decide +kernel
theorem d_O_alter_24 : decode b_O_alter 24 = .ok (.aload_n 0, 1) := by decide +kernel
theorem d_O_alter_25 : decode b_O_alter 25 = .ok (.getfield 19, 3) := by decide +kernel
theorem d_O_alter_28 : decode b_O_alter 28 = .ok (.getfield 159, 3) := by decide +kernel
theorem d_O_alter_31 : decode b_O_alter 31 = .ok (.iload_n 1, 1) := by decide +kernel
theorem d_O_alter_32 : decode b_O_alter 32 = .ok (.iload_n 2, 1) := by decide +kernel
theorem d_O_alter_33 : decode b_O_alter 33 = .ok (.castore, 1) := by decide +kernel
theorem d_O_alter_34 : decode b_O_alter 34 = .ok (.iconst 1, 1) := by decide +kernel
theorem d_O_alter_35 : decode b_O_alter 35 = .ok (.ireturn, 1) := by decide +kernel
theorem d_O_cut_0 : decode b_O_cut 0 = .ok (.iload_n 1, 1) := by decide +kernel
theorem d_O_cut_1 : decode b_O_cut 1 = .ok (.ifCond .lt 14, 3) := by decide +kernel
theorem d_O_cut_4 : decode b_O_cut 4 = .ok (.iload_n 1, 1) := by decide +kernel
theorem d_O_cut_5 : decode b_O_cut 5 = .ok (.aload_n 0, 1) := by decide +kernel
theorem d_O_cut_6 : decode b_O_cut 6 = .ok (.getfield 19, 3) := by decide +kernel
theorem d_O_cut_9 : decode b_O_cut 9 = .ok (.getfield 134, 3) := by decide +kernel
theorem d_O_cut_12 : decode b_O_cut 12 = .ok (.if_icmp .le 5, 3) := by decide +kernel
theorem d_O_cut_15 : decode b_O_cut 15 = .ok (.iconst 0, 1) := by decide +kernel
theorem d_O_cut_16 : decode b_O_cut 16 = .ok (.ireturn, 1) := by decide +kernel
theorem d_O_cut_17 : decode b_O_cut 17 = .ok (.aload_n 0, 1) := by decide +kernel
theorem d_O_cut_18 : decode b_O_cut 18 = .ok (.getfield 19, 3) := by decide +kernel
theorem d_O_cut_21 : decode b_O_cut 21 = .ok (.iload_n 1, 1) := by decide +kernel
theorem d_O_cut_22 : decode b_O_cut 22 = .ok (.putfield 134, 3) := by decide +kernel
theorem d_O_cut_25 : decode b_O_cut 25 = .ok (.iconst 1, 1) := by decide +kernel
theorem d_O_cut_26 : decode b_O_cut 26 = .ok (.ireturn, 1) := by decide +kernel
theorem d_O_isPrintable_0 : decode b_O_isPrintable 0 = .ok (.iload_n 0, 1) := by decide +kernel
theorem d_O_isPrintable_1 : decode b_O_isPrintable 1 = .ok (.bipush 32, 2) := by decide +kernel
theorem d_O_isPrintable_3 : decode b_O_isPrintable 3 = .ok (.if_icmp .lt 13, 3) := by decide +kernel
theorem d_O_isPrintable_6 : decode b_O_isPrintable 6 = .ok (.iload_n 0, 1) := by decide +kernel
theorem d_O_isPrintable_7 : decode b_O_isPrintable 7 = .ok (.bipush 126, 2) := by decide +kernel
theorem d_O_isPrintable_9 : decode b_O_isPrintable 9 = .ok (.if_icmp .gt 7, 3) := by decide +kernel
theorem d_O_isPrintable_12 : decode b_O_isPrintable 12 = .ok (.iconst 1, 1) := by decide +kernel
theorem d_O_isPrintable_13 : decode b_O_isPrintable 13 = .ok (.goto 4, 3) := by decide +kernel
theorem d_O_isPrintable_16 : decode b_O_isPrintable 16 = .ok (.iconst 0, 1) := by decide +kernel
theorem d_O_isPrintable_17 : decode b_O_isPrintable 17 = .ok (.ireturn, 1) := by decide +kernel
theorem d_O_isDigit_0 : decode b_O_isDigit 0 = .ok (.iload_n 0, 1) := by decide +kernel
theorem d_O_isDigit_1 : decode b_O_isDigit 1 = .ok (.bipush 48, 2) := by decide +kernel
theorem d_O_isDigit_3 : decode b_O_isDigit 3 = .ok (.if_icmp .lt 13, 3) := by decide +kernel
theorem d_O_isDigit_6 : decode b_O_isDigit 6 = .ok (.iload_n 0, 1) := by decide +kernel
theorem d_O_isDigit_7 : decode b_O_isDigit 7 = .ok (.bipush 57, 2) := by decide +kernel
theorem d_O_isDigit_9 : decode b_O_isDigit 9 = .ok (.if_icmp .gt 7, 3) := by decide +kernel
theorem d_O_isDigit_12 : decode b_O_isDigit 12 = .ok (.iconst 1, 1) := by decide +kernel
theorem d_O_isDigit_13 : decode b_O_isDigit 13 = .ok (.goto 4, 3) := by decide +kernel
theorem d_O_isDigit_16 : decode b_O_isDigit 16 = .ok (.iconst 0, 1) := by decide +kernel
theorem d_O_isDigit_17 : decode b_O_isDigit 17 = .ok (.ireturn, 1) := by decide +kernel
theorem d_O_isLetter_0 : decode b_O_isLetter 0 = .ok (.iload_n 0, 1) := by decide +kernel
theorem d_O_isLetter_1 : decode b_O_isLetter 1 = .ok (.bipush 97, 2) := by decide +kernel
theorem d_O_isLetter_3 : decode b_O_isLetter 3 = .ok (.if_icmp .lt 13, 3) := by decide +kernel
theorem d_O_isLetter_6 : decode b_O_isLetter 6 = .ok (.iload_n 0, 1) := by decide +kernel
theorem d_O_isLetter_7 : decode b_O_isLetter 7 = .ok (.bipush 122, 2) := by decide +kernel
theorem d_O_isLetter_9 : decode b_O_isLetter 9 = .ok (.if_icmp .gt 7, 3) := by decide +kernel
theorem d_O_isLetter_12 : decode b_O_isLetter 12 = .ok (.iconst 1, 1) := by decide +kernel
theorem d_O_isLetter_13 : decode b_O_isLetter 13 = .ok (.goto 4, 3) := by decide +kernel
theorem d_O_isLetter_16 : decode b_O_isLetter 16 = .ok (.iconst 0, 1) := by decide +kernel
theorem d_O_isLetter_17 : decode b_O_isLetter 17 = .ok (.ireturn, 1) := by decide +kernel
theorem d_M_init_0 : decode b_M_init 0 = .ok (.aload_n 0, 1) := by decide +kernel
theorem d_M_init_1 : decode b_M_init 1 = .ok (.invokespecial 1, 3) := by decide +kernel
theorem d_M_init_4 : decode b_M_init 4 = .ok (.aload_n 0, 1) := by decide +kernel
theorem d_M_init_5 : decode b_M_init 5 = .ok (.bipush 16, 2) := by decide +kernel
theorem d_M_init_7 : decode b_M_init 7 = .ok (.newarray .int, 2) := by decide +kernel
theorem d_M_init_9 : decode b_M_init 9 = .ok (.putfield 7, 3) := by decide +kernel
theorem d_M_init_12 : decode b_M_init 12 = .ok (.aload_n 0, 1) := by decide +kernel
theorem d_M_init_13 : decode b_M_init 13 = .ok (.bipush 16, 2) := by decide +kernel
theorem d_M_init_15 : decode b_M_init 15 = .ok (.newarray .int, 2) := by decide +kernel
theorem d_M_init_17 : decode b_M_init 17 = .ok (.putfield 13, 3) := by decide +kernel
theorem d_M_init_20 : decode b_M_init 20 = .ok (.aload_n 0, 1) := by decide +kernel
theorem d_M_init_21 : decode b_M_init 21 = .ok (.bipush 64, 2) := by decide +kernel
theorem d_M_init_23 : decode b_M_init 23 = .ok (.newarray .int, 2) := by decide +kernel
theorem d_M_init_25 : decode b_M_init 25 = .ok (.putfield 16, 3) := by decide +kernel
theorem d_M_init_28 : decode b_M_init 28 = .ok (.aload_n 0, 1) := by decide +kernel
theorem d_M_init_29 : decode b_M_init 29 = .ok (.bipush 64, 2) := by decide +kernel
theorem d_M_init_31 : decode b_M_init 31 = .ok (.newarray .int, 2) := by decide +kernel
theorem d_M_init_33 : decode b_M_init 33 = .ok (.putfield 19, 3) := by decide +kernel
theorem d_M_init_36 : decode b_M_init 36 = .ok (.aload_n 0, 1) := by decide +kernel
theorem d_M_init_37 : decode b_M_init 37 = .ok (.bipush 96, 2) := by decide +kernel
theorem d_M_init_39 : decode b_M_init 39 = .ok (.newarray .int, 2) := by decide +kernel
theorem d_M_init_41 : decode b_M_init 41 = .ok (.putfield 22, 3) := by decide +kernel
theorem d_M_init_44 : decode b_M_init 44 = .ok (.aload_n 0, 1) := by decide +kernel
theorem d_M_init_45 : decode b_M_init 45 = .ok (.bipush 32, 2) := by decide +kernel
theorem d_M_init_47 : decode b_M_init 47 = .ok (.newarray .boolean, 2) := by decide +kernel
theorem d_M_init_49 : decode b_M_init 49 = .ok (.putfield 25, 3) := by decide +kernel
theorem d_M_init_52 : decode b_M_init 52 = .ok (.aload_n 0, 1) := by decide +kernel
theorem d_M_init_53 : decode b_M_init 53 = .ok (.sipush 1600, 3) := by decide +kernel
theorem d_M_init_56 : decode b_M_init 56 = .ok (.newarray .char, 2) := by decide +kernel
theorem d_M_init_58 : decode b_M_init 58 = .ok (.putfield 29, 3) := by decide +kernel
theorem d_M_init_61 : decode b_M_init 61 = .ok (.aload_n 0, 1) := by decide +kernel
theorem d_M_init_62 : decode b_M_init 62 = .ok (.sipush 420, 3) := by decide +kernel
theorem d_M_init_65 : decode b_M_init 65 = .ok (.newarray .int, 2) := by decide +kernel
theorem d_M_init_67 : decode b_M_init 67 = .ok (.putfield 33, 3) := by decide +kernel
theorem d_M_init_70 : decode b_M_init 70 = .ok (.aload_n 0, 1) := by decide +kernel
theorem d_M_init_71 : decode b_M_init 71 = .ok (.sipush 420, 3) := by decide +kernel
theorem d_M_init_74 : decode b_M_init 74 = .ok (.newarray .int, 2) := by decide +kernel
theorem d_M_init_76 : decode b_M_init 76 = .ok (.putfield 36, 3) := by decide +kernel
theorem d_M_init_79 : decode b_M_init 79 = .ok (.aload_n 0, 1) := by decide +kernel
theorem d_M_init_80 : decode b_M_init 80 = .ok (.sipush 420, 3) := by decide +kernel
theorem d_M_init_83 : decode b_M_init 83 = .ok (.newarray .int, 2) := by decide +kernel
theorem d_M_init_85 : decode b_M_init 85 = .ok (.putfield 39, 3) := by decide +kernel
theorem d_M_init_88 : decode b_M_init 88 = .ok (.aload_n 0, 1) := by decide +kernel
theorem d_M_init_89 : decode b_M_init 89 = .ok (.sipush 420, 3) := by decide +kernel
theorem d_M_init_92 : decode b_M_init 92 = .ok (.newarray .int, 2) := by decide +kernel
theorem d_M_init_94 : decode b_M_init 94 = .ok (.putfield 42, 3) := by decide +kernel
theorem d_M_init_97 : decode b_M_init 97 = .ok (.aload_n 0, 1) := by decide +kernel
theorem d_M_init_98 : decode b_M_init 98 = .ok (.sipush 420, 3) := by decide +kernel
theorem d_M_init_101 : decode b_M_init 101 = .ok (.newarray .int, 2) := by decide +kernel
theorem d_M_init_103 : decode b_M_init 103 = .ok (.putfield 45, 3) := by decide +kernel
theorem d_M_init_106 : decode b_M_init 106 = .ok (.aload_n 0, 1) := by decide +kernel
theorem d_M_init_107 : decode b_M_init 107 = .ok (.sipush 5040, 3) := by decide +kernel
theorem d_M_init_110 : decode b_M_init 110 = .ok (.newarray .char, 2) := by decide +kernel
theorem d_M_init_112 : decode b_M_init 112 = .ok (.putfield 48, 3) := by decide +kernel
theorem d_M_init_115 : decode b_M_init 115 = .ok (.aload_n 0, 1) := by decide +kernel
theorem d_M_init_116 : decode b_M_init 116 = .ok (.sipush 420, 3) := by decide +kernel
theorem d_M_init_119 : decode b_M_init 119 = .ok (.newarray .int, 2) := by decide +kernel
theorem d_M_init_121 : decode b_M_init 121 = .ok (.putfield 51, 3) := by decide +kernel
theorem d_M_init_124 : decode b_M_init 124 = .ok (.aload_n 0, 1) := by decide +kernel
theorem d_M_init_125 : decode b_M_init 125 = .ok (.sipush 420, 3) := by decide +kernel
theorem d_M_init_128 : decode b_M_init 128 = .ok (.newarray .int, 2) := by decide +kernel
theorem d_M_init_130 : decode b_M_init 130 = .ok (.putfield 54, 3) := by decide +kernel
theorem d_M_init_133 : decode b_M_init 133 = .ok (.aload_n 0, 1) := by decide +kernel
theorem d_M_init_134 : decode b_M_init 134 = .ok (.sipush 320, 3) := by decide +kernel
theorem d_M_init_137 : decode b_M_init 137 = .ok (.newarray .int, 2) := by decide +kernel
theorem d_M_init_139 : decode b_M_init 139 = .ok (.putfield 57, 3) := by decide +kernel
theorem d_M_init_142 : decode b_M_init 142 = .ok (.aload_n 0, 1) := by decide +kernel
theorem d_M_init_143 : decode b_M_init 143 = .ok (.sipush 320, 3) := by decide +kernel
theorem d_M_init_146 : decode b_M_init 146 = .ok (.newarray .int, 2) := by decide +kernel
theorem d_M_init_148 : decode b_M_init 148 = .ok (.putfield 60, 3) := by decide +kernel
theorem d_M_init_151 : decode b_M_init 151 = .ok (.aload_n 0, 1) := by decide +kernel
theorem d_M_init_152 : decode b_M_init 152 = .ok (.sipush 320, 3) := by decide +kernel
theorem d_M_init_155 : decode b_M_init 155 = .ok (.newarray .int, 2) := by decide +kernel
theorem d_M_init_157 : decode b_M_init 157 = .ok (.putfield 63, 3) := by decide +kernel
theorem d_M_init_160 : decode b_M_init 160 = .ok (.aload_n 0, 1) := by decide +kernel
theorem d_M_init_161 : decode b_M_init 161 = .ok (.bipush 16, 2) := by decide +kernel
theorem d_M_init_163 : decode b_M_init 163 = .ok (.newarray .boolean, 2) := by decide +kernel
theorem d_M_init_165 : decode b_M_init 165 = .ok (.putfield 66, 3) := by decide +kernel
theorem d_M_init_168 : decode b_M_init 168 = .ok (.aload_n 0, 1) := by decide +kernel
theorem d_M_init_169 : decode b_M_init 169 = .ok (.bipush 16, 2) := by decide +kernel
theorem d_M_init_171 : decode b_M_init 171 = .ok (.newarray .int, 2) := by decide +kernel
theorem d_M_init_173 : decode b_M_init 173 = .ok (.putfield 69, 3) := by decide +kernel
theorem d_M_init_176 : decode b_M_init 176 = .ok (.aload_n 0, 1) := by decide +kernel
theorem d_M_init_177 : decode b_M_init 177 = .ok (.bipush 16, 2) := by decide +kernel
theorem d_M_init_179 : decode b_M_init 179 = .ok (.newarray .int, 2) := by decide +kernel
theorem d_M_init_181 : decode b_M_init 181 = .ok (.putfield 72, 3) := by decide +kernel
theorem d_M_init_184 : decode b_M_init 184 = .ok (.aload_n 0, 1) := by decide +kernel
theorem d_M_init_185 : decode b_M_init 185 = .ok (.bipush 17, 2) := by decide +kernel
theorem d_M_init_187 : decode b_M_init 187 = .ok (.newarray .int, 2) := by decide +kernel
theorem d_M_init_189 : decode b_M_init 189 = .ok (.putfield 75, 3) := by decide +kernel
theorem d_M_init_192 : decode b_M_init 192 = .ok (.aload_n 0, 1) := by decide +kernel
theorem d_M_init_193 : decode b_M_init 193 = .ok (.bipush 96, 2) := by decide +kernel
theorem d_M_init_195 : decode b_M_init 195 = .ok (.newarray .int, 2) := by decide +kernel
theorem d_M_init_197 : decode b_M_init 197 = .ok (.putfield 78, 3) := by decide +kernel
theorem d_M_init_200 : decode b_M_init 200 = .ok (.aload_n 0, 1) := by decide +kernel
theorem d_M_init_201 : decode b_M_init 201 = .ok (.bipush 16, 2) := by decide +kernel
theorem d_M_init_203 : decode b_M_init 203 = .ok (.newarray .int, 2) := by decide +kernel
theorem d_M_init_205 : decode b_M_init 205 = .ok (.putfield 81, 3) := by decide +kernel
theorem d_M_init_208 : decode b_M_init 208 = .ok (.aload_n 0, 1) := by decide +kernel
theorem d_M_init_209 : decode b_M_init 209 = .ok (.bipush 16, 2) := by decide +kernel
theorem d_M_init_211 : decode b_M_init 211 = .ok (.newarray .int, 2) := by decide +kernel
theorem d_M_init_213 : decode b_M_init 213 = .ok (.putfield 84, 3) := by decide +kernel
theorem d_M_init_216 : decode b_M_init 216 = .ok (.return_, 1) := by decide +kernel
theorem d_M_object_0 : decode b_M_object 0 = .ok (.iload_n 1, 1) := by decide +kernel
theorem d_M_object_1 : decode b_M_object 1 = .ok (.ifCond .lt 15, 3) := by decide +kernel
theorem d_M_object_4 : decode b_M_object 4 = .ok (.iload_n 1, 1) := by decide +kernel
theorem d_M_object_5 : decode b_M_object 5 = .ok (.aload_n 0, 1) := by decide +kernel
theorem d_M_object_6 : decode b_M_object 6 = .ok (.getfield 87, 3) := by decide +kernel
theorem d_M_object_9 : decode b_M_object 9 = .ok (.if_icmp .ge 7, 3) := by decide +kernel
theorem d_M_object_12 : decode b_M_object 12 = .ok (.iconst 1, 1) := by decide +kernel
theorem d_M_object_13 : decode b_M_object 13 = .ok (.goto 4, 3) := by decide +kernel
theorem d_M_object_16 : decode b_M_object 16 = .ok (.iconst 0, 1) := by decide +kernel
theorem d_M_object_17 : decode b_M_object 17 = .ok (.ireturn, 1) := by decide +kernel
theorem d_M_slotThere_0 : decode b_M_slotThere 0 = .ok (.aload_n 0, 1) := by decide +kernel
theorem d_M_slotThere_1 : decode b_M_slotThere 1 = .ok (.iload_n 1, 1) := by decide +kernel
theorem d_M_slotThere_2 : decode b_M_slotThere 2 = .ok (.invokevirtual 91, 3) := by decide +kernel
theorem d_M_slotThere_5 : decode b_M_slotThere 5 = .ok (.ifCond .eq 31, 3) := by decide +kernel
theorem d_M_slotThere_8 : decode b_M_slotThere 8 = .ok (.aload_n 0, 1) := by decide +kernel
theorem d_M_slotThere_9 : decode b_M_slotThere 9 = .ok (.getfield 7, 3) := by decide +kernel
theorem d_M_slotThere_12 : decode b_M_slotThere 12 = .ok (.iload_n 1, 1) := by decide +kernel
theorem d_M_slotThere_13 : decode b_M_slotThere 13 = .ok (.iaload, 1) := by decide +kernel
theorem d_M_slotThere_14 : decode b_M_slotThere 14 = .ok (.iconst 2, 1) := by decide +kernel
theorem d_M_slotThere_15 : decode b_M_slotThere 15 = .ok (.if_icmp .eq 21, 3) := by decide +kernel
theorem d_M_slotThere_18 : decode b_M_slotThere 18 = .ok (.iload_n 2, 1) := by decide +kernel
theorem d_M_slotThere_19 : decode b_M_slotThere 19 = .ok (.ifCond .lt 17, 3) := by decide +kernel
theorem d_M_slotThere_22 : decode b_M_slotThere 22 = .ok (.iload_n 2, 1) := by decide +kernel
theorem d_M_slotThere_23 : decode b_M_slotThere 23 = .ok (.aload_n 0, 1) := by decide +kernel
theorem d_M_slotThere_24 : decode b_M_slotThere 24 = .ok (.getfield 13, 3) := by decide +kernel
theorem d_M_slotThere_27 : decode b_M_slotThere 27 = .ok (.iload_n 1, 1) := by decide +kernel
theorem d_M_slotThere_28 : decode b_M_slotThere 28 = .ok (.iaload, 1) := by decide +kernel
theorem d_M_slotThere_29 : decode b_M_slotThere 29 = .ok (.if_icmp .ge 7, 3) := by decide +kernel
theorem d_M_slotThere_32 : decode b_M_slotThere 32 = .ok (.iconst 1, 1) := by decide +kernel
theorem d_M_slotThere_33 : decode b_M_slotThere 33 = .ok (.goto 4, 3) := by decide +kernel
theorem d_M_slotThere_36 : decode b_M_slotThere 36 = .ok (.iconst 0, 1) := by decide +kernel
theorem d_M_slotThere_37 : decode b_M_slotThere 37 = .ok (.ireturn, 1) := by decide +kernel
theorem d_M_make_0 : decode b_M_make 0 = .ok (.iload_n 1, 1) := by decide +kernel
theorem d_M_make_1 : decode b_M_make 1 = .ok (.ifCond .lt 31, 3) := by decide +kernel
theorem d_M_make_4 : decode b_M_make 4 = .ok (.iload_n 1, 1) := by decide +kernel
theorem d_M_make_5 : decode b_M_make 5 = .ok (.iconst 2, 1) := by decide +kernel
theorem d_M_make_6 : decode b_M_make 6 = .ok (.if_icmp .gt 26, 3) := by decide +kernel
theorem d_M_make_9 : decode b_M_make 9 = .ok (.iload_n 1, 1) := by decide +kernel
theorem d_M_make_10 : decode b_M_make 10 = .ok (.iconst 1, 1) := by decide +kernel
theorem d_M_make_11 : decode b_M_make 11 = .ok (.if_icmp .ne 12, 3) := by decide +kernel
theorem d_M_make_14 : decode b_M_make 14 = .ok (.iload_n 2, 1) := by decide +kernel
theorem d_M_make_15 : decode b_M_make 15 = .ok (.ifCond .lt 17, 3) := by decide +kernel
theorem d_M_make_18 : decode b_M_make 18 = .ok (.iload_n 2, 1) := by decide +kernel
theorem d_M_make_19 : decode b_M_make 19 = .ok (.iconst 4, 1) := by decide +kernel
theorem d_M_make_20 : decode b_M_make 20 = .ok (.if_icmp .gt 12, 3) := by decide +kernel
theorem d_M_make_23 : decode b_M_make 23 = .ok (.aload_n 0, 1) := by decide +kernel
theorem d_M_make_24 : decode b_M_make 24 = .ok (.getfield 87, 3) := by decide +kernel
theorem d_M_make_27 : decode b_M_make 27 = .ok (.bipush 16, 2) := by decide +kernel
theorem d_M_make_29 : decode b_M_make 29 = .ok (.if_icmp .ne 5, 3) := by decide +kernel
theorem d_M_make_32 : decode b_M_make 32 = .ok (.iconst (-1), 1) := by decide +kernel
theorem d_M_make_33 : decode b_M_make 33 = .ok (.ireturn, 1) := by decide +kernel
theorem d_M_make_34 : decode b_M_make 34 = .ok (.aload_n 0, 1) := by decide +kernel
theorem d_M_make_35 : decode b_M_make 35 = .ok (.getfield 7, 3) := by decide +kernel
theorem d_M_make_38 : decode b_M_make 38 = .ok (.aload_n 0, 1) := by decide +kernel
theorem d_M_make_39 : decode b_M_make 39 = .ok (.getfield 87, 3) := by decide +kernel
theorem d_M_make_42 : decode b_M_make 42 = .ok (.iload_n 1, 1) := by decide +kernel
theorem d_M_make_43 : decode b_M_make 43 = .ok (.iastore, 1) := by decide +kernel
theorem d_M_make_44 : decode b_M_make 44 = .ok (.aload_n 0, 1) := by decide +kernel
theorem d_M_make_45 : decode b_M_make 45 = .ok (.getfield 13, 3) := by decide +kernel
theorem d_M_make_48 : decode b_M_make 48 = .ok (.aload_n 0, 1) := by decide +kernel
theorem d_M_make_49 : decode b_M_make 49 = .ok (.getfield 87, 3) := by decide +kernel
theorem d_M_make_52 : decode b_M_make 52 = .ok (.iload_n 1, 1) := by decide +kernel
theorem d_M_make_53 : decode b_M_make 53 = .ok (.ifCond .ne 7, 3) := by decide +kernel
theorem d_M_make_56 : decode b_M_make 56 = .ok (.iconst 2, 1) := by decide +kernel
theorem d_M_make_57 : decode b_M_make 57 = .ok (.goto 13, 3) := by decide +kernel
theorem d_M_make_60 : decode b_M_make 60 = .ok (.iload_n 1, 1) := by decide +kernel
theorem d_M_make_61 : decode b_M_make 61 = .ok (.iconst 1, 1) := by decide +kernel
theorem d_M_make_62 : decode b_M_make 62 = .ok (.if_icmp .ne 7, 3) := by decide +kernel
theorem d_M_make_65 : decode b_M_make 65 = .ok (.iload_n 2, 1) := by decide +kernel
theorem d_M_make_66 : decode b_M_make 66 = .ok (.goto 4, 3) := by decide +kernel
theorem d_M_make_69 : decode b_M_make 69 = .ok (.iconst 0, 1) := by decide +kernel
theorem d_M_make_70 : decode b_M_make 70 = .ok (.iastore, 1) := by decide +kernel
theorem d_M_make_71 : decode b_M_make 71 = .ok (.iconst 0, 1) := by decide +kernel
theorem d_M_make_72 : decode b_M_make 72 = .ok (.istore_n 3, 1) := by decide +kernel
theorem d_M_make_73 : decode b_M_make 73 = .ok (.iload_n 3, 1) := by decide +kernel
theorem d_M_make_74 : decode b_M_make 74 = .ok (.iconst 4, 1) := by decide +kernel
theorem d_M_make_75 : decode b_M_make 75 = .ok (.if_icmp .ge 23, 3) := by decide +kernel
theorem d_M_make_78 : decode b_M_make 78 = .ok (.aload_n 0, 1) := by decide +kernel
theorem d_M_make_79 : decode b_M_make 79 = .ok (.getfield 16, 3) := by decide +kernel
theorem d_M_make_82 : decode b_M_make 82 = .ok (.iconst 4, 1) := by decide +kernel
theorem d_M_make_83 : decode b_M_make 83 = .ok (.aload_n 0, 1) := by decide +kernel
theorem d_M_make_84 : decode b_M_make 84 = .ok (.getfield 87, 3) := by decide +kernel
theorem d_M_make_87 : decode b_M_make 87 = .ok (.imul, 1) := by decide +kernel
theorem d_M_make_88 : decode b_M_make 88 = .ok (.iload_n 3, 1) := by decide +kernel
theorem d_M_make_89 : decode b_M_make 89 = .ok (.iadd, 1) := by decide +kernel
theorem d_M_make_90 : decode b_M_make 90 = .ok (.iconst 0, 1) := by decide +kernel
theorem d_M_make_91 : decode b_M_make 91 = .ok (.iastore, 1) := by decide +kernel
theorem d_M_make_92 : decode b_M_make 92 = .ok (.iinc 3 1, 3) := by decide +kernel
theorem d_M_make_95 : decode b_M_make 95 = .ok (.goto (-22), 3) := by decide +kernel
theorem d_M_make_98 : decode b_M_make 98 = .ok (.aload_n 0, 1) := by decide +kernel
theorem d_M_make_99 : decode b_M_make 99 = .ok (.dup, 1) := by decide +kernel
theorem d_M_make_100 : decode b_M_make 100 = .ok (.getfield 87, 3) := by decide +kernel
theorem d_M_make_103 : decode b_M_make 103 = .ok (.iconst 1, 1) := by decide +kernel
theorem d_M_make_104 : decode b_M_make 104 = .ok (.iadd, 1) := by decide +kernel
theorem d_M_make_105 : decode b_M_make 105 = .ok (.putfield 87, 3) := by decide +kernel
theorem d_M_make_108 : decode b_M_make 108 = .ok (.aload_n 0, 1) := by decide +kernel
theorem d_M_make_109 : decode b_M_make 109 = .ok (.getfield 87, 3) := by decide +kernel
theorem d_M_make_112 : decode b_M_make 112 = .ok (.iconst 1, 1) := by decide +kernel
theorem d_M_make_113 : decode b_M_make 113 = .ok (.isub, 1) := by decide +kernel
theorem d_M_make_114 : decode b_M_make 114 = .ok (.ireturn, 1) := by decide +kernel
theorem d_M_type_0 : decode b_M_type 0 = .ok (.aload_n 0, 1) := by decide +kernel
theorem d_M_type_1 : decode b_M_type 1 = .ok (.iload_n 1, 1) := by decide +kernel
theorem d_M_type_2 : decode b_M_type 2 = .ok (.invokevirtual 91, 3) := by decide +kernel
theorem d_M_type_5 : decode b_M_type 5 = .ok (.ifCond .eq 36, 3) := by decide +kernel
theorem d_M_type_8 : decode b_M_type 8 = .ok (.aload_n 0, 1) := by decide +kernel
theorem d_M_type_9 : decode b_M_type 9 = .ok (.getfield 7, 3) := by decide +kernel
theorem d_M_type_12 : decode b_M_type 12 = .ok (.iload_n 1, 1) := by decide +kernel
theorem d_M_type_13 : decode b_M_type 13 = .ok (.iaload, 1) := by decide +kernel
theorem d_M_type_14 : decode b_M_type 14 = .ok (.iconst 2, 1) := by decide +kernel
theorem d_M_type_15 : decode b_M_type 15 = .ok (.if_icmp .ne 26, 3) := by decide +kernel
theorem d_M_type_18 : decode b_M_type 18 = .ok (.iload_n 2, 1) := by decide +kernel
theorem d_M_type_19 : decode b_M_type 19 = .ok (.bipush 32, 2) := by decide +kernel
theorem d_M_type_21 : decode b_M_type 21 = .ok (.if_icmp .lt 20, 3) := by decide +kernel
theorem d_M_type_24 : decode b_M_type 24 = .ok (.iload_n 2, 1) := by decide +kernel
theorem d_M_type_25 : decode b_M_type 25 = .ok (.bipush 126, 2) := by decide +kernel
theorem d_M_type_27 : decode b_M_type 27 = .ok (.if_icmp .gt 14, 3) := by decide +kernel
theorem d_M_type_30 : decode b_M_type 30 = .ok (.aload_n 0, 1) := by decide +kernel
theorem d_M_type_31 : decode b_M_type 31 = .ok (.getfield 13, 3) := by decide +kernel
theorem d_M_type_34 : decode b_M_type 34 = .ok (.iload_n 1, 1) := by decide +kernel
theorem d_M_type_35 : decode b_M_type 35 = .ok (.iaload, 1) := by decide +kernel
theorem d_M_type_36 : decode b_M_type 36 = .ok (.bipush 6, 2) := by decide +kernel
theorem d_M_type_38 : decode b_M_type 38 = .ok (.if_icmp .ne 5, 3) := by decide +kernel
theorem d_M_type_41 : decode b_M_type 41 = .ok (.iconst 0, 1) := by decide +kernel
theorem d_M_type_42 : decode b_M_type 42 = .ok (.ireturn, 1) := by decide +kernel
theorem d_M_type_43 : decode b_M_type 43 = .ok (.aload_n 0, 1) := by decide +kernel
theorem d_M_type_44 : decode b_M_type 44 = .ok (.getfield 22, 3) := by decide +kernel
theorem d_M_type_47 : decode b_M_type 47 = .ok (.bipush 6, 2) := by decide +kernel
theorem d_M_type_49 : decode b_M_type 49 = .ok (.iload_n 1, 1) := by decide +kernel
theorem d_M_type_50 : decode b_M_type 50 = .ok (.imul, 1) := by decide +kernel
theorem d_M_type_51 : decode b_M_type 51 = .ok (.aload_n 0, 1) := by decide +kernel
theorem d_M_type_52 : decode b_M_type 52 = .ok (.getfield 13, 3) := by decide +kernel
theorem d_M_type_55 : decode b_M_type 55 = .ok (.iload_n 1, 1) := by decide +kernel
theorem d_M_type_56 : decode b_M_type 56 = .ok (.iaload, 1) := by decide +kernel
theorem d_M_type_57 : decode b_M_type 57 = .ok (.iadd, 1) := by decide +kernel
theorem d_M_type_58 : decode b_M_type 58 = .ok (.iload_n 2, 1) := by decide +kernel
theorem d_M_type_59 : decode b_M_type 59 = .ok (.iastore, 1) := by decide +kernel
theorem d_M_type_60 : decode b_M_type 60 = .ok (.aload_n 0, 1) := by decide +kernel
theorem d_M_type_61 : decode b_M_type 61 = .ok (.getfield 13, 3) := by decide +kernel
theorem d_M_type_64 : decode b_M_type 64 = .ok (.iload_n 1, 1) := by decide +kernel
theorem d_M_type_65 : decode b_M_type 65 = .ok (.dup2, 1) := by decide +kernel
theorem d_M_type_66 : decode b_M_type 66 = .ok (.iaload, 1) := by decide +kernel
theorem d_M_type_67 : decode b_M_type 67 = .ok (.iconst 1, 1) := by decide +kernel
theorem d_M_type_68 : decode b_M_type 68 = .ok (.iadd, 1) := by decide +kernel
theorem d_M_type_69 : decode b_M_type 69 = .ok (.iastore, 1) := by decide +kernel
theorem d_M_type_70 : decode b_M_type 70 = .ok (.iconst 1, 1) := by decide +kernel
theorem d_M_type_71 : decode b_M_type 71 = .ok (.ireturn, 1) := by decide +kernel
theorem d_M_put_0 : decode b_M_put 0 = .ok (.aload_n 0, 1) := by decide +kernel
theorem d_M_put_1 : decode b_M_put 1 = .ok (.iload_n 1, 1) := by decide +kernel
theorem d_M_put_2 : decode b_M_put 2 = .ok (.iload_n 2, 1) := by decide +kernel
theorem d_M_put_3 : decode b_M_put 3 = .ok (.invokevirtual 95, 3) := by decide +kernel
theorem d_M_put_6 : decode b_M_put 6 = .ok (.ifCond .ne 5, 3) := by decide +kernel
theorem d_M_put_9 : decode b_M_put 9 = .ok (.iconst 0, 1) := by decide +kernel
theorem d_M_put_10 : decode b_M_put 10 = .ok (.ireturn, 1) := by decide +kernel
theorem d_M_put_11 : decode b_M_put 11 = .ok (.aload_n 0, 1) := by decide +kernel
theorem d_M_put_12 : decode b_M_put 12 = .ok (.getfield 16, 3) := by decide +kernel
theorem d_M_put_15 : decode b_M_put 15 = .ok (.iconst 4, 1) := by decide +kernel
theorem d_M_put_16 : decode b_M_put 16 = .ok (.iload_n 1, 1) := by decide +kernel
theorem d_M_put_17 : decode b_M_put 17 = .ok (.imul, 1) := by decide +kernel
theorem d_M_put_18 : decode b_M_put 18 = .ok (.iload_n 2, 1) := by decide +kernel
theorem d_M_put_19 : decode b_M_put 19 = .ok (.iadd, 1) := by decide +kernel
theorem d_M_put_20 : decode b_M_put 20 = .ok (.iconst 1, 1) := by decide +kernel
theorem d_M_put_21 : decode b_M_put 21 = .ok (.iastore, 1) := by decide +kernel
theorem d_M_put_22 : decode b_M_put 22 = .ok (.aload_n 0, 1) := by decide +kernel
theorem d_M_put_23 : decode b_M_put 23 = .ok (.getfield 19, 3) := by decide +kernel
theorem d_M_put_26 : decode b_M_put 26 = .ok (.iconst 4, 1) := by decide +kernel
theorem d_M_put_27 : decode b_M_put 27 = .ok (.iload_n 1, 1) := by decide +kernel
theorem d_M_put_28 : decode b_M_put 28 = .ok (.imul, 1) := by decide +kernel
theorem d_M_put_29 : decode b_M_put 29 = .ok (.iload_n 2, 1) := by decide +kernel
theorem d_M_put_30 : decode b_M_put 30 = .ok (.iadd, 1) := by decide +kernel
theorem d_M_put_31 : decode b_M_put 31 = .ok (.iload_n 3, 1) := by decide +kernel
theorem d_M_put_32 : decode b_M_put 32 = .ok (.iastore, 1) := by decide +kernel
theorem d_M_put_33 : decode b_M_put 33 = .ok (.iconst 1, 1) := by decide +kernel
theorem d_M_put_34 : decode b_M_put 34 = .ok (.ireturn, 1) := by decide +kernel
theorem d_M_link_0 : decode b_M_link 0 = .ok (.aload_n 0, 1) := by decide +kernel
theorem d_M_link_1 : decode b_M_link 1 = .ok (.iload_n 1, 1) := by decide +kernel
theorem d_M_link_2 : decode b_M_link 2 = .ok (.iload_n 2, 1) := by decide +kernel
theorem d_M_link_3 : decode b_M_link 3 = .ok (.invokevirtual 95, 3) := by decide +kernel
theorem d_M_link_6 : decode b_M_link 6 = .ok (.ifCond .eq 16, 3) := by decide +kernel
theorem d_M_link_9 : decode b_M_link 9 = .ok (.iload_n 3, 1) := by decide +kernel
theorem d_M_link_10 : decode b_M_link 10 = .ok (.iconst (-1), 1) := by decide +kernel
theorem d_M_link_11 : decode b_M_link 11 = .ok (.if_icmp .eq 13, 3) := by decide +kernel
theorem d_M_link_14 : decode b_M_link 14 = .ok (.aload_n 0, 1) := by decide +kernel
theorem d_M_link_15 : decode b_M_link 15 = .ok (.iload_n 3, 1) := by decide +kernel
theorem d_M_link_16 : decode b_M_link 16 = .ok (.invokevirtual 91, 3) := by decide +kernel
theorem d_M_link_19 : decode b_M_link 19 = .ok (.ifCond .ne 5, 3) := by decide +kernel
theorem d_M_link_22 : decode b_M_link 22 = .ok (.iconst 0, 1) := by decide +kernel
theorem d_M_link_23 : decode b_M_link 23 = .ok (.ireturn, 1) := by decide +kernel
theorem d_M_link_24 : decode b_M_link 24 = .ok (.aload_n 0, 1) := by decide +kernel
theorem d_M_link_25 : decode b_M_link 25 = .ok (.getfield 16, 3) := by decide +kernel
theorem d_M_link_28 : decode b_M_link 28 = .ok (.iconst 4, 1) := by decide +kernel
theorem d_M_link_29 : decode b_M_link 29 = .ok (.iload_n 1, 1) := by decide +kernel
theorem d_M_link_30 : decode b_M_link 30 = .ok (.imul, 1) := by decide +kernel
theorem d_M_link_31 : decode b_M_link 31 = .ok (.iload_n 2, 1) := by decide +kernel
theorem d_M_link_32 : decode b_M_link 32 = .ok (.iadd, 1) := by decide +kernel
theorem d_M_link_33 : decode b_M_link 33 = .ok (.iload_n 3, 1) := by decide +kernel
theorem d_M_link_34 : decode b_M_link 34 = .ok (.iconst (-1), 1) := by decide +kernel
theorem d_M_link_35 : decode b_M_link 35 = .ok (.if_icmp .ne 7, 3) := by decide +kernel
theorem d_M_link_38 : decode b_M_link 38 = .ok (.iconst 0, 1) := by decide +kernel
theorem d_M_link_39 : decode b_M_link 39 = .ok (.goto 4, 3) := by decide +kernel
theorem d_M_link_42 : decode b_M_link 42 = .ok (.iconst 2, 1) := by decide +kernel
theorem d_M_link_43 : decode b_M_link 43 = .ok (.iastore, 1) := by decide +kernel
theorem d_M_link_44 : decode b_M_link 44 = .ok (.aload_n 0, 1) := by decide +kernel
theorem d_M_link_45 : decode b_M_link 45 = .ok (.getfield 19, 3) := by decide +kernel
theorem d_M_link_48 : decode b_M_link 48 = .ok (.iconst 4, 1) := by decide +kernel
theorem d_M_link_49 : decode b_M_link 49 = .ok (.iload_n 1, 1) := by decide +kernel
theorem d_M_link_50 : decode b_M_link 50 = .ok (.imul, 1) := by decide +kernel
theorem d_M_link_51 : decode b_M_link 51 = .ok (.iload_n 2, 1) := by decide +kernel
theorem d_M_link_52 : decode b_M_link 52 = .ok (.iadd, 1) := by decide +kernel
theorem d_M_link_53 : decode b_M_link 53 = .ok (.iload_n 3, 1) := by decide +kernel
theorem d_M_link_54 : decode b_M_link 54 = .ok (.iastore, 1) := by decide +kernel
theorem d_M_link_55 : decode b_M_link 55 = .ok (.iconst 1, 1) := by decide +kernel
theorem d_M_link_56 : decode b_M_link 56 = .ok (.ireturn, 1) := by decide +kernel
theorem d_M_objects_0 : decode b_M_objects 0 = .ok (.aload_n 0, 1) := by decide +kernel
theorem d_M_objects_1 : decode b_M_objects 1 = .ok (.getfield 87, 3) := by decide +kernel
theorem d_M_objects_4 : decode b_M_objects 4 = .ok (.ireturn, 1) := by decide +kernel
theorem d_M_kind_0 : decode b_M_kind 0 = .ok (.aload_n 0, 1) := by decide +kernel
theorem d_M_kind_1 : decode b_M_kind 1 = .ok (.iload_n 1, 1) := by decide +kernel
theorem d_M_kind_2 : decode b_M_kind 2 = .ok (.invokevirtual 91, 3) := by decide +kernel
theorem d_M_kind_5 : decode b_M_kind 5 = .ok (.ifCond .eq 12, 3) := by decide +kernel
theorem d_M_kind_8 : decode b_M_kind 8 = .ok (.aload_n 0, 1) := by decide +kernel
theorem d_M_kind_9 : decode b_M_kind 9 = .ok (.getfield 7, 3) := by decide +kernel
theorem d_M_kind_12 : decode b_M_kind 12 = .ok (.iload_n 1, 1) := by decide +kernel
theorem d_M_kind_13 : decode b_M_kind 13 = .ok (.iaload, 1) := by decide +kernel
theorem d_M_kind_14 : decode b_M_kind 14 = .ok (.goto 4, 3) := by decide +kernel
theorem d_M_kind_17 : decode b_M_kind 17 = .ok (.iconst (-1), 1) := by decide +kernel
theorem d_M_kind_18 : decode b_M_kind 18 = .ok (.ireturn, 1) := by decide +kernel
theorem d_M_size_0 : decode b_M_size 0 = .ok (.aload_n 0, 1) := by decide +kernel
theorem d_M_size_1 : decode b_M_size 1 = .ok (.iload_n 1, 1) := by decide +kernel
theorem d_M_size_2 : decode b_M_size 2 = .ok (.invokevirtual 91, 3) := by decide +kernel
theorem d_M_size_5 : decode b_M_size 5 = .ok (.ifCond .eq 12, 3) := by decide +kernel
theorem d_M_size_8 : decode b_M_size 8 = .ok (.aload_n 0, 1) := by decide +kernel
theorem d_M_size_9 : decode b_M_size 9 = .ok (.getfield 13, 3) := by decide +kernel
theorem d_M_size_12 : decode b_M_size 12 = .ok (.iload_n 1, 1) := by decide +kernel
theorem d_M_size_13 : decode b_M_size 13 = .ok (.iaload, 1) := by decide +kernel
theorem d_M_size_14 : decode b_M_size 14 = .ok (.goto 4, 3) := by decide +kernel
theorem d_M_size_17 : decode b_M_size 17 = .ok (.iconst (-1), 1) := by decide +kernel
theorem d_M_size_18 : decode b_M_size 18 = .ok (.ireturn, 1) := by decide +kernel
theorem d_M_holds_0 : decode b_M_holds 0 = .ok (.aload_n 0, 1) := by decide +kernel
theorem d_M_holds_1 : decode b_M_holds 1 = .ok (.iload_n 1, 1) := by decide +kernel
theorem d_M_holds_2 : decode b_M_holds 2 = .ok (.iload_n 2, 1) := by decide +kernel
theorem d_M_holds_3 : decode b_M_holds 3 = .ok (.invokevirtual 95, 3) := by decide +kernel
theorem d_M_holds_6 : decode b_M_holds 6 = .ok (.ifCond .eq 16, 3) := by decide +kernel
theorem d_M_holds_9 : decode b_M_holds 9 = .ok (.aload_n 0, 1) := by decide +kernel
theorem d_M_holds_10 : decode b_M_holds 10 = .ok (.getfield 16, 3) := by decide +kernel
theorem d_M_holds_13 : decode b_M_holds 13 = .ok (.iconst 4, 1) := by decide +kernel
theorem d_M_holds_14 : decode b_M_holds 14 = .ok (.iload_n 1, 1) := by decide +kernel
theorem d_M_holds_15 : decode b_M_holds 15 = .ok (.imul, 1) := by decide +kernel
theorem d_M_holds_16 : decode b_M_holds 16 = .ok (.iload_n 2, 1) := by decide +kernel
theorem d_M_holds_17 : decode b_M_holds 17 = .ok (.iadd, 1) := by decide +kernel
theorem d_M_holds_18 : decode b_M_holds 18 = .ok (.iaload, 1) := by decide +kernel
theorem d_M_holds_19 : decode b_M_holds 19 = .ok (.goto 4, 3) := by decide +kernel
theorem d_M_holds_22 : decode b_M_holds 22 = .ok (.iconst (-1), 1) := by decide +kernel
theorem d_M_holds_23 : decode b_M_holds 23 = .ok (.ireturn, 1) := by decide +kernel
theorem d_M_value_0 : decode b_M_value 0 = .ok (.aload_n 0, 1) := by decide +kernel
theorem d_M_value_1 : decode b_M_value 1 = .ok (.iload_n 1, 1) := by decide +kernel
theorem d_M_value_2 : decode b_M_value 2 = .ok (.invokevirtual 91, 3) := by decide +kernel
theorem d_M_value_5 : decode b_M_value 5 = .ok (.ifCond .eq 43, 3) := by decide +kernel
theorem d_M_value_8 : decode b_M_value 8 = .ok (.aload_n 0, 1) := by decide +kernel
theorem d_M_value_9 : decode b_M_value 9 = .ok (.getfield 7, 3) := by decide +kernel
theorem d_M_value_12 : decode b_M_value 12 = .ok (.iload_n 1, 1) := by decide +kernel
theorem d_M_value_13 : decode b_M_value 13 = .ok (.iaload, 1) := by decide +kernel
theorem d_M_value_14 : decode b_M_value 14 = .ok (.iconst 2, 1) := by decide +kernel
theorem d_M_value_15 : decode b_M_value 15 = .ok (.if_icmp .ne 33, 3) := by decide +kernel
theorem d_M_value_18 : decode b_M_value 18 = .ok (.iload_n 2, 1) := by decide +kernel
theorem d_M_value_19 : decode b_M_value 19 = .ok (.ifCond .lt 27, 3) := by decide +kernel
theorem d_M_value_22 : decode b_M_value 22 = .ok (.iload_n 2, 1) := by decide +kernel
theorem d_M_value_23 : decode b_M_value 23 = .ok (.aload_n 0, 1) := by decide +kernel
theorem d_M_value_24 : decode b_M_value 24 = .ok (.getfield 13, 3) := by decide +kernel
theorem d_M_value_27 : decode b_M_value 27 = .ok (.iload_n 1, 1) := by decide +kernel
theorem d_M_value_28 : decode b_M_value 28 = .ok (.iaload, 1) := by decide +kernel
theorem d_M_value_29 : decode b_M_value 29 = .ok (.if_icmp .ge 17, 3) := by decide +kernel
theorem d_M_value_32 : decode b_M_value 32 = .ok (.aload_n 0, 1) := by decide +kernel
theorem d_M_value_33 : decode b_M_value 33 = .ok (.getfield 22, 3) := by decide +kernel
theorem d_M_value_36 : decode b_M_value 36 = .ok (.bipush 6, 2) := by decide +kernel
theorem d_M_value_38 : decode b_M_value 38 = .ok (.iload_n 1, 1) := by decide +kernel
theorem d_M_value_39 : decode b_M_value 39 = .ok (.imul, 1) := by decide +kernel
theorem d_M_value_40 : decode b_M_value 40 = .ok (.iload_n 2, 1) := by decide +kernel
theorem d_M_value_41 : decode b_M_value 41 = .ok (.iadd, 1) := by decide +kernel
theorem d_M_value_42 : decode b_M_value 42 = .ok (.iaload, 1) := by decide +kernel
theorem d_M_value_43 : decode b_M_value 43 = .ok (.goto 4, 3) := by decide +kernel
theorem d_M_value_46 : decode b_M_value 46 = .ok (.iconst 0, 1) := by decide +kernel
theorem d_M_value_47 : decode b_M_value 47 = .ok (.ireturn, 1) := by decide +kernel
theorem d_M_value_48 : decode b_M_value 48 = .ok (.aload_n 0, 1) := by decide +kernel
theorem d_M_value_49 : decode b_M_value 49 = .ok (.iload_n 1, 1) := by decide +kernel
theorem d_M_value_50 : decode b_M_value 50 = .ok (.iload_n 2, 1) := by decide +kernel
theorem d_M_value_51 : decode b_M_value 51 = .ok (.invokevirtual 95, 3) := by decide +kernel
theorem d_M_value_54 : decode b_M_value 54 = .ok (.ifCond .eq 29, 3) := by decide +kernel
theorem d_M_value_57 : decode b_M_value 57 = .ok (.aload_n 0, 1) := by decide +kernel
theorem d_M_value_58 : decode b_M_value 58 = .ok (.getfield 16, 3) := by decide +kernel
theorem d_M_value_61 : decode b_M_value 61 = .ok (.iconst 4, 1) := by decide +kernel
theorem d_M_value_62 : decode b_M_value 62 = .ok (.iload_n 1, 1) := by decide +kernel
theorem d_M_value_63 : decode b_M_value 63 = .ok (.imul, 1) := by decide +kernel
theorem d_M_value_64 : decode b_M_value 64 = .ok (.iload_n 2, 1) := by decide +kernel
theorem d_M_value_65 : decode b_M_value 65 = .ok (.iadd, 1) := by decide +kernel
theorem d_M_value_66 : decode b_M_value 66 = .ok (.iaload, 1) := by decide +kernel
theorem d_M_value_67 : decode b_M_value 67 = .ok (.ifCond .eq 16, 3) := by decide +kernel
theorem d_M_value_70 : decode b_M_value 70 = .ok (.aload_n 0, 1) := by decide +kernel
theorem d_M_value_71 : decode b_M_value 71 = .ok (.getfield 19, 3) := by decide +kernel
theorem d_M_value_74 : decode b_M_value 74 = .ok (.iconst 4, 1) := by decide +kernel
theorem d_M_value_75 : decode b_M_value 75 = .ok (.iload_n 1, 1) := by decide +kernel
theorem d_M_value_76 : decode b_M_value 76 = .ok (.imul, 1) := by decide +kernel
theorem d_M_value_77 : decode b_M_value 77 = .ok (.iload_n 2, 1) := by decide +kernel
theorem d_M_value_78 : decode b_M_value 78 = .ok (.iadd, 1) := by decide +kernel
theorem d_M_value_79 : decode b_M_value 79 = .ok (.iaload, 1) := by decide +kernel
theorem d_M_value_80 : decode b_M_value 80 = .ok (.goto 4, 3) := by decide +kernel
theorem d_M_value_83 : decode b_M_value 83 = .ok (.iconst 0, 1) := by decide +kernel
theorem d_M_value_84 : decode b_M_value 84 = .ok (.ireturn, 1) := by decide +kernel
theorem d_M_clear_0 : decode b_M_clear 0 = .ok (.aload_n 0, 1) := by decide +kernel
theorem d_M_clear_1 : decode b_M_clear 1 = .ok (.iconst 0, 1) := by decide +kernel
theorem d_M_clear_2 : decode b_M_clear 2 = .ok (.putfield 87, 3) := by decide +kernel
theorem d_M_clear_5 : decode b_M_clear 5 = .ok (.return_, 1) := by decide +kernel
theorem d_M_sameOutside_0 : decode b_M_sameOutside 0 = .ok (.aload_n 0, 1) := by decide +kernel
theorem d_M_sameOutside_1 : decode b_M_sameOutside 1 = .ok (.getfield 7, 3) := by decide +kernel
theorem d_M_sameOutside_4 : decode b_M_sameOutside 4 = .ok (.iload_n 1, 1) := by decide +kernel
theorem d_M_sameOutside_5 : decode b_M_sameOutside 5 = .ok (.iaload, 1) := by decide +kernel
theorem d_M_sameOutside_6 : decode b_M_sameOutside 6 = .ok (.aload_n 0, 1) := by decide +kernel
theorem d_M_sameOutside_7 : decode b_M_sameOutside 7 = .ok (.getfield 7, 3) := by decide +kernel
theorem d_M_sameOutside_10 : decode b_M_sameOutside 10 = .ok (.iload_n 2, 1) := by decide +kernel
theorem d_M_sameOutside_11 : decode b_M_sameOutside 11 = .ok (.iaload, 1) := by decide +kernel
theorem d_M_sameOutside_12 : decode b_M_sameOutside 12 = .ok (.if_icmp .ne 18, 3) := by decide +kernel
theorem d_M_sameOutside_15 : decode b_M_sameOutside 15 = .ok (.aload_n 0, 1) := by decide +kernel
theorem d_M_sameOutside_16 : decode b_M_sameOutside 16 = .ok (.getfield 13, 3) := by decide +kernel
theorem d_M_sameOutside_19 : decode b_M_sameOutside 19 = .ok (.iload_n 1, 1) := by decide +kernel
theorem d_M_sameOutside_20 : decode b_M_sameOutside 20 = .ok (.iaload, 1) := by decide +kernel
theorem d_M_sameOutside_21 : decode b_M_sameOutside 21 = .ok (.aload_n 0, 1) := by decide +kernel
theorem d_M_sameOutside_22 : decode b_M_sameOutside 22 = .ok (.getfield 13, 3) := by decide +kernel
theorem d_M_sameOutside_25 : decode b_M_sameOutside 25 = .ok (.iload_n 2, 1) := by decide +kernel
theorem d_M_sameOutside_26 : decode b_M_sameOutside 26 = .ok (.iaload, 1) := by decide +kernel
theorem d_M_sameOutside_27 : decode b_M_sameOutside 27 = .ok (.if_icmp .eq 5, 3) := by decide +kernel
theorem d_M_sameOutside_30 : decode b_M_sameOutside 30 = .ok (.iconst 0, 1) := by decide +kernel
theorem d_M_sameOutside_31 : decode b_M_sameOutside 31 = .ok (.ireturn, 1) := by decide +kernel
theorem d_M_sameOutside_32 : decode b_M_sameOutside 32 = .ok (.iconst 0, 1) := by decide +kernel
theorem d_M_sameOutside_33 : decode b_M_sameOutside 33 = .ok (.istore_n 3, 1) := by decide +kernel
theorem d_M_sameOutside_34 : decode b_M_sameOutside 34 = .ok (.iload_n 3, 1) := by decide +kernel
theorem d_M_sameOutside_35 : decode b_M_sameOutside 35 = .ok (.aload_n 0, 1) := by decide +kernel
theorem d_M_sameOutside_36 : decode b_M_sameOutside 36 = .ok (.getfield 13, 3) := by decide +kernel
theorem d_M_sameOutside_39 : decode b_M_sameOutside 39 = .ok (.iload_n 1, 1) := by decide +kernel
theorem d_M_sameOutside_40 : decode b_M_sameOutside 40 = .ok (.iaload, 1) := by decide +kernel
theorem d_M_sameOutside_41 : decode b_M_sameOutside 41 = .ok (.if_icmp .ge 130, 3) := by decide +kernel
theorem d_M_sameOutside_44 : decode b_M_sameOutside 44 = .ok (.aload_n 0, 1) := by decide +kernel
theorem d_M_sameOutside_45 : decode b_M_sameOutside 45 = .ok (.getfield 7, 3) := by decide +kernel
theorem d_M_sameOutside_48 : decode b_M_sameOutside 48 = .ok (.iload_n 1, 1) := by decide +kernel
theorem d_M_sameOutside_49 : decode b_M_sameOutside 49 = .ok (.iaload, 1) := by decide +kernel
theorem d_M_sameOutside_50 : decode b_M_sameOutside 50 = .ok (.iconst 2, 1) := by decide +kernel
theorem d_M_sameOutside_51 : decode b_M_sameOutside 51 = .ok (.if_icmp .ne 30, 3) := by decide +kernel
theorem d_M_sameOutside_54 : decode b_M_sameOutside 54 = .ok (.aload_n 0, 1) := by decide +kernel
theorem d_M_sameOutside_55 : decode b_M_sameOutside 55 = .ok (.getfield 22, 3) := by decide +kernel
theorem d_M_sameOutside_58 : decode b_M_sameOutside 58 = .ok (.bipush 6, 2) := by decide +kernel
theorem d_M_sameOutside_60 : decode b_M_sameOutside 60 = .ok (.iload_n 1, 1) := by decide +kernel
theorem d_M_sameOutside_61 : decode b_M_sameOutside 61 = .ok (.imul, 1) := by decide +kernel
theorem d_M_sameOutside_62 : decode b_M_sameOutside 62 = .ok (.iload_n 3, 1) := by decide +kernel
theorem d_M_sameOutside_63 : decode b_M_sameOutside 63 = .ok (.iadd, 1) := by decide +kernel
theorem d_M_sameOutside_64 : decode b_M_sameOutside 64 = .ok (.iaload, 1) := by decide +kernel
theorem d_M_sameOutside_65 : decode b_M_sameOutside 65 = .ok (.aload_n 0, 1) := by decide +kernel
theorem d_M_sameOutside_66 : decode b_M_sameOutside 66 = .ok (.getfield 22, 3) := by decide +kernel
theorem d_M_sameOutside_69 : decode b_M_sameOutside 69 = .ok (.bipush 6, 2) := by decide +kernel
theorem d_M_sameOutside_71 : decode b_M_sameOutside 71 = .ok (.iload_n 2, 1) := by decide +kernel
theorem d_M_sameOutside_72 : decode b_M_sameOutside 72 = .ok (.imul, 1) := by decide +kernel
theorem d_M_sameOutside_73 : decode b_M_sameOutside 73 = .ok (.iload_n 3, 1) := by decide +kernel
theorem d_M_sameOutside_74 : decode b_M_sameOutside 74 = .ok (.iadd, 1) := by decide +kernel
theorem d_M_sameOutside_75 : decode b_M_sameOutside 75 = .ok (.iaload, 1) := by decide +kernel
theorem d_M_sameOutside_76 : decode b_M_sameOutside 76 = .ok (.if_icmp .eq 5, 3) := by decide +kernel
theorem d_M_sameOutside_79 : decode b_M_sameOutside 79 = .ok (.iconst 0, 1) := by decide +kernel
theorem d_M_sameOutside_80 : decode b_M_sameOutside 80 = .ok (.ireturn, 1) := by decide +kernel
theorem d_M_sameOutside_81 : decode b_M_sameOutside 81 = .ok (.aload_n 0, 1) := by decide +kernel
theorem d_M_sameOutside_82 : decode b_M_sameOutside 82 = .ok (.getfield 7, 3) := by decide +kernel
theorem d_M_sameOutside_85 : decode b_M_sameOutside 85 = .ok (.iload_n 1, 1) := by decide +kernel
theorem d_M_sameOutside_86 : decode b_M_sameOutside 86 = .ok (.iaload, 1) := by decide +kernel
theorem d_M_sameOutside_87 : decode b_M_sameOutside 87 = .ok (.iconst 2, 1) := by decide +kernel
theorem d_M_sameOutside_88 : decode b_M_sameOutside 88 = .ok (.if_icmp .eq 28, 3) := by decide +kernel
theorem d_M_sameOutside_91 : decode b_M_sameOutside 91 = .ok (.aload_n 0, 1) := by decide +kernel
theorem d_M_sameOutside_92 : decode b_M_sameOutside 92 = .ok (.getfield 16, 3) := by decide +kernel
theorem d_M_sameOutside_95 : decode b_M_sameOutside 95 = .ok (.iconst 4, 1) := by decide +kernel
theorem d_M_sameOutside_96 : decode b_M_sameOutside 96 = .ok (.iload_n 1, 1) := by decide +kernel
theorem d_M_sameOutside_97 : decode b_M_sameOutside 97 = .ok (.imul, 1) := by decide +kernel
theorem d_M_sameOutside_98 : decode b_M_sameOutside 98 = .ok (.iload_n 3, 1) := by decide +kernel
theorem d_M_sameOutside_99 : decode b_M_sameOutside 99 = .ok (.iadd, 1) := by decide +kernel
theorem d_M_sameOutside_100 : decode b_M_sameOutside 100 = .ok (.iaload, 1) := by decide +kernel
theorem d_M_sameOutside_101 : decode b_M_sameOutside 101 = .ok (.aload_n 0, 1) := by decide +kernel
theorem d_M_sameOutside_102 : decode b_M_sameOutside 102 = .ok (.getfield 16, 3) := by decide +kernel
theorem d_M_sameOutside_105 : decode b_M_sameOutside 105 = .ok (.iconst 4, 1) := by decide +kernel
theorem d_M_sameOutside_106 : decode b_M_sameOutside 106 = .ok (.iload_n 2, 1) := by decide +kernel
theorem d_M_sameOutside_107 : decode b_M_sameOutside 107 = .ok (.imul, 1) := by decide +kernel
theorem d_M_sameOutside_108 : decode b_M_sameOutside 108 = .ok (.iload_n 3, 1) := by decide +kernel
theorem d_M_sameOutside_109 : decode b_M_sameOutside 109 = .ok (.iadd, 1) := by decide +kernel
theorem d_M_sameOutside_110 : decode b_M_sameOutside 110 = .ok (.iaload, 1) := by decide +kernel
theorem d_M_sameOutside_111 : decode b_M_sameOutside 111 = .ok (.if_icmp .eq 5, 3) := by decide +kernel
theorem d_M_sameOutside_114 : decode b_M_sameOutside 114 = .ok (.iconst 0, 1) := by decide +kernel
theorem d_M_sameOutside_115 : decode b_M_sameOutside 115 = .ok (.ireturn, 1) := by decide +kernel
theorem d_M_sameOutside_116 : decode b_M_sameOutside 116 = .ok (.aload_n 0, 1) := by decide +kernel
theorem d_M_sameOutside_117 : decode b_M_sameOutside 117 = .ok (.getfield 7, 3) := by decide +kernel
theorem d_M_sameOutside_120 : decode b_M_sameOutside 120 = .ok (.iload_n 1, 1) := by decide +kernel
theorem d_M_sameOutside_121 : decode b_M_sameOutside 121 = .ok (.iaload, 1) := by decide +kernel
theorem d_M_sameOutside_122 : decode b_M_sameOutside 122 = .ok (.iconst 2, 1) := by decide +kernel
theorem d_M_sameOutside_123 : decode b_M_sameOutside 123 = .ok (.if_icmp .eq 42, 3) := by decide +kernel
theorem d_M_sameOutside_126 : decode b_M_sameOutside 126 = .ok (.aload_n 0, 1) := by decide +kernel
theorem d_M_sameOutside_127 : decode b_M_sameOutside 127 = .ok (.getfield 16, 3) := by decide +kernel
theorem d_M_sameOutside_130 : decode b_M_sameOutside 130 = .ok (.iconst 4, 1) := by decide +kernel
theorem d_M_sameOutside_131 : decode b_M_sameOutside 131 = .ok (.iload_n 1, 1) := by decide +kernel
theorem d_M_sameOutside_132 : decode b_M_sameOutside 132 = .ok (.imul, 1) := by decide +kernel
theorem d_M_sameOutside_133 : decode b_M_sameOutside 133 = .ok (.iload_n 3, 1) := by decide +kernel
theorem d_M_sameOutside_134 : decode b_M_sameOutside 134 = .ok (.iadd, 1) := by decide +kernel
theorem d_M_sameOutside_135 : decode b_M_sameOutside 135 = .ok (.iaload, 1) := by decide +kernel
theorem d_M_sameOutside_136 : decode b_M_sameOutside 136 = .ok (.iconst 1, 1) := by decide +kernel
theorem d_M_sameOutside_137 : decode b_M_sameOutside 137 = .ok (.if_icmp .ne 28, 3) := by decide +kernel
theorem d_M_sameOutside_140 : decode b_M_sameOutside 140 = .ok (.aload_n 0, 1) := by decide +kernel
theorem d_M_sameOutside_141 : decode b_M_sameOutside 141 = .ok (.getfield 19, 3) := by decide +kernel
theorem d_M_sameOutside_144 : decode b_M_sameOutside 144 = .ok (.iconst 4, 1) := by decide +kernel
theorem d_M_sameOutside_145 : decode b_M_sameOutside 145 = .ok (.iload_n 1, 1) := by decide +kernel
theorem d_M_sameOutside_146 : decode b_M_sameOutside 146 = .ok (.imul, 1) := by decide +kernel
theorem d_M_sameOutside_147 : decode b_M_sameOutside 147 = .ok (.iload_n 3, 1) := by decide +kernel
theorem d_M_sameOutside_148 : decode b_M_sameOutside 148 = .ok (.iadd, 1) := by decide +kernel
theorem d_M_sameOutside_149 : decode b_M_sameOutside 149 = .ok (.iaload, 1) := by decide +kernel
theorem d_M_sameOutside_150 : decode b_M_sameOutside 150 = .ok (.aload_n 0, 1) := by decide +kernel
theorem d_M_sameOutside_151 : decode b_M_sameOutside 151 = .ok (.getfield 19, 3) := by decide +kernel
theorem d_M_sameOutside_154 : decode b_M_sameOutside 154 = .ok (.iconst 4, 1) := by decide +kernel
theorem d_M_sameOutside_155 : decode b_M_sameOutside 155 = .ok (.iload_n 2, 1) := by decide +kernel
theorem d_M_sameOutside_156 : decode b_M_sameOutside 156 = .ok (.imul, 1) := by decide +kernel
theorem d_M_sameOutside_157 : decode b_M_sameOutside 157 = .ok (.iload_n 3, 1) := by decide +kernel
theorem d_M_sameOutside_158 : decode b_M_sameOutside 158 = .ok (.iadd, 1) := by decide +kernel
theorem d_M_sameOutside_159 : decode b_M_sameOutside 159 = .ok (.iaload, 1) := by decide +kernel
theorem d_M_sameOutside_160 : decode b_M_sameOutside 160 = .ok (.if_icmp .eq 5, 3) := by decide +kernel
theorem d_M_sameOutside_163 : decode b_M_sameOutside 163 = .ok (.iconst 0, 1) := by decide +kernel
theorem d_M_sameOutside_164 : decode b_M_sameOutside 164 = .ok (.ireturn, 1) := by decide +kernel
theorem d_M_sameOutside_165 : decode b_M_sameOutside 165 = .ok (.iinc 3 1, 3) := by decide +kernel
theorem d_M_sameOutside_168 : decode b_M_sameOutside 168 = .ok (.goto (-134), 3) := by decide +kernel
theorem d_M_sameOutside_171 : decode b_M_sameOutside 171 = .ok (.iconst 1, 1) := by decide +kernel
theorem d_M_sameOutside_172 : decode b_M_sameOutside 172 = .ok (.ireturn, 1) := by decide +kernel
theorem d_M_alike_0 : decode b_M_alike 0 = .ok (.aload_n 0, 1) := by decide +kernel
theorem d_M_alike_1 : decode b_M_alike 1 = .ok (.iload_n 1, 1) := by decide +kernel
theorem d_M_alike_2 : decode b_M_alike 2 = .ok (.invokevirtual 91, 3) := by decide +kernel
theorem d_M_alike_5 : decode b_M_alike 5 = .ok (.ifCond .eq 11, 3) := by decide +kernel
theorem d_M_alike_8 : decode b_M_alike 8 = .ok (.aload_n 0, 1) := by decide +kernel
theorem d_M_alike_9 : decode b_M_alike 9 = .ok (.iload_n 2, 1) := by decide +kernel
theorem d_M_alike_10 : decode b_M_alike 10 = .ok (.invokevirtual 91, 3) := by decide +kernel
theorem d_M_alike_13 : decode b_M_alike 13 = .ok (.ifCond .ne 5, 3) := by decide +kernel
theorem d_M_alike_16 : decode b_M_alike 16 = .ok (.iconst 0, 1) := by decide +kernel
theorem d_M_alike_17 : decode b_M_alike 17 = .ok (.ireturn, 1) := by decide +kernel
theorem d_M_alike_18 : decode b_M_alike 18 = .ok (.iconst 0, 1) := by decide +kernel
theorem d_M_alike_19 : decode b_M_alike 19 = .ok (.istore_n 3, 1) := by decide +kernel
theorem d_M_alike_20 : decode b_M_alike 20 = .ok (.iload_n 3, 1) := by decide +kernel
theorem d_M_alike_21 : decode b_M_alike 21 = .ok (.bipush 16, 2) := by decide +kernel
theorem d_M_alike_23 : decode b_M_alike 23 = .ok (.if_icmp .ge 23, 3) := by decide +kernel
theorem d_M_alike_26 : decode b_M_alike 26 = .ok (.aload_n 0, 1) := by decide +kernel
theorem d_M_alike_27 : decode b_M_alike 27 = .ok (.getfield 81, 3) := by decide +kernel
theorem d_M_alike_30 : decode b_M_alike 30 = .ok (.iload_n 3, 1) := by decide +kernel
theorem d_M_alike_31 : decode b_M_alike 31 = .ok (.iconst (-1), 1) := by decide +kernel
theorem d_M_alike_32 : decode b_M_alike 32 = .ok (.iastore, 1) := by decide +kernel
theorem d_M_alike_33 : decode b_M_alike 33 = .ok (.aload_n 0, 1) := by decide +kernel
theorem d_M_alike_34 : decode b_M_alike 34 = .ok (.getfield 84, 3) := by decide +kernel
theorem d_M_alike_37 : decode b_M_alike 37 = .ok (.iload_n 3, 1) := by decide +kernel
theorem d_M_alike_38 : decode b_M_alike 38 = .ok (.iconst (-1), 1) := by decide +kernel
theorem d_M_alike_39 : decode b_M_alike 39 = .ok (.iastore, 1) := by decide +kernel
theorem d_M_alike_40 : decode b_M_alike 40 = .ok (.iinc 3 1, 3) := by decide +kernel
theorem d_M_alike_43 : decode b_M_alike 43 = .ok (.goto (-23), 3) := by decide +kernel
theorem d_M_alike_46 : decode b_M_alike 46 = .ok (.aload_n 0, 1) := by decide +kernel
theorem d_M_alike_47 : decode b_M_alike 47 = .ok (.getfield 81, 3) := by decide +kernel
theorem d_M_alike_50 : decode b_M_alike 50 = .ok (.iload_n 1, 1) := by decide +kernel
theorem d_M_alike_51 : decode b_M_alike 51 = .ok (.iload_n 2, 1) := by decide +kernel
theorem d_M_alike_52 : decode b_M_alike 52 = .ok (.iastore, 1) := by decide +kernel
theorem d_M_alike_53 : decode b_M_alike 53 = .ok (.aload_n 0, 1) := by decide +kernel
theorem d_M_alike_54 : decode b_M_alike 54 = .ok (.getfield 84, 3) := by decide +kernel
theorem d_M_alike_57 : decode b_M_alike 57 = .ok (.iload_n 2, 1) := by decide +kernel
theorem d_M_alike_58 : decode b_M_alike 58 = .ok (.iload_n 1, 1) := by decide +kernel
theorem d_M_alike_59 : decode b_M_alike 59 = .ok (.iastore, 1) := by decide +kernel
theorem d_M_alike_60 : decode b_M_alike 60 = .ok (.iconst 0, 1) := by decide +kernel
theorem d_M_alike_61 : decode b_M_alike 61 = .ok (.istore_n 3, 1) := by decide +kernel
theorem d_M_alike_62 : decode b_M_alike 62 = .ok (.iload_n 3, 1) := by decide +kernel
theorem d_M_alike_63 : decode b_M_alike 63 = .ok (.bipush 17, 2) := by decide +kernel
theorem d_M_alike_65 : decode b_M_alike 65 = .ok (.aload_n 0, 1) := by decide +kernel
theorem d_M_alike_66 : decode b_M_alike 66 = .ok (.getfield 87, 3) := by decide +kernel
theorem d_M_alike_69 : decode b_M_alike 69 = .ok (.imul, 1) := by decide +kernel
theorem d_M_alike_70 : decode b_M_alike 70 = .ok (.if_icmp .ge 192, 3) := by decide +kernel
theorem d_M_alike_73 : decode b_M_alike 73 = .ok (.iload_n 3, 1) := by decide +kernel
theorem d_M_alike_74 : decode b_M_alike 74 = .ok (.aload_n 0, 1) := by decide +kernel
theorem d_M_alike_75 : decode b_M_alike 75 = .ok (.getfield 87, 3) := by decide +kernel
theorem d_M_alike_78 : decode b_M_alike 78 = .ok (.irem, 1) := by decide +kernel
theorem d_M_alike_79 : decode b_M_alike 79 = .ok (.istore 4, 2) := by decide +kernel
theorem d_M_alike_81 : decode b_M_alike 81 = .ok (.aload_n 0, 1) := by decide +kernel
theorem d_M_alike_82 : decode b_M_alike 82 = .ok (.getfield 81, 3) := by decide +kernel
theorem d_M_alike_85 : decode b_M_alike 85 = .ok (.iload 4, 2) := by decide +kernel
theorem d_M_alike_87 : decode b_M_alike 87 = .ok (.iaload, 1) := by decide +kernel
theorem d_M_alike_88 : decode b_M_alike 88 = .ok (.istore 5, 2) := by decide +kernel
theorem d_M_alike_90 : decode b_M_alike 90 = .ok (.iload 5, 2) := by decide +kernel
theorem d_M_alike_92 : decode b_M_alike 92 = .ok (.ifCond .lt 16, 3) := by decide +kernel
theorem d_M_alike_95 : decode b_M_alike 95 = .ok (.aload_n 0, 1) := by decide +kernel
theorem d_M_alike_96 : decode b_M_alike 96 = .ok (.iload 4, 2) := by decide +kernel
theorem d_M_alike_98 : decode b_M_alike 98 = .ok (.iload 5, 2) := by decide +kernel
theorem d_M_alike_100 : decode b_M_alike 100 = .ok (.invokevirtual 99, 3) := by decide +kernel
theorem d_M_alike_103 : decode b_M_alike 103 = .ok (.ifCond .ne 5, 3) := by decide +kernel
theorem d_M_alike_106 : decode b_M_alike 106 = .ok (.iconst 0, 1) := by decide +kernel
theorem d_M_alike_107 : decode b_M_alike 107 = .ok (.ireturn, 1) := by decide +kernel
theorem d_M_alike_108 : decode b_M_alike 108 = .ok (.iconst 0, 1) := by decide +kernel
theorem d_M_alike_109 : decode b_M_alike 109 = .ok (.istore 6, 2) := by decide +kernel
theorem d_M_alike_111 : decode b_M_alike 111 = .ok (.iload 5, 2) := by decide +kernel
theorem d_M_alike_113 : decode b_M_alike 113 = .ok (.ifCond .lt 143, 3) := by decide +kernel
theorem d_M_alike_116 : decode b_M_alike 116 = .ok (.aload_n 0, 1) := by decide +kernel
theorem d_M_alike_117 : decode b_M_alike 117 = .ok (.getfield 7, 3) := by decide +kernel
theorem d_M_alike_120 : decode b_M_alike 120 = .ok (.iload 4, 2) := by decide +kernel
theorem d_M_alike_122 : decode b_M_alike 122 = .ok (.iaload, 1) := by decide +kernel
theorem d_M_alike_123 : decode b_M_alike 123 = .ok (.iconst 2, 1) := by decide +kernel
theorem d_M_alike_124 : decode b_M_alike 124 = .ok (.if_icmp .eq 132, 3) := by decide +kernel
theorem d_M_alike_127 : decode b_M_alike 127 = .ok (.iload 6, 2) := by decide +kernel
theorem d_M_alike_129 : decode b_M_alike 129 = .ok (.aload_n 0, 1) := by decide +kernel
theorem d_M_alike_130 : decode b_M_alike 130 = .ok (.getfield 13, 3) := by decide +kernel
theorem d_M_alike_133 : decode b_M_alike 133 = .ok (.iload 4, 2) := by decide +kernel
theorem d_M_alike_135 : decode b_M_alike 135 = .ok (.iaload, 1) := by decide +kernel
theorem d_M_alike_136 : decode b_M_alike 136 = .ok (.if_icmp .ge 120, 3) := by decide +kernel
theorem d_M_alike_139 : decode b_M_alike 139 = .ok (.aload_n 0, 1) := by decide +kernel
theorem d_M_alike_140 : decode b_M_alike 140 = .ok (.getfield 16, 3) := by decide +kernel
theorem d_M_alike_143 : decode b_M_alike 143 = .ok (.iconst 4, 1) := by decide +kernel
theorem d_M_alike_144 : decode b_M_alike 144 = .ok (.iload 4, 2) := by decide +kernel
theorem d_M_alike_146 : decode b_M_alike 146 = .ok (.imul, 1) := by decide +kernel
theorem d_M_alike_147 : decode b_M_alike 147 = .ok (.iload 6, 2) := by decide +kernel
theorem d_M_alike_149 : decode b_M_alike 149 = .ok (.iadd, 1) := by decide +kernel
theorem d_M_alike_150 : decode b_M_alike 150 = .ok (.iaload, 1) := by decide +kernel
theorem d_M_alike_151 : decode b_M_alike 151 = .ok (.iconst 2, 1) := by decide +kernel
theorem d_M_alike_152 : decode b_M_alike 152 = .ok (.if_icmp .eq 6, 3) := by decide +kernel
theorem d_M_alike_155 : decode b_M_alike 155 = .ok (.goto 95, 3) := by decide +kernel
theorem d_M_alike_158 : decode b_M_alike 158 = .ok (.aload_n 0, 1) := by decide +kernel
theorem d_M_alike_159 : decode b_M_alike 159 = .ok (.getfield 19, 3) := by decide +kernel
theorem d_M_alike_162 : decode b_M_alike 162 = .ok (.iconst 4, 1) := by decide +kernel
theorem d_M_alike_163 : decode b_M_alike 163 = .ok (.iload 4, 2) := by decide +kernel
theorem d_M_alike_165 : decode b_M_alike 165 = .ok (.imul, 1) := by decide +kernel
theorem d_M_alike_166 : decode b_M_alike 166 = .ok (.iload 6, 2) := by decide +kernel
theorem d_M_alike_168 : decode b_M_alike 168 = .ok (.iadd, 1) := by decide +kernel
theorem d_M_alike_169 : decode b_M_alike 169 = .ok (.iaload, 1) := by decide +kernel
theorem d_M_alike_170 : decode b_M_alike 170 = .ok (.istore 7, 2) := by decide +kernel
theorem d_M_alike_172 : decode b_M_alike 172 = .ok (.aload_n 0, 1) := by decide +kernel
theorem d_M_alike_173 : decode b_M_alike 173 = .ok (.getfield 19, 3) := by decide +kernel
theorem d_M_alike_176 : decode b_M_alike 176 = .ok (.iconst 4, 1) := by decide +kernel
theorem d_M_alike_177 : decode b_M_alike 177 = .ok (.iload 5, 2) := by decide +kernel
theorem d_M_alike_179 : decode b_M_alike 179 = .ok (.imul, 1) := by decide +kernel
theorem d_M_alike_180 : decode b_M_alike 180 = .ok (.iload 6, 2) := by decide +kernel
theorem d_M_alike_182 : decode b_M_alike 182 = .ok (.iadd, 1) := by decide +kernel
theorem d_M_alike_183 : decode b_M_alike 183 = .ok (.iaload, 1) := by decide +kernel
theorem d_M_alike_184 : decode b_M_alike 184 = .ok (.istore 8, 2) := by decide +kernel
theorem d_M_alike_186 : decode b_M_alike 186 = .ok (.aload_n 0, 1) := by decide +kernel
theorem d_M_alike_187 : decode b_M_alike 187 = .ok (.getfield 81, 3) := by decide +kernel
theorem d_M_alike_190 : decode b_M_alike 190 = .ok (.iload 7, 2) := by decide +kernel
theorem d_M_alike_192 : decode b_M_alike 192 = .ok (.iaload, 1) := by decide +kernel
theorem d_M_alike_193 : decode b_M_alike 193 = .ok (.ifCond .ge 31, 3) := by decide +kernel
theorem d_M_alike_196 : decode b_M_alike 196 = .ok (.aload_n 0, 1) := by decide +kernel
theorem d_M_alike_197 : decode b_M_alike 197 = .ok (.getfield 84, 3) := by decide +kernel
theorem d_M_alike_200 : decode b_M_alike 200 = .ok (.iload 8, 2) := by decide +kernel
theorem d_M_alike_202 : decode b_M_alike 202 = .ok (.iaload, 1) := by decide +kernel
theorem d_M_alike_203 : decode b_M_alike 203 = .ok (.ifCond .ge 21, 3) := by decide +kernel
theorem d_M_alike_206 : decode b_M_alike 206 = .ok (.aload_n 0, 1) := by decide +kernel
theorem d_M_alike_207 : decode b_M_alike 207 = .ok (.getfield 81, 3) := by decide +kernel
theorem d_M_alike_210 : decode b_M_alike 210 = .ok (.iload 7, 2) := by decide +kernel
theorem d_M_alike_212 : decode b_M_alike 212 = .ok (.iload 8, 2) := by decide +kernel
theorem d_M_alike_214 : decode b_M_alike 214 = .ok (.iastore, 1) := by decide +kernel
theorem d_M_alike_215 : decode b_M_alike 215 = .ok (.aload_n 0, 1) := by decide +kernel
theorem d_M_alike_216 : decode b_M_alike 216 = .ok (.getfield 84, 3) := by decide +kernel
theorem d_M_alike_219 : decode b_M_alike 219 = .ok (.iload 8, 2) := by decide +kernel
theorem d_M_alike_221 : decode b_M_alike 221 = .ok (.iload 7, 2) := by decide +kernel
theorem d_M_alike_223 : decode b_M_alike 223 = .ok (.iastore, 1) := by decide +kernel
theorem d_M_alike_224 : decode b_M_alike 224 = .ok (.aload_n 0, 1) := by decide +kernel
theorem d_M_alike_225 : decode b_M_alike 225 = .ok (.getfield 81, 3) := by decide +kernel
theorem d_M_alike_228 : decode b_M_alike 228 = .ok (.iload 7, 2) := by decide +kernel
theorem d_M_alike_230 : decode b_M_alike 230 = .ok (.iaload, 1) := by decide +kernel
theorem d_M_alike_231 : decode b_M_alike 231 = .ok (.iload 8, 2) := by decide +kernel
theorem d_M_alike_233 : decode b_M_alike 233 = .ok (.if_icmp .ne 15, 3) := by decide +kernel
theorem d_M_alike_236 : decode b_M_alike 236 = .ok (.aload_n 0, 1) := by decide +kernel
theorem d_M_alike_237 : decode b_M_alike 237 = .ok (.getfield 84, 3) := by decide +kernel
theorem d_M_alike_240 : decode b_M_alike 240 = .ok (.iload 8, 2) := by decide +kernel
theorem d_M_alike_242 : decode b_M_alike 242 = .ok (.iaload, 1) := by decide +kernel
theorem d_M_alike_243 : decode b_M_alike 243 = .ok (.iload 7, 2) := by decide +kernel
theorem d_M_alike_245 : decode b_M_alike 245 = .ok (.if_icmp .eq 5, 3) := by decide +kernel
theorem d_M_alike_248 : decode b_M_alike 248 = .ok (.iconst 0, 1) := by decide +kernel
theorem d_M_alike_249 : decode b_M_alike 249 = .ok (.ireturn, 1) := by decide +kernel
theorem d_M_alike_250 : decode b_M_alike 250 = .ok (.iinc 6 1, 3) := by decide +kernel
theorem d_M_alike_253 : decode b_M_alike 253 = .ok (.goto (-142), 3) := by decide +kernel
theorem d_M_alike_256 : decode b_M_alike 256 = .ok (.iinc 3 1, 3) := by decide +kernel
theorem d_M_alike_259 : decode b_M_alike 259 = .ok (.goto (-197), 3) := by decide +kernel
theorem d_M_alike_262 : decode b_M_alike 262 = .ok (.iconst 1, 1) := by decide +kernel
theorem d_M_alike_263 : decode b_M_alike 263 = .ok (.ireturn, 1) := by decide +kernel
theorem d_M_mark_0 : decode b_M_mark 0 = .ok (.iconst 0, 1) := by decide +kernel
theorem d_M_mark_1 : decode b_M_mark 1 = .ok (.istore_n 2, 1) := by decide +kernel
theorem d_M_mark_2 : decode b_M_mark 2 = .ok (.iload_n 2, 1) := by decide +kernel
theorem d_M_mark_3 : decode b_M_mark 3 = .ok (.bipush 16, 2) := by decide +kernel
theorem d_M_mark_5 : decode b_M_mark 5 = .ok (.if_icmp .ge 48, 3) := by decide +kernel
theorem d_M_mark_8 : decode b_M_mark 8 = .ok (.aload_n 0, 1) := by decide +kernel
theorem d_M_mark_9 : decode b_M_mark 9 = .ok (.getfield 66, 3) := by decide +kernel
theorem d_M_mark_12 : decode b_M_mark 12 = .ok (.iload_n 2, 1) := by decide +kernel
theorem d_M_mark_13 : decode b_M_mark 13 = .ok (.iload_n 2, 1) := by decide +kernel
theorem d_M_mark_14 : decode b_M_mark 14 = .ok (.iload_n 1, 1) := by decide +kernel
theorem d_M_mark_15 : decode b_M_mark 15 = .ok (.if_icmp .ne 7, 3) := by decide +kernel
theorem d_M_mark_18 : decode b_M_mark 18 = .ok (.iconst 1, 1) := by decide +kernel
theorem d_M_mark_19 : decode b_M_mark 19 = .ok (.goto 4, 3) := by decide +kernel
theorem d_M_mark_22 : decode b_M_mark 22 = .ok (.iconst 0, 1) := by decide +kernel
theorem d_M_mark_23 : decode b_M_mark 23 = .ok (.bastore, 1) := by decide +kernel
theorem d_M_mark_24 : decode b_M_mark 24 = .ok (.aload_n 0, 1) := by decide +kernel
theorem d_M_mark_25 : decode b_M_mark 25 = .ok (.getfield 69, 3) := by decide +kernel
theorem d_M_mark_28 : decode b_M_mark 28 = .ok (.iload_n 2, 1) := by decide +kernel
theorem d_M_mark_29 : decode b_M_mark 29 = .ok (.iload_n 2, 1) := by decide +kernel
theorem d_M_mark_30 : decode b_M_mark 30 = .ok (.iload_n 1, 1) := by decide +kernel
theorem d_M_mark_31 : decode b_M_mark 31 = .ok (.if_icmp .ne 7, 3) := by decide +kernel
theorem d_M_mark_34 : decode b_M_mark 34 = .ok (.iconst 1, 1) := by decide +kernel
theorem d_M_mark_35 : decode b_M_mark 35 = .ok (.goto 4, 3) := by decide +kernel
theorem d_M_mark_38 : decode b_M_mark 38 = .ok (.iconst 0, 1) := by decide +kernel
theorem d_M_mark_39 : decode b_M_mark 39 = .ok (.iastore, 1) := by decide +kernel
theorem d_M_mark_40 : decode b_M_mark 40 = .ok (.aload_n 0, 1) := by decide +kernel
theorem d_M_mark_41 : decode b_M_mark 41 = .ok (.getfield 72, 3) := by decide +kernel
theorem d_M_mark_44 : decode b_M_mark 44 = .ok (.iload_n 2, 1) := by decide +kernel
theorem d_M_mark_45 : decode b_M_mark 45 = .ok (.iconst 0, 1) := by decide +kernel
theorem d_M_mark_46 : decode b_M_mark 46 = .ok (.iastore, 1) := by decide +kernel
theorem d_M_mark_47 : decode b_M_mark 47 = .ok (.iinc 2 1, 3) := by decide +kernel
theorem d_M_mark_50 : decode b_M_mark 50 = .ok (.goto (-48), 3) := by decide +kernel
theorem d_M_mark_53 : decode b_M_mark 53 = .ok (.iconst 0, 1) := by decide +kernel
theorem d_M_mark_54 : decode b_M_mark 54 = .ok (.istore_n 2, 1) := by decide +kernel
theorem d_M_mark_55 : decode b_M_mark 55 = .ok (.iload_n 2, 1) := by decide +kernel
theorem d_M_mark_56 : decode b_M_mark 56 = .ok (.bipush 16, 2) := by decide +kernel
theorem d_M_mark_58 : decode b_M_mark 58 = .ok (.if_icmp .ge 64, 3) := by decide +kernel
theorem d_M_mark_61 : decode b_M_mark 61 = .ok (.iconst 0, 1) := by decide +kernel
theorem d_M_mark_62 : decode b_M_mark 62 = .ok (.istore_n 3, 1) := by decide +kernel
theorem d_M_mark_63 : decode b_M_mark 63 = .ok (.iload_n 3, 1) := by decide +kernel
theorem d_M_mark_64 : decode b_M_mark 64 = .ok (.iconst 4, 1) := by decide +kernel
theorem d_M_mark_65 : decode b_M_mark 65 = .ok (.aload_n 0, 1) := by decide +kernel
theorem d_M_mark_66 : decode b_M_mark 66 = .ok (.getfield 87, 3) := by decide +kernel
theorem d_M_mark_69 : decode b_M_mark 69 = .ok (.imul, 1) := by decide +kernel
theorem d_M_mark_70 : decode b_M_mark 70 = .ok (.if_icmp .ge 46, 3) := by decide +kernel
theorem d_M_mark_73 : decode b_M_mark 73 = .ok (.aload_n 0, 1) := by decide +kernel
theorem d_M_mark_74 : decode b_M_mark 74 = .ok (.getfield 66, 3) := by decide +kernel
theorem d_M_mark_77 : decode b_M_mark 77 = .ok (.iload_n 3, 1) := by decide +kernel
theorem d_M_mark_78 : decode b_M_mark 78 = .ok (.iconst 4, 1) := by decide +kernel
theorem d_M_mark_79 : decode b_M_mark 79 = .ok (.idiv, 1) := by decide +kernel
theorem d_M_mark_80 : decode b_M_mark 80 = .ok (.baload, 1) := by decide +kernel
