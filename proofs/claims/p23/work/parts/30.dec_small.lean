theorem dX0_init_0 : decode cX0_init 0 = .ok (.aload_n 0, 1) := by decide +kernel
theorem dX0_init_1 : decode cX0_init 1 = .ok (.invokespecial 1, 3) := by decide +kernel
theorem dX0_init_4 : decode cX0_init 4 = .ok (.return_, 1) := by decide +kernel
theorem dX0_worth_0 : decode cX0_worth 0 = .ok (.aload_n 1, 1) := by decide +kernel
theorem dX0_worth_1 : decode cX0_worth 1 = .ok (.dup, 1) := by decide +kernel
theorem dX0_worth_2 : decode cX0_worth 2 = .ok (.getfield 7, 3) := by decide +kernel
theorem dX0_worth_5 : decode cX0_worth 5 = .ok (.ldc2_w 13, 3) := by decide +kernel
theorem dX0_worth_8 : decode cX0_worth 8 = .ok (.ladd, 1) := by decide +kernel
theorem dX0_worth_9 : decode cX0_worth 9 = .ok (.putfield 7, 3) := by decide +kernel
theorem dX0_worth_12 : decode cX0_worth 12 = .ok (.aload_n 0, 1) := by decide +kernel
theorem dX0_worth_13 : decode cX0_worth 13 = .ok (.aload_n 1, 1) := by decide +kernel
theorem dX0_worth_14 : decode cX0_worth 14 = .ok (.iload_n 2, 1) := by decide +kernel
theorem dX0_worth_15 : decode cX0_worth 15 = .ok (.invokespecial 15, 3) := by decide +kernel
theorem dX0_worth_18 : decode cX0_worth 18 = .ok (.aload_n 1, 1) := by decide +kernel
theorem dX0_worth_19 : decode cX0_worth 19 = .ok (.getfield 19, 3) := by decide +kernel
theorem dX0_worth_22 : decode cX0_worth 22 = .ok (.getfield 23, 3) := by decide +kernel
theorem dX0_worth_25 : decode cX0_worth 25 = .ok (.iload_n 2, 1) := by decide +kernel
theorem dX0_worth_26 : decode cX0_worth 26 = .ok (.iaload, 1) := by decide +kernel
theorem dX0_worth_27 : decode cX0_worth 27 = .ok (.iadd, 1) := by decide +kernel
theorem dX0_worth_28 : decode cX0_worth 28 = .ok (.ireturn, 1) := by decide +kernel
theorem dX1_init_0 : decode cX1_init 0 = .ok (.aload_n 0, 1) := by decide +kernel
theorem dX1_init_1 : decode cX1_init 1 = .ok (.invokespecial 3, 3) := by decide +kernel
theorem dX1_init_4 : decode cX1_init 4 = .ok (.aload_n 0, 1) := by decide +kernel
theorem dX1_init_5 : decode cX1_init 5 = .ok (.iconst 4, 1) := by decide +kernel
theorem dX1_init_6 : decode cX1_init 6 = .ok (.putfield 9, 3) := by decide +kernel
theorem dX1_init_9 : decode cX1_init 9 = .ok (.aload_n 0, 1) := by decide +kernel
theorem dX1_init_10 : decode cX1_init 10 = .ok (.bipush 6, 2) := by decide +kernel
theorem dX1_init_12 : decode cX1_init 12 = .ok (.newarray .int, 2) := by decide +kernel
theorem dX1_init_14 : decode cX1_init 14 = .ok (.putfield 15, 3) := by decide +kernel
theorem dX1_init_17 : decode cX1_init 17 = .ok (.aload_n 0, 1) := by decide +kernel
theorem dX1_init_18 : decode cX1_init 18 = .ok (.bipush 6, 2) := by decide +kernel
theorem dX1_init_20 : decode cX1_init 20 = .ok (.newarray .int, 2) := by decide +kernel
theorem dX1_init_22 : decode cX1_init 22 = .ok (.putfield 19, 3) := by decide +kernel
theorem dX1_init_25 : decode cX1_init 25 = .ok (.aload_n 0, 1) := by decide +kernel
theorem dX1_init_26 : decode cX1_init 26 = .ok (.bipush 6, 2) := by decide +kernel
theorem dX1_init_28 : decode cX1_init 28 = .ok (.newarray .int, 2) := by decide +kernel
theorem dX1_init_30 : decode cX1_init 30 = .ok (.putfield 22, 3) := by decide +kernel
theorem dX1_init_33 : decode cX1_init 33 = .ok (.aload_n 0, 1) := by decide +kernel
theorem dX1_init_34 : decode cX1_init 34 = .ok (.bipush 6, 2) := by decide +kernel
theorem dX1_init_36 : decode cX1_init 36 = .ok (.newarray .int, 2) := by decide +kernel
theorem dX1_init_38 : decode cX1_init 38 = .ok (.putfield 25, 3) := by decide +kernel
theorem dX1_init_41 : decode cX1_init 41 = .ok (.return_, 1) := by decide +kernel
theorem dX1_reset_0 : decode cX1_reset 0 = .ok (.aload_n 0, 1) := by decide +kernel
theorem dX1_reset_1 : decode cX1_reset 1 = .ok (.iconst 4, 1) := by decide +kernel
theorem dX1_reset_2 : decode cX1_reset 2 = .ok (.putfield 9, 3) := by decide +kernel
theorem dX1_reset_5 : decode cX1_reset 5 = .ok (.aload_n 0, 1) := by decide +kernel
theorem dX1_reset_6 : decode cX1_reset 6 = .ok (.iconst 0, 1) := by decide +kernel
theorem dX1_reset_7 : decode cX1_reset 7 = .ok (.putfield 28, 3) := by decide +kernel
theorem dX1_reset_10 : decode cX1_reset 10 = .ok (.return_, 1) := by decide +kernel
theorem dX1_add_0 : decode cX1_add 0 = .ok (.aload_n 0, 1) := by decide +kernel
theorem dX1_add_1 : decode cX1_add 1 = .ok (.getfield 28, 3) := by decide +kernel
theorem dX1_add_4 : decode cX1_add 4 = .ok (.bipush 6, 2) := by decide +kernel
theorem dX1_add_6 : decode cX1_add 6 = .ok (.if_icmp .lt 4, 3) := by decide +kernel
theorem dX1_add_9 : decode cX1_add 9 = .ok (.return_, 1) := by decide +kernel
theorem dX1_add_10 : decode cX1_add 10 = .ok (.aload_n 0, 1) := by decide +kernel
theorem dX1_add_11 : decode cX1_add 11 = .ok (.getfield 15, 3) := by decide +kernel
theorem dX1_add_14 : decode cX1_add 14 = .ok (.aload_n 0, 1) := by decide +kernel
theorem dX1_add_15 : decode cX1_add 15 = .ok (.getfield 28, 3) := by decide +kernel
theorem dX1_add_18 : decode cX1_add 18 = .ok (.iload_n 1, 1) := by decide +kernel
theorem dX1_add_19 : decode cX1_add 19 = .ok (.iastore, 1) := by decide +kernel
theorem dX1_add_20 : decode cX1_add 20 = .ok (.aload_n 0, 1) := by decide +kernel
theorem dX1_add_21 : decode cX1_add 21 = .ok (.getfield 19, 3) := by decide +kernel
theorem dX1_add_24 : decode cX1_add 24 = .ok (.aload_n 0, 1) := by decide +kernel
theorem dX1_add_25 : decode cX1_add 25 = .ok (.getfield 28, 3) := by decide +kernel
theorem dX1_add_28 : decode cX1_add 28 = .ok (.iload_n 2, 1) := by decide +kernel
theorem dX1_add_29 : decode cX1_add 29 = .ok (.iastore, 1) := by decide +kernel
theorem dX1_add_30 : decode cX1_add 30 = .ok (.aload_n 0, 1) := by decide +kernel
theorem dX1_add_31 : decode cX1_add 31 = .ok (.getfield 22, 3) := by decide +kernel
theorem dX1_add_34 : decode cX1_add 34 = .ok (.aload_n 0, 1) := by decide +kernel
theorem dX1_add_35 : decode cX1_add 35 = .ok (.getfield 28, 3) := by decide +kernel
theorem dX1_add_38 : decode cX1_add 38 = .ok (.iload_n 3, 1) := by decide +kernel
theorem dX1_add_39 : decode cX1_add 39 = .ok (.iastore, 1) := by decide +kernel
theorem dX1_add_40 : decode cX1_add 40 = .ok (.aload_n 0, 1) := by decide +kernel
theorem dX1_add_41 : decode cX1_add 41 = .ok (.getfield 25, 3) := by decide +kernel
theorem dX1_add_44 : decode cX1_add 44 = .ok (.aload_n 0, 1) := by decide +kernel
theorem dX1_add_45 : decode cX1_add 45 = .ok (.getfield 28, 3) := by decide +kernel
theorem dX1_add_48 : decode cX1_add 48 = .ok (.iload 4, 2) := by decide +kernel
theorem dX1_add_50 : decode cX1_add 50 = .ok (.iastore, 1) := by decide +kernel
theorem dX1_add_51 : decode cX1_add 51 = .ok (.aload_n 0, 1) := by decide +kernel
theorem dX1_add_52 : decode cX1_add 52 = .ok (.dup, 1) := by decide +kernel
theorem dX1_add_53 : decode cX1_add 53 = .ok (.getfield 28, 3) := by decide +kernel
theorem dX1_add_56 : decode cX1_add 56 = .ok (.iconst 1, 1) := by decide +kernel
theorem dX1_add_57 : decode cX1_add 57 = .ok (.iadd, 1) := by decide +kernel
theorem dX1_add_58 : decode cX1_add 58 = .ok (.putfield 28, 3) := by decide +kernel
theorem dX1_add_61 : decode cX1_add 61 = .ok (.return_, 1) := by decide +kernel
theorem dX2_init_0 : decode cX2_init 0 = .ok (.aload_n 0, 1) := by decide +kernel
theorem dX2_init_1 : decode cX2_init 1 = .ok (.invokespecial 1, 3) := by decide +kernel
theorem dX2_init_4 : decode cX2_init 4 = .ok (.return_, 1) := by decide +kernel
theorem dX2_worth_0 : decode cX2_worth 0 = .ok (.aload_n 1, 1) := by decide +kernel
theorem dX2_worth_1 : decode cX2_worth 1 = .ok (.dup, 1) := by decide +kernel
theorem dX2_worth_2 : decode cX2_worth 2 = .ok (.getfield 7, 3) := by decide +kernel
theorem dX2_worth_5 : decode cX2_worth 5 = .ok (.ldc2_w 13, 3) := by decide +kernel
theorem dX2_worth_8 : decode cX2_worth 8 = .ok (.ladd, 1) := by decide +kernel
theorem dX2_worth_9 : decode cX2_worth 9 = .ok (.putfield 7, 3) := by decide +kernel
theorem dX2_worth_12 : decode cX2_worth 12 = .ok (.iconst 2, 1) := by decide +kernel
theorem dX2_worth_13 : decode cX2_worth 13 = .ok (.aload_n 0, 1) := by decide +kernel
theorem dX2_worth_14 : decode cX2_worth 14 = .ok (.aload_n 1, 1) := by decide +kernel
theorem dX2_worth_15 : decode cX2_worth 15 = .ok (.iload_n 2, 1) := by decide +kernel
theorem dX2_worth_16 : decode cX2_worth 16 = .ok (.invokespecial 15, 3) := by decide +kernel
theorem dX2_worth_19 : decode cX2_worth 19 = .ok (.imul, 1) := by decide +kernel
theorem dX2_worth_20 : decode cX2_worth 20 = .ok (.ireturn, 1) := by decide +kernel
theorem dX3_init_0 : decode cX3_init 0 = .ok (.aload_n 0, 1) := by decide +kernel
theorem dX3_init_1 : decode cX3_init 1 = .ok (.invokespecial 1, 3) := by decide +kernel
theorem dX3_init_4 : decode cX3_init 4 = .ok (.return_, 1) := by decide +kernel
theorem dX3_worth_0 : decode cX3_worth 0 = .ok (.aload_n 1, 1) := by decide +kernel
theorem dX3_worth_1 : decode cX3_worth 1 = .ok (.dup, 1) := by decide +kernel
theorem dX3_worth_2 : decode cX3_worth 2 = .ok (.getfield 7, 3) := by decide +kernel
theorem dX3_worth_5 : decode cX3_worth 5 = .ok (.ldc2_w 13, 3) := by decide +kernel
theorem dX3_worth_8 : decode cX3_worth 8 = .ok (.ladd, 1) := by decide +kernel
theorem dX3_worth_9 : decode cX3_worth 9 = .ok (.putfield 7, 3) := by decide +kernel
theorem dX3_worth_12 : decode cX3_worth 12 = .ok (.aload_n 0, 1) := by decide +kernel
theorem dX3_worth_13 : decode cX3_worth 13 = .ok (.aload_n 1, 1) := by decide +kernel
theorem dX3_worth_14 : decode cX3_worth 14 = .ok (.iload_n 2, 1) := by decide +kernel
theorem dX3_worth_15 : decode cX3_worth 15 = .ok (.invokespecial 15, 3) := by decide +kernel
theorem dX3_worth_18 : decode cX3_worth 18 = .ok (.aload_n 1, 1) := by decide +kernel
theorem dX3_worth_19 : decode cX3_worth 19 = .ok (.getfield 19, 3) := by decide +kernel
theorem dX3_worth_22 : decode cX3_worth 22 = .ok (.getfield 23, 3) := by decide +kernel
theorem dX3_worth_25 : decode cX3_worth 25 = .ok (.iadd, 1) := by decide +kernel
theorem dX3_worth_26 : decode cX3_worth 26 = .ok (.ireturn, 1) := by decide +kernel
theorem dX4_init_0 : decode cX4_init 0 = .ok (.aload_n 0, 1) := by decide +kernel
theorem dX4_init_1 : decode cX4_init 1 = .ok (.invokespecial 1, 3) := by decide +kernel
theorem dX4_init_4 : decode cX4_init 4 = .ok (.return_, 1) := by decide +kernel
theorem dX4_worth_0 : decode cX4_worth 0 = .ok (.aload_n 1, 1) := by decide +kernel
theorem dX4_worth_1 : decode cX4_worth 1 = .ok (.dup, 1) := by decide +kernel
theorem dX4_worth_2 : decode cX4_worth 2 = .ok (.getfield 7, 3) := by decide +kernel
theorem dX4_worth_5 : decode cX4_worth 5 = .ok (.ldc2_w 13, 3) := by decide +kernel
theorem dX4_worth_8 : decode cX4_worth 8 = .ok (.ladd, 1) := by decide +kernel
theorem dX4_worth_9 : decode cX4_worth 9 = .ok (.putfield 7, 3) := by decide +kernel
theorem dX4_worth_12 : decode cX4_worth 12 = .ok (.aload_n 0, 1) := by decide +kernel
theorem dX4_worth_13 : decode cX4_worth 13 = .ok (.aload_n 1, 1) := by decide +kernel
theorem dX4_worth_14 : decode cX4_worth 14 = .ok (.iload_n 2, 1) := by decide +kernel
theorem dX4_worth_15 : decode cX4_worth 15 = .ok (.invokespecial 15, 3) := by decide +kernel
theorem dX4_worth_18 : decode cX4_worth 18 = .ok (.aload_n 1, 1) := by decide +kernel
theorem dX4_worth_19 : decode cX4_worth 19 = .ok (.getfield 19, 3) := by decide +kernel
theorem dX4_worth_22 : decode cX4_worth 22 = .ok (.getfield 23, 3) := by decide +kernel
theorem dX4_worth_25 : decode cX4_worth 25 = .ok (.isub, 1) := by decide +kernel
theorem dX4_worth_26 : decode cX4_worth 26 = .ok (.ireturn, 1) := by decide +kernel
theorem dX5_init_0 : decode cX5_init 0 = .ok (.aload_n 0, 1) := by decide +kernel
theorem dX5_init_1 : decode cX5_init 1 = .ok (.invokespecial 1, 3) := by decide +kernel
theorem dX5_init_4 : decode cX5_init 4 = .ok (.return_, 1) := by decide +kernel
theorem dX5_worth_0 : decode cX5_worth 0 = .ok (.aload_n 1, 1) := by decide +kernel
theorem dX5_worth_1 : decode cX5_worth 1 = .ok (.dup, 1) := by decide +kernel
theorem dX5_worth_2 : decode cX5_worth 2 = .ok (.getfield 7, 3) := by decide +kernel
theorem dX5_worth_5 : decode cX5_worth 5 = .ok (.lconst 1, 1) := by decide +kernel
theorem dX5_worth_6 : decode cX5_worth 6 = .ok (.ladd, 1) := by decide +kernel
theorem dX5_worth_7 : decode cX5_worth 7 = .ok (.putfield 7, 3) := by decide +kernel
theorem dX5_worth_10 : decode cX5_worth 10 = .ok (.aload_n 1, 1) := by decide +kernel
theorem dX5_worth_11 : decode cX5_worth 11 = .ok (.getfield 13, 3) := by decide +kernel
theorem dX5_worth_14 : decode cX5_worth 14 = .ok (.getfield 17, 3) := by decide +kernel
theorem dX5_worth_17 : decode cX5_worth 17 = .ok (.iload_n 2, 1) := by decide +kernel
theorem dX5_worth_18 : decode cX5_worth 18 = .ok (.iaload, 1) := by decide +kernel
theorem dX5_worth_19 : decode cX5_worth 19 = .ok (.ireturn, 1) := by decide +kernel
theorem dX6_init_0 : decode cX6_init 0 = .ok (.aload_n 0, 1) := by decide +kernel
theorem dX6_init_1 : decode cX6_init 1 = .ok (.invokespecial 3, 3) := by decide +kernel
theorem dX6_init_4 : decode cX6_init 4 = .ok (.aload_n 0, 1) := by decide +kernel
theorem dX6_init_5 : decode cX6_init 5 = .ok (.bipush 10, 2) := by decide +kernel
theorem dX6_init_7 : decode cX6_init 7 = .ok (.anewarray 9, 3) := by decide +kernel
theorem dX6_init_10 : decode cX6_init 10 = .ok (.putfield 11, 3) := by decide +kernel
theorem dX6_init_13 : decode cX6_init 13 = .ok (.iconst 0, 1) := by decide +kernel
theorem dX6_init_14 : decode cX6_init 14 = .ok (.istore_n 1, 1) := by decide +kernel
theorem dX6_init_15 : decode cX6_init 15 = .ok (.iload_n 1, 1) := by decide +kernel
theorem dX6_init_16 : decode cX6_init 16 = .ok (.bipush 10, 2) := by decide +kernel
theorem dX6_init_18 : decode cX6_init 18 = .ok (.if_icmp .ge 22, 3) := by decide +kernel
theorem dX6_init_21 : decode cX6_init 21 = .ok (.aload_n 0, 1) := by decide +kernel
theorem dX6_init_22 : decode cX6_init 22 = .ok (.getfield 11, 3) := by decide +kernel
theorem dX6_init_25 : decode cX6_init 25 = .ok (.iload_n 1, 1) := by decide +kernel
theorem dX6_init_26 : decode cX6_init 26 = .ok (.new 9, 3) := by decide +kernel
theorem dX6_init_29 : decode cX6_init 29 = .ok (.dup, 1) := by decide +kernel
theorem dX6_init_30 : decode cX6_init 30 = .ok (.invokespecial 17, 3) := by decide +kernel
theorem dX6_init_33 : decode cX6_init 33 = .ok (.aastore, 1) := by decide +kernel
theorem dX6_init_34 : decode cX6_init 34 = .ok (.iinc 1 1, 3) := by decide +kernel
theorem dX6_init_37 : decode cX6_init 37 = .ok (.goto (-22), 3) := by decide +kernel
theorem dX6_init_40 : decode cX6_init 40 = .ok (.return_, 1) := by decide +kernel
theorem dX6_push_0 : decode cX6_push 0 = .ok (.aload_n 0, 1) := by decide +kernel
theorem dX6_push_1 : decode cX6_push 1 = .ok (.getfield 11, 3) := by decide +kernel
theorem dX6_push_4 : decode cX6_push 4 = .ok (.aload_n 0, 1) := by decide +kernel
theorem dX6_push_5 : decode cX6_push 5 = .ok (.getfield 18, 3) := by decide +kernel
theorem dX6_push_8 : decode cX6_push 8 = .ok (.aaload, 1) := by decide +kernel
theorem dX6_push_9 : decode cX6_push 9 = .ok (.astore_n 2, 1) := by decide +kernel
theorem dX6_push_10 : decode cX6_push 10 = .ok (.aload_n 2, 1) := by decide +kernel
theorem dX6_push_11 : decode cX6_push 11 = .ok (.ifnonnull 4, 3) := by decide +kernel
theorem dX6_push_14 : decode cX6_push 14 = .ok (.return_, 1) := by decide +kernel
theorem dX6_push_15 : decode cX6_push 15 = .ok (.aload_n 2, 1) := by decide +kernel
theorem dX6_push_16 : decode cX6_push 16 = .ok (.aload_n 1, 1) := by decide +kernel
theorem dX6_push_17 : decode cX6_push 17 = .ok (.invokevirtual 22, 3) := by decide +kernel
theorem dX6_push_20 : decode cX6_push 20 = .ok (.aload_n 0, 1) := by decide +kernel
theorem dX6_push_21 : decode cX6_push 21 = .ok (.aload_n 0, 1) := by decide +kernel
theorem dX6_push_22 : decode cX6_push 22 = .ok (.getfield 18, 3) := by decide +kernel
theorem dX6_push_25 : decode cX6_push 25 = .ok (.iconst 1, 1) := by decide +kernel
theorem dX6_push_26 : decode cX6_push 26 = .ok (.iadd, 1) := by decide +kernel
theorem dX6_push_27 : decode cX6_push 27 = .ok (.bipush 10, 2) := by decide +kernel
theorem dX6_push_29 : decode cX6_push 29 = .ok (.irem, 1) := by decide +kernel
theorem dX6_push_30 : decode cX6_push 30 = .ok (.putfield 18, 3) := by decide +kernel
theorem dX6_push_33 : decode cX6_push 33 = .ok (.aload_n 0, 1) := by decide +kernel
theorem dX6_push_34 : decode cX6_push 34 = .ok (.aload_n 0, 1) := by decide +kernel
theorem dX6_push_35 : decode cX6_push 35 = .ok (.getfield 26, 3) := by decide +kernel
theorem dX6_push_38 : decode cX6_push 38 = .ok (.iconst 1, 1) := by decide +kernel
theorem dX6_push_39 : decode cX6_push 39 = .ok (.iadd, 1) := by decide +kernel
theorem dX6_push_40 : decode cX6_push 40 = .ok (.bipush 10, 2) := by decide +kernel
theorem dX6_push_42 : decode cX6_push 42 = .ok (.invokestatic 29, 3) := by decide +kernel
theorem dX6_push_45 : decode cX6_push 45 = .ok (.putfield 26, 3) := by decide +kernel
theorem dX6_push_48 : decode cX6_push 48 = .ok (.return_, 1) := by decide +kernel
theorem dX6_popInto_0 : decode cX6_popInto 0 = .ok (.aload_n 0, 1) := by decide +kernel
theorem dX6_popInto_1 : decode cX6_popInto 1 = .ok (.getfield 18, 3) := by decide +kernel
theorem dX6_popInto_4 : decode cX6_popInto 4 = .ok (.bipush 10, 2) := by decide +kernel
theorem dX6_popInto_6 : decode cX6_popInto 6 = .ok (.iadd, 1) := by decide +kernel
theorem dX6_popInto_7 : decode cX6_popInto 7 = .ok (.iconst 1, 1) := by decide +kernel
theorem dX6_popInto_8 : decode cX6_popInto 8 = .ok (.isub, 1) := by decide +kernel
theorem dX6_popInto_9 : decode cX6_popInto 9 = .ok (.bipush 10, 2) := by decide +kernel
theorem dX6_popInto_11 : decode cX6_popInto 11 = .ok (.irem, 1) := by decide +kernel
theorem dX6_popInto_12 : decode cX6_popInto 12 = .ok (.istore_n 2, 1) := by decide +kernel
theorem dX6_popInto_13 : decode cX6_popInto 13 = .ok (.aload_n 0, 1) := by decide +kernel
theorem dX6_popInto_14 : decode cX6_popInto 14 = .ok (.getfield 11, 3) := by decide +kernel
theorem dX6_popInto_17 : decode cX6_popInto 17 = .ok (.iload_n 2, 1) := by decide +kernel
theorem dX6_popInto_18 : decode cX6_popInto 18 = .ok (.aaload, 1) := by decide +kernel
theorem dX6_popInto_19 : decode cX6_popInto 19 = .ok (.astore_n 3, 1) := by decide +kernel
theorem dX6_popInto_20 : decode cX6_popInto 20 = .ok (.aload_n 0, 1) := by decide +kernel
theorem dX6_popInto_21 : decode cX6_popInto 21 = .ok (.getfield 26, 3) := by decide +kernel
theorem dX6_popInto_24 : decode cX6_popInto 24 = .ok (.ifCond .le 7, 3) := by decide +kernel
theorem dX6_popInto_27 : decode cX6_popInto 27 = .ok (.aload_n 3, 1) := by decide +kernel
theorem dX6_popInto_28 : decode cX6_popInto 28 = .ok (.ifnonnull 4, 3) := by decide +kernel
theorem dX6_popInto_31 : decode cX6_popInto 31 = .ok (.return_, 1) := by decide +kernel
theorem dX6_popInto_32 : decode cX6_popInto 32 = .ok (.aload_n 1, 1) := by decide +kernel
theorem dX6_popInto_33 : decode cX6_popInto 33 = .ok (.aload_n 3, 1) := by decide +kernel
theorem dX6_popInto_34 : decode cX6_popInto 34 = .ok (.invokevirtual 22, 3) := by decide +kernel
theorem dX6_popInto_37 : decode cX6_popInto 37 = .ok (.aload_n 0, 1) := by decide +kernel
theorem dX6_popInto_38 : decode cX6_popInto 38 = .ok (.iload_n 2, 1) := by decide +kernel
theorem dX6_popInto_39 : decode cX6_popInto 39 = .ok (.putfield 18, 3) := by decide +kernel
theorem dX6_popInto_42 : decode cX6_popInto 42 = .ok (.aload_n 0, 1) := by decide +kernel
theorem dX6_popInto_43 : decode cX6_popInto 43 = .ok (.dup, 1) := by decide +kernel
theorem dX6_popInto_44 : decode cX6_popInto 44 = .ok (.getfield 26, 3) := by decide +kernel
theorem dX6_popInto_47 : decode cX6_popInto 47 = .ok (.iconst 1, 1) := by decide +kernel
theorem dX6_popInto_48 : decode cX6_popInto 48 = .ok (.isub, 1) := by decide +kernel
theorem dX6_popInto_49 : decode cX6_popInto 49 = .ok (.putfield 26, 3) := by decide +kernel
theorem dX6_popInto_52 : decode cX6_popInto 52 = .ok (.return_, 1) := by decide +kernel
theorem dX7_init_0 : decode cX7_init 0 = .ok (.aload_n 0, 1) := by decide +kernel
theorem dX7_init_1 : decode cX7_init 1 = .ok (.invokespecial 1, 3) := by decide +kernel
theorem dX7_init_4 : decode cX7_init 4 = .ok (.return_, 1) := by decide +kernel
theorem dX7_worth_0 : decode cX7_worth 0 = .ok (.aload_n 1, 1) := by decide +kernel
theorem dX7_worth_1 : decode cX7_worth 1 = .ok (.dup, 1) := by decide +kernel
theorem dX7_worth_2 : decode cX7_worth 2 = .ok (.getfield 7, 3) := by decide +kernel
theorem dX7_worth_5 : decode cX7_worth 5 = .ok (.ldc2_w 13, 3) := by decide +kernel
theorem dX7_worth_8 : decode cX7_worth 8 = .ok (.ladd, 1) := by decide +kernel
theorem dX7_worth_9 : decode cX7_worth 9 = .ok (.putfield 7, 3) := by decide +kernel
theorem dX7_worth_12 : decode cX7_worth 12 = .ok (.aload_n 0, 1) := by decide +kernel
theorem dX7_worth_13 : decode cX7_worth 13 = .ok (.aload_n 1, 1) := by decide +kernel
theorem dX7_worth_14 : decode cX7_worth 14 = .ok (.iload_n 2, 1) := by decide +kernel
theorem dX7_worth_15 : decode cX7_worth 15 = .ok (.invokespecial 15, 3) := by decide +kernel
theorem dX7_worth_18 : decode cX7_worth 18 = .ok (.iload_n 2, 1) := by decide +kernel
theorem dX7_worth_19 : decode cX7_worth 19 = .ok (.iadd, 1) := by decide +kernel
theorem dX7_worth_20 : decode cX7_worth 20 = .ok (.ireturn, 1) := by decide +kernel
theorem dX8_init_0 : decode cX8_init 0 = .ok (.aload_n 0, 1) := by decide +kernel
theorem dX8_init_1 : decode cX8_init 1 = .ok (.invokespecial 3, 3) := by decide +kernel
theorem dX8_init_4 : decode cX8_init 4 = .ok (.aload_n 0, 1) := by decide +kernel
theorem dX8_init_5 : decode cX8_init 5 = .ok (.bipush 6, 2) := by decide +kernel
theorem dX8_init_7 : decode cX8_init 7 = .ok (.newarray .int, 2) := by decide +kernel
theorem dX8_init_9 : decode cX8_init 9 = .ok (.putfield 9, 3) := by decide +kernel
theorem dX8_init_12 : decode cX8_init 12 = .ok (.aload_n 0, 1) := by decide +kernel
theorem dX8_init_13 : decode cX8_init 13 = .ok (.bipush 6, 2) := by decide +kernel
theorem dX8_init_15 : decode cX8_init 15 = .ok (.newarray .int, 2) := by decide +kernel
theorem dX8_init_17 : decode cX8_init 17 = .ok (.putfield 15, 3) := by decide +kernel
theorem dX8_init_20 : decode cX8_init 20 = .ok (.aload_n 0, 1) := by decide +kernel
theorem dX8_init_21 : decode cX8_init 21 = .ok (.bipush 6, 2) := by decide +kernel
theorem dX8_init_23 : decode cX8_init 23 = .ok (.newarray .int, 2) := by decide +kernel
theorem dX8_init_25 : decode cX8_init 25 = .ok (.putfield 18, 3) := by decide +kernel
theorem dX8_init_28 : decode cX8_init 28 = .ok (.return_, 1) := by decide +kernel
theorem dX8_open_0 : decode cX8_open 0 = .ok (.aload_n 0, 1) := by decide +kernel
theorem dX8_open_1 : decode cX8_open 1 = .ok (.iconst 0, 1) := by decide +kernel
theorem dX8_open_2 : decode cX8_open 2 = .ok (.putfield 21, 3) := by decide +kernel
theorem dX8_open_5 : decode cX8_open 5 = .ok (.aload_n 0, 1) := by decide +kernel
theorem dX8_open_6 : decode cX8_open 6 = .ok (.aload_n 1, 1) := by decide +kernel
theorem dX8_open_7 : decode cX8_open 7 = .ok (.getfield 25, 3) := by decide +kernel
theorem dX8_open_10 : decode cX8_open 10 = .ok (.putfield 30, 3) := by decide +kernel
theorem dX8_open_13 : decode cX8_open 13 = .ok (.aload_n 0, 1) := by decide +kernel
theorem dX8_open_14 : decode cX8_open 14 = .ok (.aload_n 1, 1) := by decide +kernel
theorem dX8_open_15 : decode cX8_open 15 = .ok (.getfield 25, 3) := by decide +kernel
theorem dX8_open_18 : decode cX8_open 18 = .ok (.putfield 31, 3) := by decide +kernel
theorem dX8_open_21 : decode cX8_open 21 = .ok (.aload_n 0, 1) := by decide +kernel
theorem dX8_open_22 : decode cX8_open 22 = .ok (.iconst 1, 1) := by decide +kernel
theorem dX8_open_23 : decode cX8_open 23 = .ok (.aload_n 1, 1) := by decide +kernel
theorem dX8_open_24 : decode cX8_open 24 = .ok (.getfield 34, 3) := by decide +kernel
theorem dX8_open_27 : decode cX8_open 27 = .ok (.ishl, 1) := by decide +kernel
theorem dX8_open_28 : decode cX8_open 28 = .ok (.iconst 1, 1) := by decide +kernel
theorem dX8_open_29 : decode cX8_open 29 = .ok (.isub, 1) := by decide +kernel
theorem dX8_open_30 : decode cX8_open 30 = .ok (.putfield 37, 3) := by decide +kernel
theorem dX8_open_33 : decode cX8_open 33 = .ok (.iconst 0, 1) := by decide +kernel
theorem dX8_open_34 : decode cX8_open 34 = .ok (.istore_n 2, 1) := by decide +kernel
theorem dX8_open_35 : decode cX8_open 35 = .ok (.iload_n 2, 1) := by decide +kernel
theorem dX8_open_36 : decode cX8_open 36 = .ok (.bipush 6, 2) := by decide +kernel
theorem dX8_open_38 : decode cX8_open 38 = .ok (.if_icmp .ge 40, 3) := by decide +kernel
theorem dX8_open_41 : decode cX8_open 41 = .ok (.aload_n 0, 1) := by decide +kernel
theorem dX8_open_42 : decode cX8_open 42 = .ok (.getfield 9, 3) := by decide +kernel
theorem dX8_open_45 : decode cX8_open 45 = .ok (.iload_n 2, 1) := by decide +kernel
theorem dX8_open_46 : decode cX8_open 46 = .ok (.iconst 0, 1) := by decide +kernel
theorem dX8_open_47 : decode cX8_open 47 = .ok (.iastore, 1) := by decide +kernel
theorem dX8_open_48 : decode cX8_open 48 = .ok (.aload_n 0, 1) := by decide +kernel
theorem dX8_open_49 : decode cX8_open 49 = .ok (.getfield 15, 3) := by decide +kernel
theorem dX8_open_52 : decode cX8_open 52 = .ok (.iload_n 2, 1) := by decide +kernel
theorem dX8_open_53 : decode cX8_open 53 = .ok (.aload_n 1, 1) := by decide +kernel
theorem dX8_open_54 : decode cX8_open 54 = .ok (.getfield 40, 3) := by decide +kernel
theorem dX8_open_57 : decode cX8_open 57 = .ok (.iload_n 2, 1) := by decide +kernel
theorem dX8_open_58 : decode cX8_open 58 = .ok (.iaload, 1) := by decide +kernel
theorem dX8_open_59 : decode cX8_open 59 = .ok (.iastore, 1) := by decide +kernel
theorem dX8_open_60 : decode cX8_open 60 = .ok (.aload_n 0, 1) := by decide +kernel
theorem dX8_open_61 : decode cX8_open 61 = .ok (.getfield 18, 3) := by decide +kernel
theorem dX8_open_64 : decode cX8_open 64 = .ok (.iload_n 2, 1) := by decide +kernel
theorem dX8_open_65 : decode cX8_open 65 = .ok (.aload_n 1, 1) := by decide +kernel
theorem dX8_open_66 : decode cX8_open 66 = .ok (.getfield 43, 3) := by decide +kernel
theorem dX8_open_69 : decode cX8_open 69 = .ok (.iload_n 2, 1) := by decide +kernel
theorem dX8_open_70 : decode cX8_open 70 = .ok (.iaload, 1) := by decide +kernel
theorem dX8_open_71 : decode cX8_open 71 = .ok (.iastore, 1) := by decide +kernel
theorem dX8_open_72 : decode cX8_open 72 = .ok (.iinc 2 1, 3) := by decide +kernel
theorem dX8_open_75 : decode cX8_open 75 = .ok (.goto (-40), 3) := by decide +kernel
theorem dX8_open_78 : decode cX8_open 78 = .ok (.return_, 1) := by decide +kernel
theorem dX8_become_0 : decode cX8_become 0 = .ok (.aload_n 0, 1) := by decide +kernel
theorem dX8_become_1 : decode cX8_become 1 = .ok (.aload_n 1, 1) := by decide +kernel
theorem dX8_become_2 : decode cX8_become 2 = .ok (.getfield 21, 3) := by decide +kernel
theorem dX8_become_5 : decode cX8_become 5 = .ok (.putfield 21, 3) := by decide +kernel
theorem dX8_become_8 : decode cX8_become 8 = .ok (.aload_n 0, 1) := by decide +kernel
theorem dX8_become_9 : decode cX8_become 9 = .ok (.aload_n 1, 1) := by decide +kernel
theorem dX8_become_10 : decode cX8_become 10 = .ok (.getfield 30, 3) := by decide +kernel
theorem dX8_become_13 : decode cX8_become 13 = .ok (.putfield 30, 3) := by decide +kernel
theorem dX8_become_16 : decode cX8_become 16 = .ok (.aload_n 0, 1) := by decide +kernel
theorem dX8_become_17 : decode cX8_become 17 = .ok (.aload_n 1, 1) := by decide +kernel
theorem dX8_become_18 : decode cX8_become 18 = .ok (.getfield 31, 3) := by decide +kernel
theorem dX8_become_21 : decode cX8_become 21 = .ok (.putfield 31, 3) := by decide +kernel
theorem dX8_become_24 : decode cX8_become 24 = .ok (.aload_n 0, 1) := by decide +kernel
theorem dX8_become_25 : decode cX8_become 25 = .ok (.aload_n 1, 1) := by decide +kernel
theorem dX8_become_26 : decode cX8_become 26 = .ok (.getfield 37, 3) := by decide +kernel
theorem dX8_become_29 : decode cX8_become 29 = .ok (.putfield 37, 3) := by decide +kernel
theorem dX8_become_32 : decode cX8_become 32 = .ok (.aload_n 1, 1) := by decide +kernel
theorem dX8_become_33 : decode cX8_become 33 = .ok (.getfield 9, 3) := by decide +kernel
theorem dX8_become_36 : decode cX8_become 36 = .ok (.iconst 0, 1) := by decide +kernel
theorem dX8_become_37 : decode cX8_become 37 = .ok (.aload_n 0, 1) := by decide +kernel
theorem dX8_become_38 : decode cX8_become 38 = .ok (.getfield 9, 3) := by decide +kernel
theorem dX8_become_41 : decode cX8_become 41 = .ok (.iconst 0, 1) := by decide +kernel
theorem dX8_become_42 : decode cX8_become 42 = .ok (.bipush 6, 2) := by decide +kernel
theorem dX8_become_44 : decode cX8_become 44 = .ok (.invokestatic 44, 3) := by decide +kernel
theorem dX8_become_47 : decode cX8_become 47 = .ok (.aload_n 1, 1) := by decide +kernel
theorem dX8_become_48 : decode cX8_become 48 = .ok (.getfield 15, 3) := by decide +kernel
theorem dX8_become_51 : decode cX8_become 51 = .ok (.iconst 0, 1) := by decide +kernel
theorem dX8_become_52 : decode cX8_become 52 = .ok (.aload_n 0, 1) := by decide +kernel
theorem dX8_become_53 : decode cX8_become 53 = .ok (.getfield 15, 3) := by decide +kernel
theorem dX8_become_56 : decode cX8_become 56 = .ok (.iconst 0, 1) := by decide +kernel
theorem dX8_become_57 : decode cX8_become 57 = .ok (.bipush 6, 2) := by decide +kernel
theorem dX8_become_59 : decode cX8_become 59 = .ok (.invokestatic 44, 3) := by decide +kernel
theorem dX8_become_62 : decode cX8_become 62 = .ok (.aload_n 1, 1) := by decide +kernel
theorem dX8_become_63 : decode cX8_become 63 = .ok (.getfield 18, 3) := by decide +kernel
theorem dX8_become_66 : decode cX8_become 66 = .ok (.iconst 0, 1) := by decide +kernel
theorem dX8_become_67 : decode cX8_become 67 = .ok (.aload_n 0, 1) := by decide +kernel
theorem dX8_become_68 : decode cX8_become 68 = .ok (.getfield 18, 3) := by decide +kernel
theorem dX8_become_71 : decode cX8_become 71 = .ok (.iconst 0, 1) := by decide +kernel
theorem dX8_become_72 : decode cX8_become 72 = .ok (.bipush 6, 2) := by decide +kernel
theorem dX8_become_74 : decode cX8_become 74 = .ok (.invokestatic 44, 3) := by decide +kernel
theorem dX8_become_77 : decode cX8_become 77 = .ok (.return_, 1) := by decide +kernel
theorem dX8_holds_0 : decode cX8_holds 0 = .ok (.aload_n 0, 1) := by decide +kernel
theorem dX8_holds_1 : decode cX8_holds 1 = .ok (.getfield 37, 3) := by decide +kernel
theorem dX8_holds_4 : decode cX8_holds 4 = .ok (.iconst 1, 1) := by decide +kernel
theorem dX8_holds_5 : decode cX8_holds 5 = .ok (.iload_n 1, 1) := by decide +kernel
theorem dX8_holds_6 : decode cX8_holds 6 = .ok (.ishl, 1) := by decide +kernel
theorem dX8_holds_7 : decode cX8_holds 7 = .ok (.iand, 1) := by decide +kernel
theorem dX8_holds_8 : decode cX8_holds 8 = .ok (.ifCond .eq 7, 3) := by decide +kernel
theorem dX8_holds_11 : decode cX8_holds 11 = .ok (.iconst 1, 1) := by decide +kernel
theorem dX8_holds_12 : decode cX8_holds 12 = .ok (.goto 4, 3) := by decide +kernel
theorem dX8_holds_15 : decode cX8_holds 15 = .ok (.iconst 0, 1) := by decide +kernel
theorem dX8_holds_16 : decode cX8_holds 16 = .ok (.ireturn, 1) := by decide +kernel
theorem dX8_step_0 : decode cX8_step 0 = .ok (.aload_n 0, 1) := by decide +kernel
theorem dX8_step_1 : decode cX8_step 1 = .ok (.aload_n 1, 1) := by decide +kernel
theorem dX8_step_2 : decode cX8_step 2 = .ok (.invokevirtual 50, 3) := by decide +kernel
theorem dX8_step_5 : decode cX8_step 5 = .ok (.iconst 0, 1) := by decide +kernel
theorem dX8_step_6 : decode cX8_step 6 = .ok (.istore_n 2, 1) := by decide +kernel
theorem dX8_step_7 : decode cX8_step 7 = .ok (.aload_n 0, 1) := by decide +kernel
theorem dX8_step_8 : decode cX8_step 8 = .ok (.dup, 1) := by decide +kernel
theorem dX8_step_9 : decode cX8_step 9 = .ok (.getfield 31, 3) := by decide +kernel
theorem dX8_step_12 : decode cX8_step 12 = .ok (.iconst 1, 1) := by decide +kernel
theorem dX8_step_13 : decode cX8_step 13 = .ok (.isub, 1) := by decide +kernel
theorem dX8_step_14 : decode cX8_step 14 = .ok (.putfield 31, 3) := by decide +kernel
theorem dX8_step_17 : decode cX8_step 17 = .ok (.aload_n 0, 1) := by decide +kernel
theorem dX8_step_18 : decode cX8_step 18 = .ok (.getfield 31, 3) := by decide +kernel
theorem dX8_step_21 : decode cX8_step 21 = .ok (.ifCond .gt 48, 3) := by decide +kernel
theorem dX8_step_24 : decode cX8_step 24 = .ok (.aload_n 0, 1) := by decide +kernel
theorem dX8_step_25 : decode cX8_step 25 = .ok (.getfield 37, 3) := by decide +kernel
theorem dX8_step_28 : decode cX8_step 28 = .ok (.aload_n 0, 1) := by decide +kernel
theorem dX8_step_29 : decode cX8_step 29 = .ok (.invokevirtual 54, 3) := by decide +kernel
theorem dX8_step_32 : decode cX8_step 32 = .ok (.iconst (-1), 1) := by decide +kernel
theorem dX8_step_33 : decode cX8_step 33 = .ok (.ixor, 1) := by decide +kernel
theorem dX8_step_34 : decode cX8_step 34 = .ok (.iand, 1) := by decide +kernel
theorem dX8_step_35 : decode cX8_step 35 = .ok (.istore_n 2, 1) := by decide +kernel
theorem dX8_step_36 : decode cX8_step 36 = .ok (.aload_n 0, 1) := by decide +kernel
theorem dX8_step_37 : decode cX8_step 37 = .ok (.dup, 1) := by decide +kernel
theorem dX8_step_38 : decode cX8_step 38 = .ok (.getfield 37, 3) := by decide +kernel
theorem dX8_step_41 : decode cX8_step 41 = .ok (.iload_n 2, 1) := by decide +kernel
theorem dX8_step_42 : decode cX8_step 42 = .ok (.iconst (-1), 1) := by decide +kernel
theorem dX8_step_43 : decode cX8_step 43 = .ok (.ixor, 1) := by decide +kernel
theorem dX8_step_44 : decode cX8_step 44 = .ok (.iand, 1) := by decide +kernel
theorem dX8_step_45 : decode cX8_step 45 = .ok (.putfield 37, 3) := by decide +kernel
theorem dX8_step_48 : decode cX8_step 48 = .ok (.aload_n 0, 1) := by decide +kernel
theorem dX8_step_49 : decode cX8_step 49 = .ok (.iload_n 2, 1) := by decide +kernel
theorem dX8_step_50 : decode cX8_step 50 = .ok (.ifCond .ne 10, 3) := by decide +kernel
theorem dX8_step_53 : decode cX8_step 53 = .ok (.aload_n 0, 1) := by decide +kernel
theorem dX8_step_54 : decode cX8_step 54 = .ok (.getfield 30, 3) := by decide +kernel
theorem dX8_step_57 : decode cX8_step 57 = .ok (.goto 9, 3) := by decide +kernel
theorem dX8_step_60 : decode cX8_step 60 = .ok (.aload_n 0, 1) := by decide +kernel
theorem dX8_step_61 : decode cX8_step 61 = .ok (.getfield 30, 3) := by decide +kernel
theorem dX8_step_64 : decode cX8_step 64 = .ok (.iconst 1, 1) := by decide +kernel
theorem dX8_step_65 : decode cX8_step 65 = .ok (.iadd, 1) := by decide +kernel
theorem dX8_step_66 : decode cX8_step 66 = .ok (.putfield 31, 3) := by decide +kernel
theorem dX8_step_69 : decode cX8_step 69 = .ok (.aload_n 0, 1) := by decide +kernel
theorem dX8_step_70 : decode cX8_step 70 = .ok (.invokevirtual 58, 3) := by decide +kernel
theorem dX8_step_73 : decode cX8_step 73 = .ok (.iload_n 2, 1) := by decide +kernel
theorem dX8_step_74 : decode cX8_step 74 = .ok (.ireturn, 1) := by decide +kernel
theorem dX8_jumpAll_0 : decode cX8_jumpAll 0 = .ok (.iconst 0, 1) := by decide +kernel
theorem dX8_jumpAll_1 : decode cX8_jumpAll 1 = .ok (.istore_n 2, 1) := by decide +kernel
theorem dX8_jumpAll_2 : decode cX8_jumpAll 2 = .ok (.iload_n 2, 1) := by decide +kernel
theorem dX8_jumpAll_3 : decode cX8_jumpAll 3 = .ok (.aload_n 1, 1) := by decide +kernel
theorem dX8_jumpAll_4 : decode cX8_jumpAll 4 = .ok (.getfield 34, 3) := by decide +kernel
theorem dX8_jumpAll_7 : decode cX8_jumpAll 7 = .ok (.if_icmp .ge 69, 3) := by decide +kernel
theorem dX8_jumpAll_10 : decode cX8_jumpAll 10 = .ok (.aload_n 0, 1) := by decide +kernel
theorem dX8_jumpAll_11 : decode cX8_jumpAll 11 = .ok (.iload_n 2, 1) := by decide +kernel
theorem dX8_jumpAll_12 : decode cX8_jumpAll 12 = .ok (.invokevirtual 61, 3) := by decide +kernel
theorem dX8_jumpAll_15 : decode cX8_jumpAll 15 = .ok (.ifCond .eq 55, 3) := by decide +kernel
theorem dX8_jumpAll_18 : decode cX8_jumpAll 18 = .ok (.aload_n 0, 1) := by decide +kernel
theorem dX8_jumpAll_19 : decode cX8_jumpAll 19 = .ok (.getfield 15, 3) := by decide +kernel
theorem dX8_jumpAll_22 : decode cX8_jumpAll 22 = .ok (.iload_n 2, 1) := by decide +kernel
theorem dX8_jumpAll_23 : decode cX8_jumpAll 23 = .ok (.iaload, 1) := by decide +kernel
theorem dX8_jumpAll_24 : decode cX8_jumpAll 24 = .ok (.ifCond .gt 46, 3) := by decide +kernel
theorem dX8_jumpAll_27 : decode cX8_jumpAll 27 = .ok (.aload_n 0, 1) := by decide +kernel
theorem dX8_jumpAll_28 : decode cX8_jumpAll 28 = .ok (.getfield 15, 3) := by decide +kernel
theorem dX8_jumpAll_31 : decode cX8_jumpAll 31 = .ok (.iload_n 2, 1) := by decide +kernel
theorem dX8_jumpAll_32 : decode cX8_jumpAll 32 = .ok (.aload_n 1, 1) := by decide +kernel
theorem dX8_jumpAll_33 : decode cX8_jumpAll 33 = .ok (.getfield 65, 3) := by decide +kernel
theorem dX8_jumpAll_36 : decode cX8_jumpAll 36 = .ok (.iload_n 2, 1) := by decide +kernel
theorem dX8_jumpAll_37 : decode cX8_jumpAll 37 = .ok (.iaload, 1) := by decide +kernel
theorem dX8_jumpAll_38 : decode cX8_jumpAll 38 = .ok (.iastore, 1) := by decide +kernel
theorem dX8_jumpAll_39 : decode cX8_jumpAll 39 = .ok (.aload_n 0, 1) := by decide +kernel
theorem dX8_jumpAll_40 : decode cX8_jumpAll 40 = .ok (.getfield 18, 3) := by decide +kernel
theorem dX8_jumpAll_43 : decode cX8_jumpAll 43 = .ok (.iload_n 2, 1) := by decide +kernel
theorem dX8_jumpAll_44 : decode cX8_jumpAll 44 = .ok (.iaload, 1) := by decide +kernel
theorem dX8_jumpAll_45 : decode cX8_jumpAll 45 = .ok (.ifCond .le 25, 3) := by decide +kernel
theorem dX8_jumpAll_48 : decode cX8_jumpAll 48 = .ok (.aload_n 0, 1) := by decide +kernel
theorem dX8_jumpAll_49 : decode cX8_jumpAll 49 = .ok (.getfield 18, 3) := by decide +kernel
theorem dX8_jumpAll_52 : decode cX8_jumpAll 52 = .ok (.iload_n 2, 1) := by decide +kernel
theorem dX8_jumpAll_53 : decode cX8_jumpAll 53 = .ok (.dup2, 1) := by decide +kernel
theorem dX8_jumpAll_54 : decode cX8_jumpAll 54 = .ok (.iaload, 1) := by decide +kernel
theorem dX8_jumpAll_55 : decode cX8_jumpAll 55 = .ok (.iconst 1, 1) := by decide +kernel
theorem dX8_jumpAll_56 : decode cX8_jumpAll 56 = .ok (.isub, 1) := by decide +kernel
theorem dX8_jumpAll_57 : decode cX8_jumpAll 57 = .ok (.iastore, 1) := by decide +kernel
theorem dX8_jumpAll_58 : decode cX8_jumpAll 58 = .ok (.aload_n 0, 1) := by decide +kernel
theorem dX8_jumpAll_59 : decode cX8_jumpAll 59 = .ok (.getfield 9, 3) := by decide +kernel
theorem dX8_jumpAll_62 : decode cX8_jumpAll 62 = .ok (.iload_n 2, 1) := by decide +kernel
theorem dX8_jumpAll_63 : decode cX8_jumpAll 63 = .ok (.aload_n 1, 1) := by decide +kernel
theorem dX8_jumpAll_64 : decode cX8_jumpAll 64 = .ok (.getfield 68, 3) := by decide +kernel
theorem dX8_jumpAll_67 : decode cX8_jumpAll 67 = .ok (.iload_n 2, 1) := by decide +kernel
theorem dX8_jumpAll_68 : decode cX8_jumpAll 68 = .ok (.iaload, 1) := by decide +kernel
theorem dX8_jumpAll_69 : decode cX8_jumpAll 69 = .ok (.iastore, 1) := by decide +kernel
theorem dX8_jumpAll_70 : decode cX8_jumpAll 70 = .ok (.iinc 2 1, 3) := by decide +kernel
theorem dX8_jumpAll_73 : decode cX8_jumpAll 73 = .ok (.goto (-71), 3) := by decide +kernel
theorem dX8_jumpAll_76 : decode cX8_jumpAll 76 = .ok (.return_, 1) := by decide +kernel
theorem dX8_airborne_0 : decode cX8_airborne 0 = .ok (.iconst 0, 1) := by decide +kernel
theorem dX8_airborne_1 : decode cX8_airborne 1 = .ok (.istore_n 1, 1) := by decide +kernel
theorem dX8_airborne_2 : decode cX8_airborne 2 = .ok (.iconst 0, 1) := by decide +kernel
theorem dX8_airborne_3 : decode cX8_airborne 3 = .ok (.istore_n 2, 1) := by decide +kernel
theorem dX8_airborne_4 : decode cX8_airborne 4 = .ok (.iload_n 2, 1) := by decide +kernel
theorem dX8_airborne_5 : decode cX8_airborne 5 = .ok (.bipush 6, 2) := by decide +kernel
theorem dX8_airborne_7 : decode cX8_airborne 7 = .ok (.if_icmp .ge 24, 3) := by decide +kernel
theorem dX8_airborne_10 : decode cX8_airborne 10 = .ok (.aload_n 0, 1) := by decide +kernel
theorem dX8_airborne_11 : decode cX8_airborne 11 = .ok (.getfield 9, 3) := by decide +kernel
theorem dX8_airborne_14 : decode cX8_airborne 14 = .ok (.iload_n 2, 1) := by decide +kernel
theorem dX8_airborne_15 : decode cX8_airborne 15 = .ok (.iaload, 1) := by decide +kernel
theorem dX8_airborne_16 : decode cX8_airborne 16 = .ok (.ifCond .le 9, 3) := by decide +kernel
theorem dX8_airborne_19 : decode cX8_airborne 19 = .ok (.iload_n 1, 1) := by decide +kernel
theorem dX8_airborne_20 : decode cX8_airborne 20 = .ok (.iconst 1, 1) := by decide +kernel
theorem dX8_airborne_21 : decode cX8_airborne 21 = .ok (.iload_n 2, 1) := by decide +kernel
theorem dX8_airborne_22 : decode cX8_airborne 22 = .ok (.ishl, 1) := by decide +kernel
theorem dX8_airborne_23 : decode cX8_airborne 23 = .ok (.ior, 1) := by decide +kernel
theorem dX8_airborne_24 : decode cX8_airborne 24 = .ok (.istore_n 1, 1) := by decide +kernel
theorem dX8_airborne_25 : decode cX8_airborne 25 = .ok (.iinc 2 1, 3) := by decide +kernel
theorem dX8_airborne_28 : decode cX8_airborne 28 = .ok (.goto (-24), 3) := by decide +kernel
theorem dX8_airborne_31 : decode cX8_airborne 31 = .ok (.iload_n 1, 1) := by decide +kernel
theorem dX8_airborne_32 : decode cX8_airborne 32 = .ok (.ireturn, 1) := by decide +kernel
theorem dX8_pass_0 : decode cX8_pass 0 = .ok (.aload_n 0, 1) := by decide +kernel
theorem dX8_pass_1 : decode cX8_pass 1 = .ok (.dup, 1) := by decide +kernel
theorem dX8_pass_2 : decode cX8_pass 2 = .ok (.getfield 21, 3) := by decide +kernel
theorem dX8_pass_5 : decode cX8_pass 5 = .ok (.iconst 1, 1) := by decide +kernel
theorem dX8_pass_6 : decode cX8_pass 6 = .ok (.iadd, 1) := by decide +kernel
theorem dX8_pass_7 : decode cX8_pass 7 = .ok (.putfield 21, 3) := by decide +kernel
theorem dX8_pass_10 : decode cX8_pass 10 = .ok (.iconst 0, 1) := by decide +kernel
theorem dX8_pass_11 : decode cX8_pass 11 = .ok (.istore_n 1, 1) := by decide +kernel
theorem dX8_pass_12 : decode cX8_pass 12 = .ok (.iload_n 1, 1) := by decide +kernel
theorem dX8_pass_13 : decode cX8_pass 13 = .ok (.bipush 6, 2) := by decide +kernel
theorem dX8_pass_15 : decode cX8_pass 15 = .ok (.if_icmp .ge 47, 3) := by decide +kernel
theorem dX8_pass_18 : decode cX8_pass 18 = .ok (.aload_n 0, 1) := by decide +kernel
theorem dX8_pass_19 : decode cX8_pass 19 = .ok (.getfield 9, 3) := by decide +kernel
theorem dX8_pass_22 : decode cX8_pass 22 = .ok (.iload_n 1, 1) := by decide +kernel
theorem dX8_pass_23 : decode cX8_pass 23 = .ok (.iaload, 1) := by decide +kernel
theorem dX8_pass_24 : decode cX8_pass 24 = .ok (.ifCond .le 13, 3) := by decide +kernel
theorem dX8_pass_27 : decode cX8_pass 27 = .ok (.aload_n 0, 1) := by decide +kernel
theorem dX8_pass_28 : decode cX8_pass 28 = .ok (.getfield 9, 3) := by decide +kernel
theorem dX8_pass_31 : decode cX8_pass 31 = .ok (.iload_n 1, 1) := by decide +kernel
theorem dX8_pass_32 : decode cX8_pass 32 = .ok (.dup2, 1) := by decide +kernel
theorem dX8_pass_33 : decode cX8_pass 33 = .ok (.iaload, 1) := by decide +kernel
theorem dX8_pass_34 : decode cX8_pass 34 = .ok (.iconst 1, 1) := by decide +kernel
theorem dX8_pass_35 : decode cX8_pass 35 = .ok (.isub, 1) := by decide +kernel
theorem dX8_pass_36 : decode cX8_pass 36 = .ok (.iastore, 1) := by decide +kernel
theorem dX8_pass_37 : decode cX8_pass 37 = .ok (.aload_n 0, 1) := by decide +kernel
theorem dX8_pass_38 : decode cX8_pass 38 = .ok (.getfield 15, 3) := by decide +kernel
theorem dX8_pass_41 : decode cX8_pass 41 = .ok (.iload_n 1, 1) := by decide +kernel
theorem dX8_pass_42 : decode cX8_pass 42 = .ok (.iaload, 1) := by decide +kernel
theorem dX8_pass_43 : decode cX8_pass 43 = .ok (.ifCond .le 13, 3) := by decide +kernel
theorem dX8_pass_46 : decode cX8_pass 46 = .ok (.aload_n 0, 1) := by decide +kernel
theorem dX8_pass_47 : decode cX8_pass 47 = .ok (.getfield 15, 3) := by decide +kernel
theorem dX8_pass_50 : decode cX8_pass 50 = .ok (.iload_n 1, 1) := by decide +kernel
theorem dX8_pass_51 : decode cX8_pass 51 = .ok (.dup2, 1) := by decide +kernel
theorem dX8_pass_52 : decode cX8_pass 52 = .ok (.iaload, 1) := by decide +kernel
theorem dX8_pass_53 : decode cX8_pass 53 = .ok (.iconst 1, 1) := by decide +kernel
theorem dX8_pass_54 : decode cX8_pass 54 = .ok (.isub, 1) := by decide +kernel
theorem dX8_pass_55 : decode cX8_pass 55 = .ok (.iastore, 1) := by decide +kernel
theorem dX8_pass_56 : decode cX8_pass 56 = .ok (.iinc 1 1, 3) := by decide +kernel
theorem dX8_pass_59 : decode cX8_pass 59 = .ok (.goto (-47), 3) := by decide +kernel
theorem dX8_pass_62 : decode cX8_pass 62 = .ok (.return_, 1) := by decide +kernel
theorem dX8_turn_0 : decode cX8_turn 0 = .ok (.iload_n 1, 1) := by decide +kernel
theorem dX8_turn_1 : decode cX8_turn 1 = .ok (.aload_n 0, 1) := by decide +kernel
theorem dX8_turn_2 : decode cX8_turn 2 = .ok (.getfield 30, 3) := by decide +kernel
theorem dX8_turn_5 : decode cX8_turn 5 = .ok (.if_icmp .ne 4, 3) := by decide +kernel
theorem dX8_turn_8 : decode cX8_turn 8 = .ok (.return_, 1) := by decide +kernel
theorem dX8_turn_9 : decode cX8_turn 9 = .ok (.aload_n 0, 1) := by decide +kernel
theorem dX8_turn_10 : decode cX8_turn 10 = .ok (.iload_n 1, 1) := by decide +kernel
theorem dX8_turn_11 : decode cX8_turn 11 = .ok (.putfield 30, 3) := by decide +kernel
theorem dX8_turn_14 : decode cX8_turn 14 = .ok (.aload_n 0, 1) := by decide +kernel
theorem dX8_turn_15 : decode cX8_turn 15 = .ok (.aload_n 0, 1) := by decide +kernel
theorem dX8_turn_16 : decode cX8_turn 16 = .ok (.getfield 31, 3) := by decide +kernel
theorem dX8_turn_19 : decode cX8_turn 19 = .ok (.iload_n 1, 1) := by decide +kernel
theorem dX8_turn_20 : decode cX8_turn 20 = .ok (.invokestatic 71, 3) := by decide +kernel
theorem dX8_turn_23 : decode cX8_turn 23 = .ok (.putfield 31, 3) := by decide +kernel
theorem dX8_turn_26 : decode cX8_turn 26 = .ok (.return_, 1) := by decide +kernel
theorem dX8_leave_0 : decode cX8_leave 0 = .ok (.aload_n 0, 1) := by decide +kernel
theorem dX8_leave_1 : decode cX8_leave 1 = .ok (.dup, 1) := by decide +kernel
theorem dX8_leave_2 : decode cX8_leave 2 = .ok (.getfield 37, 3) := by decide +kernel
theorem dX8_leave_5 : decode cX8_leave 5 = .ok (.iconst 1, 1) := by decide +kernel
theorem dX8_leave_6 : decode cX8_leave 6 = .ok (.iload_n 1, 1) := by decide +kernel
theorem dX8_leave_7 : decode cX8_leave 7 = .ok (.ishl, 1) := by decide +kernel
theorem dX8_leave_8 : decode cX8_leave 8 = .ok (.iconst (-1), 1) := by decide +kernel
theorem dX8_leave_9 : decode cX8_leave 9 = .ok (.ixor, 1) := by decide +kernel
theorem dX8_leave_10 : decode cX8_leave 10 = .ok (.iand, 1) := by decide +kernel
theorem dX8_leave_11 : decode cX8_leave 11 = .ok (.putfield 37, 3) := by decide +kernel
theorem dX8_leave_14 : decode cX8_leave 14 = .ok (.return_, 1) := by decide +kernel
theorem dX8_enter_0 : decode cX8_enter 0 = .ok (.aload_n 0, 1) := by decide +kernel
theorem dX8_enter_1 : decode cX8_enter 1 = .ok (.dup, 1) := by decide +kernel
theorem dX8_enter_2 : decode cX8_enter 2 = .ok (.getfield 37, 3) := by decide +kernel
theorem dX8_enter_5 : decode cX8_enter 5 = .ok (.iconst 1, 1) := by decide +kernel
theorem dX8_enter_6 : decode cX8_enter 6 = .ok (.iload_n 1, 1) := by decide +kernel
theorem dX8_enter_7 : decode cX8_enter 7 = .ok (.ishl, 1) := by decide +kernel
theorem dX8_enter_8 : decode cX8_enter 8 = .ok (.ior, 1) := by decide +kernel
theorem dX8_enter_9 : decode cX8_enter 9 = .ok (.putfield 37, 3) := by decide +kernel
theorem dX8_enter_12 : decode cX8_enter 12 = .ok (.aload_n 0, 1) := by decide +kernel
theorem dX8_enter_13 : decode cX8_enter 13 = .ok (.getfield 9, 3) := by decide +kernel
theorem dX8_enter_16 : decode cX8_enter 16 = .ok (.iload_n 1, 1) := by decide +kernel
theorem dX8_enter_17 : decode cX8_enter 17 = .ok (.iconst 0, 1) := by decide +kernel
theorem dX8_enter_18 : decode cX8_enter 18 = .ok (.iastore, 1) := by decide +kernel
theorem dX8_enter_19 : decode cX8_enter 19 = .ok (.aload_n 0, 1) := by decide +kernel
theorem dX8_enter_20 : decode cX8_enter 20 = .ok (.getfield 15, 3) := by decide +kernel
theorem dX8_enter_23 : decode cX8_enter 23 = .ok (.iload_n 1, 1) := by decide +kernel
theorem dX8_enter_24 : decode cX8_enter 24 = .ok (.iload_n 2, 1) := by decide +kernel
theorem dX8_enter_25 : decode cX8_enter 25 = .ok (.iastore, 1) := by decide +kernel
theorem dX8_enter_26 : decode cX8_enter 26 = .ok (.return_, 1) := by decide +kernel
theorem dX9_init_0 : decode cX9_init 0 = .ok (.aload_n 0, 1) := by decide +kernel
theorem dX9_init_1 : decode cX9_init 1 = .ok (.invokespecial 3, 3) := by decide +kernel
theorem dX9_init_4 : decode cX9_init 4 = .ok (.aload_n 0, 1) := by decide +kernel
theorem dX9_init_5 : decode cX9_init 5 = .ok (.bipush 6, 2) := by decide +kernel
theorem dX9_init_7 : decode cX9_init 7 = .ok (.newarray .int, 2) := by decide +kernel
theorem dX9_init_9 : decode cX9_init 9 = .ok (.putfield 9, 3) := by decide +kernel
theorem dX9_init_12 : decode cX9_init 12 = .ok (.aload_n 0, 1) := by decide +kernel
theorem dX9_init_13 : decode cX9_init 13 = .ok (.bipush 6, 2) := by decide +kernel
theorem dX9_init_15 : decode cX9_init 15 = .ok (.newarray .int, 2) := by decide +kernel
theorem dX9_init_17 : decode cX9_init 17 = .ok (.putfield 15, 3) := by decide +kernel
theorem dX9_init_20 : decode cX9_init 20 = .ok (.aload_n 0, 1) := by decide +kernel
theorem dX9_init_21 : decode cX9_init 21 = .ok (.bipush 6, 2) := by decide +kernel
theorem dX9_init_23 : decode cX9_init 23 = .ok (.newarray .boolean, 2) := by decide +kernel
theorem dX9_init_25 : decode cX9_init 25 = .ok (.putfield 18, 3) := by decide +kernel
theorem dX9_init_28 : decode cX9_init 28 = .ok (.aload_n 0, 1) := by decide +kernel
theorem dX9_init_29 : decode cX9_init 29 = .ok (.sipush 132, 3) := by decide +kernel
theorem dX9_init_32 : decode cX9_init 32 = .ok (.newarray .int, 2) := by decide +kernel
theorem dX9_init_34 : decode cX9_init 34 = .ok (.putfield 22, 3) := by decide +kernel
theorem dX9_init_37 : decode cX9_init 37 = .ok (.aload_n 0, 1) := by decide +kernel
theorem dX9_init_38 : decode cX9_init 38 = .ok (.sipush 132, 3) := by decide +kernel
theorem dX9_init_41 : decode cX9_init 41 = .ok (.newarray .int, 2) := by decide +kernel
theorem dX9_init_43 : decode cX9_init 43 = .ok (.putfield 25, 3) := by decide +kernel
theorem dX9_init_46 : decode cX9_init 46 = .ok (.return_, 1) := by decide +kernel
theorem dX9_add_0 : decode cX9_add 0 = .ok (.aload_n 0, 1) := by decide +kernel
theorem dX9_add_1 : decode cX9_add 1 = .ok (.getfield 28, 3) := by decide +kernel
theorem dX9_add_4 : decode cX9_add 4 = .ok (.bipush 6, 2) := by decide +kernel
theorem dX9_add_6 : decode cX9_add 6 = .ok (.if_icmp .lt 4, 3) := by decide +kernel
theorem dX9_add_9 : decode cX9_add 9 = .ok (.return_, 1) := by decide +kernel
theorem dX9_add_10 : decode cX9_add 10 = .ok (.aload_n 0, 1) := by decide +kernel
theorem dX9_add_11 : decode cX9_add 11 = .ok (.getfield 9, 3) := by decide +kernel
theorem dX9_add_14 : decode cX9_add 14 = .ok (.aload_n 0, 1) := by decide +kernel
theorem dX9_add_15 : decode cX9_add 15 = .ok (.getfield 28, 3) := by decide +kernel
theorem dX9_add_18 : decode cX9_add 18 = .ok (.iload_n 1, 1) := by decide +kernel
theorem dX9_add_19 : decode cX9_add 19 = .ok (.iastore, 1) := by decide +kernel
theorem dX9_add_20 : decode cX9_add 20 = .ok (.aload_n 0, 1) := by decide +kernel
theorem dX9_add_21 : decode cX9_add 21 = .ok (.getfield 15, 3) := by decide +kernel
theorem dX9_add_24 : decode cX9_add 24 = .ok (.aload_n 0, 1) := by decide +kernel
theorem dX9_add_25 : decode cX9_add 25 = .ok (.getfield 28, 3) := by decide +kernel
theorem dX9_add_28 : decode cX9_add 28 = .ok (.iload_n 2, 1) := by decide +kernel
theorem dX9_add_29 : decode cX9_add 29 = .ok (.iastore, 1) := by decide +kernel
theorem dX9_add_30 : decode cX9_add 30 = .ok (.aload_n 0, 1) := by decide +kernel
theorem dX9_add_31 : decode cX9_add 31 = .ok (.getfield 18, 3) := by decide +kernel
theorem dX9_add_34 : decode cX9_add 34 = .ok (.aload_n 0, 1) := by decide +kernel
theorem dX9_add_35 : decode cX9_add 35 = .ok (.getfield 28, 3) := by decide +kernel
theorem dX9_add_38 : decode cX9_add 38 = .ok (.iload_n 3, 1) := by decide +kernel
theorem dX9_add_39 : decode cX9_add 39 = .ok (.bastore, 1) := by decide +kernel
theorem dX9_add_40 : decode cX9_add 40 = .ok (.aload_n 0, 1) := by decide +kernel
theorem dX9_add_41 : decode cX9_add 41 = .ok (.dup, 1) := by decide +kernel
theorem dX9_add_42 : decode cX9_add 42 = .ok (.getfield 28, 3) := by decide +kernel
theorem dX9_add_45 : decode cX9_add 45 = .ok (.iconst 1, 1) := by decide +kernel
theorem dX9_add_46 : decode cX9_add 46 = .ok (.iadd, 1) := by decide +kernel
theorem dX9_add_47 : decode cX9_add 47 = .ok (.putfield 28, 3) := by decide +kernel
theorem dX9_add_50 : decode cX9_add 50 = .ok (.return_, 1) := by decide +kernel
theorem dX9_gather_0 : decode cX9_gather 0 = .ok (.aload_n 0, 1) := by decide +kernel
theorem dX9_gather_1 : decode cX9_gather 1 = .ok (.iconst 0, 1) := by decide +kernel
theorem dX9_gather_2 : decode cX9_gather 2 = .ok (.putfield 32, 3) := by decide +kernel
theorem dX9_gather_5 : decode cX9_gather 5 = .ok (.iconst 2, 1) := by decide +kernel
theorem dX9_gather_6 : decode cX9_gather 6 = .ok (.istore_n 1, 1) := by decide +kernel
theorem dX9_gather_7 : decode cX9_gather 7 = .ok (.iload_n 1, 1) := by decide +kernel
theorem dX9_gather_8 : decode cX9_gather 8 = .ok (.bipush 12, 2) := by decide +kernel
theorem dX9_gather_10 : decode cX9_gather 10 = .ok (.if_icmp .gt 72, 3) := by decide +kernel
theorem dX9_gather_13 : decode cX9_gather 13 = .ok (.iconst 0, 1) := by decide +kernel
theorem dX9_gather_14 : decode cX9_gather 14 = .ok (.istore_n 2, 1) := by decide +kernel
theorem dX9_gather_15 : decode cX9_gather 15 = .ok (.iload_n 2, 1) := by decide +kernel
theorem dX9_gather_16 : decode cX9_gather 16 = .ok (.bipush 11, 2) := by decide +kernel
theorem dX9_gather_18 : decode cX9_gather 18 = .ok (.if_icmp .gt 58, 3) := by decide +kernel
theorem dX9_gather_21 : decode cX9_gather 21 = .ok (.aload_n 0, 1) := by decide +kernel
theorem dX9_gather_22 : decode cX9_gather 22 = .ok (.getfield 32, 3) := by decide +kernel
theorem dX9_gather_25 : decode cX9_gather 25 = .ok (.sipush 132, 3) := by decide +kernel
theorem dX9_gather_28 : decode cX9_gather 28 = .ok (.if_icmp .ge 42, 3) := by decide +kernel
theorem dX9_gather_31 : decode cX9_gather 31 = .ok (.aload_n 0, 1) := by decide +kernel
theorem dX9_gather_32 : decode cX9_gather 32 = .ok (.iload_n 1, 1) := by decide +kernel
theorem dX9_gather_33 : decode cX9_gather 33 = .ok (.iload_n 2, 1) := by decide +kernel
theorem dX9_gather_34 : decode cX9_gather 34 = .ok (.invokevirtual 35, 3) := by decide +kernel
theorem dX9_gather_37 : decode cX9_gather 37 = .ok (.ifCond .eq 33, 3) := by decide +kernel
theorem dX9_gather_40 : decode cX9_gather 40 = .ok (.aload_n 0, 1) := by decide +kernel
theorem dX9_gather_41 : decode cX9_gather 41 = .ok (.getfield 22, 3) := by decide +kernel
theorem dX9_gather_44 : decode cX9_gather 44 = .ok (.aload_n 0, 1) := by decide +kernel
theorem dX9_gather_45 : decode cX9_gather 45 = .ok (.getfield 32, 3) := by decide +kernel
theorem dX9_gather_48 : decode cX9_gather 48 = .ok (.iload_n 1, 1) := by decide +kernel
theorem dX9_gather_49 : decode cX9_gather 49 = .ok (.iastore, 1) := by decide +kernel
theorem dX9_gather_50 : decode cX9_gather 50 = .ok (.aload_n 0, 1) := by decide +kernel
theorem dX9_gather_51 : decode cX9_gather 51 = .ok (.getfield 25, 3) := by decide +kernel
theorem dX9_gather_54 : decode cX9_gather 54 = .ok (.aload_n 0, 1) := by decide +kernel
theorem dX9_gather_55 : decode cX9_gather 55 = .ok (.getfield 32, 3) := by decide +kernel
theorem dX9_gather_58 : decode cX9_gather 58 = .ok (.iload_n 2, 1) := by decide +kernel
theorem dX9_gather_59 : decode cX9_gather 59 = .ok (.iastore, 1) := by decide +kernel
theorem dX9_gather_60 : decode cX9_gather 60 = .ok (.aload_n 0, 1) := by decide +kernel
theorem dX9_gather_61 : decode cX9_gather 61 = .ok (.dup, 1) := by decide +kernel
theorem dX9_gather_62 : decode cX9_gather 62 = .ok (.getfield 32, 3) := by decide +kernel
theorem dX9_gather_65 : decode cX9_gather 65 = .ok (.iconst 1, 1) := by decide +kernel
theorem dX9_gather_66 : decode cX9_gather 66 = .ok (.iadd, 1) := by decide +kernel
theorem dX9_gather_67 : decode cX9_gather 67 = .ok (.putfield 32, 3) := by decide +kernel
theorem dX9_gather_70 : decode cX9_gather 70 = .ok (.iinc 2 1, 3) := by decide +kernel
theorem dX9_gather_73 : decode cX9_gather 73 = .ok (.goto (-58), 3) := by decide +kernel
theorem dX9_gather_76 : decode cX9_gather 76 = .ok (.iinc 1 1, 3) := by decide +kernel
theorem dX9_gather_79 : decode cX9_gather 79 = .ok (.goto (-72), 3) := by decide +kernel
theorem dX9_gather_82 : decode cX9_gather 82 = .ok (.return_, 1) := by decide +kernel
theorem dX9_agrees_0 : decode cX9_agrees 0 = .ok (.iconst 0, 1) := by decide +kernel
theorem dX9_agrees_1 : decode cX9_agrees 1 = .ok (.istore_n 3, 1) := by decide +kernel
theorem dX9_agrees_2 : decode cX9_agrees 2 = .ok (.iload_n 3, 1) := by decide +kernel
theorem dX9_agrees_3 : decode cX9_agrees 3 = .ok (.aload_n 0, 1) := by decide +kernel
theorem dX9_agrees_4 : decode cX9_agrees 4 = .ok (.getfield 28, 3) := by decide +kernel
theorem dX9_agrees_7 : decode cX9_agrees 7 = .ok (.if_icmp .ge 37, 3) := by decide +kernel
theorem dX9_agrees_10 : decode cX9_agrees 10 = .ok (.iload_n 1, 1) := by decide +kernel
theorem dX9_agrees_11 : decode cX9_agrees 11 = .ok (.iload_n 2, 1) := by decide +kernel
theorem dX9_agrees_12 : decode cX9_agrees 12 = .ok (.aload_n 0, 1) := by decide +kernel
theorem dX9_agrees_13 : decode cX9_agrees 13 = .ok (.getfield 9, 3) := by decide +kernel
theorem dX9_agrees_16 : decode cX9_agrees 16 = .ok (.iload_n 3, 1) := by decide +kernel
theorem dX9_agrees_17 : decode cX9_agrees 17 = .ok (.iaload, 1) := by decide +kernel
theorem dX9_agrees_18 : decode cX9_agrees 18 = .ok (.aload_n 0, 1) := by decide +kernel
theorem dX9_agrees_19 : decode cX9_agrees 19 = .ok (.getfield 15, 3) := by decide +kernel
theorem dX9_agrees_22 : decode cX9_agrees 22 = .ok (.iload_n 3, 1) := by decide +kernel
theorem dX9_agrees_23 : decode cX9_agrees 23 = .ok (.iaload, 1) := by decide +kernel
theorem dX9_agrees_24 : decode cX9_agrees 24 = .ok (.invokestatic 39, 3) := by decide +kernel
theorem dX9_agrees_27 : decode cX9_agrees 27 = .ok (.aload_n 0, 1) := by decide +kernel
theorem dX9_agrees_28 : decode cX9_agrees 28 = .ok (.getfield 18, 3) := by decide +kernel
theorem dX9_agrees_31 : decode cX9_agrees 31 = .ok (.iload_n 3, 1) := by decide +kernel
theorem dX9_agrees_32 : decode cX9_agrees 32 = .ok (.baload, 1) := by decide +kernel
theorem dX9_agrees_33 : decode cX9_agrees 33 = .ok (.if_icmp .eq 5, 3) := by decide +kernel
theorem dX9_agrees_36 : decode cX9_agrees 36 = .ok (.iconst 0, 1) := by decide +kernel
theorem dX9_agrees_37 : decode cX9_agrees 37 = .ok (.ireturn, 1) := by decide +kernel
theorem dX9_agrees_38 : decode cX9_agrees 38 = .ok (.iinc 3 1, 3) := by decide +kernel
theorem dX9_agrees_41 : decode cX9_agrees 41 = .ok (.goto (-39), 3) := by decide +kernel
theorem dX9_agrees_44 : decode cX9_agrees 44 = .ok (.iconst 1, 1) := by decide +kernel
theorem dX9_agrees_45 : decode cX9_agrees 45 = .ok (.ireturn, 1) := by decide +kernel
theorem dX9_isUp_0 : decode cX9_isUp 0 = .ok (.iload_n 0, 1) := by decide +kernel
theorem dX9_isUp_1 : decode cX9_isUp 1 = .ok (.ifCond .le 21, 3) := by decide +kernel
theorem dX9_isUp_4 : decode cX9_isUp 4 = .ok (.iload_n 3, 1) := by decide +kernel
theorem dX9_isUp_5 : decode cX9_isUp 5 = .ok (.iload_n 1, 1) := by decide +kernel
theorem dX9_isUp_6 : decode cX9_isUp 6 = .ok (.if_icmp .lt 16, 3) := by decide +kernel
theorem dX9_isUp_9 : decode cX9_isUp 9 = .ok (.iload_n 3, 1) := by decide +kernel
theorem dX9_isUp_10 : decode cX9_isUp 10 = .ok (.iload_n 1, 1) := by decide +kernel
theorem dX9_isUp_11 : decode cX9_isUp 11 = .ok (.isub, 1) := by decide +kernel
theorem dX9_isUp_12 : decode cX9_isUp 12 = .ok (.iload_n 0, 1) := by decide +kernel
theorem dX9_isUp_13 : decode cX9_isUp 13 = .ok (.irem, 1) := by decide +kernel
theorem dX9_isUp_14 : decode cX9_isUp 14 = .ok (.iload_n 2, 1) := by decide +kernel
theorem dX9_isUp_15 : decode cX9_isUp 15 = .ok (.if_icmp .ge 7, 3) := by decide +kernel
theorem dX9_isUp_18 : decode cX9_isUp 18 = .ok (.iconst 1, 1) := by decide +kernel
theorem dX9_isUp_19 : decode cX9_isUp 19 = .ok (.goto 4, 3) := by decide +kernel
theorem dX9_isUp_22 : decode cX9_isUp 22 = .ok (.iconst 0, 1) := by decide +kernel
theorem dX9_isUp_23 : decode cX9_isUp 23 = .ok (.ireturn, 1) := by decide +kernel
theorem dX9_bestTick_0 : decode cX9_bestTick 0 = .ok (.iconst 0, 1) := by decide +kernel
theorem dX9_bestTick_1 : decode cX9_bestTick 1 = .ok (.istore_n 2, 1) := by decide +kernel
theorem dX9_bestTick_2 : decode cX9_bestTick 2 = .ok (.aload_n 0, 1) := by decide +kernel
theorem dX9_bestTick_3 : decode cX9_bestTick 3 = .ok (.getfield 32, 3) := by decide +kernel
theorem dX9_bestTick_6 : decode cX9_bestTick 6 = .ok (.iconst 1, 1) := by decide +kernel
theorem dX9_bestTick_7 : decode cX9_bestTick 7 = .ok (.iadd, 1) := by decide +kernel
theorem dX9_bestTick_8 : decode cX9_bestTick 8 = .ok (.istore_n 3, 1) := by decide +kernel
theorem dX9_bestTick_9 : decode cX9_bestTick 9 = .ok (.iconst 0, 1) := by decide +kernel
theorem dX9_bestTick_10 : decode cX9_bestTick 10 = .ok (.istore 4, 2) := by decide +kernel
theorem dX9_bestTick_12 : decode cX9_bestTick 12 = .ok (.iload 4, 2) := by decide +kernel
theorem dX9_bestTick_14 : decode cX9_bestTick 14 = .ok (.bipush 40, 2) := by decide +kernel
theorem dX9_bestTick_16 : decode cX9_bestTick 16 = .ok (.if_icmp .gt 82, 3) := by decide +kernel
theorem dX9_bestTick_19 : decode cX9_bestTick 19 = .ok (.iconst 0, 1) := by decide +kernel
theorem dX9_bestTick_20 : decode cX9_bestTick 20 = .ok (.istore 5, 2) := by decide +kernel
theorem dX9_bestTick_22 : decode cX9_bestTick 22 = .ok (.iconst 0, 1) := by decide +kernel
theorem dX9_bestTick_23 : decode cX9_bestTick 23 = .ok (.istore 6, 2) := by decide +kernel
theorem dX9_bestTick_25 : decode cX9_bestTick 25 = .ok (.iload 6, 2) := by decide +kernel
theorem dX9_bestTick_27 : decode cX9_bestTick 27 = .ok (.aload_n 0, 1) := by decide +kernel
theorem dX9_bestTick_28 : decode cX9_bestTick 28 = .ok (.getfield 32, 3) := by decide +kernel
theorem dX9_bestTick_31 : decode cX9_bestTick 31 = .ok (.if_icmp .ge 35, 3) := by decide +kernel
theorem dX9_bestTick_34 : decode cX9_bestTick 34 = .ok (.aload_n 0, 1) := by decide +kernel
theorem dX9_bestTick_35 : decode cX9_bestTick 35 = .ok (.getfield 22, 3) := by decide +kernel
theorem dX9_bestTick_38 : decode cX9_bestTick 38 = .ok (.iload 6, 2) := by decide +kernel
theorem dX9_bestTick_40 : decode cX9_bestTick 40 = .ok (.iaload, 1) := by decide +kernel
theorem dX9_bestTick_41 : decode cX9_bestTick 41 = .ok (.aload_n 0, 1) := by decide +kernel
theorem dX9_bestTick_42 : decode cX9_bestTick 42 = .ok (.getfield 25, 3) := by decide +kernel
theorem dX9_bestTick_45 : decode cX9_bestTick 45 = .ok (.iload 6, 2) := by decide +kernel
theorem dX9_bestTick_47 : decode cX9_bestTick 47 = .ok (.iaload, 1) := by decide +kernel
theorem dX9_bestTick_48 : decode cX9_bestTick 48 = .ok (.iload_n 1, 1) := by decide +kernel
theorem dX9_bestTick_49 : decode cX9_bestTick 49 = .ok (.iload 4, 2) := by decide +kernel
theorem dX9_bestTick_51 : decode cX9_bestTick 51 = .ok (.invokestatic 39, 3) := by decide +kernel
theorem dX9_bestTick_54 : decode cX9_bestTick 54 = .ok (.ifCond .eq 6, 3) := by decide +kernel
theorem dX9_bestTick_57 : decode cX9_bestTick 57 = .ok (.iinc 5 1, 3) := by decide +kernel
theorem dX9_bestTick_60 : decode cX9_bestTick 60 = .ok (.iinc 6 1, 3) := by decide +kernel
theorem dX9_bestTick_63 : decode cX9_bestTick 63 = .ok (.goto (-38), 3) := by decide +kernel
theorem dX9_bestTick_66 : decode cX9_bestTick 66 = .ok (.iload 5, 2) := by decide +kernel
theorem dX9_bestTick_68 : decode cX9_bestTick 68 = .ok (.aload_n 0, 1) := by decide +kernel
theorem dX9_bestTick_69 : decode cX9_bestTick 69 = .ok (.getfield 32, 3) := by decide +kernel
theorem dX9_bestTick_72 : decode cX9_bestTick 72 = .ok (.iload 5, 2) := by decide +kernel
theorem dX9_bestTick_74 : decode cX9_bestTick 74 = .ok (.isub, 1) := by decide +kernel
theorem dX9_bestTick_75 : decode cX9_bestTick 75 = .ok (.invokestatic 43, 3) := by decide +kernel
theorem dX9_bestTick_78 : decode cX9_bestTick 78 = .ok (.istore 6, 2) := by decide +kernel
theorem dX9_bestTick_80 : decode cX9_bestTick 80 = .ok (.iload 6, 2) := by decide +kernel
theorem dX9_bestTick_82 : decode cX9_bestTick 82 = .ok (.iload_n 3, 1) := by decide +kernel
theorem dX9_bestTick_83 : decode cX9_bestTick 83 = .ok (.if_icmp .ge 9, 3) := by decide +kernel
theorem dX9_bestTick_86 : decode cX9_bestTick 86 = .ok (.iload 6, 2) := by decide +kernel
theorem dX9_bestTick_88 : decode cX9_bestTick 88 = .ok (.istore_n 3, 1) := by decide +kernel
theorem dX9_bestTick_89 : decode cX9_bestTick 89 = .ok (.iload 4, 2) := by decide +kernel
theorem dX9_bestTick_91 : decode cX9_bestTick 91 = .ok (.istore_n 2, 1) := by decide +kernel
theorem dX9_bestTick_92 : decode cX9_bestTick 92 = .ok (.iinc 4 1, 3) := by decide +kernel
theorem dX9_bestTick_95 : decode cX9_bestTick 95 = .ok (.goto (-83), 3) := by decide +kernel
theorem dX9_bestTick_98 : decode cX9_bestTick 98 = .ok (.iload_n 2, 1) := by decide +kernel
theorem dX9_bestTick_99 : decode cX9_bestTick 99 = .ok (.ireturn, 1) := by decide +kernel
theorem dX10_init_0 : decode cX10_init 0 = .ok (.aload_n 0, 1) := by decide +kernel
theorem dX10_init_1 : decode cX10_init 1 = .ok (.invokespecial 3, 3) := by decide +kernel
theorem dX10_init_4 : decode cX10_init 4 = .ok (.aload_n 0, 1) := by decide +kernel
theorem dX10_init_5 : decode cX10_init 5 = .ok (.bipush 120, 2) := by decide +kernel
theorem dX10_init_7 : decode cX10_init 7 = .ok (.newarray .int, 2) := by decide +kernel
theorem dX10_init_9 : decode cX10_init 9 = .ok (.putfield 9, 3) := by decide +kernel
theorem dX10_init_12 : decode cX10_init 12 = .ok (.aload_n 0, 1) := by decide +kernel
theorem dX10_init_13 : decode cX10_init 13 = .ok (.iconst 4, 1) := by decide +kernel
theorem dX10_init_14 : decode cX10_init 14 = .ok (.newarray .int, 2) := by decide +kernel
theorem dX10_init_16 : decode cX10_init 16 = .ok (.putfield 15, 3) := by decide +kernel
theorem dX10_init_19 : decode cX10_init 19 = .ok (.return_, 1) := by decide +kernel
theorem dX10_readInto_0 : decode cX10_readInto 0 = .ok (.aload_n 1, 1) := by decide +kernel
theorem dX10_readInto_1 : decode cX10_readInto 1 = .ok (.invokevirtual 18, 3) := by decide +kernel
theorem dX10_readInto_4 : decode cX10_readInto 4 = .ok (.aload_n 0, 1) := by decide +kernel
theorem dX10_readInto_5 : decode cX10_readInto 5 = .ok (.iconst 0, 1) := by decide +kernel
theorem dX10_readInto_6 : decode cX10_readInto 6 = .ok (.putfield 23, 3) := by decide +kernel
theorem dX10_readInto_9 : decode cX10_readInto 9 = .ok (.aload_n 0, 1) := by decide +kernel
theorem dX10_readInto_10 : decode cX10_readInto 10 = .ok (.iconst 0, 1) := by decide +kernel
theorem dX10_readInto_11 : decode cX10_readInto 11 = .ok (.putfield 27, 3) := by decide +kernel
theorem dX10_readInto_14 : decode cX10_readInto 14 = .ok (.iconst 0, 1) := by decide +kernel
theorem dX10_readInto_15 : decode cX10_readInto 15 = .ok (.istore_n 2, 1) := by decide +kernel
theorem dX10_readInto_16 : decode cX10_readInto 16 = .ok (.iconst 0, 1) := by decide +kernel
theorem dX10_readInto_17 : decode cX10_readInto 17 = .ok (.istore_n 3, 1) := by decide +kernel
theorem dX10_readInto_18 : decode cX10_readInto 18 = .ok (.iload_n 3, 1) := by decide +kernel
theorem dX10_readInto_19 : decode cX10_readInto 19 = .ok (.bipush 120, 2) := by decide +kernel
theorem dX10_readInto_21 : decode cX10_readInto 21 = .ok (.if_icmp .gt 96, 3) := by decide +kernel
theorem dX10_readInto_24 : decode cX10_readInto 24 = .ok (.aload_n 0, 1) := by decide +kernel
theorem dX10_readInto_25 : decode cX10_readInto 25 = .ok (.invokevirtual 30, 3) := by decide +kernel
theorem dX10_readInto_28 : decode cX10_readInto 28 = .ok (.aload_n 0, 1) := by decide +kernel
theorem dX10_readInto_29 : decode cX10_readInto 29 = .ok (.getfield 33, 3) := by decide +kernel
theorem dX10_readInto_32 : decode cX10_readInto 32 = .ok (.ifCond .ne 6, 3) := by decide +kernel
theorem dX10_readInto_35 : decode cX10_readInto 35 = .ok (.bipush (-9), 2) := by decide +kernel
theorem dX10_readInto_37 : decode cX10_readInto 37 = .ok (.ireturn, 1) := by decide +kernel
theorem dX10_readInto_38 : decode cX10_readInto 38 = .ok (.iconst 0, 1) := by decide +kernel
theorem dX10_readInto_39 : decode cX10_readInto 39 = .ok (.istore 4, 2) := by decide +kernel
theorem dX10_readInto_41 : decode cX10_readInto 41 = .ok (.aload_n 0, 1) := by decide +kernel
theorem dX10_readInto_42 : decode cX10_readInto 42 = .ok (.getfield 33, 3) := by decide +kernel
theorem dX10_readInto_45 : decode cX10_readInto 45 = .ok (.bipush 101, 2) := by decide +kernel
theorem dX10_readInto_47 : decode cX10_readInto 47 = .ok (.if_icmp .ne 19, 3) := by decide +kernel
theorem dX10_readInto_50 : decode cX10_readInto 50 = .ok (.iload_n 2, 1) := by decide +kernel
theorem dX10_readInto_51 : decode cX10_readInto 51 = .ok (.ifCond .ne 15, 3) := by decide +kernel
theorem dX10_readInto_54 : decode cX10_readInto 54 = .ok (.iconst 1, 1) := by decide +kernel
theorem dX10_readInto_55 : decode cX10_readInto 55 = .ok (.istore_n 2, 1) := by decide +kernel
theorem dX10_readInto_56 : decode cX10_readInto 56 = .ok (.aload_n 0, 1) := by decide +kernel
theorem dX10_readInto_57 : decode cX10_readInto 57 = .ok (.aload_n 1, 1) := by decide +kernel
theorem dX10_readInto_58 : decode cX10_readInto 58 = .ok (.invokevirtual 36, 3) := by decide +kernel
theorem dX10_readInto_61 : decode cX10_readInto 61 = .ok (.istore 4, 2) := by decide +kernel
theorem dX10_readInto_63 : decode cX10_readInto 63 = .ok (.goto 28, 3) := by decide +kernel
theorem dX10_readInto_66 : decode cX10_readInto 66 = .ok (.aload_n 0, 1) := by decide +kernel
theorem dX10_readInto_67 : decode cX10_readInto 67 = .ok (.getfield 33, 3) := by decide +kernel
theorem dX10_readInto_70 : decode cX10_readInto 70 = .ok (.bipush 106, 2) := by decide +kernel
theorem dX10_readInto_72 : decode cX10_readInto 72 = .ok (.if_icmp .ne 19, 3) := by decide +kernel
theorem dX10_readInto_75 : decode cX10_readInto 75 = .ok (.aload_n 1, 1) := by decide +kernel
theorem dX10_readInto_76 : decode cX10_readInto 76 = .ok (.getfield 40, 3) := by decide +kernel
theorem dX10_readInto_79 : decode cX10_readInto 79 = .ok (.bipush 6, 2) := by decide +kernel
theorem dX10_readInto_81 : decode cX10_readInto 81 = .ok (.if_icmp .ge 10, 3) := by decide +kernel
theorem dX10_readInto_84 : decode cX10_readInto 84 = .ok (.aload_n 0, 1) := by decide +kernel
theorem dX10_readInto_85 : decode cX10_readInto 85 = .ok (.aload_n 1, 1) := by decide +kernel
theorem dX10_readInto_86 : decode cX10_readInto 86 = .ok (.invokevirtual 43, 3) := by decide +kernel
theorem dX10_readInto_89 : decode cX10_readInto 89 = .ok (.istore 4, 2) := by decide +kernel
theorem dX10_readInto_91 : decode cX10_readInto 91 = .ok (.iload 4, 2) := by decide +kernel
theorem dX10_readInto_93 : decode cX10_readInto 93 = .ok (.ifCond .ne 8, 3) := by decide +kernel
theorem dX10_readInto_96 : decode cX10_readInto 96 = .ok (.aload_n 0, 1) := by decide +kernel
theorem dX10_readInto_97 : decode cX10_readInto 97 = .ok (.getfield 46, 3) := by decide +kernel
theorem dX10_readInto_100 : decode cX10_readInto 100 = .ok (.ireturn, 1) := by decide +kernel
theorem dX10_readInto_101 : decode cX10_readInto 101 = .ok (.aload_n 0, 1) := by decide +kernel
theorem dX10_readInto_102 : decode cX10_readInto 102 = .ok (.dup, 1) := by decide +kernel
theorem dX10_readInto_103 : decode cX10_readInto 103 = .ok (.getfield 23, 3) := by decide +kernel
theorem dX10_readInto_106 : decode cX10_readInto 106 = .ok (.iconst 1, 1) := by decide +kernel
theorem dX10_readInto_107 : decode cX10_readInto 107 = .ok (.iadd, 1) := by decide +kernel
theorem dX10_readInto_108 : decode cX10_readInto 108 = .ok (.putfield 23, 3) := by decide +kernel
theorem dX10_readInto_111 : decode cX10_readInto 111 = .ok (.iinc 3 1, 3) := by decide +kernel
theorem dX10_readInto_114 : decode cX10_readInto 114 = .ok (.goto (-96), 3) := by decide +kernel
theorem dX10_readInto_117 : decode cX10_readInto 117 = .ok (.aload_n 0, 1) := by decide +kernel
theorem dX10_readInto_118 : decode cX10_readInto 118 = .ok (.getfield 46, 3) := by decide +kernel
theorem dX10_readInto_121 : decode cX10_readInto 121 = .ok (.ireturn, 1) := by decide +kernel
theorem dX10_readEvery_0 : decode cX10_readEvery 0 = .ok (.aload_n 0, 1) := by decide +kernel
theorem dX10_readEvery_1 : decode cX10_readEvery 1 = .ok (.iconst 2, 1) := by decide +kernel
theorem dX10_readEvery_2 : decode cX10_readEvery 2 = .ok (.bipush 9, 2) := by decide +kernel
theorem dX10_readEvery_4 : decode cX10_readEvery 4 = .ok (.invokevirtual 49, 3) := by decide +kernel
theorem dX10_readEvery_7 : decode cX10_readEvery 7 = .ok (.ifCond .ne 5, 3) := by decide +kernel
theorem dX10_readEvery_10 : decode cX10_readEvery 10 = .ok (.iconst 0, 1) := by decide +kernel
theorem dX10_readEvery_11 : decode cX10_readEvery 11 = .ok (.ireturn, 1) := by decide +kernel
theorem dX10_readEvery_12 : decode cX10_readEvery 12 = .ok (.aload_n 1, 1) := by decide +kernel
theorem dX10_readEvery_13 : decode cX10_readEvery 13 = .ok (.aload_n 0, 1) := by decide +kernel
theorem dX10_readEvery_14 : decode cX10_readEvery 14 = .ok (.getfield 53, 3) := by decide +kernel
theorem dX10_readEvery_17 : decode cX10_readEvery 17 = .ok (.putfield 56, 3) := by decide +kernel
theorem dX10_readEvery_20 : decode cX10_readEvery 20 = .ok (.aload_n 0, 1) := by decide +kernel
theorem dX10_readEvery_21 : decode cX10_readEvery 21 = .ok (.invokevirtual 59, 3) := by decide +kernel
theorem dX10_readEvery_24 : decode cX10_readEvery 24 = .ok (.ireturn, 1) := by decide +kernel
theorem dX10_readJumper_0 : decode cX10_readJumper 0 = .ok (.iconst 0, 1) := by decide +kernel
theorem dX10_readJumper_1 : decode cX10_readJumper 1 = .ok (.istore_n 2, 1) := by decide +kernel
theorem dX10_readJumper_2 : decode cX10_readJumper 2 = .ok (.iload_n 2, 1) := by decide +kernel
theorem dX10_readJumper_3 : decode cX10_readJumper 3 = .ok (.iconst 4, 1) := by decide +kernel
theorem dX10_readJumper_4 : decode cX10_readJumper 4 = .ok (.if_icmp .ge 38, 3) := by decide +kernel
theorem dX10_readJumper_7 : decode cX10_readJumper 7 = .ok (.aload_n 0, 1) := by decide +kernel
theorem dX10_readJumper_8 : decode cX10_readJumper 8 = .ok (.getstatic 63, 3) := by decide +kernel
theorem dX10_readJumper_11 : decode cX10_readJumper 11 = .ok (.iload_n 2, 1) := by decide +kernel
theorem dX10_readJumper_12 : decode cX10_readJumper 12 = .ok (.iaload, 1) := by decide +kernel
theorem dX10_readJumper_13 : decode cX10_readJumper 13 = .ok (.getstatic 66, 3) := by decide +kernel
theorem dX10_readJumper_16 : decode cX10_readJumper 16 = .ok (.iload_n 2, 1) := by decide +kernel
theorem dX10_readJumper_17 : decode cX10_readJumper 17 = .ok (.iaload, 1) := by decide +kernel
theorem dX10_readJumper_18 : decode cX10_readJumper 18 = .ok (.invokevirtual 49, 3) := by decide +kernel
theorem dX10_readJumper_21 : decode cX10_readJumper 21 = .ok (.ifCond .ne 5, 3) := by decide +kernel
theorem dX10_readJumper_24 : decode cX10_readJumper 24 = .ok (.iconst 0, 1) := by decide +kernel
theorem dX10_readJumper_25 : decode cX10_readJumper 25 = .ok (.ireturn, 1) := by decide +kernel
theorem dX10_readJumper_26 : decode cX10_readJumper 26 = .ok (.aload_n 0, 1) := by decide +kernel
theorem dX10_readJumper_27 : decode cX10_readJumper 27 = .ok (.getfield 15, 3) := by decide +kernel
theorem dX10_readJumper_30 : decode cX10_readJumper 30 = .ok (.iload_n 2, 1) := by decide +kernel
theorem dX10_readJumper_31 : decode cX10_readJumper 31 = .ok (.aload_n 0, 1) := by decide +kernel
theorem dX10_readJumper_32 : decode cX10_readJumper 32 = .ok (.getfield 53, 3) := by decide +kernel
theorem dX10_readJumper_35 : decode cX10_readJumper 35 = .ok (.iastore, 1) := by decide +kernel
theorem dX10_readJumper_36 : decode cX10_readJumper 36 = .ok (.iinc 2 1, 3) := by decide +kernel
theorem dX10_readJumper_39 : decode cX10_readJumper 39 = .ok (.goto (-37), 3) := by decide +kernel
theorem dX10_readJumper_42 : decode cX10_readJumper 42 = .ok (.aload_n 1, 1) := by decide +kernel
theorem dX10_readJumper_43 : decode cX10_readJumper 43 = .ok (.aload_n 0, 1) := by decide +kernel
theorem dX10_readJumper_44 : decode cX10_readJumper 44 = .ok (.getfield 15, 3) := by decide +kernel
theorem dX10_readJumper_47 : decode cX10_readJumper 47 = .ok (.iconst 0, 1) := by decide +kernel
theorem dX10_readJumper_48 : decode cX10_readJumper 48 = .ok (.iaload, 1) := by decide +kernel
theorem dX10_readJumper_49 : decode cX10_readJumper 49 = .ok (.aload_n 0, 1) := by decide +kernel
theorem dX10_readJumper_50 : decode cX10_readJumper 50 = .ok (.getfield 15, 3) := by decide +kernel
theorem dX10_readJumper_53 : decode cX10_readJumper 53 = .ok (.iconst 1, 1) := by decide +kernel
theorem dX10_readJumper_54 : decode cX10_readJumper 54 = .ok (.iaload, 1) := by decide +kernel
theorem dX10_readJumper_55 : decode cX10_readJumper 55 = .ok (.aload_n 0, 1) := by decide +kernel
theorem dX10_readJumper_56 : decode cX10_readJumper 56 = .ok (.getfield 15, 3) := by decide +kernel
theorem dX10_readJumper_59 : decode cX10_readJumper 59 = .ok (.iconst 2, 1) := by decide +kernel
theorem dX10_readJumper_60 : decode cX10_readJumper 60 = .ok (.iaload, 1) := by decide +kernel
theorem dX10_readJumper_61 : decode cX10_readJumper 61 = .ok (.aload_n 0, 1) := by decide +kernel
theorem dX10_readJumper_62 : decode cX10_readJumper 62 = .ok (.getfield 15, 3) := by decide +kernel
theorem dX10_readJumper_65 : decode cX10_readJumper 65 = .ok (.iconst 3, 1) := by decide +kernel
theorem dX10_readJumper_66 : decode cX10_readJumper 66 = .ok (.iaload, 1) := by decide +kernel
theorem dX10_readJumper_67 : decode cX10_readJumper 67 = .ok (.invokevirtual 69, 3) := by decide +kernel
theorem dX10_readJumper_70 : decode cX10_readJumper 70 = .ok (.aload_n 0, 1) := by decide +kernel
theorem dX10_readJumper_71 : decode cX10_readJumper 71 = .ok (.invokevirtual 59, 3) := by decide +kernel
theorem dX10_readJumper_74 : decode cX10_readJumper 74 = .ok (.ireturn, 1) := by decide +kernel
theorem dX10_readNumber_0 : decode cX10_readNumber 0 = .ok (.aload_n 0, 1) := by decide +kernel
theorem dX10_readNumber_1 : decode cX10_readNumber 1 = .ok (.invokevirtual 30, 3) := by decide +kernel
theorem dX10_readNumber_4 : decode cX10_readNumber 4 = .ok (.aload_n 0, 1) := by decide +kernel
theorem dX10_readNumber_5 : decode cX10_readNumber 5 = .ok (.getfield 33, 3) := by decide +kernel
theorem dX10_readNumber_8 : decode cX10_readNumber 8 = .ok (.iconst 1, 1) := by decide +kernel
theorem dX10_readNumber_9 : decode cX10_readNumber 9 = .ok (.if_icmp .ne 23, 3) := by decide +kernel
theorem dX10_readNumber_12 : decode cX10_readNumber 12 = .ok (.aload_n 0, 1) := by decide +kernel
theorem dX10_readNumber_13 : decode cX10_readNumber 13 = .ok (.getfield 53, 3) := by decide +kernel
theorem dX10_readNumber_16 : decode cX10_readNumber 16 = .ok (.iload_n 1, 1) := by decide +kernel
theorem dX10_readNumber_17 : decode cX10_readNumber 17 = .ok (.if_icmp .lt 15, 3) := by decide +kernel
theorem dX10_readNumber_20 : decode cX10_readNumber 20 = .ok (.aload_n 0, 1) := by decide +kernel
theorem dX10_readNumber_21 : decode cX10_readNumber 21 = .ok (.getfield 53, 3) := by decide +kernel
theorem dX10_readNumber_24 : decode cX10_readNumber 24 = .ok (.iload_n 2, 1) := by decide +kernel
theorem dX10_readNumber_25 : decode cX10_readNumber 25 = .ok (.if_icmp .gt 7, 3) := by decide +kernel
theorem dX10_readNumber_28 : decode cX10_readNumber 28 = .ok (.iconst 1, 1) := by decide +kernel
theorem dX10_readNumber_29 : decode cX10_readNumber 29 = .ok (.goto 4, 3) := by decide +kernel
theorem dX10_readNumber_32 : decode cX10_readNumber 32 = .ok (.iconst 0, 1) := by decide +kernel
theorem dX10_readNumber_33 : decode cX10_readNumber 33 = .ok (.ireturn, 1) := by decide +kernel
theorem dX10_readStop_0 : decode cX10_readStop 0 = .ok (.aload_n 0, 1) := by decide +kernel
theorem dX10_readStop_1 : decode cX10_readStop 1 = .ok (.invokevirtual 30, 3) := by decide +kernel
theorem dX10_readStop_4 : decode cX10_readStop 4 = .ok (.aload_n 0, 1) := by decide +kernel
theorem dX10_readStop_5 : decode cX10_readStop 5 = .ok (.getfield 33, 3) := by decide +kernel
theorem dX10_readStop_8 : decode cX10_readStop 8 = .ok (.bipush 59, 2) := by decide +kernel
theorem dX10_readStop_10 : decode cX10_readStop 10 = .ok (.if_icmp .ne 7, 3) := by decide +kernel
theorem dX10_readStop_13 : decode cX10_readStop 13 = .ok (.iconst 1, 1) := by decide +kernel
theorem dX10_readStop_14 : decode cX10_readStop 14 = .ok (.goto 4, 3) := by decide +kernel
theorem dX10_readStop_17 : decode cX10_readStop 17 = .ok (.iconst 0, 1) := by decide +kernel
theorem dX10_readStop_18 : decode cX10_readStop 18 = .ok (.ireturn, 1) := by decide +kernel
theorem dX10_advance_0 : decode cX10_advance 0 = .ok (.aload_n 0, 1) := by decide +kernel
theorem dX10_advance_1 : decode cX10_advance 1 = .ok (.getfield 27, 3) := by decide +kernel
theorem dX10_advance_4 : decode cX10_advance 4 = .ok (.aload_n 0, 1) := by decide +kernel
theorem dX10_advance_5 : decode cX10_advance 5 = .ok (.getfield 73, 3) := by decide +kernel
theorem dX10_advance_8 : decode cX10_advance 8 = .ok (.if_icmp .ge 30, 3) := by decide +kernel
theorem dX10_advance_11 : decode cX10_advance 11 = .ok (.aload_n 0, 1) := by decide +kernel
theorem dX10_advance_12 : decode cX10_advance 12 = .ok (.getfield 9, 3) := by decide +kernel
theorem dX10_advance_15 : decode cX10_advance 15 = .ok (.aload_n 0, 1) := by decide +kernel
theorem dX10_advance_16 : decode cX10_advance 16 = .ok (.getfield 27, 3) := by decide +kernel
theorem dX10_advance_19 : decode cX10_advance 19 = .ok (.iaload, 1) := by decide +kernel
theorem dX10_advance_20 : decode cX10_advance 20 = .ok (.bipush 32, 2) := by decide +kernel
theorem dX10_advance_22 : decode cX10_advance 22 = .ok (.if_icmp .ne 16, 3) := by decide +kernel
theorem dX10_advance_25 : decode cX10_advance 25 = .ok (.aload_n 0, 1) := by decide +kernel
theorem dX10_advance_26 : decode cX10_advance 26 = .ok (.dup, 1) := by decide +kernel
theorem dX10_advance_27 : decode cX10_advance 27 = .ok (.getfield 27, 3) := by decide +kernel
theorem dX10_advance_30 : decode cX10_advance 30 = .ok (.iconst 1, 1) := by decide +kernel
theorem dX10_advance_31 : decode cX10_advance 31 = .ok (.iadd, 1) := by decide +kernel
theorem dX10_advance_32 : decode cX10_advance 32 = .ok (.putfield 27, 3) := by decide +kernel
theorem dX10_advance_35 : decode cX10_advance 35 = .ok (.goto (-35), 3) := by decide +kernel
theorem dX10_advance_38 : decode cX10_advance 38 = .ok (.aload_n 0, 1) := by decide +kernel
theorem dX10_advance_39 : decode cX10_advance 39 = .ok (.aload_n 0, 1) := by decide +kernel
theorem dX10_advance_40 : decode cX10_advance 40 = .ok (.getfield 27, 3) := by decide +kernel
theorem dX10_advance_43 : decode cX10_advance 43 = .ok (.putfield 46, 3) := by decide +kernel
theorem dX10_advance_46 : decode cX10_advance 46 = .ok (.aload_n 0, 1) := by decide +kernel
theorem dX10_advance_47 : decode cX10_advance 47 = .ok (.getfield 27, 3) := by decide +kernel
theorem dX10_advance_50 : decode cX10_advance 50 = .ok (.aload_n 0, 1) := by decide +kernel
theorem dX10_advance_51 : decode cX10_advance 51 = .ok (.getfield 73, 3) := by decide +kernel
theorem dX10_advance_54 : decode cX10_advance 54 = .ok (.if_icmp .lt 9, 3) := by decide +kernel
theorem dX10_advance_57 : decode cX10_advance 57 = .ok (.aload_n 0, 1) := by decide +kernel
theorem dX10_advance_58 : decode cX10_advance 58 = .ok (.iconst 0, 1) := by decide +kernel
theorem dX10_advance_59 : decode cX10_advance 59 = .ok (.putfield 33, 3) := by decide +kernel
theorem dX10_advance_62 : decode cX10_advance 62 = .ok (.return_, 1) := by decide +kernel
theorem dX10_advance_63 : decode cX10_advance 63 = .ok (.aload_n 0, 1) := by decide +kernel
theorem dX10_advance_64 : decode cX10_advance 64 = .ok (.getfield 9, 3) := by decide +kernel
theorem dX10_advance_67 : decode cX10_advance 67 = .ok (.aload_n 0, 1) := by decide +kernel
theorem dX10_advance_68 : decode cX10_advance 68 = .ok (.getfield 27, 3) := by decide +kernel
theorem dX10_advance_71 : decode cX10_advance 71 = .ok (.iaload, 1) := by decide +kernel
theorem dX10_advance_72 : decode cX10_advance 72 = .ok (.istore_n 1, 1) := by decide +kernel
theorem dX10_advance_73 : decode cX10_advance 73 = .ok (.iload_n 1, 1) := by decide +kernel
theorem dX10_advance_74 : decode cX10_advance 74 = .ok (.invokestatic 76, 3) := by decide +kernel
theorem dX10_advance_77 : decode cX10_advance 77 = .ok (.ifCond .eq 8, 3) := by decide +kernel
theorem dX10_advance_80 : decode cX10_advance 80 = .ok (.aload_n 0, 1) := by decide +kernel
theorem dX10_advance_81 : decode cX10_advance 81 = .ok (.invokevirtual 80, 3) := by decide +kernel
theorem dX10_advance_84 : decode cX10_advance 84 = .ok (.return_, 1) := by decide +kernel
theorem dX10_advance_85 : decode cX10_advance 85 = .ok (.aload_n 0, 1) := by decide +kernel
theorem dX10_advance_86 : decode cX10_advance 86 = .ok (.dup, 1) := by decide +kernel
theorem dX10_advance_87 : decode cX10_advance 87 = .ok (.getfield 27, 3) := by decide +kernel
theorem dX10_advance_90 : decode cX10_advance 90 = .ok (.iconst 1, 1) := by decide +kernel
theorem dX10_advance_91 : decode cX10_advance 91 = .ok (.iadd, 1) := by decide +kernel
theorem dX10_advance_92 : decode cX10_advance 92 = .ok (.putfield 27, 3) := by decide +kernel
theorem dX10_advance_95 : decode cX10_advance 95 = .ok (.aload_n 0, 1) := by decide +kernel
theorem dX10_advance_96 : decode cX10_advance 96 = .ok (.iload_n 1, 1) := by decide +kernel
theorem dX10_advance_97 : decode cX10_advance 97 = .ok (.bipush 101, 2) := by decide +kernel
theorem dX10_advance_99 : decode cX10_advance 99 = .ok (.if_icmp .eq 15, 3) := by decide +kernel
theorem dX10_advance_102 : decode cX10_advance 102 = .ok (.iload_n 1, 1) := by decide +kernel
theorem dX10_advance_103 : decode cX10_advance 103 = .ok (.bipush 106, 2) := by decide +kernel
theorem dX10_advance_105 : decode cX10_advance 105 = .ok (.if_icmp .eq 9, 3) := by decide +kernel
theorem dX10_advance_108 : decode cX10_advance 108 = .ok (.iload_n 1, 1) := by decide +kernel
theorem dX10_advance_109 : decode cX10_advance 109 = .ok (.bipush 59, 2) := by decide +kernel
theorem dX10_advance_111 : decode cX10_advance 111 = .ok (.if_icmp .ne 7, 3) := by decide +kernel
theorem dX10_advance_114 : decode cX10_advance 114 = .ok (.iload_n 1, 1) := by decide +kernel
theorem dX10_advance_115 : decode cX10_advance 115 = .ok (.goto 4, 3) := by decide +kernel
theorem dX10_advance_118 : decode cX10_advance 118 = .ok (.iconst 2, 1) := by decide +kernel
theorem dX10_advance_119 : decode cX10_advance 119 = .ok (.putfield 33, 3) := by decide +kernel
theorem dX10_advance_122 : decode cX10_advance 122 = .ok (.return_, 1) := by decide +kernel
theorem dX10_advanceDigits_0 : decode cX10_advanceDigits 0 = .ok (.aload_n 0, 1) := by decide +kernel
theorem dX10_advanceDigits_1 : decode cX10_advanceDigits 1 = .ok (.getfield 9, 3) := by decide +kernel
theorem dX10_advanceDigits_4 : decode cX10_advanceDigits 4 = .ok (.aload_n 0, 1) := by decide +kernel
theorem dX10_advanceDigits_5 : decode cX10_advanceDigits 5 = .ok (.getfield 46, 3) := by decide +kernel
theorem dX10_advanceDigits_8 : decode cX10_advanceDigits 8 = .ok (.iaload, 1) := by decide +kernel
theorem dX10_advanceDigits_9 : decode cX10_advanceDigits 9 = .ok (.bipush 48, 2) := by decide +kernel
theorem dX10_advanceDigits_11 : decode cX10_advanceDigits 11 = .ok (.if_icmp .ne 7, 3) := by decide +kernel
theorem dX10_advanceDigits_14 : decode cX10_advanceDigits 14 = .ok (.iconst 1, 1) := by decide +kernel
theorem dX10_advanceDigits_15 : decode cX10_advanceDigits 15 = .ok (.goto 4, 3) := by decide +kernel
theorem dX10_advanceDigits_18 : decode cX10_advanceDigits 18 = .ok (.iconst 0, 1) := by decide +kernel
theorem dX10_advanceDigits_19 : decode cX10_advanceDigits 19 = .ok (.istore_n 1, 1) := by decide +kernel
theorem dX10_advanceDigits_20 : decode cX10_advanceDigits 20 = .ok (.aload_n 0, 1) := by decide +kernel
theorem dX10_advanceDigits_21 : decode cX10_advanceDigits 21 = .ok (.iconst 0, 1) := by decide +kernel
theorem dX10_advanceDigits_22 : decode cX10_advanceDigits 22 = .ok (.putfield 53, 3) := by decide +kernel
theorem dX10_advanceDigits_25 : decode cX10_advanceDigits 25 = .ok (.aload_n 0, 1) := by decide +kernel
theorem dX10_advanceDigits_26 : decode cX10_advanceDigits 26 = .ok (.getfield 27, 3) := by decide +kernel
theorem dX10_advanceDigits_29 : decode cX10_advanceDigits 29 = .ok (.aload_n 0, 1) := by decide +kernel
theorem dX10_advanceDigits_30 : decode cX10_advanceDigits 30 = .ok (.getfield 73, 3) := by decide +kernel
theorem dX10_advanceDigits_33 : decode cX10_advanceDigits 33 = .ok (.if_icmp .ge 60, 3) := by decide +kernel
theorem dX10_advanceDigits_36 : decode cX10_advanceDigits 36 = .ok (.aload_n 0, 1) := by decide +kernel
theorem dX10_advanceDigits_37 : decode cX10_advanceDigits 37 = .ok (.getfield 9, 3) := by decide +kernel
theorem dX10_advanceDigits_40 : decode cX10_advanceDigits 40 = .ok (.aload_n 0, 1) := by decide +kernel
theorem dX10_advanceDigits_41 : decode cX10_advanceDigits 41 = .ok (.getfield 27, 3) := by decide +kernel
theorem dX10_advanceDigits_44 : decode cX10_advanceDigits 44 = .ok (.iaload, 1) := by decide +kernel
theorem dX10_advanceDigits_45 : decode cX10_advanceDigits 45 = .ok (.invokestatic 76, 3) := by decide +kernel
theorem dX10_advanceDigits_48 : decode cX10_advanceDigits 48 = .ok (.ifCond .eq 45, 3) := by decide +kernel
theorem dX10_advanceDigits_51 : decode cX10_advanceDigits 51 = .ok (.aload_n 0, 1) := by decide +kernel
theorem dX10_advanceDigits_52 : decode cX10_advanceDigits 52 = .ok (.bipush 100, 2) := by decide +kernel
theorem dX10_advanceDigits_54 : decode cX10_advanceDigits 54 = .ok (.aload_n 0, 1) := by decide +kernel
theorem dX10_advanceDigits_55 : decode cX10_advanceDigits 55 = .ok (.getfield 53, 3) := by decide +kernel
theorem dX10_advanceDigits_58 : decode cX10_advanceDigits 58 = .ok (.bipush 10, 2) := by decide +kernel
theorem dX10_advanceDigits_60 : decode cX10_advanceDigits 60 = .ok (.imul, 1) := by decide +kernel
theorem dX10_advanceDigits_61 : decode cX10_advanceDigits 61 = .ok (.aload_n 0, 1) := by decide +kernel
theorem dX10_advanceDigits_62 : decode cX10_advanceDigits 62 = .ok (.getfield 9, 3) := by decide +kernel
theorem dX10_advanceDigits_65 : decode cX10_advanceDigits 65 = .ok (.aload_n 0, 1) := by decide +kernel
theorem dX10_advanceDigits_66 : decode cX10_advanceDigits 66 = .ok (.getfield 27, 3) := by decide +kernel
theorem dX10_advanceDigits_69 : decode cX10_advanceDigits 69 = .ok (.iaload, 1) := by decide +kernel
theorem dX10_advanceDigits_70 : decode cX10_advanceDigits 70 = .ok (.iadd, 1) := by decide +kernel
theorem dX10_advanceDigits_71 : decode cX10_advanceDigits 71 = .ok (.bipush 48, 2) := by decide +kernel
theorem dX10_advanceDigits_73 : decode cX10_advanceDigits 73 = .ok (.isub, 1) := by decide +kernel
theorem dX10_advanceDigits_74 : decode cX10_advanceDigits 74 = .ok (.invokestatic 83, 3) := by decide +kernel
theorem dX10_advanceDigits_77 : decode cX10_advanceDigits 77 = .ok (.putfield 53, 3) := by decide +kernel
theorem dX10_advanceDigits_80 : decode cX10_advanceDigits 80 = .ok (.aload_n 0, 1) := by decide +kernel
theorem dX10_advanceDigits_81 : decode cX10_advanceDigits 81 = .ok (.dup, 1) := by decide +kernel
theorem dX10_advanceDigits_82 : decode cX10_advanceDigits 82 = .ok (.getfield 27, 3) := by decide +kernel
theorem dX10_advanceDigits_85 : decode cX10_advanceDigits 85 = .ok (.iconst 1, 1) := by decide +kernel
theorem dX10_advanceDigits_86 : decode cX10_advanceDigits 86 = .ok (.iadd, 1) := by decide +kernel
theorem dX10_advanceDigits_87 : decode cX10_advanceDigits 87 = .ok (.putfield 27, 3) := by decide +kernel
theorem dX10_advanceDigits_90 : decode cX10_advanceDigits 90 = .ok (.goto (-65), 3) := by decide +kernel
theorem dX10_advanceDigits_93 : decode cX10_advanceDigits 93 = .ok (.aload_n 0, 1) := by decide +kernel
theorem dX10_advanceDigits_94 : decode cX10_advanceDigits 94 = .ok (.getfield 53, 3) := by decide +kernel
theorem dX10_advanceDigits_97 : decode cX10_advanceDigits 97 = .ok (.bipush 99, 2) := by decide +kernel
theorem dX10_advanceDigits_99 : decode cX10_advanceDigits 99 = .ok (.if_icmp .gt 20, 3) := by decide +kernel
theorem dX10_advanceDigits_102 : decode cX10_advanceDigits 102 = .ok (.iload_n 1, 1) := by decide +kernel
theorem dX10_advanceDigits_103 : decode cX10_advanceDigits 103 = .ok (.ifCond .eq 20, 3) := by decide +kernel
theorem dX10_advanceDigits_106 : decode cX10_advanceDigits 106 = .ok (.aload_n 0, 1) := by decide +kernel
theorem dX10_advanceDigits_107 : decode cX10_advanceDigits 107 = .ok (.getfield 27, 3) := by decide +kernel
theorem dX10_advanceDigits_110 : decode cX10_advanceDigits 110 = .ok (.aload_n 0, 1) := by decide +kernel
theorem dX10_advanceDigits_111 : decode cX10_advanceDigits 111 = .ok (.getfield 46, 3) := by decide +kernel
theorem dX10_advanceDigits_114 : decode cX10_advanceDigits 114 = .ok (.isub, 1) := by decide +kernel
theorem dX10_advanceDigits_115 : decode cX10_advanceDigits 115 = .ok (.iconst 1, 1) := by decide +kernel
theorem dX10_advanceDigits_116 : decode cX10_advanceDigits 116 = .ok (.if_icmp .le 7, 3) := by decide +kernel
theorem dX10_advanceDigits_119 : decode cX10_advanceDigits 119 = .ok (.iconst 1, 1) := by decide +kernel
theorem dX10_advanceDigits_120 : decode cX10_advanceDigits 120 = .ok (.goto 4, 3) := by decide +kernel
theorem dX10_advanceDigits_123 : decode cX10_advanceDigits 123 = .ok (.iconst 0, 1) := by decide +kernel
theorem dX10_advanceDigits_124 : decode cX10_advanceDigits 124 = .ok (.istore_n 2, 1) := by decide +kernel
theorem dX10_advanceDigits_125 : decode cX10_advanceDigits 125 = .ok (.aload_n 0, 1) := by decide +kernel
theorem dX10_advanceDigits_126 : decode cX10_advanceDigits 126 = .ok (.iload_n 2, 1) := by decide +kernel
theorem dX10_advanceDigits_127 : decode cX10_advanceDigits 127 = .ok (.ifCond .eq 7, 3) := by decide +kernel
theorem dX10_advanceDigits_130 : decode cX10_advanceDigits 130 = .ok (.iconst 2, 1) := by decide +kernel
theorem dX10_advanceDigits_131 : decode cX10_advanceDigits 131 = .ok (.goto 4, 3) := by decide +kernel
theorem dX10_advanceDigits_134 : decode cX10_advanceDigits 134 = .ok (.iconst 1, 1) := by decide +kernel
theorem dX10_advanceDigits_135 : decode cX10_advanceDigits 135 = .ok (.putfield 33, 3) := by decide +kernel
theorem dX10_advanceDigits_138 : decode cX10_advanceDigits 138 = .ok (.return_, 1) := by decide +kernel
theorem dX10_isDigit_0 : decode cX10_isDigit 0 = .ok (.iload_n 0, 1) := by decide +kernel
theorem dX10_isDigit_1 : decode cX10_isDigit 1 = .ok (.bipush 48, 2) := by decide +kernel
theorem dX10_isDigit_3 : decode cX10_isDigit 3 = .ok (.if_icmp .lt 13, 3) := by decide +kernel
theorem dX10_isDigit_6 : decode cX10_isDigit 6 = .ok (.iload_n 0, 1) := by decide +kernel
theorem dX10_isDigit_7 : decode cX10_isDigit 7 = .ok (.bipush 57, 2) := by decide +kernel
theorem dX10_isDigit_9 : decode cX10_isDigit 9 = .ok (.if_icmp .gt 7, 3) := by decide +kernel
theorem dX10_isDigit_12 : decode cX10_isDigit 12 = .ok (.iconst 1, 1) := by decide +kernel
theorem dX10_isDigit_13 : decode cX10_isDigit 13 = .ok (.goto 4, 3) := by decide +kernel
theorem dX10_isDigit_16 : decode cX10_isDigit 16 = .ok (.iconst 0, 1) := by decide +kernel
theorem dX10_isDigit_17 : decode cX10_isDigit 17 = .ok (.ireturn, 1) := by decide +kernel
theorem dJ6_bitCount_0f7a4_0 : decode cJ6_bitCount_0f7a4 0 = .ok (.iload_n 0, 1) := by decide +kernel
theorem dJ6_bitCount_0f7a4_1 : decode cJ6_bitCount_0f7a4 1 = .ok (.iload_n 0, 1) := by decide +kernel
theorem dJ6_bitCount_0f7a4_2 : decode cJ6_bitCount_0f7a4 2 = .ok (.iconst 1, 1) := by decide +kernel
theorem dJ6_bitCount_0f7a4_3 : decode cJ6_bitCount_0f7a4 3 = .ok (.iushr, 1) := by decide +kernel
theorem dJ6_bitCount_0f7a4_4 : decode cJ6_bitCount_0f7a4 4 = .ok (.ldc_w 265, 3) := by decide +kernel
theorem dJ6_bitCount_0f7a4_7 : decode cJ6_bitCount_0f7a4 7 = .ok (.iand, 1) := by decide +kernel
theorem dJ6_bitCount_0f7a4_8 : decode cJ6_bitCount_0f7a4 8 = .ok (.isub, 1) := by decide +kernel
theorem dJ6_bitCount_0f7a4_9 : decode cJ6_bitCount_0f7a4 9 = .ok (.istore_n 0, 1) := by decide +kernel
theorem dJ6_bitCount_0f7a4_10 : decode cJ6_bitCount_0f7a4 10 = .ok (.iload_n 0, 1) := by decide +kernel
theorem dJ6_bitCount_0f7a4_11 : decode cJ6_bitCount_0f7a4 11 = .ok (.ldc_w 266, 3) := by decide +kernel
theorem dJ6_bitCount_0f7a4_14 : decode cJ6_bitCount_0f7a4 14 = .ok (.iand, 1) := by decide +kernel
theorem dJ6_bitCount_0f7a4_15 : decode cJ6_bitCount_0f7a4 15 = .ok (.iload_n 0, 1) := by decide +kernel
theorem dJ6_bitCount_0f7a4_16 : decode cJ6_bitCount_0f7a4 16 = .ok (.iconst 2, 1) := by decide +kernel
theorem dJ6_bitCount_0f7a4_17 : decode cJ6_bitCount_0f7a4 17 = .ok (.iushr, 1) := by decide +kernel
theorem dJ6_bitCount_0f7a4_18 : decode cJ6_bitCount_0f7a4 18 = .ok (.ldc_w 266, 3) := by decide +kernel
theorem dJ6_bitCount_0f7a4_21 : decode cJ6_bitCount_0f7a4 21 = .ok (.iand, 1) := by decide +kernel
theorem dJ6_bitCount_0f7a4_22 : decode cJ6_bitCount_0f7a4 22 = .ok (.iadd, 1) := by decide +kernel
theorem dJ6_bitCount_0f7a4_23 : decode cJ6_bitCount_0f7a4 23 = .ok (.istore_n 0, 1) := by decide +kernel
theorem dJ6_bitCount_0f7a4_24 : decode cJ6_bitCount_0f7a4 24 = .ok (.iload_n 0, 1) := by decide +kernel
theorem dJ6_bitCount_0f7a4_25 : decode cJ6_bitCount_0f7a4 25 = .ok (.iload_n 0, 1) := by decide +kernel
theorem dJ6_bitCount_0f7a4_26 : decode cJ6_bitCount_0f7a4 26 = .ok (.iconst 4, 1) := by decide +kernel
theorem dJ6_bitCount_0f7a4_27 : decode cJ6_bitCount_0f7a4 27 = .ok (.iushr, 1) := by decide +kernel
theorem dJ6_bitCount_0f7a4_28 : decode cJ6_bitCount_0f7a4 28 = .ok (.iadd, 1) := by decide +kernel
theorem dJ6_bitCount_0f7a4_29 : decode cJ6_bitCount_0f7a4 29 = .ok (.ldc_w 267, 3) := by decide +kernel
theorem dJ6_bitCount_0f7a4_32 : decode cJ6_bitCount_0f7a4 32 = .ok (.iand, 1) := by decide +kernel
theorem dJ6_bitCount_0f7a4_33 : decode cJ6_bitCount_0f7a4 33 = .ok (.istore_n 0, 1) := by decide +kernel
theorem dJ6_bitCount_0f7a4_34 : decode cJ6_bitCount_0f7a4 34 = .ok (.iload_n 0, 1) := by decide +kernel
theorem dJ6_bitCount_0f7a4_35 : decode cJ6_bitCount_0f7a4 35 = .ok (.iload_n 0, 1) := by decide +kernel
theorem dJ6_bitCount_0f7a4_36 : decode cJ6_bitCount_0f7a4 36 = .ok (.bipush 8, 2) := by decide +kernel
theorem dJ6_bitCount_0f7a4_38 : decode cJ6_bitCount_0f7a4 38 = .ok (.iushr, 1) := by decide +kernel
theorem dJ6_bitCount_0f7a4_39 : decode cJ6_bitCount_0f7a4 39 = .ok (.iadd, 1) := by decide +kernel
theorem dJ6_bitCount_0f7a4_40 : decode cJ6_bitCount_0f7a4 40 = .ok (.istore_n 0, 1) := by decide +kernel
theorem dJ6_bitCount_0f7a4_41 : decode cJ6_bitCount_0f7a4 41 = .ok (.iload_n 0, 1) := by decide +kernel
theorem dJ6_bitCount_0f7a4_42 : decode cJ6_bitCount_0f7a4 42 = .ok (.iload_n 0, 1) := by decide +kernel
theorem dJ6_bitCount_0f7a4_43 : decode cJ6_bitCount_0f7a4 43 = .ok (.bipush 16, 2) := by decide +kernel
theorem dJ6_bitCount_0f7a4_45 : decode cJ6_bitCount_0f7a4 45 = .ok (.iushr, 1) := by decide +kernel
theorem dJ6_bitCount_0f7a4_46 : decode cJ6_bitCount_0f7a4 46 = .ok (.iadd, 1) := by decide +kernel
theorem dJ6_bitCount_0f7a4_47 : decode cJ6_bitCount_0f7a4 47 = .ok (.istore_n 0, 1) := by decide +kernel
theorem dJ6_bitCount_0f7a4_48 : decode cJ6_bitCount_0f7a4 48 = .ok (.iload_n 0, 1) := by decide +kernel
theorem dJ6_bitCount_0f7a4_49 : decode cJ6_bitCount_0f7a4 49 = .ok (.bipush 63, 2) := by decide +kernel
theorem dJ6_bitCount_0f7a4_51 : decode cJ6_bitCount_0f7a4 51 = .ok (.iand, 1) := by decide +kernel
theorem dJ6_bitCount_0f7a4_52 : decode cJ6_bitCount_0f7a4 52 = .ok (.ireturn, 1) := by decide +kernel
theorem dJ9_max_7cf53_0 : decode cJ9_max_7cf53 0 = .ok (.iload_n 0, 1) := by decide +kernel
theorem dJ9_max_7cf53_1 : decode cJ9_max_7cf53 1 = .ok (.iload_n 1, 1) := by decide +kernel
theorem dJ9_max_7cf53_2 : decode cJ9_max_7cf53 2 = .ok (.if_icmp .lt 7, 3) := by decide +kernel
theorem dJ9_max_7cf53_5 : decode cJ9_max_7cf53 5 = .ok (.iload_n 0, 1) := by decide +kernel
theorem dJ9_max_7cf53_6 : decode cJ9_max_7cf53 6 = .ok (.goto 4, 3) := by decide +kernel
theorem dJ9_max_7cf53_9 : decode cJ9_max_7cf53 9 = .ok (.iload_n 1, 1) := by decide +kernel
theorem dJ9_max_7cf53_10 : decode cJ9_max_7cf53 10 = .ok (.ireturn, 1) := by decide +kernel
theorem dJ9_min_7cf53_0 : decode cJ9_min_7cf53 0 = .ok (.iload_n 0, 1) := by decide +kernel
theorem dJ9_min_7cf53_1 : decode cJ9_min_7cf53 1 = .ok (.iload_n 1, 1) := by decide +kernel
theorem dJ9_min_7cf53_2 : decode cJ9_min_7cf53 2 = .ok (.if_icmp .gt 7, 3) := by decide +kernel
theorem dJ9_min_7cf53_5 : decode cJ9_min_7cf53 5 = .ok (.iload_n 0, 1) := by decide +kernel
theorem dJ9_min_7cf53_6 : decode cJ9_min_7cf53 6 = .ok (.goto 4, 3) := by decide +kernel
theorem dJ9_min_7cf53_9 : decode cJ9_min_7cf53 9 = .ok (.iload_n 1, 1) := by decide +kernel
theorem dJ9_min_7cf53_10 : decode cJ9_min_7cf53 10 = .ok (.ireturn, 1) := by decide +kernel
