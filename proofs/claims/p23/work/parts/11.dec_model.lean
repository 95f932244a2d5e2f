theorem dX12_init_0 : decode cX12_init 0 = .ok (.aload_n 0, 1) := by decide +kernel
theorem dX12_init_1 : decode cX12_init 1 = .ok (.invokespecial 1, 3) := by decide +kernel
theorem dX12_init_4 : decode cX12_init 4 = .ok (.aload_n 0, 1) := by decide +kernel
theorem dX12_init_5 : decode cX12_init 5 = .ok (.bipush 120, 2) := by decide +kernel
theorem dX12_init_7 : decode cX12_init 7 = .ok (.newarray .int, 2) := by decide +kernel
theorem dX12_init_9 : decode cX12_init 9 = .ok (.putfield 7, 3) := by decide +kernel
theorem dX12_init_12 : decode cX12_init 12 = .ok (.aload_n 0, 1) := by decide +kernel
theorem dX12_init_13 : decode cX12_init 13 = .ok (.bipush 6, 2) := by decide +kernel
theorem dX12_init_15 : decode cX12_init 15 = .ok (.newarray .int, 2) := by decide +kernel
theorem dX12_init_17 : decode cX12_init 17 = .ok (.putfield 13, 3) := by decide +kernel
theorem dX12_init_20 : decode cX12_init 20 = .ok (.aload_n 0, 1) := by decide +kernel
theorem dX12_init_21 : decode cX12_init 21 = .ok (.bipush 6, 2) := by decide +kernel
theorem dX12_init_23 : decode cX12_init 23 = .ok (.newarray .int, 2) := by decide +kernel
theorem dX12_init_25 : decode cX12_init 25 = .ok (.putfield 16, 3) := by decide +kernel
theorem dX12_init_28 : decode cX12_init 28 = .ok (.aload_n 0, 1) := by decide +kernel
theorem dX12_init_29 : decode cX12_init 29 = .ok (.bipush 22, 2) := by decide +kernel
theorem dX12_init_31 : decode cX12_init 31 = .ok (.newarray .int, 2) := by decide +kernel
theorem dX12_init_33 : decode cX12_init 33 = .ok (.putfield 19, 3) := by decide +kernel
theorem dX12_init_36 : decode cX12_init 36 = .ok (.aload_n 0, 1) := by decide +kernel
theorem dX12_init_37 : decode cX12_init 37 = .ok (.bipush 22, 2) := by decide +kernel
theorem dX12_init_39 : decode cX12_init 39 = .ok (.newarray .int, 2) := by decide +kernel
theorem dX12_init_41 : decode cX12_init 41 = .ok (.putfield 22, 3) := by decide +kernel
theorem dX12_init_44 : decode cX12_init 44 = .ok (.aload_n 0, 1) := by decide +kernel
theorem dX12_init_45 : decode cX12_init 45 = .ok (.sipush 220, 3) := by decide +kernel
theorem dX12_init_48 : decode cX12_init 48 = .ok (.newarray .int, 2) := by decide +kernel
theorem dX12_init_50 : decode cX12_init 50 = .ok (.putfield 25, 3) := by decide +kernel
theorem dX12_init_53 : decode cX12_init 53 = .ok (.aload_n 0, 1) := by decide +kernel
theorem dX12_init_54 : decode cX12_init 54 = .ok (.bipush 44, 2) := by decide +kernel
theorem dX12_init_56 : decode cX12_init 56 = .ok (.newarray .int, 2) := by decide +kernel
theorem dX12_init_58 : decode cX12_init 58 = .ok (.putfield 28, 3) := by decide +kernel
theorem dX12_init_61 : decode cX12_init 61 = .ok (.aload_n 0, 1) := by decide +kernel
theorem dX12_init_62 : decode cX12_init 62 = .ok (.iconst 2, 1) := by decide +kernel
theorem dX12_init_63 : decode cX12_init 63 = .ok (.newarray .boolean, 2) := by decide +kernel
theorem dX12_init_65 : decode cX12_init 65 = .ok (.putfield 31, 3) := by decide +kernel
theorem dX12_init_68 : decode cX12_init 68 = .ok (.aload_n 0, 1) := by decide +kernel
theorem dX12_init_69 : decode cX12_init 69 = .ok (.bipush 6, 2) := by decide +kernel
theorem dX12_init_71 : decode cX12_init 71 = .ok (.newarray .int, 2) := by decide +kernel
theorem dX12_init_73 : decode cX12_init 73 = .ok (.putfield 35, 3) := by decide +kernel
theorem dX12_init_76 : decode cX12_init 76 = .ok (.aload_n 0, 1) := by decide +kernel
theorem dX12_init_77 : decode cX12_init 77 = .ok (.bipush 6, 2) := by decide +kernel
theorem dX12_init_79 : decode cX12_init 79 = .ok (.newarray .int, 2) := by decide +kernel
theorem dX12_init_81 : decode cX12_init 81 = .ok (.putfield 38, 3) := by decide +kernel
theorem dX12_init_84 : decode cX12_init 84 = .ok (.aload_n 0, 1) := by decide +kernel
theorem dX12_init_85 : decode cX12_init 85 = .ok (.bipush 6, 2) := by decide +kernel
theorem dX12_init_87 : decode cX12_init 87 = .ok (.newarray .int, 2) := by decide +kernel
theorem dX12_init_89 : decode cX12_init 89 = .ok (.putfield 41, 3) := by decide +kernel
theorem dX12_init_92 : decode cX12_init 92 = .ok (.aload_n 0, 1) := by decide +kernel
theorem dX12_init_93 : decode cX12_init 93 = .ok (.bipush 24, 2) := by decide +kernel
theorem dX12_init_95 : decode cX12_init 95 = .ok (.newarray .int, 2) := by decide +kernel
theorem dX12_init_97 : decode cX12_init 97 = .ok (.putfield 44, 3) := by decide +kernel
theorem dX12_init_100 : decode cX12_init 100 = .ok (.aload_n 0, 1) := by decide +kernel
theorem dX12_init_101 : decode cX12_init 101 = .ok (.getfield 19, 3) := by decide +kernel
theorem dX12_init_104 : decode cX12_init 104 = .ok (.iconst 1, 1) := by decide +kernel
theorem dX12_init_105 : decode cX12_init 105 = .ok (.iconst 4, 1) := by decide +kernel
theorem dX12_init_106 : decode cX12_init 106 = .ok (.iastore, 1) := by decide +kernel
theorem dX12_init_107 : decode cX12_init 107 = .ok (.aload_n 0, 1) := by decide +kernel
theorem dX12_init_108 : decode cX12_init 108 = .ok (.getfield 19, 3) := by decide +kernel
theorem dX12_init_111 : decode cX12_init 111 = .ok (.iconst 2, 1) := by decide +kernel
theorem dX12_init_112 : decode cX12_init 112 = .ok (.iconst 4, 1) := by decide +kernel
theorem dX12_init_113 : decode cX12_init 113 = .ok (.iastore, 1) := by decide +kernel
theorem dX12_init_114 : decode cX12_init 114 = .ok (.return_, 1) := by decide +kernel
theorem dX12_in_0 : decode cX12_in 0 = .ok (.iload_n 0, 1) := by decide +kernel
theorem dX12_in_1 : decode cX12_in 1 = .ok (.iload_n 1, 1) := by decide +kernel
theorem dX12_in_2 : decode cX12_in 2 = .ok (.if_icmp .lt 12, 3) := by decide +kernel
theorem dX12_in_5 : decode cX12_in 5 = .ok (.iload_n 0, 1) := by decide +kernel
theorem dX12_in_6 : decode cX12_in 6 = .ok (.iload_n 2, 1) := by decide +kernel
theorem dX12_in_7 : decode cX12_in 7 = .ok (.if_icmp .gt 7, 3) := by decide +kernel
theorem dX12_in_10 : decode cX12_in 10 = .ok (.iconst 1, 1) := by decide +kernel
theorem dX12_in_11 : decode cX12_in 11 = .ok (.goto 4, 3) := by decide +kernel
theorem dX12_in_14 : decode cX12_in 14 = .ok (.iconst 0, 1) := by decide +kernel
theorem dX12_in_15 : decode cX12_in 15 = .ok (.ireturn, 1) := by decide +kernel
theorem dX12_has_0 : decode cX12_has 0 = .ok (.iload_n 0, 1) := by decide +kernel
theorem dX12_has_1 : decode cX12_has 1 = .ok (.iload_n 1, 1) := by decide +kernel
theorem dX12_has_2 : decode cX12_has 2 = .ok (.ishr, 1) := by decide +kernel
theorem dX12_has_3 : decode cX12_has 3 = .ok (.iconst 1, 1) := by decide +kernel
theorem dX12_has_4 : decode cX12_has 4 = .ok (.iand, 1) := by decide +kernel
theorem dX12_has_5 : decode cX12_has 5 = .ok (.iconst 1, 1) := by decide +kernel
theorem dX12_has_6 : decode cX12_has 6 = .ok (.if_icmp .ne 7, 3) := by decide +kernel
theorem dX12_has_9 : decode cX12_has 9 = .ok (.iconst 1, 1) := by decide +kernel
theorem dX12_has_10 : decode cX12_has 10 = .ok (.goto 4, 3) := by decide +kernel
theorem dX12_has_13 : decode cX12_has 13 = .ok (.iconst 0, 1) := by decide +kernel
theorem dX12_has_14 : decode cX12_has 14 = .ok (.ireturn, 1) := by decide +kernel
theorem dX12_bits_0 : decode cX12_bits 0 = .ok (.iconst 0, 1) := by decide +kernel
theorem dX12_bits_1 : decode cX12_bits 1 = .ok (.istore_n 1, 1) := by decide +kernel
theorem dX12_bits_2 : decode cX12_bits 2 = .ok (.iconst 0, 1) := by decide +kernel
theorem dX12_bits_3 : decode cX12_bits 3 = .ok (.istore_n 2, 1) := by decide +kernel
theorem dX12_bits_4 : decode cX12_bits 4 = .ok (.iload_n 2, 1) := by decide +kernel
theorem dX12_bits_5 : decode cX12_bits 5 = .ok (.bipush 6, 2) := by decide +kernel
theorem dX12_bits_7 : decode cX12_bits 7 = .ok (.if_icmp .ge 17, 3) := by decide +kernel
theorem dX12_bits_10 : decode cX12_bits 10 = .ok (.iload_n 1, 1) := by decide +kernel
theorem dX12_bits_11 : decode cX12_bits 11 = .ok (.iload_n 0, 1) := by decide +kernel
theorem dX12_bits_12 : decode cX12_bits 12 = .ok (.iload_n 2, 1) := by decide +kernel
theorem dX12_bits_13 : decode cX12_bits 13 = .ok (.ishr, 1) := by decide +kernel
theorem dX12_bits_14 : decode cX12_bits 14 = .ok (.iconst 1, 1) := by decide +kernel
theorem dX12_bits_15 : decode cX12_bits 15 = .ok (.iand, 1) := by decide +kernel
theorem dX12_bits_16 : decode cX12_bits 16 = .ok (.iadd, 1) := by decide +kernel
theorem dX12_bits_17 : decode cX12_bits 17 = .ok (.istore_n 1, 1) := by decide +kernel
theorem dX12_bits_18 : decode cX12_bits 18 = .ok (.iinc 2 1, 3) := by decide +kernel
theorem dX12_bits_21 : decode cX12_bits 21 = .ok (.goto (-17), 3) := by decide +kernel
theorem dX12_bits_24 : decode cX12_bits 24 = .ok (.iload_n 1, 1) := by decide +kernel
theorem dX12_bits_25 : decode cX12_bits 25 = .ok (.ireturn, 1) := by decide +kernel
theorem dX12_bring_0 : decode cX12_bring 0 = .ok (.iconst 0, 1) := by decide +kernel
theorem dX12_bring_1 : decode cX12_bring 1 = .ok (.istore 5, 2) := by decide +kernel
theorem dX12_bring_3 : decode cX12_bring 3 = .ok (.iload 5, 2) := by decide +kernel
theorem dX12_bring_5 : decode cX12_bring 5 = .ok (.iload 4, 2) := by decide +kernel
theorem dX12_bring_7 : decode cX12_bring 7 = .ok (.if_icmp .ge 21, 3) := by decide +kernel
theorem dX12_bring_10 : decode cX12_bring 10 = .ok (.aload_n 2, 1) := by decide +kernel
theorem dX12_bring_11 : decode cX12_bring 11 = .ok (.iload_n 3, 1) := by decide +kernel
theorem dX12_bring_12 : decode cX12_bring 12 = .ok (.iload 5, 2) := by decide +kernel
theorem dX12_bring_14 : decode cX12_bring 14 = .ok (.iadd, 1) := by decide +kernel
theorem dX12_bring_15 : decode cX12_bring 15 = .ok (.aload_n 0, 1) := by decide +kernel
theorem dX12_bring_16 : decode cX12_bring 16 = .ok (.iload_n 1, 1) := by decide +kernel
theorem dX12_bring_17 : decode cX12_bring 17 = .ok (.iload 5, 2) := by decide +kernel
theorem dX12_bring_19 : decode cX12_bring 19 = .ok (.iadd, 1) := by decide +kernel
theorem dX12_bring_20 : decode cX12_bring 20 = .ok (.iaload, 1) := by decide +kernel
theorem dX12_bring_21 : decode cX12_bring 21 = .ok (.iastore, 1) := by decide +kernel
theorem dX12_bring_22 : decode cX12_bring 22 = .ok (.iinc 5 1, 3) := by decide +kernel
theorem dX12_bring_25 : decode cX12_bring 25 = .ok (.goto (-22), 3) := by decide +kernel
theorem dX12_bring_28 : decode cX12_bring 28 = .ok (.return_, 1) := by decide +kernel
theorem dX12_isJumper_0 : decode cX12_isJumper 0 = .ok (.iload_n 1, 1) := by decide +kernel
theorem dX12_isJumper_1 : decode cX12_isJumper 1 = .ok (.iconst 0, 1) := by decide +kernel
theorem dX12_isJumper_2 : decode cX12_isJumper 2 = .ok (.aload_n 0, 1) := by decide +kernel
theorem dX12_isJumper_3 : decode cX12_isJumper 3 = .ok (.getfield 47, 3) := by decide +kernel
theorem dX12_isJumper_6 : decode cX12_isJumper 6 = .ok (.iconst 1, 1) := by decide +kernel
theorem dX12_isJumper_7 : decode cX12_isJumper 7 = .ok (.isub, 1) := by decide +kernel
theorem dX12_isJumper_8 : decode cX12_isJumper 8 = .ok (.invokestatic 51, 3) := by decide +kernel
theorem dX12_isJumper_11 : decode cX12_isJumper 11 = .ok (.ireturn, 1) := by decide +kernel
theorem dX12_type_0 : decode cX12_type 0 = .ok (.iload_n 1, 1) := by decide +kernel
theorem dX12_type_1 : decode cX12_type 1 = .ok (.iconst 0, 1) := by decide +kernel
theorem dX12_type_2 : decode cX12_type 2 = .ok (.sipush 255, 3) := by decide +kernel
theorem dX12_type_5 : decode cX12_type 5 = .ok (.invokestatic 51, 3) := by decide +kernel
theorem dX12_type_8 : decode cX12_type 8 = .ok (.ifCond .ne 5, 3) := by decide +kernel
theorem dX12_type_11 : decode cX12_type 11 = .ok (.iconst (-1), 1) := by decide +kernel
theorem dX12_type_12 : decode cX12_type 12 = .ok (.ireturn, 1) := by decide +kernel
theorem dX12_type_13 : decode cX12_type 13 = .ok (.aload_n 0, 1) := by decide +kernel
theorem dX12_type_14 : decode cX12_type 14 = .ok (.getfield 55, 3) := by decide +kernel
theorem dX12_type_17 : decode cX12_type 17 = .ok (.bipush 120, 2) := by decide +kernel
theorem dX12_type_19 : decode cX12_type 19 = .ok (.if_icmp .ne 6, 3) := by decide +kernel
theorem dX12_type_22 : decode cX12_type 22 = .ok (.bipush (-3), 2) := by decide +kernel
theorem dX12_type_24 : decode cX12_type 24 = .ok (.ireturn, 1) := by decide +kernel
theorem dX12_type_25 : decode cX12_type 25 = .ok (.aload_n 0, 1) := by decide +kernel
theorem dX12_type_26 : decode cX12_type 26 = .ok (.getfield 7, 3) := by decide +kernel
theorem dX12_type_29 : decode cX12_type 29 = .ok (.aload_n 0, 1) := by decide +kernel
theorem dX12_type_30 : decode cX12_type 30 = .ok (.getfield 55, 3) := by decide +kernel
theorem dX12_type_33 : decode cX12_type 33 = .ok (.iload_n 1, 1) := by decide +kernel
theorem dX12_type_34 : decode cX12_type 34 = .ok (.iastore, 1) := by decide +kernel
theorem dX12_type_35 : decode cX12_type 35 = .ok (.aload_n 0, 1) := by decide +kernel
theorem dX12_type_36 : decode cX12_type 36 = .ok (.dup, 1) := by decide +kernel
theorem dX12_type_37 : decode cX12_type 37 = .ok (.getfield 55, 3) := by decide +kernel
theorem dX12_type_40 : decode cX12_type 40 = .ok (.iconst 1, 1) := by decide +kernel
theorem dX12_type_41 : decode cX12_type 41 = .ok (.iadd, 1) := by decide +kernel
theorem dX12_type_42 : decode cX12_type 42 = .ok (.putfield 55, 3) := by decide +kernel
theorem dX12_type_45 : decode cX12_type 45 = .ok (.aload_n 0, 1) := by decide +kernel
theorem dX12_type_46 : decode cX12_type 46 = .ok (.getfield 55, 3) := by decide +kernel
theorem dX12_type_49 : decode cX12_type 49 = .ok (.ireturn, 1) := by decide +kernel
theorem dX12_clear_0 : decode cX12_clear 0 = .ok (.aload_n 0, 1) := by decide +kernel
theorem dX12_clear_1 : decode cX12_clear 1 = .ok (.getfield 55, 3) := by decide +kernel
theorem dX12_clear_4 : decode cX12_clear 4 = .ok (.istore_n 1, 1) := by decide +kernel
theorem dX12_clear_5 : decode cX12_clear 5 = .ok (.aload_n 0, 1) := by decide +kernel
theorem dX12_clear_6 : decode cX12_clear 6 = .ok (.iconst 0, 1) := by decide +kernel
theorem dX12_clear_7 : decode cX12_clear 7 = .ok (.putfield 55, 3) := by decide +kernel
theorem dX12_clear_10 : decode cX12_clear 10 = .ok (.iload_n 1, 1) := by decide +kernel
theorem dX12_clear_11 : decode cX12_clear 11 = .ok (.ireturn, 1) := by decide +kernel
theorem dX12_here_0 : decode cX12_here 0 = .ok (.aload_n 0, 1) := by decide +kernel
theorem dX12_here_1 : decode cX12_here 1 = .ok (.getfield 58, 3) := by decide +kernel
theorem dX12_here_4 : decode cX12_here 4 = .ok (.aload_n 0, 1) := by decide +kernel
theorem dX12_here_5 : decode cX12_here 5 = .ok (.getfield 55, 3) := by decide +kernel
theorem dX12_here_8 : decode cX12_here 8 = .ok (.if_icmp .ge 15, 3) := by decide +kernel
theorem dX12_here_11 : decode cX12_here 11 = .ok (.aload_n 0, 1) := by decide +kernel
theorem dX12_here_12 : decode cX12_here 12 = .ok (.getfield 7, 3) := by decide +kernel
theorem dX12_here_15 : decode cX12_here 15 = .ok (.aload_n 0, 1) := by decide +kernel
theorem dX12_here_16 : decode cX12_here 16 = .ok (.getfield 58, 3) := by decide +kernel
theorem dX12_here_19 : decode cX12_here 19 = .ok (.iaload, 1) := by decide +kernel
theorem dX12_here_20 : decode cX12_here 20 = .ok (.goto 4, 3) := by decide +kernel
theorem dX12_here_23 : decode cX12_here 23 = .ok (.iconst (-1), 1) := by decide +kernel
theorem dX12_here_24 : decode cX12_here 24 = .ok (.ireturn, 1) := by decide +kernel
theorem dX12_skips_0 : decode cX12_skips 0 = .ok (.aload_n 0, 1) := by decide +kernel
theorem dX12_skips_1 : decode cX12_skips 1 = .ok (.invokevirtual 61, 3) := by decide +kernel
theorem dX12_skips_4 : decode cX12_skips 4 = .ok (.bipush 32, 2) := by decide +kernel
theorem dX12_skips_6 : decode cX12_skips 6 = .ok (.if_icmp .ne 16, 3) := by decide +kernel
theorem dX12_skips_9 : decode cX12_skips 9 = .ok (.aload_n 0, 1) := by decide +kernel
theorem dX12_skips_10 : decode cX12_skips 10 = .ok (.dup, 1) := by decide +kernel
theorem dX12_skips_11 : decode cX12_skips 11 = .ok (.getfield 58, 3) := by decide +kernel
theorem dX12_skips_14 : decode cX12_skips 14 = .ok (.iconst 1, 1) := by decide +kernel
theorem dX12_skips_15 : decode cX12_skips 15 = .ok (.iadd, 1) := by decide +kernel
theorem dX12_skips_16 : decode cX12_skips 16 = .ok (.putfield 58, 3) := by decide +kernel
theorem dX12_skips_19 : decode cX12_skips 19 = .ok (.goto (-19), 3) := by decide +kernel
theorem dX12_skips_22 : decode cX12_skips 22 = .ok (.return_, 1) := by decide +kernel
theorem dX12_isFigure_0 : decode cX12_isFigure 0 = .ok (.iload_n 0, 1) := by decide +kernel
theorem dX12_isFigure_1 : decode cX12_isFigure 1 = .ok (.bipush 48, 2) := by decide +kernel
theorem dX12_isFigure_3 : decode cX12_isFigure 3 = .ok (.bipush 57, 2) := by decide +kernel
theorem dX12_isFigure_5 : decode cX12_isFigure 5 = .ok (.invokestatic 51, 3) := by decide +kernel
theorem dX12_isFigure_8 : decode cX12_isFigure 8 = .ok (.ireturn, 1) := by decide +kernel
theorem dX12_number_0 : decode cX12_number 0 = .ok (.aload_n 0, 1) := by decide +kernel
theorem dX12_number_1 : decode cX12_number 1 = .ok (.getfield 65, 3) := by decide +kernel
theorem dX12_number_4 : decode cX12_number 4 = .ok (.ifCond .lt 5, 3) := by decide +kernel
theorem dX12_number_7 : decode cX12_number 7 = .ok (.iconst 0, 1) := by decide +kernel
theorem dX12_number_8 : decode cX12_number 8 = .ok (.ireturn, 1) := by decide +kernel
theorem dX12_number_9 : decode cX12_number 9 = .ok (.aload_n 0, 1) := by decide +kernel
theorem dX12_number_10 : decode cX12_number 10 = .ok (.invokevirtual 68, 3) := by decide +kernel
theorem dX12_number_13 : decode cX12_number 13 = .ok (.iconst 0, 1) := by decide +kernel
theorem dX12_number_14 : decode cX12_number 14 = .ok (.istore_n 3, 1) := by decide +kernel
theorem dX12_number_15 : decode cX12_number 15 = .ok (.iconst 0, 1) := by decide +kernel
theorem dX12_number_16 : decode cX12_number 16 = .ok (.istore 4, 2) := by decide +kernel
theorem dX12_number_18 : decode cX12_number 18 = .ok (.aload_n 0, 1) := by decide +kernel
theorem dX12_number_19 : decode cX12_number 19 = .ok (.getfield 58, 3) := by decide +kernel
theorem dX12_number_22 : decode cX12_number 22 = .ok (.iload_n 3, 1) := by decide +kernel
theorem dX12_number_23 : decode cX12_number 23 = .ok (.iadd, 1) := by decide +kernel
theorem dX12_number_24 : decode cX12_number 24 = .ok (.aload_n 0, 1) := by decide +kernel
theorem dX12_number_25 : decode cX12_number 25 = .ok (.getfield 55, 3) := by decide +kernel
theorem dX12_number_28 : decode cX12_number 28 = .ok (.if_icmp .ge 58, 3) := by decide +kernel
theorem dX12_number_31 : decode cX12_number 31 = .ok (.aload_n 0, 1) := by decide +kernel
theorem dX12_number_32 : decode cX12_number 32 = .ok (.getfield 7, 3) := by decide +kernel
theorem dX12_number_35 : decode cX12_number 35 = .ok (.aload_n 0, 1) := by decide +kernel
theorem dX12_number_36 : decode cX12_number 36 = .ok (.getfield 58, 3) := by decide +kernel
theorem dX12_number_39 : decode cX12_number 39 = .ok (.iload_n 3, 1) := by decide +kernel
theorem dX12_number_40 : decode cX12_number 40 = .ok (.iadd, 1) := by decide +kernel
theorem dX12_number_41 : decode cX12_number 41 = .ok (.iaload, 1) := by decide +kernel
theorem dX12_number_42 : decode cX12_number 42 = .ok (.invokestatic 71, 3) := by decide +kernel
theorem dX12_number_45 : decode cX12_number 45 = .ok (.ifCond .eq 41, 3) := by decide +kernel
theorem dX12_number_48 : decode cX12_number 48 = .ok (.iload_n 3, 1) := by decide +kernel
theorem dX12_number_49 : decode cX12_number 49 = .ok (.iconst 3, 1) := by decide +kernel
theorem dX12_number_50 : decode cX12_number 50 = .ok (.if_icmp .ge 26, 3) := by decide +kernel
theorem dX12_number_53 : decode cX12_number 53 = .ok (.bipush 10, 2) := by decide +kernel
theorem dX12_number_55 : decode cX12_number 55 = .ok (.iload 4, 2) := by decide +kernel
theorem dX12_number_57 : decode cX12_number 57 = .ok (.imul, 1) := by decide +kernel
theorem dX12_number_58 : decode cX12_number 58 = .ok (.aload_n 0, 1) := by decide +kernel
theorem dX12_number_59 : decode cX12_number 59 = .ok (.getfield 7, 3) := by decide +kernel
theorem dX12_number_62 : decode cX12_number 62 = .ok (.aload_n 0, 1) := by decide +kernel
theorem dX12_number_63 : decode cX12_number 63 = .ok (.getfield 58, 3) := by decide +kernel
theorem dX12_number_66 : decode cX12_number 66 = .ok (.iload_n 3, 1) := by decide +kernel
theorem dX12_number_67 : decode cX12_number 67 = .ok (.iadd, 1) := by decide +kernel
theorem dX12_number_68 : decode cX12_number 68 = .ok (.iaload, 1) := by decide +kernel
theorem dX12_number_69 : decode cX12_number 69 = .ok (.iadd, 1) := by decide +kernel
theorem dX12_number_70 : decode cX12_number 70 = .ok (.bipush 48, 2) := by decide +kernel
theorem dX12_number_72 : decode cX12_number 72 = .ok (.isub, 1) := by decide +kernel
theorem dX12_number_73 : decode cX12_number 73 = .ok (.goto 5, 3) := by decide +kernel
theorem dX12_number_76 : decode cX12_number 76 = .ok (.iload 4, 2) := by decide +kernel
theorem dX12_number_78 : decode cX12_number 78 = .ok (.istore 4, 2) := by decide +kernel
theorem dX12_number_80 : decode cX12_number 80 = .ok (.iinc 3 1, 3) := by decide +kernel
theorem dX12_number_83 : decode cX12_number 83 = .ok (.goto (-65), 3) := by decide +kernel
theorem dX12_number_86 : decode cX12_number 86 = .ok (.iload_n 3, 1) := by decide +kernel
theorem dX12_number_87 : decode cX12_number 87 = .ok (.iconst 1, 1) := by decide +kernel
theorem dX12_number_88 : decode cX12_number 88 = .ok (.if_icmp .eq 17, 3) := by decide +kernel
theorem dX12_number_91 : decode cX12_number 91 = .ok (.iload_n 3, 1) := by decide +kernel
theorem dX12_number_92 : decode cX12_number 92 = .ok (.iconst 2, 1) := by decide +kernel
theorem dX12_number_93 : decode cX12_number 93 = .ok (.if_icmp .ne 16, 3) := by decide +kernel
theorem dX12_number_96 : decode cX12_number 96 = .ok (.aload_n 0, 1) := by decide +kernel
theorem dX12_number_97 : decode cX12_number 97 = .ok (.invokevirtual 61, 3) := by decide +kernel
theorem dX12_number_100 : decode cX12_number 100 = .ok (.bipush 48, 2) := by decide +kernel
theorem dX12_number_102 : decode cX12_number 102 = .ok (.if_icmp .eq 7, 3) := by decide +kernel
theorem dX12_number_105 : decode cX12_number 105 = .ok (.iconst 1, 1) := by decide +kernel
theorem dX12_number_106 : decode cX12_number 106 = .ok (.goto 4, 3) := by decide +kernel
theorem dX12_number_109 : decode cX12_number 109 = .ok (.iconst 0, 1) := by decide +kernel
theorem dX12_number_110 : decode cX12_number 110 = .ok (.istore 5, 2) := by decide +kernel
theorem dX12_number_112 : decode cX12_number 112 = .ok (.iload 5, 2) := by decide +kernel
theorem dX12_number_114 : decode cX12_number 114 = .ok (.ifCond .eq 13, 3) := by decide +kernel
theorem dX12_number_117 : decode cX12_number 117 = .ok (.iload 4, 2) := by decide +kernel
theorem dX12_number_119 : decode cX12_number 119 = .ok (.iload_n 1, 1) := by decide +kernel
theorem dX12_number_120 : decode cX12_number 120 = .ok (.iload_n 2, 1) := by decide +kernel
theorem dX12_number_121 : decode cX12_number 121 = .ok (.invokestatic 51, 3) := by decide +kernel
theorem dX12_number_124 : decode cX12_number 124 = .ok (.ifCond .ne 13, 3) := by decide +kernel
theorem dX12_number_127 : decode cX12_number 127 = .ok (.aload_n 0, 1) := by decide +kernel
theorem dX12_number_128 : decode cX12_number 128 = .ok (.aload_n 0, 1) := by decide +kernel
theorem dX12_number_129 : decode cX12_number 129 = .ok (.getfield 58, 3) := by decide +kernel
theorem dX12_number_132 : decode cX12_number 132 = .ok (.putfield 65, 3) := by decide +kernel
theorem dX12_number_135 : decode cX12_number 135 = .ok (.iconst 0, 1) := by decide +kernel
theorem dX12_number_136 : decode cX12_number 136 = .ok (.ireturn, 1) := by decide +kernel
theorem dX12_number_137 : decode cX12_number 137 = .ok (.aload_n 0, 1) := by decide +kernel
theorem dX12_number_138 : decode cX12_number 138 = .ok (.dup, 1) := by decide +kernel
theorem dX12_number_139 : decode cX12_number 139 = .ok (.getfield 58, 3) := by decide +kernel
theorem dX12_number_142 : decode cX12_number 142 = .ok (.iload_n 3, 1) := by decide +kernel
theorem dX12_number_143 : decode cX12_number 143 = .ok (.iadd, 1) := by decide +kernel
theorem dX12_number_144 : decode cX12_number 144 = .ok (.putfield 58, 3) := by decide +kernel
theorem dX12_number_147 : decode cX12_number 147 = .ok (.iload 4, 2) := by decide +kernel
theorem dX12_number_149 : decode cX12_number 149 = .ok (.ireturn, 1) := by decide +kernel
theorem dX12_ends_0 : decode cX12_ends 0 = .ok (.aload_n 0, 1) := by decide +kernel
theorem dX12_ends_1 : decode cX12_ends 1 = .ok (.getfield 65, 3) := by decide +kernel
theorem dX12_ends_4 : decode cX12_ends 4 = .ok (.ifCond .lt 4, 3) := by decide +kernel
theorem dX12_ends_7 : decode cX12_ends 7 = .ok (.return_, 1) := by decide +kernel
theorem dX12_ends_8 : decode cX12_ends 8 = .ok (.aload_n 0, 1) := by decide +kernel
theorem dX12_ends_9 : decode cX12_ends 9 = .ok (.invokevirtual 68, 3) := by decide +kernel
theorem dX12_ends_12 : decode cX12_ends 12 = .ok (.aload_n 0, 1) := by decide +kernel
theorem dX12_ends_13 : decode cX12_ends 13 = .ok (.invokevirtual 61, 3) := by decide +kernel
theorem dX12_ends_16 : decode cX12_ends 16 = .ok (.bipush 59, 2) := by decide +kernel
theorem dX12_ends_18 : decode cX12_ends 18 = .ok (.if_icmp .ne 26, 3) := by decide +kernel
theorem dX12_ends_21 : decode cX12_ends 21 = .ok (.aload_n 0, 1) := by decide +kernel
theorem dX12_ends_22 : decode cX12_ends 22 = .ok (.dup, 1) := by decide +kernel
theorem dX12_ends_23 : decode cX12_ends 23 = .ok (.getfield 58, 3) := by decide +kernel
theorem dX12_ends_26 : decode cX12_ends 26 = .ok (.iconst 1, 1) := by decide +kernel
theorem dX12_ends_27 : decode cX12_ends 27 = .ok (.iadd, 1) := by decide +kernel
theorem dX12_ends_28 : decode cX12_ends 28 = .ok (.putfield 58, 3) := by decide +kernel
theorem dX12_ends_31 : decode cX12_ends 31 = .ok (.aload_n 0, 1) := by decide +kernel
theorem dX12_ends_32 : decode cX12_ends 32 = .ok (.dup, 1) := by decide +kernel
theorem dX12_ends_33 : decode cX12_ends 33 = .ok (.getfield 75, 3) := by decide +kernel
theorem dX12_ends_36 : decode cX12_ends 36 = .ok (.iconst 1, 1) := by decide +kernel
theorem dX12_ends_37 : decode cX12_ends 37 = .ok (.iadd, 1) := by decide +kernel
theorem dX12_ends_38 : decode cX12_ends 38 = .ok (.putfield 75, 3) := by decide +kernel
theorem dX12_ends_41 : decode cX12_ends 41 = .ok (.goto 11, 3) := by decide +kernel
theorem dX12_ends_44 : decode cX12_ends 44 = .ok (.aload_n 0, 1) := by decide +kernel
theorem dX12_ends_45 : decode cX12_ends 45 = .ok (.aload_n 0, 1) := by decide +kernel
theorem dX12_ends_46 : decode cX12_ends 46 = .ok (.getfield 58, 3) := by decide +kernel
theorem dX12_ends_49 : decode cX12_ends 49 = .ok (.putfield 65, 3) := by decide +kernel
theorem dX12_ends_52 : decode cX12_ends 52 = .ok (.return_, 1) := by decide +kernel
theorem dX12_readItem_0 : decode cX12_readItem 0 = .ok (.iconst 4, 1) := by decide +kernel
theorem dX12_readItem_1 : decode cX12_readItem 1 = .ok (.aload_n 0, 1) := by decide +kernel
theorem dX12_readItem_2 : decode cX12_readItem 2 = .ok (.getfield 78, 3) := by decide +kernel
theorem dX12_readItem_5 : decode cX12_readItem 5 = .ok (.imul, 1) := by decide +kernel
theorem dX12_readItem_6 : decode cX12_readItem 6 = .ok (.istore_n 1, 1) := by decide +kernel
theorem dX12_readItem_7 : decode cX12_readItem 7 = .ok (.aload_n 0, 1) := by decide +kernel
theorem dX12_readItem_8 : decode cX12_readItem 8 = .ok (.invokevirtual 61, 3) := by decide +kernel
theorem dX12_readItem_11 : decode cX12_readItem 11 = .ok (.bipush 101, 2) := by decide +kernel
theorem dX12_readItem_13 : decode cX12_readItem 13 = .ok (.if_icmp .ne 43, 3) := by decide +kernel
theorem dX12_readItem_16 : decode cX12_readItem 16 = .ok (.aload_n 0, 1) := by decide +kernel
theorem dX12_readItem_17 : decode cX12_readItem 17 = .ok (.getfield 81, 3) := by decide +kernel
theorem dX12_readItem_20 : decode cX12_readItem 20 = .ok (.ifCond .ne 36, 3) := by decide +kernel
theorem dX12_readItem_23 : decode cX12_readItem 23 = .ok (.aload_n 0, 1) := by decide +kernel
theorem dX12_readItem_24 : decode cX12_readItem 24 = .ok (.dup, 1) := by decide +kernel
theorem dX12_readItem_25 : decode cX12_readItem 25 = .ok (.getfield 58, 3) := by decide +kernel
theorem dX12_readItem_28 : decode cX12_readItem 28 = .ok (.iconst 1, 1) := by decide +kernel
theorem dX12_readItem_29 : decode cX12_readItem 29 = .ok (.iadd, 1) := by decide +kernel
theorem dX12_readItem_30 : decode cX12_readItem 30 = .ok (.putfield 58, 3) := by decide +kernel
theorem dX12_readItem_33 : decode cX12_readItem 33 = .ok (.aload_n 0, 1) := by decide +kernel
theorem dX12_readItem_34 : decode cX12_readItem 34 = .ok (.iconst 1, 1) := by decide +kernel
theorem dX12_readItem_35 : decode cX12_readItem 35 = .ok (.putfield 81, 3) := by decide +kernel
theorem dX12_readItem_38 : decode cX12_readItem 38 = .ok (.aload_n 0, 1) := by decide +kernel
theorem dX12_readItem_39 : decode cX12_readItem 39 = .ok (.aload_n 0, 1) := by decide +kernel
theorem dX12_readItem_40 : decode cX12_readItem 40 = .ok (.iconst 2, 1) := by decide +kernel
theorem dX12_readItem_41 : decode cX12_readItem 41 = .ok (.bipush 9, 2) := by decide +kernel
theorem dX12_readItem_43 : decode cX12_readItem 43 = .ok (.invokevirtual 85, 3) := by decide +kernel
theorem dX12_readItem_46 : decode cX12_readItem 46 = .ok (.putfield 89, 3) := by decide +kernel
theorem dX12_readItem_49 : decode cX12_readItem 49 = .ok (.aload_n 0, 1) := by decide +kernel
theorem dX12_readItem_50 : decode cX12_readItem 50 = .ok (.invokevirtual 92, 3) := by decide +kernel
theorem dX12_readItem_53 : decode cX12_readItem 53 = .ok (.goto 113, 3) := by decide +kernel
theorem dX12_readItem_56 : decode cX12_readItem 56 = .ok (.aload_n 0, 1) := by decide +kernel
theorem dX12_readItem_57 : decode cX12_readItem 57 = .ok (.invokevirtual 61, 3) := by decide +kernel
theorem dX12_readItem_60 : decode cX12_readItem 60 = .ok (.bipush 106, 2) := by decide +kernel
theorem dX12_readItem_62 : decode cX12_readItem 62 = .ok (.if_icmp .ne 96, 3) := by decide +kernel
theorem dX12_readItem_65 : decode cX12_readItem 65 = .ok (.aload_n 0, 1) := by decide +kernel
theorem dX12_readItem_66 : decode cX12_readItem 66 = .ok (.getfield 78, 3) := by decide +kernel
theorem dX12_readItem_69 : decode cX12_readItem 69 = .ok (.bipush 6, 2) := by decide +kernel
theorem dX12_readItem_71 : decode cX12_readItem 71 = .ok (.if_icmp .ge 87, 3) := by decide +kernel
theorem dX12_readItem_74 : decode cX12_readItem 74 = .ok (.aload_n 0, 1) := by decide +kernel
theorem dX12_readItem_75 : decode cX12_readItem 75 = .ok (.dup, 1) := by decide +kernel
theorem dX12_readItem_76 : decode cX12_readItem 76 = .ok (.getfield 58, 3) := by decide +kernel
theorem dX12_readItem_79 : decode cX12_readItem 79 = .ok (.iconst 1, 1) := by decide +kernel
theorem dX12_readItem_80 : decode cX12_readItem 80 = .ok (.iadd, 1) := by decide +kernel
theorem dX12_readItem_81 : decode cX12_readItem 81 = .ok (.putfield 58, 3) := by decide +kernel
theorem dX12_readItem_84 : decode cX12_readItem 84 = .ok (.aload_n 0, 1) := by decide +kernel
theorem dX12_readItem_85 : decode cX12_readItem 85 = .ok (.getfield 44, 3) := by decide +kernel
theorem dX12_readItem_88 : decode cX12_readItem 88 = .ok (.iload_n 1, 1) := by decide +kernel
theorem dX12_readItem_89 : decode cX12_readItem 89 = .ok (.aload_n 0, 1) := by decide +kernel
theorem dX12_readItem_90 : decode cX12_readItem 90 = .ok (.iconst 2, 1) := by decide +kernel
theorem dX12_readItem_91 : decode cX12_readItem 91 = .ok (.bipush 12, 2) := by decide +kernel
theorem dX12_readItem_93 : decode cX12_readItem 93 = .ok (.invokevirtual 85, 3) := by decide +kernel
theorem dX12_readItem_96 : decode cX12_readItem 96 = .ok (.iastore, 1) := by decide +kernel
theorem dX12_readItem_97 : decode cX12_readItem 97 = .ok (.aload_n 0, 1) := by decide +kernel
theorem dX12_readItem_98 : decode cX12_readItem 98 = .ok (.getfield 44, 3) := by decide +kernel
theorem dX12_readItem_101 : decode cX12_readItem 101 = .ok (.iload_n 1, 1) := by decide +kernel
theorem dX12_readItem_102 : decode cX12_readItem 102 = .ok (.iconst 1, 1) := by decide +kernel
theorem dX12_readItem_103 : decode cX12_readItem 103 = .ok (.iadd, 1) := by decide +kernel
theorem dX12_readItem_104 : decode cX12_readItem 104 = .ok (.aload_n 0, 1) := by decide +kernel
theorem dX12_readItem_105 : decode cX12_readItem 105 = .ok (.iconst 1, 1) := by decide +kernel
theorem dX12_readItem_106 : decode cX12_readItem 106 = .ok (.iconst 4, 1) := by decide +kernel
theorem dX12_readItem_107 : decode cX12_readItem 107 = .ok (.invokevirtual 85, 3) := by decide +kernel
theorem dX12_readItem_110 : decode cX12_readItem 110 = .ok (.iastore, 1) := by decide +kernel
theorem dX12_readItem_111 : decode cX12_readItem 111 = .ok (.aload_n 0, 1) := by decide +kernel
theorem dX12_readItem_112 : decode cX12_readItem 112 = .ok (.getfield 44, 3) := by decide +kernel
theorem dX12_readItem_115 : decode cX12_readItem 115 = .ok (.iload_n 1, 1) := by decide +kernel
theorem dX12_readItem_116 : decode cX12_readItem 116 = .ok (.iconst 2, 1) := by decide +kernel
theorem dX12_readItem_117 : decode cX12_readItem 117 = .ok (.iadd, 1) := by decide +kernel
theorem dX12_readItem_118 : decode cX12_readItem 118 = .ok (.aload_n 0, 1) := by decide +kernel
theorem dX12_readItem_119 : decode cX12_readItem 119 = .ok (.iconst 0, 1) := by decide +kernel
theorem dX12_readItem_120 : decode cX12_readItem 120 = .ok (.bipush 11, 2) := by decide +kernel
theorem dX12_readItem_122 : decode cX12_readItem 122 = .ok (.invokevirtual 85, 3) := by decide +kernel
theorem dX12_readItem_125 : decode cX12_readItem 125 = .ok (.iastore, 1) := by decide +kernel
theorem dX12_readItem_126 : decode cX12_readItem 126 = .ok (.aload_n 0, 1) := by decide +kernel
theorem dX12_readItem_127 : decode cX12_readItem 127 = .ok (.getfield 44, 3) := by decide +kernel
theorem dX12_readItem_130 : decode cX12_readItem 130 = .ok (.iload_n 1, 1) := by decide +kernel
theorem dX12_readItem_131 : decode cX12_readItem 131 = .ok (.iconst 3, 1) := by decide +kernel
theorem dX12_readItem_132 : decode cX12_readItem 132 = .ok (.iadd, 1) := by decide +kernel
theorem dX12_readItem_133 : decode cX12_readItem 133 = .ok (.aload_n 0, 1) := by decide +kernel
theorem dX12_readItem_134 : decode cX12_readItem 134 = .ok (.iconst 1, 1) := by decide +kernel
theorem dX12_readItem_135 : decode cX12_readItem 135 = .ok (.bipush 60, 2) := by decide +kernel
theorem dX12_readItem_137 : decode cX12_readItem 137 = .ok (.invokevirtual 85, 3) := by decide +kernel
theorem dX12_readItem_140 : decode cX12_readItem 140 = .ok (.iastore, 1) := by decide +kernel
theorem dX12_readItem_141 : decode cX12_readItem 141 = .ok (.aload_n 0, 1) := by decide +kernel
theorem dX12_readItem_142 : decode cX12_readItem 142 = .ok (.dup, 1) := by decide +kernel
theorem dX12_readItem_143 : decode cX12_readItem 143 = .ok (.getfield 78, 3) := by decide +kernel
theorem dX12_readItem_146 : decode cX12_readItem 146 = .ok (.iconst 1, 1) := by decide +kernel
theorem dX12_readItem_147 : decode cX12_readItem 147 = .ok (.iadd, 1) := by decide +kernel
theorem dX12_readItem_148 : decode cX12_readItem 148 = .ok (.putfield 78, 3) := by decide +kernel
theorem dX12_readItem_151 : decode cX12_readItem 151 = .ok (.aload_n 0, 1) := by decide +kernel
theorem dX12_readItem_152 : decode cX12_readItem 152 = .ok (.invokevirtual 92, 3) := by decide +kernel
theorem dX12_readItem_155 : decode cX12_readItem 155 = .ok (.goto 11, 3) := by decide +kernel
theorem dX12_readItem_158 : decode cX12_readItem 158 = .ok (.aload_n 0, 1) := by decide +kernel
theorem dX12_readItem_159 : decode cX12_readItem 159 = .ok (.aload_n 0, 1) := by decide +kernel
theorem dX12_readItem_160 : decode cX12_readItem 160 = .ok (.getfield 58, 3) := by decide +kernel
theorem dX12_readItem_163 : decode cX12_readItem 163 = .ok (.putfield 65, 3) := by decide +kernel
theorem dX12_readItem_166 : decode cX12_readItem 166 = .ok (.return_, 1) := by decide +kernel
theorem dX12_readYard_0 : decode cX12_readYard 0 = .ok (.aload_n 0, 1) := by decide +kernel
theorem dX12_readYard_1 : decode cX12_readYard 1 = .ok (.iconst 0, 1) := by decide +kernel
theorem dX12_readYard_2 : decode cX12_readYard 2 = .ok (.putfield 58, 3) := by decide +kernel
theorem dX12_readYard_5 : decode cX12_readYard 5 = .ok (.aload_n 0, 1) := by decide +kernel
theorem dX12_readYard_6 : decode cX12_readYard 6 = .ok (.iconst (-1), 1) := by decide +kernel
theorem dX12_readYard_7 : decode cX12_readYard 7 = .ok (.putfield 65, 3) := by decide +kernel
theorem dX12_readYard_10 : decode cX12_readYard 10 = .ok (.aload_n 0, 1) := by decide +kernel
theorem dX12_readYard_11 : decode cX12_readYard 11 = .ok (.iconst 0, 1) := by decide +kernel
theorem dX12_readYard_12 : decode cX12_readYard 12 = .ok (.putfield 75, 3) := by decide +kernel
theorem dX12_readYard_15 : decode cX12_readYard 15 = .ok (.aload_n 0, 1) := by decide +kernel
theorem dX12_readYard_16 : decode cX12_readYard 16 = .ok (.iconst 0, 1) := by decide +kernel
theorem dX12_readYard_17 : decode cX12_readYard 17 = .ok (.putfield 81, 3) := by decide +kernel
theorem dX12_readYard_20 : decode cX12_readYard 20 = .ok (.aload_n 0, 1) := by decide +kernel
theorem dX12_readYard_21 : decode cX12_readYard 21 = .ok (.iconst 4, 1) := by decide +kernel
theorem dX12_readYard_22 : decode cX12_readYard 22 = .ok (.putfield 89, 3) := by decide +kernel
theorem dX12_readYard_25 : decode cX12_readYard 25 = .ok (.aload_n 0, 1) := by decide +kernel
theorem dX12_readYard_26 : decode cX12_readYard 26 = .ok (.iconst 0, 1) := by decide +kernel
theorem dX12_readYard_27 : decode cX12_readYard 27 = .ok (.putfield 78, 3) := by decide +kernel
theorem dX12_readYard_30 : decode cX12_readYard 30 = .ok (.aload_n 0, 1) := by decide +kernel
theorem dX12_readYard_31 : decode cX12_readYard 31 = .ok (.invokevirtual 68, 3) := by decide +kernel
theorem dX12_readYard_34 : decode cX12_readYard 34 = .ok (.aload_n 0, 1) := by decide +kernel
theorem dX12_readYard_35 : decode cX12_readYard 35 = .ok (.getfield 65, 3) := by decide +kernel
theorem dX12_readYard_38 : decode cX12_readYard 38 = .ok (.ifCond .ge 32, 3) := by decide +kernel
theorem dX12_readYard_41 : decode cX12_readYard 41 = .ok (.aload_n 0, 1) := by decide +kernel
theorem dX12_readYard_42 : decode cX12_readYard 42 = .ok (.getfield 58, 3) := by decide +kernel
theorem dX12_readYard_45 : decode cX12_readYard 45 = .ok (.aload_n 0, 1) := by decide +kernel
theorem dX12_readYard_46 : decode cX12_readYard 46 = .ok (.getfield 55, 3) := by decide +kernel
theorem dX12_readYard_49 : decode cX12_readYard 49 = .ok (.if_icmp .ge 21, 3) := by decide +kernel
theorem dX12_readYard_52 : decode cX12_readYard 52 = .ok (.aload_n 0, 1) := by decide +kernel
theorem dX12_readYard_53 : decode cX12_readYard 53 = .ok (.invokevirtual 95, 3) := by decide +kernel
theorem dX12_readYard_56 : decode cX12_readYard 56 = .ok (.aload_n 0, 1) := by decide +kernel
theorem dX12_readYard_57 : decode cX12_readYard 57 = .ok (.getfield 65, 3) := by decide +kernel
theorem dX12_readYard_60 : decode cX12_readYard 60 = .ok (.ifCond .ge (-26), 3) := by decide +kernel
theorem dX12_readYard_63 : decode cX12_readYard 63 = .ok (.aload_n 0, 1) := by decide +kernel
theorem dX12_readYard_64 : decode cX12_readYard 64 = .ok (.invokevirtual 68, 3) := by decide +kernel
theorem dX12_readYard_67 : decode cX12_readYard 67 = .ok (.goto (-33), 3) := by decide +kernel
theorem dX12_readYard_70 : decode cX12_readYard 70 = .ok (.return_, 1) := by decide +kernel
theorem dX12_yard_0 : decode cX12_yard 0 = .ok (.aload_n 0, 1) := by decide +kernel
theorem dX12_yard_1 : decode cX12_yard 1 = .ok (.invokevirtual 98, 3) := by decide +kernel
theorem dX12_yard_4 : decode cX12_yard 4 = .ok (.aload_n 0, 1) := by decide +kernel
theorem dX12_yard_5 : decode cX12_yard 5 = .ok (.getfield 65, 3) := by decide +kernel
theorem dX12_yard_8 : decode cX12_yard 8 = .ok (.ifCond .lt 11, 3) := by decide +kernel
theorem dX12_yard_11 : decode cX12_yard 11 = .ok (.bipush (-10), 2) := by decide +kernel
theorem dX12_yard_13 : decode cX12_yard 13 = .ok (.aload_n 0, 1) := by decide +kernel
theorem dX12_yard_14 : decode cX12_yard 14 = .ok (.getfield 65, 3) := by decide +kernel
theorem dX12_yard_17 : decode cX12_yard 17 = .ok (.isub, 1) := by decide +kernel
theorem dX12_yard_18 : decode cX12_yard 18 = .ok (.ireturn, 1) := by decide +kernel
theorem dX12_yard_19 : decode cX12_yard 19 = .ok (.aload_n 0, 1) := by decide +kernel
theorem dX12_yard_20 : decode cX12_yard 20 = .ok (.iconst 0, 1) := by decide +kernel
theorem dX12_yard_21 : decode cX12_yard 21 = .ok (.putfield 55, 3) := by decide +kernel
theorem dX12_yard_24 : decode cX12_yard 24 = .ok (.aload_n 0, 1) := by decide +kernel
theorem dX12_yard_25 : decode cX12_yard 25 = .ok (.aload_n 0, 1) := by decide +kernel
theorem dX12_yard_26 : decode cX12_yard 26 = .ok (.getfield 78, 3) := by decide +kernel
theorem dX12_yard_29 : decode cX12_yard 29 = .ok (.putfield 47, 3) := by decide +kernel
theorem dX12_yard_32 : decode cX12_yard 32 = .ok (.iconst 0, 1) := by decide +kernel
theorem dX12_yard_33 : decode cX12_yard 33 = .ok (.istore_n 1, 1) := by decide +kernel
theorem dX12_yard_34 : decode cX12_yard 34 = .ok (.iload_n 1, 1) := by decide +kernel
theorem dX12_yard_35 : decode cX12_yard 35 = .ok (.bipush 22, 2) := by decide +kernel
theorem dX12_yard_37 : decode cX12_yard 37 = .ok (.if_icmp .ge 16, 3) := by decide +kernel
theorem dX12_yard_40 : decode cX12_yard 40 = .ok (.aload_n 0, 1) := by decide +kernel
theorem dX12_yard_41 : decode cX12_yard 41 = .ok (.getfield 19, 3) := by decide +kernel
theorem dX12_yard_44 : decode cX12_yard 44 = .ok (.iload_n 1, 1) := by decide +kernel
theorem dX12_yard_45 : decode cX12_yard 45 = .ok (.iconst 0, 1) := by decide +kernel
theorem dX12_yard_46 : decode cX12_yard 46 = .ok (.iastore, 1) := by decide +kernel
theorem dX12_yard_47 : decode cX12_yard 47 = .ok (.iinc 1 1, 3) := by decide +kernel
theorem dX12_yard_50 : decode cX12_yard 50 = .ok (.goto (-16), 3) := by decide +kernel
theorem dX12_yard_53 : decode cX12_yard 53 = .ok (.aload_n 0, 1) := by decide +kernel
theorem dX12_yard_54 : decode cX12_yard 54 = .ok (.getfield 19, 3) := by decide +kernel
theorem dX12_yard_57 : decode cX12_yard 57 = .ok (.iconst 1, 1) := by decide +kernel
theorem dX12_yard_58 : decode cX12_yard 58 = .ok (.aload_n 0, 1) := by decide +kernel
theorem dX12_yard_59 : decode cX12_yard 59 = .ok (.getfield 89, 3) := by decide +kernel
theorem dX12_yard_62 : decode cX12_yard 62 = .ok (.iastore, 1) := by decide +kernel
theorem dX12_yard_63 : decode cX12_yard 63 = .ok (.aload_n 0, 1) := by decide +kernel
theorem dX12_yard_64 : decode cX12_yard 64 = .ok (.getfield 19, 3) := by decide +kernel
theorem dX12_yard_67 : decode cX12_yard 67 = .ok (.iconst 2, 1) := by decide +kernel
theorem dX12_yard_68 : decode cX12_yard 68 = .ok (.aload_n 0, 1) := by decide +kernel
theorem dX12_yard_69 : decode cX12_yard 69 = .ok (.getfield 89, 3) := by decide +kernel
theorem dX12_yard_72 : decode cX12_yard 72 = .ok (.iastore, 1) := by decide +kernel
theorem dX12_yard_73 : decode cX12_yard 73 = .ok (.aload_n 0, 1) := by decide +kernel
theorem dX12_yard_74 : decode cX12_yard 74 = .ok (.getfield 19, 3) := by decide +kernel
theorem dX12_yard_77 : decode cX12_yard 77 = .ok (.iconst 3, 1) := by decide +kernel
theorem dX12_yard_78 : decode cX12_yard 78 = .ok (.iconst 1, 1) := by decide +kernel
theorem dX12_yard_79 : decode cX12_yard 79 = .ok (.aload_n 0, 1) := by decide +kernel
theorem dX12_yard_80 : decode cX12_yard 80 = .ok (.getfield 47, 3) := by decide +kernel
theorem dX12_yard_83 : decode cX12_yard 83 = .ok (.ishl, 1) := by decide +kernel
theorem dX12_yard_84 : decode cX12_yard 84 = .ok (.iconst 1, 1) := by decide +kernel
theorem dX12_yard_85 : decode cX12_yard 85 = .ok (.isub, 1) := by decide +kernel
theorem dX12_yard_86 : decode cX12_yard 86 = .ok (.iastore, 1) := by decide +kernel
theorem dX12_yard_87 : decode cX12_yard 87 = .ok (.iconst 0, 1) := by decide +kernel
theorem dX12_yard_88 : decode cX12_yard 88 = .ok (.istore_n 1, 1) := by decide +kernel
theorem dX12_yard_89 : decode cX12_yard 89 = .ok (.iload_n 1, 1) := by decide +kernel
theorem dX12_yard_90 : decode cX12_yard 90 = .ok (.aload_n 0, 1) := by decide +kernel
theorem dX12_yard_91 : decode cX12_yard 91 = .ok (.getfield 47, 3) := by decide +kernel
theorem dX12_yard_94 : decode cX12_yard 94 = .ok (.if_icmp .ge 77, 3) := by decide +kernel
theorem dX12_yard_97 : decode cX12_yard 97 = .ok (.aload_n 0, 1) := by decide +kernel
theorem dX12_yard_98 : decode cX12_yard 98 = .ok (.getfield 13, 3) := by decide +kernel
theorem dX12_yard_101 : decode cX12_yard 101 = .ok (.iload_n 1, 1) := by decide +kernel
theorem dX12_yard_102 : decode cX12_yard 102 = .ok (.aload_n 0, 1) := by decide +kernel
theorem dX12_yard_103 : decode cX12_yard 103 = .ok (.getfield 44, 3) := by decide +kernel
theorem dX12_yard_106 : decode cX12_yard 106 = .ok (.iconst 4, 1) := by decide +kernel
theorem dX12_yard_107 : decode cX12_yard 107 = .ok (.iload_n 1, 1) := by decide +kernel
theorem dX12_yard_108 : decode cX12_yard 108 = .ok (.imul, 1) := by decide +kernel
theorem dX12_yard_109 : decode cX12_yard 109 = .ok (.iaload, 1) := by decide +kernel
theorem dX12_yard_110 : decode cX12_yard 110 = .ok (.iastore, 1) := by decide +kernel
theorem dX12_yard_111 : decode cX12_yard 111 = .ok (.aload_n 0, 1) := by decide +kernel
theorem dX12_yard_112 : decode cX12_yard 112 = .ok (.getfield 16, 3) := by decide +kernel
theorem dX12_yard_115 : decode cX12_yard 115 = .ok (.iload_n 1, 1) := by decide +kernel
theorem dX12_yard_116 : decode cX12_yard 116 = .ok (.aload_n 0, 1) := by decide +kernel
theorem dX12_yard_117 : decode cX12_yard 117 = .ok (.getfield 44, 3) := by decide +kernel
theorem dX12_yard_120 : decode cX12_yard 120 = .ok (.iconst 4, 1) := by decide +kernel
theorem dX12_yard_121 : decode cX12_yard 121 = .ok (.iload_n 1, 1) := by decide +kernel
theorem dX12_yard_122 : decode cX12_yard 122 = .ok (.imul, 1) := by decide +kernel
theorem dX12_yard_123 : decode cX12_yard 123 = .ok (.iconst 1, 1) := by decide +kernel
theorem dX12_yard_124 : decode cX12_yard 124 = .ok (.iadd, 1) := by decide +kernel
theorem dX12_yard_125 : decode cX12_yard 125 = .ok (.iaload, 1) := by decide +kernel
theorem dX12_yard_126 : decode cX12_yard 126 = .ok (.iastore, 1) := by decide +kernel
theorem dX12_yard_127 : decode cX12_yard 127 = .ok (.aload_n 0, 1) := by decide +kernel
theorem dX12_yard_128 : decode cX12_yard 128 = .ok (.getfield 19, 3) := by decide +kernel
theorem dX12_yard_131 : decode cX12_yard 131 = .ok (.bipush 10, 2) := by decide +kernel
theorem dX12_yard_133 : decode cX12_yard 133 = .ok (.iload_n 1, 1) := by decide +kernel
theorem dX12_yard_134 : decode cX12_yard 134 = .ok (.iadd, 1) := by decide +kernel
theorem dX12_yard_135 : decode cX12_yard 135 = .ok (.aload_n 0, 1) := by decide +kernel
theorem dX12_yard_136 : decode cX12_yard 136 = .ok (.getfield 44, 3) := by decide +kernel
theorem dX12_yard_139 : decode cX12_yard 139 = .ok (.iconst 4, 1) := by decide +kernel
theorem dX12_yard_140 : decode cX12_yard 140 = .ok (.iload_n 1, 1) := by decide +kernel
theorem dX12_yard_141 : decode cX12_yard 141 = .ok (.imul, 1) := by decide +kernel
theorem dX12_yard_142 : decode cX12_yard 142 = .ok (.iconst 2, 1) := by decide +kernel
theorem dX12_yard_143 : decode cX12_yard 143 = .ok (.iadd, 1) := by decide +kernel
theorem dX12_yard_144 : decode cX12_yard 144 = .ok (.iaload, 1) := by decide +kernel
theorem dX12_yard_145 : decode cX12_yard 145 = .ok (.iastore, 1) := by decide +kernel
theorem dX12_yard_146 : decode cX12_yard 146 = .ok (.aload_n 0, 1) := by decide +kernel
theorem dX12_yard_147 : decode cX12_yard 147 = .ok (.getfield 19, 3) := by decide +kernel
theorem dX12_yard_150 : decode cX12_yard 150 = .ok (.bipush 16, 2) := by decide +kernel
theorem dX12_yard_152 : decode cX12_yard 152 = .ok (.iload_n 1, 1) := by decide +kernel
theorem dX12_yard_153 : decode cX12_yard 153 = .ok (.iadd, 1) := by decide +kernel
theorem dX12_yard_154 : decode cX12_yard 154 = .ok (.aload_n 0, 1) := by decide +kernel
theorem dX12_yard_155 : decode cX12_yard 155 = .ok (.getfield 44, 3) := by decide +kernel
theorem dX12_yard_158 : decode cX12_yard 158 = .ok (.iconst 4, 1) := by decide +kernel
theorem dX12_yard_159 : decode cX12_yard 159 = .ok (.iload_n 1, 1) := by decide +kernel
theorem dX12_yard_160 : decode cX12_yard 160 = .ok (.imul, 1) := by decide +kernel
theorem dX12_yard_161 : decode cX12_yard 161 = .ok (.iconst 3, 1) := by decide +kernel
theorem dX12_yard_162 : decode cX12_yard 162 = .ok (.iadd, 1) := by decide +kernel
theorem dX12_yard_163 : decode cX12_yard 163 = .ok (.iaload, 1) := by decide +kernel
theorem dX12_yard_164 : decode cX12_yard 164 = .ok (.iastore, 1) := by decide +kernel
theorem dX12_yard_165 : decode cX12_yard 165 = .ok (.iinc 1 1, 3) := by decide +kernel
theorem dX12_yard_168 : decode cX12_yard 168 = .ok (.goto (-79), 3) := by decide +kernel
theorem dX12_yard_171 : decode cX12_yard 171 = .ok (.aload_n 0, 1) := by decide +kernel
theorem dX12_yard_172 : decode cX12_yard 172 = .ok (.iconst 0, 1) := by decide +kernel
theorem dX12_yard_173 : decode cX12_yard 173 = .ok (.putfield 101, 3) := by decide +kernel
theorem dX12_yard_176 : decode cX12_yard 176 = .ok (.aload_n 0, 1) := by decide +kernel
theorem dX12_yard_177 : decode cX12_yard 177 = .ok (.iconst 0, 1) := by decide +kernel
theorem dX12_yard_178 : decode cX12_yard 178 = .ok (.putfield 104, 3) := by decide +kernel
theorem dX12_yard_181 : decode cX12_yard 181 = .ok (.aload_n 0, 1) := by decide +kernel
theorem dX12_yard_182 : decode cX12_yard 182 = .ok (.getfield 31, 3) := by decide +kernel
theorem dX12_yard_185 : decode cX12_yard 185 = .ok (.iconst 0, 1) := by decide +kernel
theorem dX12_yard_186 : decode cX12_yard 186 = .ok (.iconst 0, 1) := by decide +kernel
theorem dX12_yard_187 : decode cX12_yard 187 = .ok (.bastore, 1) := by decide +kernel
theorem dX12_yard_188 : decode cX12_yard 188 = .ok (.aload_n 0, 1) := by decide +kernel
theorem dX12_yard_189 : decode cX12_yard 189 = .ok (.getfield 31, 3) := by decide +kernel
theorem dX12_yard_192 : decode cX12_yard 192 = .ok (.iconst 1, 1) := by decide +kernel
theorem dX12_yard_193 : decode cX12_yard 193 = .ok (.iconst 0, 1) := by decide +kernel
theorem dX12_yard_194 : decode cX12_yard 194 = .ok (.bastore, 1) := by decide +kernel
theorem dX12_yard_195 : decode cX12_yard 195 = .ok (.aload_n 0, 1) := by decide +kernel
theorem dX12_yard_196 : decode cX12_yard 196 = .ok (.getfield 75, 3) := by decide +kernel
theorem dX12_yard_199 : decode cX12_yard 199 = .ok (.ireturn, 1) := by decide +kernel
theorem dX12_jumps_0 : decode cX12_jumps 0 = .ok (.aload_n 1, 1) := by decide +kernel
theorem dX12_jumps_1 : decode cX12_jumps 1 = .ok (.bipush 10, 2) := by decide +kernel
theorem dX12_jumps_3 : decode cX12_jumps 3 = .ok (.iload_n 2, 1) := by decide +kernel
theorem dX12_jumps_4 : decode cX12_jumps 4 = .ok (.iadd, 1) := by decide +kernel
theorem dX12_jumps_5 : decode cX12_jumps 5 = .ok (.iaload, 1) := by decide +kernel
theorem dX12_jumps_6 : decode cX12_jumps 6 = .ok (.ifCond .ne 49, 3) := by decide +kernel
theorem dX12_jumps_9 : decode cX12_jumps 9 = .ok (.aload_n 1, 1) := by decide +kernel
theorem dX12_jumps_10 : decode cX12_jumps 10 = .ok (.bipush 16, 2) := by decide +kernel
theorem dX12_jumps_12 : decode cX12_jumps 12 = .ok (.iload_n 2, 1) := by decide +kernel
theorem dX12_jumps_13 : decode cX12_jumps 13 = .ok (.iadd, 1) := by decide +kernel
theorem dX12_jumps_14 : decode cX12_jumps 14 = .ok (.iaload, 1) := by decide +kernel
theorem dX12_jumps_15 : decode cX12_jumps 15 = .ok (.ifCond .le 28, 3) := by decide +kernel
theorem dX12_jumps_18 : decode cX12_jumps 18 = .ok (.iload_n 3, 1) := by decide +kernel
theorem dX12_jumps_19 : decode cX12_jumps 19 = .ok (.ifCond .ne 24, 3) := by decide +kernel
theorem dX12_jumps_22 : decode cX12_jumps 22 = .ok (.aload_n 1, 1) := by decide +kernel
theorem dX12_jumps_23 : decode cX12_jumps 23 = .ok (.bipush 16, 2) := by decide +kernel
theorem dX12_jumps_25 : decode cX12_jumps 25 = .ok (.iload_n 2, 1) := by decide +kernel
theorem dX12_jumps_26 : decode cX12_jumps 26 = .ok (.iadd, 1) := by decide +kernel
theorem dX12_jumps_27 : decode cX12_jumps 27 = .ok (.dup2, 1) := by decide +kernel
theorem dX12_jumps_28 : decode cX12_jumps 28 = .ok (.iaload, 1) := by decide +kernel
theorem dX12_jumps_29 : decode cX12_jumps 29 = .ok (.iconst 1, 1) := by decide +kernel
theorem dX12_jumps_30 : decode cX12_jumps 30 = .ok (.isub, 1) := by decide +kernel
theorem dX12_jumps_31 : decode cX12_jumps 31 = .ok (.iastore, 1) := by decide +kernel
theorem dX12_jumps_32 : decode cX12_jumps 32 = .ok (.aload_n 1, 1) := by decide +kernel
theorem dX12_jumps_33 : decode cX12_jumps 33 = .ok (.iconst 4, 1) := by decide +kernel
theorem dX12_jumps_34 : decode cX12_jumps 34 = .ok (.iload_n 2, 1) := by decide +kernel
theorem dX12_jumps_35 : decode cX12_jumps 35 = .ok (.iadd, 1) := by decide +kernel
theorem dX12_jumps_36 : decode cX12_jumps 36 = .ok (.aload_n 0, 1) := by decide +kernel
theorem dX12_jumps_37 : decode cX12_jumps 37 = .ok (.getfield 16, 3) := by decide +kernel
theorem dX12_jumps_40 : decode cX12_jumps 40 = .ok (.iload_n 2, 1) := by decide +kernel
theorem dX12_jumps_41 : decode cX12_jumps 41 = .ok (.iaload, 1) := by decide +kernel
theorem dX12_jumps_42 : decode cX12_jumps 42 = .ok (.iastore, 1) := by decide +kernel
theorem dX12_jumps_43 : decode cX12_jumps 43 = .ok (.aload_n 1, 1) := by decide +kernel
theorem dX12_jumps_44 : decode cX12_jumps 44 = .ok (.bipush 10, 2) := by decide +kernel
theorem dX12_jumps_46 : decode cX12_jumps 46 = .ok (.iload_n 2, 1) := by decide +kernel
theorem dX12_jumps_47 : decode cX12_jumps 47 = .ok (.iadd, 1) := by decide +kernel
theorem dX12_jumps_48 : decode cX12_jumps 48 = .ok (.aload_n 0, 1) := by decide +kernel
theorem dX12_jumps_49 : decode cX12_jumps 49 = .ok (.getfield 13, 3) := by decide +kernel
theorem dX12_jumps_52 : decode cX12_jumps 52 = .ok (.iload_n 2, 1) := by decide +kernel
theorem dX12_jumps_53 : decode cX12_jumps 53 = .ok (.iaload, 1) := by decide +kernel
theorem dX12_jumps_54 : decode cX12_jumps 54 = .ok (.iastore, 1) := by decide +kernel
theorem dX12_jumps_55 : decode cX12_jumps 55 = .ok (.return_, 1) := by decide +kernel
theorem dX12_outs_0 : decode cX12_outs 0 = .ok (.aload_n 1, 1) := by decide +kernel
theorem dX12_outs_1 : decode cX12_outs 1 = .ok (.iconst 3, 1) := by decide +kernel
theorem dX12_outs_2 : decode cX12_outs 2 = .ok (.dup2, 1) := by decide +kernel
theorem dX12_outs_3 : decode cX12_outs 3 = .ok (.iaload, 1) := by decide +kernel
theorem dX12_outs_4 : decode cX12_outs 4 = .ok (.iconst 1, 1) := by decide +kernel
theorem dX12_outs_5 : decode cX12_outs 5 = .ok (.iload_n 2, 1) := by decide +kernel
theorem dX12_outs_6 : decode cX12_outs 6 = .ok (.ishl, 1) := by decide +kernel
theorem dX12_outs_7 : decode cX12_outs 7 = .ok (.iconst (-1), 1) := by decide +kernel
theorem dX12_outs_8 : decode cX12_outs 8 = .ok (.ixor, 1) := by decide +kernel
theorem dX12_outs_9 : decode cX12_outs 9 = .ok (.iand, 1) := by decide +kernel
theorem dX12_outs_10 : decode cX12_outs 10 = .ok (.iastore, 1) := by decide +kernel
theorem dX12_outs_11 : decode cX12_outs 11 = .ok (.aload_n 1, 1) := by decide +kernel
theorem dX12_outs_12 : decode cX12_outs 12 = .ok (.iconst 4, 1) := by decide +kernel
theorem dX12_outs_13 : decode cX12_outs 13 = .ok (.iload_n 2, 1) := by decide +kernel
theorem dX12_outs_14 : decode cX12_outs 14 = .ok (.iadd, 1) := by decide +kernel
theorem dX12_outs_15 : decode cX12_outs 15 = .ok (.iconst 0, 1) := by decide +kernel
theorem dX12_outs_16 : decode cX12_outs 16 = .ok (.iastore, 1) := by decide +kernel
theorem dX12_outs_17 : decode cX12_outs 17 = .ok (.aload_n 1, 1) := by decide +kernel
theorem dX12_outs_18 : decode cX12_outs 18 = .ok (.bipush 10, 2) := by decide +kernel
theorem dX12_outs_20 : decode cX12_outs 20 = .ok (.iload_n 2, 1) := by decide +kernel
theorem dX12_outs_21 : decode cX12_outs 21 = .ok (.iadd, 1) := by decide +kernel
theorem dX12_outs_22 : decode cX12_outs 22 = .ok (.iconst 0, 1) := by decide +kernel
theorem dX12_outs_23 : decode cX12_outs 23 = .ok (.iastore, 1) := by decide +kernel
theorem dX12_outs_24 : decode cX12_outs 24 = .ok (.return_, 1) := by decide +kernel
theorem dX12_tickOn_0 : decode cX12_tickOn 0 = .ok (.iconst 0, 1) := by decide +kernel
theorem dX12_tickOn_1 : decode cX12_tickOn 1 = .ok (.istore_n 3, 1) := by decide +kernel
theorem dX12_tickOn_2 : decode cX12_tickOn 2 = .ok (.iconst 0, 1) := by decide +kernel
theorem dX12_tickOn_3 : decode cX12_tickOn 3 = .ok (.istore 4, 2) := by decide +kernel
theorem dX12_tickOn_5 : decode cX12_tickOn 5 = .ok (.iload 4, 2) := by decide +kernel
theorem dX12_tickOn_7 : decode cX12_tickOn 7 = .ok (.aload_n 0, 1) := by decide +kernel
theorem dX12_tickOn_8 : decode cX12_tickOn 8 = .ok (.getfield 47, 3) := by decide +kernel
theorem dX12_tickOn_11 : decode cX12_tickOn 11 = .ok (.if_icmp .ge 33, 3) := by decide +kernel
theorem dX12_tickOn_14 : decode cX12_tickOn 14 = .ok (.aload_n 1, 1) := by decide +kernel
theorem dX12_tickOn_15 : decode cX12_tickOn 15 = .ok (.iconst 3, 1) := by decide +kernel
theorem dX12_tickOn_16 : decode cX12_tickOn 16 = .ok (.iaload, 1) := by decide +kernel
theorem dX12_tickOn_17 : decode cX12_tickOn 17 = .ok (.iload 4, 2) := by decide +kernel
theorem dX12_tickOn_19 : decode cX12_tickOn 19 = .ok (.invokestatic 107, 3) := by decide +kernel
theorem dX12_tickOn_22 : decode cX12_tickOn 22 = .ok (.ifCond .eq 16, 3) := by decide +kernel
theorem dX12_tickOn_25 : decode cX12_tickOn 25 = .ok (.aload_n 0, 1) := by decide +kernel
theorem dX12_tickOn_26 : decode cX12_tickOn 26 = .ok (.aload_n 1, 1) := by decide +kernel
theorem dX12_tickOn_27 : decode cX12_tickOn 27 = .ok (.iload 4, 2) := by decide +kernel
theorem dX12_tickOn_29 : decode cX12_tickOn 29 = .ok (.iload_n 2, 1) := by decide +kernel
theorem dX12_tickOn_30 : decode cX12_tickOn 30 = .ok (.iload 4, 2) := by decide +kernel
theorem dX12_tickOn_32 : decode cX12_tickOn 32 = .ok (.invokestatic 107, 3) := by decide +kernel
theorem dX12_tickOn_35 : decode cX12_tickOn 35 = .ok (.invokevirtual 111, 3) := by decide +kernel
theorem dX12_tickOn_38 : decode cX12_tickOn 38 = .ok (.iinc 4 1, 3) := by decide +kernel
theorem dX12_tickOn_41 : decode cX12_tickOn 41 = .ok (.goto (-36), 3) := by decide +kernel
theorem dX12_tickOn_44 : decode cX12_tickOn 44 = .ok (.aload_n 1, 1) := by decide +kernel
theorem dX12_tickOn_45 : decode cX12_tickOn 45 = .ok (.iconst 2, 1) := by decide +kernel
theorem dX12_tickOn_46 : decode cX12_tickOn 46 = .ok (.dup2, 1) := by decide +kernel
theorem dX12_tickOn_47 : decode cX12_tickOn 47 = .ok (.iaload, 1) := by decide +kernel
theorem dX12_tickOn_48 : decode cX12_tickOn 48 = .ok (.iconst 1, 1) := by decide +kernel
theorem dX12_tickOn_49 : decode cX12_tickOn 49 = .ok (.isub, 1) := by decide +kernel
theorem dX12_tickOn_50 : decode cX12_tickOn 50 = .ok (.iastore, 1) := by decide +kernel
theorem dX12_tickOn_51 : decode cX12_tickOn 51 = .ok (.aload_n 1, 1) := by decide +kernel
theorem dX12_tickOn_52 : decode cX12_tickOn 52 = .ok (.iconst 2, 1) := by decide +kernel
theorem dX12_tickOn_53 : decode cX12_tickOn 53 = .ok (.iaload, 1) := by decide +kernel
theorem dX12_tickOn_54 : decode cX12_tickOn 54 = .ok (.ifCond .ne 68, 3) := by decide +kernel
theorem dX12_tickOn_57 : decode cX12_tickOn 57 = .ok (.iconst 0, 1) := by decide +kernel
theorem dX12_tickOn_58 : decode cX12_tickOn 58 = .ok (.istore 4, 2) := by decide +kernel
theorem dX12_tickOn_60 : decode cX12_tickOn 60 = .ok (.iload 4, 2) := by decide +kernel
theorem dX12_tickOn_62 : decode cX12_tickOn 62 = .ok (.aload_n 0, 1) := by decide +kernel
theorem dX12_tickOn_63 : decode cX12_tickOn 63 = .ok (.getfield 47, 3) := by decide +kernel
theorem dX12_tickOn_66 : decode cX12_tickOn 66 = .ok (.if_icmp .ge 40, 3) := by decide +kernel
theorem dX12_tickOn_69 : decode cX12_tickOn 69 = .ok (.iload_n 3, 1) := by decide +kernel
theorem dX12_tickOn_70 : decode cX12_tickOn 70 = .ok (.aload_n 1, 1) := by decide +kernel
theorem dX12_tickOn_71 : decode cX12_tickOn 71 = .ok (.iconst 3, 1) := by decide +kernel
theorem dX12_tickOn_72 : decode cX12_tickOn 72 = .ok (.iaload, 1) := by decide +kernel
theorem dX12_tickOn_73 : decode cX12_tickOn 73 = .ok (.iload 4, 2) := by decide +kernel
theorem dX12_tickOn_75 : decode cX12_tickOn 75 = .ok (.invokestatic 107, 3) := by decide +kernel
theorem dX12_tickOn_78 : decode cX12_tickOn 78 = .ok (.ifCond .eq 19, 3) := by decide +kernel
theorem dX12_tickOn_81 : decode cX12_tickOn 81 = .ok (.aload_n 1, 1) := by decide +kernel
theorem dX12_tickOn_82 : decode cX12_tickOn 82 = .ok (.iconst 4, 1) := by decide +kernel
theorem dX12_tickOn_83 : decode cX12_tickOn 83 = .ok (.iload 4, 2) := by decide +kernel
theorem dX12_tickOn_85 : decode cX12_tickOn 85 = .ok (.iadd, 1) := by decide +kernel
theorem dX12_tickOn_86 : decode cX12_tickOn 86 = .ok (.iaload, 1) := by decide +kernel
theorem dX12_tickOn_87 : decode cX12_tickOn 87 = .ok (.ifCond .ne 10, 3) := by decide +kernel
theorem dX12_tickOn_90 : decode cX12_tickOn 90 = .ok (.iconst 1, 1) := by decide +kernel
theorem dX12_tickOn_91 : decode cX12_tickOn 91 = .ok (.iload 4, 2) := by decide +kernel
theorem dX12_tickOn_93 : decode cX12_tickOn 93 = .ok (.ishl, 1) := by decide +kernel
theorem dX12_tickOn_94 : decode cX12_tickOn 94 = .ok (.goto 4, 3) := by decide +kernel
theorem dX12_tickOn_97 : decode cX12_tickOn 97 = .ok (.iconst 0, 1) := by decide +kernel
theorem dX12_tickOn_98 : decode cX12_tickOn 98 = .ok (.ior, 1) := by decide +kernel
theorem dX12_tickOn_99 : decode cX12_tickOn 99 = .ok (.istore_n 3, 1) := by decide +kernel
theorem dX12_tickOn_100 : decode cX12_tickOn 100 = .ok (.iinc 4 1, 3) := by decide +kernel
theorem dX12_tickOn_103 : decode cX12_tickOn 103 = .ok (.goto (-43), 3) := by decide +kernel
theorem dX12_tickOn_106 : decode cX12_tickOn 106 = .ok (.aload_n 1, 1) := by decide +kernel
theorem dX12_tickOn_107 : decode cX12_tickOn 107 = .ok (.iconst 2, 1) := by decide +kernel
theorem dX12_tickOn_108 : decode cX12_tickOn 108 = .ok (.aload_n 1, 1) := by decide +kernel
theorem dX12_tickOn_109 : decode cX12_tickOn 109 = .ok (.iconst 1, 1) := by decide +kernel
theorem dX12_tickOn_110 : decode cX12_tickOn 110 = .ok (.iaload, 1) := by decide +kernel
theorem dX12_tickOn_111 : decode cX12_tickOn 111 = .ok (.iload_n 3, 1) := by decide +kernel
theorem dX12_tickOn_112 : decode cX12_tickOn 112 = .ok (.ifCond .ne 7, 3) := by decide +kernel
theorem dX12_tickOn_115 : decode cX12_tickOn 115 = .ok (.iconst 0, 1) := by decide +kernel
theorem dX12_tickOn_116 : decode cX12_tickOn 116 = .ok (.goto 4, 3) := by decide +kernel
theorem dX12_tickOn_119 : decode cX12_tickOn 119 = .ok (.iconst 1, 1) := by decide +kernel
theorem dX12_tickOn_120 : decode cX12_tickOn 120 = .ok (.iadd, 1) := by decide +kernel
theorem dX12_tickOn_121 : decode cX12_tickOn 121 = .ok (.iastore, 1) := by decide +kernel
theorem dX12_tickOn_122 : decode cX12_tickOn 122 = .ok (.iconst 0, 1) := by decide +kernel
theorem dX12_tickOn_123 : decode cX12_tickOn 123 = .ok (.istore 4, 2) := by decide +kernel
theorem dX12_tickOn_125 : decode cX12_tickOn 125 = .ok (.iload 4, 2) := by decide +kernel
theorem dX12_tickOn_127 : decode cX12_tickOn 127 = .ok (.aload_n 0, 1) := by decide +kernel
theorem dX12_tickOn_128 : decode cX12_tickOn 128 = .ok (.getfield 47, 3) := by decide +kernel
theorem dX12_tickOn_131 : decode cX12_tickOn 131 = .ok (.if_icmp .ge 73, 3) := by decide +kernel
theorem dX12_tickOn_134 : decode cX12_tickOn 134 = .ok (.iload_n 3, 1) := by decide +kernel
theorem dX12_tickOn_135 : decode cX12_tickOn 135 = .ok (.iload 4, 2) := by decide +kernel
theorem dX12_tickOn_137 : decode cX12_tickOn 137 = .ok (.invokestatic 107, 3) := by decide +kernel
theorem dX12_tickOn_140 : decode cX12_tickOn 140 = .ok (.ifCond .eq 13, 3) := by decide +kernel
theorem dX12_tickOn_143 : decode cX12_tickOn 143 = .ok (.aload_n 0, 1) := by decide +kernel
theorem dX12_tickOn_144 : decode cX12_tickOn 144 = .ok (.aload_n 1, 1) := by decide +kernel
theorem dX12_tickOn_145 : decode cX12_tickOn 145 = .ok (.iload 4, 2) := by decide +kernel
theorem dX12_tickOn_147 : decode cX12_tickOn 147 = .ok (.invokevirtual 115, 3) := by decide +kernel
theorem dX12_tickOn_150 : decode cX12_tickOn 150 = .ok (.goto 48, 3) := by decide +kernel
theorem dX12_tickOn_153 : decode cX12_tickOn 153 = .ok (.aload_n 1, 1) := by decide +kernel
theorem dX12_tickOn_154 : decode cX12_tickOn 154 = .ok (.iconst 3, 1) := by decide +kernel
theorem dX12_tickOn_155 : decode cX12_tickOn 155 = .ok (.iaload, 1) := by decide +kernel
theorem dX12_tickOn_156 : decode cX12_tickOn 156 = .ok (.iload 4, 2) := by decide +kernel
theorem dX12_tickOn_158 : decode cX12_tickOn 158 = .ok (.invokestatic 107, 3) := by decide +kernel
theorem dX12_tickOn_161 : decode cX12_tickOn 161 = .ok (.ifCond .eq 37, 3) := by decide +kernel
theorem dX12_tickOn_164 : decode cX12_tickOn 164 = .ok (.aload_n 1, 1) := by decide +kernel
theorem dX12_tickOn_165 : decode cX12_tickOn 165 = .ok (.bipush 10, 2) := by decide +kernel
theorem dX12_tickOn_167 : decode cX12_tickOn 167 = .ok (.iload 4, 2) := by decide +kernel
theorem dX12_tickOn_169 : decode cX12_tickOn 169 = .ok (.iadd, 1) := by decide +kernel
theorem dX12_tickOn_170 : decode cX12_tickOn 170 = .ok (.dup2, 1) := by decide +kernel
theorem dX12_tickOn_171 : decode cX12_tickOn 171 = .ok (.iaload, 1) := by decide +kernel
theorem dX12_tickOn_172 : decode cX12_tickOn 172 = .ok (.iconst 1, 1) := by decide +kernel
theorem dX12_tickOn_173 : decode cX12_tickOn 173 = .ok (.isub, 1) := by decide +kernel
theorem dX12_tickOn_174 : decode cX12_tickOn 174 = .ok (.iastore, 1) := by decide +kernel
theorem dX12_tickOn_175 : decode cX12_tickOn 175 = .ok (.aload_n 1, 1) := by decide +kernel
theorem dX12_tickOn_176 : decode cX12_tickOn 176 = .ok (.iconst 4, 1) := by decide +kernel
theorem dX12_tickOn_177 : decode cX12_tickOn 177 = .ok (.iload 4, 2) := by decide +kernel
theorem dX12_tickOn_179 : decode cX12_tickOn 179 = .ok (.iadd, 1) := by decide +kernel
theorem dX12_tickOn_180 : decode cX12_tickOn 180 = .ok (.dup2, 1) := by decide +kernel
theorem dX12_tickOn_181 : decode cX12_tickOn 181 = .ok (.iaload, 1) := by decide +kernel
theorem dX12_tickOn_182 : decode cX12_tickOn 182 = .ok (.aload_n 1, 1) := by decide +kernel
theorem dX12_tickOn_183 : decode cX12_tickOn 183 = .ok (.iconst 4, 1) := by decide +kernel
theorem dX12_tickOn_184 : decode cX12_tickOn 184 = .ok (.iload 4, 2) := by decide +kernel
theorem dX12_tickOn_186 : decode cX12_tickOn 186 = .ok (.iadd, 1) := by decide +kernel
theorem dX12_tickOn_187 : decode cX12_tickOn 187 = .ok (.iaload, 1) := by decide +kernel
theorem dX12_tickOn_188 : decode cX12_tickOn 188 = .ok (.ifCond .le 7, 3) := by decide +kernel
theorem dX12_tickOn_191 : decode cX12_tickOn 191 = .ok (.iconst 1, 1) := by decide +kernel
theorem dX12_tickOn_192 : decode cX12_tickOn 192 = .ok (.goto 4, 3) := by decide +kernel
theorem dX12_tickOn_195 : decode cX12_tickOn 195 = .ok (.iconst 0, 1) := by decide +kernel
theorem dX12_tickOn_196 : decode cX12_tickOn 196 = .ok (.isub, 1) := by decide +kernel
theorem dX12_tickOn_197 : decode cX12_tickOn 197 = .ok (.iastore, 1) := by decide +kernel
theorem dX12_tickOn_198 : decode cX12_tickOn 198 = .ok (.iinc 4 1, 3) := by decide +kernel
theorem dX12_tickOn_201 : decode cX12_tickOn 201 = .ok (.goto (-76), 3) := by decide +kernel
theorem dX12_tickOn_204 : decode cX12_tickOn 204 = .ok (.aload_n 1, 1) := by decide +kernel
theorem dX12_tickOn_205 : decode cX12_tickOn 205 = .ok (.iconst 0, 1) := by decide +kernel
theorem dX12_tickOn_206 : decode cX12_tickOn 206 = .ok (.dup2, 1) := by decide +kernel
theorem dX12_tickOn_207 : decode cX12_tickOn 207 = .ok (.iaload, 1) := by decide +kernel
theorem dX12_tickOn_208 : decode cX12_tickOn 208 = .ok (.iconst 1, 1) := by decide +kernel
theorem dX12_tickOn_209 : decode cX12_tickOn 209 = .ok (.iadd, 1) := by decide +kernel
theorem dX12_tickOn_210 : decode cX12_tickOn 210 = .ok (.iastore, 1) := by decide +kernel
theorem dX12_tickOn_211 : decode cX12_tickOn 211 = .ok (.iload_n 3, 1) := by decide +kernel
theorem dX12_tickOn_212 : decode cX12_tickOn 212 = .ok (.ireturn, 1) := by decide +kernel
theorem dX12_asItIs_0 : decode cX12_asItIs 0 = .ok (.aload_n 0, 1) := by decide +kernel
theorem dX12_asItIs_1 : decode cX12_asItIs 1 = .ok (.getfield 19, 3) := by decide +kernel
theorem dX12_asItIs_4 : decode cX12_asItIs 4 = .ok (.iconst 0, 1) := by decide +kernel
theorem dX12_asItIs_5 : decode cX12_asItIs 5 = .ok (.aload_n 0, 1) := by decide +kernel
theorem dX12_asItIs_6 : decode cX12_asItIs 6 = .ok (.getfield 22, 3) := by decide +kernel
theorem dX12_asItIs_9 : decode cX12_asItIs 9 = .ok (.iconst 0, 1) := by decide +kernel
theorem dX12_asItIs_10 : decode cX12_asItIs 10 = .ok (.bipush 22, 2) := by decide +kernel
theorem dX12_asItIs_12 : decode cX12_asItIs 12 = .ok (.invokestatic 119, 3) := by decide +kernel
theorem dX12_asItIs_15 : decode cX12_asItIs 15 = .ok (.return_, 1) := by decide +kernel
theorem dX12_tripOf_0 : decode cX12_tripOf 0 = .ok (.iconst 1, 1) := by decide +kernel
theorem dX12_tripOf_1 : decode cX12_tripOf 1 = .ok (.istore_n 2, 1) := by decide +kernel
theorem dX12_tripOf_2 : decode cX12_tripOf 2 = .ok (.iload_n 2, 1) := by decide +kernel
theorem dX12_tripOf_3 : decode cX12_tripOf 3 = .ok (.bipush 120, 2) := by decide +kernel
theorem dX12_tripOf_5 : decode cX12_tripOf 5 = .ok (.if_icmp .gt 34, 3) := by decide +kernel
theorem dX12_tripOf_8 : decode cX12_tripOf 8 = .ok (.aload_n 0, 1) := by decide +kernel
theorem dX12_tripOf_9 : decode cX12_tripOf 9 = .ok (.aload_n 0, 1) := by decide +kernel
theorem dX12_tripOf_10 : decode cX12_tripOf 10 = .ok (.getfield 22, 3) := by decide +kernel
theorem dX12_tripOf_13 : decode cX12_tripOf 13 = .ok (.iconst 0, 1) := by decide +kernel
theorem dX12_tripOf_14 : decode cX12_tripOf 14 = .ok (.invokevirtual 123, 3) := by decide +kernel
theorem dX12_tripOf_17 : decode cX12_tripOf 17 = .ok (.pop, 1) := by decide +kernel
theorem dX12_tripOf_18 : decode cX12_tripOf 18 = .ok (.aload_n 0, 1) := by decide +kernel
theorem dX12_tripOf_19 : decode cX12_tripOf 19 = .ok (.getfield 22, 3) := by decide +kernel
theorem dX12_tripOf_22 : decode cX12_tripOf 22 = .ok (.iconst 3, 1) := by decide +kernel
theorem dX12_tripOf_23 : decode cX12_tripOf 23 = .ok (.iaload, 1) := by decide +kernel
theorem dX12_tripOf_24 : decode cX12_tripOf 24 = .ok (.iload_n 1, 1) := by decide +kernel
theorem dX12_tripOf_25 : decode cX12_tripOf 25 = .ok (.invokestatic 107, 3) := by decide +kernel
theorem dX12_tripOf_28 : decode cX12_tripOf 28 = .ok (.ifCond .ne 5, 3) := by decide +kernel
theorem dX12_tripOf_31 : decode cX12_tripOf 31 = .ok (.iload_n 2, 1) := by decide +kernel
theorem dX12_tripOf_32 : decode cX12_tripOf 32 = .ok (.ireturn, 1) := by decide +kernel
theorem dX12_tripOf_33 : decode cX12_tripOf 33 = .ok (.iinc 2 1, 3) := by decide +kernel
theorem dX12_tripOf_36 : decode cX12_tripOf 36 = .ok (.goto (-34), 3) := by decide +kernel
theorem dX12_tripOf_39 : decode cX12_tripOf 39 = .ok (.bipush (-9), 2) := by decide +kernel
theorem dX12_tripOf_41 : decode cX12_tripOf 41 = .ok (.ireturn, 1) := by decide +kernel
theorem dX12_jumper_0 : decode cX12_jumper 0 = .ok (.aload_n 0, 1) := by decide +kernel
theorem dX12_jumper_1 : decode cX12_jumper 1 = .ok (.iload_n 1, 1) := by decide +kernel
theorem dX12_jumper_2 : decode cX12_jumper 2 = .ok (.invokevirtual 127, 3) := by decide +kernel
theorem dX12_jumper_5 : decode cX12_jumper 5 = .ok (.ifCond .ne 5, 3) := by decide +kernel
theorem dX12_jumper_8 : decode cX12_jumper 8 = .ok (.iconst (-1), 1) := by decide +kernel
theorem dX12_jumper_9 : decode cX12_jumper 9 = .ok (.ireturn, 1) := by decide +kernel
theorem dX12_jumper_10 : decode cX12_jumper 10 = .ok (.aload_n 0, 1) := by decide +kernel
theorem dX12_jumper_11 : decode cX12_jumper 11 = .ok (.getfield 19, 3) := by decide +kernel
theorem dX12_jumper_14 : decode cX12_jumper 14 = .ok (.iconst 3, 1) := by decide +kernel
theorem dX12_jumper_15 : decode cX12_jumper 15 = .ok (.iaload, 1) := by decide +kernel
theorem dX12_jumper_16 : decode cX12_jumper 16 = .ok (.iload_n 1, 1) := by decide +kernel
theorem dX12_jumper_17 : decode cX12_jumper 17 = .ok (.invokestatic 107, 3) := by decide +kernel
theorem dX12_jumper_20 : decode cX12_jumper 20 = .ok (.istore_n 3, 1) := by decide +kernel
theorem dX12_jumper_21 : decode cX12_jumper 21 = .ok (.iload_n 2, 1) := by decide +kernel
theorem dX12_jumper_22 : decode cX12_jumper 22 = .ok (.tableswitch 123 0 6 #[42, 49, 56, 66, 76, 85, 104], 42) := by decide +kernel
theorem dX12_jumper_64 : decode cX12_jumper 64 = .ok (.aload_n 0, 1) := by decide +kernel
theorem dX12_jumper_65 : decode cX12_jumper 65 = .ok (.getfield 13, 3) := by decide +kernel
theorem dX12_jumper_68 : decode cX12_jumper 68 = .ok (.iload_n 1, 1) := by decide +kernel
theorem dX12_jumper_69 : decode cX12_jumper 69 = .ok (.iaload, 1) := by decide +kernel
theorem dX12_jumper_70 : decode cX12_jumper 70 = .ok (.ireturn, 1) := by decide +kernel
theorem dX12_jumper_71 : decode cX12_jumper 71 = .ok (.aload_n 0, 1) := by decide +kernel
theorem dX12_jumper_72 : decode cX12_jumper 72 = .ok (.getfield 16, 3) := by decide +kernel
theorem dX12_jumper_75 : decode cX12_jumper 75 = .ok (.iload_n 1, 1) := by decide +kernel
theorem dX12_jumper_76 : decode cX12_jumper 76 = .ok (.iaload, 1) := by decide +kernel
theorem dX12_jumper_77 : decode cX12_jumper 77 = .ok (.ireturn, 1) := by decide +kernel
theorem dX12_jumper_78 : decode cX12_jumper 78 = .ok (.aload_n 0, 1) := by decide +kernel
theorem dX12_jumper_79 : decode cX12_jumper 79 = .ok (.getfield 19, 3) := by decide +kernel
theorem dX12_jumper_82 : decode cX12_jumper 82 = .ok (.bipush 16, 2) := by decide +kernel
theorem dX12_jumper_84 : decode cX12_jumper 84 = .ok (.iload_n 1, 1) := by decide +kernel
theorem dX12_jumper_85 : decode cX12_jumper 85 = .ok (.iadd, 1) := by decide +kernel
theorem dX12_jumper_86 : decode cX12_jumper 86 = .ok (.iaload, 1) := by decide +kernel
theorem dX12_jumper_87 : decode cX12_jumper 87 = .ok (.ireturn, 1) := by decide +kernel
theorem dX12_jumper_88 : decode cX12_jumper 88 = .ok (.iload_n 3, 1) := by decide +kernel
theorem dX12_jumper_89 : decode cX12_jumper 89 = .ok (.ifCond .eq 7, 3) := by decide +kernel
theorem dX12_jumper_92 : decode cX12_jumper 92 = .ok (.iconst 1, 1) := by decide +kernel
theorem dX12_jumper_93 : decode cX12_jumper 93 = .ok (.goto 4, 3) := by decide +kernel
theorem dX12_jumper_96 : decode cX12_jumper 96 = .ok (.iconst 0, 1) := by decide +kernel
theorem dX12_jumper_97 : decode cX12_jumper 97 = .ok (.ireturn, 1) := by decide +kernel
theorem dX12_jumper_98 : decode cX12_jumper 98 = .ok (.aload_n 0, 1) := by decide +kernel
theorem dX12_jumper_99 : decode cX12_jumper 99 = .ok (.getfield 19, 3) := by decide +kernel
theorem dX12_jumper_102 : decode cX12_jumper 102 = .ok (.iconst 4, 1) := by decide +kernel
theorem dX12_jumper_103 : decode cX12_jumper 103 = .ok (.iload_n 1, 1) := by decide +kernel
theorem dX12_jumper_104 : decode cX12_jumper 104 = .ok (.iadd, 1) := by decide +kernel
theorem dX12_jumper_105 : decode cX12_jumper 105 = .ok (.iaload, 1) := by decide +kernel
theorem dX12_jumper_106 : decode cX12_jumper 106 = .ok (.ireturn, 1) := by decide +kernel
theorem dX12_jumper_107 : decode cX12_jumper 107 = .ok (.iload_n 3, 1) := by decide +kernel
theorem dX12_jumper_108 : decode cX12_jumper 108 = .ok (.ifCond .eq 15, 3) := by decide +kernel
theorem dX12_jumper_111 : decode cX12_jumper 111 = .ok (.aload_n 0, 1) := by decide +kernel
theorem dX12_jumper_112 : decode cX12_jumper 112 = .ok (.getfield 19, 3) := by decide +kernel
theorem dX12_jumper_115 : decode cX12_jumper 115 = .ok (.bipush 10, 2) := by decide +kernel
theorem dX12_jumper_117 : decode cX12_jumper 117 = .ok (.iload_n 1, 1) := by decide +kernel
theorem dX12_jumper_118 : decode cX12_jumper 118 = .ok (.iadd, 1) := by decide +kernel
theorem dX12_jumper_119 : decode cX12_jumper 119 = .ok (.iaload, 1) := by decide +kernel
theorem dX12_jumper_120 : decode cX12_jumper 120 = .ok (.goto 5, 3) := by decide +kernel
theorem dX12_jumper_123 : decode cX12_jumper 123 = .ok (.bipush (-9), 2) := by decide +kernel
theorem dX12_jumper_125 : decode cX12_jumper 125 = .ok (.ireturn, 1) := by decide +kernel
theorem dX12_jumper_126 : decode cX12_jumper 126 = .ok (.aload_n 0, 1) := by decide +kernel
theorem dX12_jumper_127 : decode cX12_jumper 127 = .ok (.invokevirtual 130, 3) := by decide +kernel
theorem dX12_jumper_130 : decode cX12_jumper 130 = .ok (.iload_n 3, 1) := by decide +kernel
theorem dX12_jumper_131 : decode cX12_jumper 131 = .ok (.ifCond .eq 11, 3) := by decide +kernel
theorem dX12_jumper_134 : decode cX12_jumper 134 = .ok (.aload_n 0, 1) := by decide +kernel
theorem dX12_jumper_135 : decode cX12_jumper 135 = .ok (.iload_n 1, 1) := by decide +kernel
theorem dX12_jumper_136 : decode cX12_jumper 136 = .ok (.invokevirtual 133, 3) := by decide +kernel
theorem dX12_jumper_139 : decode cX12_jumper 139 = .ok (.goto 5, 3) := by decide +kernel
theorem dX12_jumper_142 : decode cX12_jumper 142 = .ok (.bipush (-9), 2) := by decide +kernel
theorem dX12_jumper_144 : decode cX12_jumper 144 = .ok (.ireturn, 1) := by decide +kernel
theorem dX12_jumper_145 : decode cX12_jumper 145 = .ok (.iconst (-1), 1) := by decide +kernel
theorem dX12_jumper_146 : decode cX12_jumper 146 = .ok (.ireturn, 1) := by decide +kernel
theorem dX12_firstOf_0 : decode cX12_firstOf 0 = .ok (.aload_n 0, 1) := by decide +kernel
theorem dX12_firstOf_1 : decode cX12_firstOf 1 = .ok (.invokevirtual 130, 3) := by decide +kernel
theorem dX12_firstOf_4 : decode cX12_firstOf 4 = .ok (.iconst 1, 1) := by decide +kernel
theorem dX12_firstOf_5 : decode cX12_firstOf 5 = .ok (.istore_n 2, 1) := by decide +kernel
theorem dX12_firstOf_6 : decode cX12_firstOf 6 = .ok (.iload_n 2, 1) := by decide +kernel
theorem dX12_firstOf_7 : decode cX12_firstOf 7 = .ok (.bipush 120, 2) := by decide +kernel
theorem dX12_firstOf_9 : decode cX12_firstOf 9 = .ok (.if_icmp .gt 34, 3) := by decide +kernel
theorem dX12_firstOf_12 : decode cX12_firstOf 12 = .ok (.aload_n 0, 1) := by decide +kernel
theorem dX12_firstOf_13 : decode cX12_firstOf 13 = .ok (.aload_n 0, 1) := by decide +kernel
theorem dX12_firstOf_14 : decode cX12_firstOf 14 = .ok (.getfield 22, 3) := by decide +kernel
theorem dX12_firstOf_17 : decode cX12_firstOf 17 = .ok (.iconst 0, 1) := by decide +kernel
theorem dX12_firstOf_18 : decode cX12_firstOf 18 = .ok (.invokevirtual 123, 3) := by decide +kernel
theorem dX12_firstOf_21 : decode cX12_firstOf 21 = .ok (.istore_n 3, 1) := by decide +kernel
theorem dX12_firstOf_22 : decode cX12_firstOf 22 = .ok (.iload_n 3, 1) := by decide +kernel
theorem dX12_firstOf_23 : decode cX12_firstOf 23 = .ok (.ifCond .eq 14, 3) := by decide +kernel
theorem dX12_firstOf_26 : decode cX12_firstOf 26 = .ok (.iload_n 1, 1) := by decide +kernel
theorem dX12_firstOf_27 : decode cX12_firstOf 27 = .ok (.iconst 4, 1) := by decide +kernel
theorem dX12_firstOf_28 : decode cX12_firstOf 28 = .ok (.if_icmp .ne 7, 3) := by decide +kernel
theorem dX12_firstOf_31 : decode cX12_firstOf 31 = .ok (.iload_n 2, 1) := by decide +kernel
theorem dX12_firstOf_32 : decode cX12_firstOf 32 = .ok (.goto 4, 3) := by decide +kernel
theorem dX12_firstOf_35 : decode cX12_firstOf 35 = .ok (.iload_n 3, 1) := by decide +kernel
theorem dX12_firstOf_36 : decode cX12_firstOf 36 = .ok (.ireturn, 1) := by decide +kernel
theorem dX12_firstOf_37 : decode cX12_firstOf 37 = .ok (.iinc 2 1, 3) := by decide +kernel
theorem dX12_firstOf_40 : decode cX12_firstOf 40 = .ok (.goto (-34), 3) := by decide +kernel
theorem dX12_firstOf_43 : decode cX12_firstOf 43 = .ok (.iload_n 1, 1) := by decide +kernel
theorem dX12_firstOf_44 : decode cX12_firstOf 44 = .ok (.iconst 4, 1) := by decide +kernel
theorem dX12_firstOf_45 : decode cX12_firstOf 45 = .ok (.if_icmp .ne 8, 3) := by decide +kernel
theorem dX12_firstOf_48 : decode cX12_firstOf 48 = .ok (.bipush (-9), 2) := by decide +kernel
theorem dX12_firstOf_50 : decode cX12_firstOf 50 = .ok (.goto 4, 3) := by decide +kernel
theorem dX12_firstOf_53 : decode cX12_firstOf 53 = .ok (.iconst 0, 1) := by decide +kernel
theorem dX12_firstOf_54 : decode cX12_firstOf 54 = .ok (.ireturn, 1) := by decide +kernel
theorem dX12_now_0 : decode cX12_now 0 = .ok (.iload_n 1, 1) := by decide +kernel
theorem dX12_now_1 : decode cX12_now 1 = .ok (.tableswitch 82 0 6 #[43, 50, 57, 64, 71, 71, 77], 43) := by decide +kernel
theorem dX12_now_44 : decode cX12_now 44 = .ok (.aload_n 0, 1) := by decide +kernel
theorem dX12_now_45 : decode cX12_now 45 = .ok (.getfield 19, 3) := by decide +kernel
theorem dX12_now_48 : decode cX12_now 48 = .ok (.iconst 0, 1) := by decide +kernel
theorem dX12_now_49 : decode cX12_now 49 = .ok (.iaload, 1) := by decide +kernel
theorem dX12_now_50 : decode cX12_now 50 = .ok (.ireturn, 1) := by decide +kernel
theorem dX12_now_51 : decode cX12_now 51 = .ok (.aload_n 0, 1) := by decide +kernel
theorem dX12_now_52 : decode cX12_now 52 = .ok (.getfield 19, 3) := by decide +kernel
theorem dX12_now_55 : decode cX12_now 55 = .ok (.iconst 1, 1) := by decide +kernel
theorem dX12_now_56 : decode cX12_now 56 = .ok (.iaload, 1) := by decide +kernel
theorem dX12_now_57 : decode cX12_now 57 = .ok (.ireturn, 1) := by decide +kernel
theorem dX12_now_58 : decode cX12_now 58 = .ok (.aload_n 0, 1) := by decide +kernel
theorem dX12_now_59 : decode cX12_now 59 = .ok (.getfield 19, 3) := by decide +kernel
theorem dX12_now_62 : decode cX12_now 62 = .ok (.iconst 2, 1) := by decide +kernel
theorem dX12_now_63 : decode cX12_now 63 = .ok (.iaload, 1) := by decide +kernel
theorem dX12_now_64 : decode cX12_now 64 = .ok (.ireturn, 1) := by decide +kernel
theorem dX12_now_65 : decode cX12_now 65 = .ok (.aload_n 0, 1) := by decide +kernel
theorem dX12_now_66 : decode cX12_now 66 = .ok (.getfield 19, 3) := by decide +kernel
theorem dX12_now_69 : decode cX12_now 69 = .ok (.iconst 3, 1) := by decide +kernel
theorem dX12_now_70 : decode cX12_now 70 = .ok (.iaload, 1) := by decide +kernel
theorem dX12_now_71 : decode cX12_now 71 = .ok (.ireturn, 1) := by decide +kernel
theorem dX12_now_72 : decode cX12_now 72 = .ok (.aload_n 0, 1) := by decide +kernel
theorem dX12_now_73 : decode cX12_now 73 = .ok (.iload_n 1, 1) := by decide +kernel
theorem dX12_now_74 : decode cX12_now 74 = .ok (.invokevirtual 137, 3) := by decide +kernel
theorem dX12_now_77 : decode cX12_now 77 = .ok (.ireturn, 1) := by decide +kernel
theorem dX12_now_78 : decode cX12_now 78 = .ok (.aload_n 0, 1) := by decide +kernel
theorem dX12_now_79 : decode cX12_now 79 = .ok (.getfield 101, 3) := by decide +kernel
theorem dX12_now_82 : decode cX12_now 82 = .ok (.ireturn, 1) := by decide +kernel
theorem dX12_now_83 : decode cX12_now 83 = .ok (.iconst (-1), 1) := by decide +kernel
theorem dX12_now_84 : decode cX12_now 84 = .ok (.ireturn, 1) := by decide +kernel
theorem dX12_notes_0 : decode cX12_notes 0 = .ok (.aload_n 0, 1) := by decide +kernel
theorem dX12_notes_1 : decode cX12_notes 1 = .ok (.getfield 101, 3) := by decide +kernel
theorem dX12_notes_4 : decode cX12_notes 4 = .ok (.bipush 10, 2) := by decide +kernel
theorem dX12_notes_6 : decode cX12_notes 6 = .ok (.if_icmp .ne 30, 3) := by decide +kernel
theorem dX12_notes_9 : decode cX12_notes 9 = .ok (.aload_n 0, 1) := by decide +kernel
theorem dX12_notes_10 : decode cX12_notes 10 = .ok (.getfield 25, 3) := by decide +kernel
theorem dX12_notes_13 : decode cX12_notes 13 = .ok (.bipush 22, 2) := by decide +kernel
theorem dX12_notes_15 : decode cX12_notes 15 = .ok (.aload_n 0, 1) := by decide +kernel
theorem dX12_notes_16 : decode cX12_notes 16 = .ok (.getfield 25, 3) := by decide +kernel
theorem dX12_notes_19 : decode cX12_notes 19 = .ok (.iconst 0, 1) := by decide +kernel
theorem dX12_notes_20 : decode cX12_notes 20 = .ok (.sipush 198, 3) := by decide +kernel
theorem dX12_notes_23 : decode cX12_notes 23 = .ok (.invokestatic 119, 3) := by decide +kernel
theorem dX12_notes_26 : decode cX12_notes 26 = .ok (.aload_n 0, 1) := by decide +kernel
theorem dX12_notes_27 : decode cX12_notes 27 = .ok (.dup, 1) := by decide +kernel
theorem dX12_notes_28 : decode cX12_notes 28 = .ok (.getfield 101, 3) := by decide +kernel
theorem dX12_notes_31 : decode cX12_notes 31 = .ok (.iconst 1, 1) := by decide +kernel
theorem dX12_notes_32 : decode cX12_notes 32 = .ok (.isub, 1) := by decide +kernel
theorem dX12_notes_33 : decode cX12_notes 33 = .ok (.putfield 101, 3) := by decide +kernel
theorem dX12_notes_36 : decode cX12_notes 36 = .ok (.aload_n 0, 1) := by decide +kernel
theorem dX12_notes_37 : decode cX12_notes 37 = .ok (.getfield 19, 3) := by decide +kernel
theorem dX12_notes_40 : decode cX12_notes 40 = .ok (.iconst 0, 1) := by decide +kernel
theorem dX12_notes_41 : decode cX12_notes 41 = .ok (.aload_n 0, 1) := by decide +kernel
theorem dX12_notes_42 : decode cX12_notes 42 = .ok (.getfield 25, 3) := by decide +kernel
theorem dX12_notes_45 : decode cX12_notes 45 = .ok (.bipush 22, 2) := by decide +kernel
theorem dX12_notes_47 : decode cX12_notes 47 = .ok (.aload_n 0, 1) := by decide +kernel
theorem dX12_notes_48 : decode cX12_notes 48 = .ok (.getfield 101, 3) := by decide +kernel
theorem dX12_notes_51 : decode cX12_notes 51 = .ok (.imul, 1) := by decide +kernel
theorem dX12_notes_52 : decode cX12_notes 52 = .ok (.bipush 22, 2) := by decide +kernel
theorem dX12_notes_54 : decode cX12_notes 54 = .ok (.invokestatic 119, 3) := by decide +kernel
theorem dX12_notes_57 : decode cX12_notes 57 = .ok (.aload_n 0, 1) := by decide +kernel
theorem dX12_notes_58 : decode cX12_notes 58 = .ok (.dup, 1) := by decide +kernel
theorem dX12_notes_59 : decode cX12_notes 59 = .ok (.getfield 101, 3) := by decide +kernel
theorem dX12_notes_62 : decode cX12_notes 62 = .ok (.iconst 1, 1) := by decide +kernel
theorem dX12_notes_63 : decode cX12_notes 63 = .ok (.iadd, 1) := by decide +kernel
theorem dX12_notes_64 : decode cX12_notes 64 = .ok (.putfield 101, 3) := by decide +kernel
theorem dX12_notes_67 : decode cX12_notes 67 = .ok (.return_, 1) := by decide +kernel
theorem dX12_ticks_0 : decode cX12_ticks 0 = .ok (.aload_n 0, 1) := by decide +kernel
theorem dX12_ticks_1 : decode cX12_ticks 1 = .ok (.getfield 19, 3) := by decide +kernel
theorem dX12_ticks_4 : decode cX12_ticks 4 = .ok (.iconst 0, 1) := by decide +kernel
theorem dX12_ticks_5 : decode cX12_ticks 5 = .ok (.iaload, 1) := by decide +kernel
theorem dX12_ticks_6 : decode cX12_ticks 6 = .ok (.sipush 999, 3) := by decide +kernel
theorem dX12_ticks_9 : decode cX12_ticks 9 = .ok (.if_icmp .ne 6, 3) := by decide +kernel
theorem dX12_ticks_12 : decode cX12_ticks 12 = .ok (.bipush (-2), 2) := by decide +kernel
theorem dX12_ticks_14 : decode cX12_ticks 14 = .ok (.ireturn, 1) := by decide +kernel
theorem dX12_ticks_15 : decode cX12_ticks 15 = .ok (.aload_n 0, 1) := by decide +kernel
theorem dX12_ticks_16 : decode cX12_ticks 16 = .ok (.invokevirtual 140, 3) := by decide +kernel
theorem dX12_ticks_19 : decode cX12_ticks 19 = .ok (.aload_n 0, 1) := by decide +kernel
theorem dX12_ticks_20 : decode cX12_ticks 20 = .ok (.aload_n 0, 1) := by decide +kernel
theorem dX12_ticks_21 : decode cX12_ticks 21 = .ok (.getfield 19, 3) := by decide +kernel
theorem dX12_ticks_24 : decode cX12_ticks 24 = .ok (.iconst 0, 1) := by decide +kernel
theorem dX12_ticks_25 : decode cX12_ticks 25 = .ok (.invokevirtual 123, 3) := by decide +kernel
theorem dX12_ticks_28 : decode cX12_ticks 28 = .ok (.ireturn, 1) := by decide +kernel
theorem dX12_turns_0 : decode cX12_turns 0 = .ok (.aload_n 0, 1) := by decide +kernel
theorem dX12_turns_1 : decode cX12_turns 1 = .ok (.iconst 1, 1) := by decide +kernel
theorem dX12_turns_2 : decode cX12_turns 2 = .ok (.iload_n 1, 1) := by decide +kernel
theorem dX12_turns_3 : decode cX12_turns 3 = .ok (.iastore, 1) := by decide +kernel
theorem dX12_turns_4 : decode cX12_turns 4 = .ok (.aload_n 0, 1) := by decide +kernel
theorem dX12_turns_5 : decode cX12_turns 5 = .ok (.iconst 2, 1) := by decide +kernel
theorem dX12_turns_6 : decode cX12_turns 6 = .ok (.aload_n 0, 1) := by decide +kernel
theorem dX12_turns_7 : decode cX12_turns 7 = .ok (.iconst 2, 1) := by decide +kernel
theorem dX12_turns_8 : decode cX12_turns 8 = .ok (.iaload, 1) := by decide +kernel
theorem dX12_turns_9 : decode cX12_turns 9 = .ok (.iload_n 1, 1) := by decide +kernel
theorem dX12_turns_10 : decode cX12_turns 10 = .ok (.if_icmp .le 7, 3) := by decide +kernel
theorem dX12_turns_13 : decode cX12_turns 13 = .ok (.iload_n 1, 1) := by decide +kernel
theorem dX12_turns_14 : decode cX12_turns 14 = .ok (.goto 6, 3) := by decide +kernel
theorem dX12_turns_17 : decode cX12_turns 17 = .ok (.aload_n 0, 1) := by decide +kernel
theorem dX12_turns_18 : decode cX12_turns 18 = .ok (.iconst 2, 1) := by decide +kernel
theorem dX12_turns_19 : decode cX12_turns 19 = .ok (.iaload, 1) := by decide +kernel
theorem dX12_turns_20 : decode cX12_turns 20 = .ok (.iastore, 1) := by decide +kernel
theorem dX12_turns_21 : decode cX12_turns 21 = .ok (.return_, 1) := by decide +kernel
theorem dX12_speeds_0 : decode cX12_speeds 0 = .ok (.iload_n 1, 1) := by decide +kernel
theorem dX12_speeds_1 : decode cX12_speeds 1 = .ok (.iconst 2, 1) := by decide +kernel
theorem dX12_speeds_2 : decode cX12_speeds 2 = .ok (.bipush 9, 2) := by decide +kernel
theorem dX12_speeds_4 : decode cX12_speeds 4 = .ok (.invokestatic 51, 3) := by decide +kernel
theorem dX12_speeds_7 : decode cX12_speeds 7 = .ok (.ifCond .ne 5, 3) := by decide +kernel
theorem dX12_speeds_10 : decode cX12_speeds 10 = .ok (.iconst (-1), 1) := by decide +kernel
theorem dX12_speeds_11 : decode cX12_speeds 11 = .ok (.ireturn, 1) := by decide +kernel
theorem dX12_speeds_12 : decode cX12_speeds 12 = .ok (.aload_n 0, 1) := by decide +kernel
theorem dX12_speeds_13 : decode cX12_speeds 13 = .ok (.getfield 19, 3) := by decide +kernel
theorem dX12_speeds_16 : decode cX12_speeds 16 = .ok (.iconst 1, 1) := by decide +kernel
theorem dX12_speeds_17 : decode cX12_speeds 17 = .ok (.iaload, 1) := by decide +kernel
theorem dX12_speeds_18 : decode cX12_speeds 18 = .ok (.iload_n 1, 1) := by decide +kernel
theorem dX12_speeds_19 : decode cX12_speeds 19 = .ok (.if_icmp .ne 6, 3) := by decide +kernel
theorem dX12_speeds_22 : decode cX12_speeds 22 = .ok (.bipush (-2), 2) := by decide +kernel
theorem dX12_speeds_24 : decode cX12_speeds 24 = .ok (.ireturn, 1) := by decide +kernel
theorem dX12_speeds_25 : decode cX12_speeds 25 = .ok (.aload_n 0, 1) := by decide +kernel
theorem dX12_speeds_26 : decode cX12_speeds 26 = .ok (.getfield 19, 3) := by decide +kernel
theorem dX12_speeds_29 : decode cX12_speeds 29 = .ok (.iconst 1, 1) := by decide +kernel
theorem dX12_speeds_30 : decode cX12_speeds 30 = .ok (.iaload, 1) := by decide +kernel
theorem dX12_speeds_31 : decode cX12_speeds 31 = .ok (.istore_n 2, 1) := by decide +kernel
theorem dX12_speeds_32 : decode cX12_speeds 32 = .ok (.aload_n 0, 1) := by decide +kernel
theorem dX12_speeds_33 : decode cX12_speeds 33 = .ok (.invokevirtual 140, 3) := by decide +kernel
theorem dX12_speeds_36 : decode cX12_speeds 36 = .ok (.aload_n 0, 1) := by decide +kernel
theorem dX12_speeds_37 : decode cX12_speeds 37 = .ok (.getfield 19, 3) := by decide +kernel
theorem dX12_speeds_40 : decode cX12_speeds 40 = .ok (.iload_n 1, 1) := by decide +kernel
theorem dX12_speeds_41 : decode cX12_speeds 41 = .ok (.invokestatic 143, 3) := by decide +kernel
theorem dX12_speeds_44 : decode cX12_speeds 44 = .ok (.iload_n 2, 1) := by decide +kernel
theorem dX12_speeds_45 : decode cX12_speeds 45 = .ok (.ireturn, 1) := by decide +kernel
theorem dX12_goes_0 : decode cX12_goes 0 = .ok (.aload_n 0, 1) := by decide +kernel
theorem dX12_goes_1 : decode cX12_goes 1 = .ok (.iload_n 1, 1) := by decide +kernel
theorem dX12_goes_2 : decode cX12_goes 2 = .ok (.invokevirtual 127, 3) := by decide +kernel
theorem dX12_goes_5 : decode cX12_goes 5 = .ok (.ifCond .ne 5, 3) := by decide +kernel
theorem dX12_goes_8 : decode cX12_goes 8 = .ok (.iconst (-1), 1) := by decide +kernel
theorem dX12_goes_9 : decode cX12_goes 9 = .ok (.ireturn, 1) := by decide +kernel
theorem dX12_goes_10 : decode cX12_goes 10 = .ok (.aload_n 0, 1) := by decide +kernel
theorem dX12_goes_11 : decode cX12_goes 11 = .ok (.getfield 19, 3) := by decide +kernel
theorem dX12_goes_14 : decode cX12_goes 14 = .ok (.iconst 3, 1) := by decide +kernel
theorem dX12_goes_15 : decode cX12_goes 15 = .ok (.iaload, 1) := by decide +kernel
theorem dX12_goes_16 : decode cX12_goes 16 = .ok (.iload_n 1, 1) := by decide +kernel
theorem dX12_goes_17 : decode cX12_goes 17 = .ok (.invokestatic 107, 3) := by decide +kernel
theorem dX12_goes_20 : decode cX12_goes 20 = .ok (.ifCond .ne 6, 3) := by decide +kernel
theorem dX12_goes_23 : decode cX12_goes 23 = .ok (.bipush (-2), 2) := by decide +kernel
theorem dX12_goes_25 : decode cX12_goes 25 = .ok (.ireturn, 1) := by decide +kernel
theorem dX12_goes_26 : decode cX12_goes 26 = .ok (.aload_n 0, 1) := by decide +kernel
theorem dX12_goes_27 : decode cX12_goes 27 = .ok (.invokevirtual 140, 3) := by decide +kernel
theorem dX12_goes_30 : decode cX12_goes 30 = .ok (.aload_n 0, 1) := by decide +kernel
theorem dX12_goes_31 : decode cX12_goes 31 = .ok (.aload_n 0, 1) := by decide +kernel
theorem dX12_goes_32 : decode cX12_goes 32 = .ok (.getfield 19, 3) := by decide +kernel
theorem dX12_goes_35 : decode cX12_goes 35 = .ok (.iload_n 1, 1) := by decide +kernel
theorem dX12_goes_36 : decode cX12_goes 36 = .ok (.invokevirtual 115, 3) := by decide +kernel
theorem dX12_goes_39 : decode cX12_goes 39 = .ok (.aload_n 0, 1) := by decide +kernel
theorem dX12_goes_40 : decode cX12_goes 40 = .ok (.getfield 19, 3) := by decide +kernel
theorem dX12_goes_43 : decode cX12_goes 43 = .ok (.iconst 3, 1) := by decide +kernel
theorem dX12_goes_44 : decode cX12_goes 44 = .ok (.iaload, 1) := by decide +kernel
theorem dX12_goes_45 : decode cX12_goes 45 = .ok (.invokestatic 146, 3) := by decide +kernel
theorem dX12_goes_48 : decode cX12_goes 48 = .ok (.ireturn, 1) := by decide +kernel
theorem dX12_enters_0 : decode cX12_enters 0 = .ok (.aload_n 0, 1) := by decide +kernel
theorem dX12_enters_1 : decode cX12_enters 1 = .ok (.iconst 3, 1) := by decide +kernel
theorem dX12_enters_2 : decode cX12_enters 2 = .ok (.dup2, 1) := by decide +kernel
theorem dX12_enters_3 : decode cX12_enters 3 = .ok (.iaload, 1) := by decide +kernel
theorem dX12_enters_4 : decode cX12_enters 4 = .ok (.iconst 1, 1) := by decide +kernel
theorem dX12_enters_5 : decode cX12_enters 5 = .ok (.iload_n 1, 1) := by decide +kernel
theorem dX12_enters_6 : decode cX12_enters 6 = .ok (.ishl, 1) := by decide +kernel
theorem dX12_enters_7 : decode cX12_enters 7 = .ok (.ior, 1) := by decide +kernel
theorem dX12_enters_8 : decode cX12_enters 8 = .ok (.iastore, 1) := by decide +kernel
theorem dX12_enters_9 : decode cX12_enters 9 = .ok (.aload_n 0, 1) := by decide +kernel
theorem dX12_enters_10 : decode cX12_enters 10 = .ok (.iconst 4, 1) := by decide +kernel
theorem dX12_enters_11 : decode cX12_enters 11 = .ok (.iload_n 1, 1) := by decide +kernel
theorem dX12_enters_12 : decode cX12_enters 12 = .ok (.iadd, 1) := by decide +kernel
theorem dX12_enters_13 : decode cX12_enters 13 = .ok (.iconst 0, 1) := by decide +kernel
theorem dX12_enters_14 : decode cX12_enters 14 = .ok (.iastore, 1) := by decide +kernel
theorem dX12_enters_15 : decode cX12_enters 15 = .ok (.aload_n 0, 1) := by decide +kernel
theorem dX12_enters_16 : decode cX12_enters 16 = .ok (.bipush 10, 2) := by decide +kernel
theorem dX12_enters_18 : decode cX12_enters 18 = .ok (.iload_n 1, 1) := by decide +kernel
theorem dX12_enters_19 : decode cX12_enters 19 = .ok (.iadd, 1) := by decide +kernel
theorem dX12_enters_20 : decode cX12_enters 20 = .ok (.iload_n 2, 1) := by decide +kernel
theorem dX12_enters_21 : decode cX12_enters 21 = .ok (.iastore, 1) := by decide +kernel
theorem dX12_enters_22 : decode cX12_enters 22 = .ok (.return_, 1) := by decide +kernel
theorem dX12_comes_0 : decode cX12_comes 0 = .ok (.aload_n 0, 1) := by decide +kernel
theorem dX12_comes_1 : decode cX12_comes 1 = .ok (.iload_n 1, 1) := by decide +kernel
theorem dX12_comes_2 : decode cX12_comes 2 = .ok (.invokevirtual 127, 3) := by decide +kernel
theorem dX12_comes_5 : decode cX12_comes 5 = .ok (.ifCond .eq 13, 3) := by decide +kernel
theorem dX12_comes_8 : decode cX12_comes 8 = .ok (.iload_n 2, 1) := by decide +kernel
theorem dX12_comes_9 : decode cX12_comes 9 = .ok (.iconst 0, 1) := by decide +kernel
theorem dX12_comes_10 : decode cX12_comes 10 = .ok (.bipush 11, 2) := by decide +kernel
theorem dX12_comes_12 : decode cX12_comes 12 = .ok (.invokestatic 51, 3) := by decide +kernel
theorem dX12_comes_15 : decode cX12_comes 15 = .ok (.ifCond .ne 5, 3) := by decide +kernel
theorem dX12_comes_18 : decode cX12_comes 18 = .ok (.iconst (-1), 1) := by decide +kernel
theorem dX12_comes_19 : decode cX12_comes 19 = .ok (.ireturn, 1) := by decide +kernel
theorem dX12_comes_20 : decode cX12_comes 20 = .ok (.aload_n 0, 1) := by decide +kernel
theorem dX12_comes_21 : decode cX12_comes 21 = .ok (.getfield 19, 3) := by decide +kernel
theorem dX12_comes_24 : decode cX12_comes 24 = .ok (.iconst 3, 1) := by decide +kernel
theorem dX12_comes_25 : decode cX12_comes 25 = .ok (.iaload, 1) := by decide +kernel
theorem dX12_comes_26 : decode cX12_comes 26 = .ok (.iload_n 1, 1) := by decide +kernel
theorem dX12_comes_27 : decode cX12_comes 27 = .ok (.invokestatic 107, 3) := by decide +kernel
theorem dX12_comes_30 : decode cX12_comes 30 = .ok (.ifCond .eq 6, 3) := by decide +kernel
theorem dX12_comes_33 : decode cX12_comes 33 = .ok (.bipush (-2), 2) := by decide +kernel
theorem dX12_comes_35 : decode cX12_comes 35 = .ok (.ireturn, 1) := by decide +kernel
theorem dX12_comes_36 : decode cX12_comes 36 = .ok (.aload_n 0, 1) := by decide +kernel
theorem dX12_comes_37 : decode cX12_comes 37 = .ok (.invokevirtual 140, 3) := by decide +kernel
theorem dX12_comes_40 : decode cX12_comes 40 = .ok (.aload_n 0, 1) := by decide +kernel
theorem dX12_comes_41 : decode cX12_comes 41 = .ok (.getfield 19, 3) := by decide +kernel
theorem dX12_comes_44 : decode cX12_comes 44 = .ok (.iload_n 1, 1) := by decide +kernel
theorem dX12_comes_45 : decode cX12_comes 45 = .ok (.iload_n 2, 1) := by decide +kernel
theorem dX12_comes_46 : decode cX12_comes 46 = .ok (.invokestatic 149, 3) := by decide +kernel
theorem dX12_comes_49 : decode cX12_comes 49 = .ok (.aload_n 0, 1) := by decide +kernel
theorem dX12_comes_50 : decode cX12_comes 50 = .ok (.getfield 19, 3) := by decide +kernel
theorem dX12_comes_53 : decode cX12_comes 53 = .ok (.iconst 3, 1) := by decide +kernel
theorem dX12_comes_54 : decode cX12_comes 54 = .ok (.iaload, 1) := by decide +kernel
theorem dX12_comes_55 : decode cX12_comes 55 = .ok (.invokestatic 146, 3) := by decide +kernel
theorem dX12_comes_58 : decode cX12_comes 58 = .ok (.ireturn, 1) := by decide +kernel
theorem dX12_undo_0 : decode cX12_undo 0 = .ok (.aload_n 0, 1) := by decide +kernel
theorem dX12_undo_1 : decode cX12_undo 1 = .ok (.getfield 101, 3) := by decide +kernel
theorem dX12_undo_4 : decode cX12_undo 4 = .ok (.ifCond .ne 6, 3) := by decide +kernel
theorem dX12_undo_7 : decode cX12_undo 7 = .ok (.bipush (-2), 2) := by decide +kernel
theorem dX12_undo_9 : decode cX12_undo 9 = .ok (.ireturn, 1) := by decide +kernel
theorem dX12_undo_10 : decode cX12_undo 10 = .ok (.aload_n 0, 1) := by decide +kernel
theorem dX12_undo_11 : decode cX12_undo 11 = .ok (.dup, 1) := by decide +kernel
theorem dX12_undo_12 : decode cX12_undo 12 = .ok (.getfield 101, 3) := by decide +kernel
theorem dX12_undo_15 : decode cX12_undo 15 = .ok (.iconst 1, 1) := by decide +kernel
theorem dX12_undo_16 : decode cX12_undo 16 = .ok (.isub, 1) := by decide +kernel
theorem dX12_undo_17 : decode cX12_undo 17 = .ok (.putfield 101, 3) := by decide +kernel
theorem dX12_undo_20 : decode cX12_undo 20 = .ok (.aload_n 0, 1) := by decide +kernel
theorem dX12_undo_21 : decode cX12_undo 21 = .ok (.getfield 25, 3) := by decide +kernel
theorem dX12_undo_24 : decode cX12_undo 24 = .ok (.bipush 22, 2) := by decide +kernel
theorem dX12_undo_26 : decode cX12_undo 26 = .ok (.aload_n 0, 1) := by decide +kernel
theorem dX12_undo_27 : decode cX12_undo 27 = .ok (.getfield 101, 3) := by decide +kernel
theorem dX12_undo_30 : decode cX12_undo 30 = .ok (.imul, 1) := by decide +kernel
theorem dX12_undo_31 : decode cX12_undo 31 = .ok (.aload_n 0, 1) := by decide +kernel
theorem dX12_undo_32 : decode cX12_undo 32 = .ok (.getfield 19, 3) := by decide +kernel
theorem dX12_undo_35 : decode cX12_undo 35 = .ok (.iconst 0, 1) := by decide +kernel
theorem dX12_undo_36 : decode cX12_undo 36 = .ok (.bipush 22, 2) := by decide +kernel
theorem dX12_undo_38 : decode cX12_undo 38 = .ok (.invokestatic 119, 3) := by decide +kernel
theorem dX12_undo_41 : decode cX12_undo 41 = .ok (.aload_n 0, 1) := by decide +kernel
theorem dX12_undo_42 : decode cX12_undo 42 = .ok (.getfield 101, 3) := by decide +kernel
theorem dX12_undo_45 : decode cX12_undo 45 = .ok (.ireturn, 1) := by decide +kernel
theorem dX12_goesOn_0 : decode cX12_goesOn 0 = .ok (.iconst 0, 1) := by decide +kernel
theorem dX12_goesOn_1 : decode cX12_goesOn 1 = .ok (.istore_n 2, 1) := by decide +kernel
theorem dX12_goesOn_2 : decode cX12_goesOn 2 = .ok (.iload_n 2, 1) := by decide +kernel
theorem dX12_goesOn_3 : decode cX12_goesOn 3 = .ok (.iload_n 1, 1) := by decide +kernel
theorem dX12_goesOn_4 : decode cX12_goesOn 4 = .ok (.if_icmp .ge 19, 3) := by decide +kernel
theorem dX12_goesOn_7 : decode cX12_goesOn 7 = .ok (.aload_n 0, 1) := by decide +kernel
theorem dX12_goesOn_8 : decode cX12_goesOn 8 = .ok (.aload_n 0, 1) := by decide +kernel
theorem dX12_goesOn_9 : decode cX12_goesOn 9 = .ok (.getfield 22, 3) := by decide +kernel
theorem dX12_goesOn_12 : decode cX12_goesOn 12 = .ok (.iconst 0, 1) := by decide +kernel
theorem dX12_goesOn_13 : decode cX12_goesOn 13 = .ok (.invokevirtual 123, 3) := by decide +kernel
theorem dX12_goesOn_16 : decode cX12_goesOn 16 = .ok (.pop, 1) := by decide +kernel
theorem dX12_goesOn_17 : decode cX12_goesOn 17 = .ok (.iinc 2 1, 3) := by decide +kernel
theorem dX12_goesOn_20 : decode cX12_goesOn 20 = .ok (.goto (-18), 3) := by decide +kernel
theorem dX12_goesOn_23 : decode cX12_goesOn 23 = .ok (.return_, 1) := by decide +kernel
theorem dX12_stay_0 : decode cX12_stay 0 = .ok (.iload_n 1, 1) := by decide +kernel
theorem dX12_stay_1 : decode cX12_stay 1 = .ok (.iconst 0, 1) := by decide +kernel
theorem dX12_stay_2 : decode cX12_stay 2 = .ok (.bipush 120, 2) := by decide +kernel
theorem dX12_stay_4 : decode cX12_stay 4 = .ok (.invokestatic 51, 3) := by decide +kernel
theorem dX12_stay_7 : decode cX12_stay 7 = .ok (.ifCond .ne 5, 3) := by decide +kernel
theorem dX12_stay_10 : decode cX12_stay 10 = .ok (.iconst (-1), 1) := by decide +kernel
theorem dX12_stay_11 : decode cX12_stay 11 = .ok (.ireturn, 1) := by decide +kernel
theorem dX12_stay_12 : decode cX12_stay 12 = .ok (.aload_n 0, 1) := by decide +kernel
theorem dX12_stay_13 : decode cX12_stay 13 = .ok (.invokevirtual 130, 3) := by decide +kernel
theorem dX12_stay_16 : decode cX12_stay 16 = .ok (.aload_n 0, 1) := by decide +kernel
theorem dX12_stay_17 : decode cX12_stay 17 = .ok (.iload_n 1, 1) := by decide +kernel
theorem dX12_stay_18 : decode cX12_stay 18 = .ok (.invokevirtual 153, 3) := by decide +kernel
theorem dX12_stay_21 : decode cX12_stay 21 = .ok (.aload_n 0, 1) := by decide +kernel
theorem dX12_stay_22 : decode cX12_stay 22 = .ok (.getfield 22, 3) := by decide +kernel
theorem dX12_stay_25 : decode cX12_stay 25 = .ok (.iconst 3, 1) := by decide +kernel
theorem dX12_stay_26 : decode cX12_stay 26 = .ok (.iaload, 1) := by decide +kernel
theorem dX12_stay_27 : decode cX12_stay 27 = .ok (.ireturn, 1) := by decide +kernel
theorem dX12_pace_0 : decode cX12_pace 0 = .ok (.iload_n 1, 1) := by decide +kernel
theorem dX12_pace_1 : decode cX12_pace 1 = .ok (.iconst 0, 1) := by decide +kernel
theorem dX12_pace_2 : decode cX12_pace 2 = .ok (.bipush 120, 2) := by decide +kernel
theorem dX12_pace_4 : decode cX12_pace 4 = .ok (.invokestatic 51, 3) := by decide +kernel
theorem dX12_pace_7 : decode cX12_pace 7 = .ok (.ifCond .ne 5, 3) := by decide +kernel
theorem dX12_pace_10 : decode cX12_pace 10 = .ok (.iconst (-1), 1) := by decide +kernel
theorem dX12_pace_11 : decode cX12_pace 11 = .ok (.ireturn, 1) := by decide +kernel
theorem dX12_pace_12 : decode cX12_pace 12 = .ok (.iconst 0, 1) := by decide +kernel
theorem dX12_pace_13 : decode cX12_pace 13 = .ok (.istore_n 2, 1) := by decide +kernel
theorem dX12_pace_14 : decode cX12_pace 14 = .ok (.iconst (-1), 1) := by decide +kernel
theorem dX12_pace_15 : decode cX12_pace 15 = .ok (.istore_n 3, 1) := by decide +kernel
theorem dX12_pace_16 : decode cX12_pace 16 = .ok (.iconst 2, 1) := by decide +kernel
theorem dX12_pace_17 : decode cX12_pace 17 = .ok (.istore 4, 2) := by decide +kernel
theorem dX12_pace_19 : decode cX12_pace 19 = .ok (.iload 4, 2) := by decide +kernel
theorem dX12_pace_21 : decode cX12_pace 21 = .ok (.bipush 10, 2) := by decide +kernel
theorem dX12_pace_23 : decode cX12_pace 23 = .ok (.if_icmp .ge 75, 3) := by decide +kernel
theorem dX12_pace_26 : decode cX12_pace 26 = .ok (.aload_n 0, 1) := by decide +kernel
theorem dX12_pace_27 : decode cX12_pace 27 = .ok (.invokevirtual 130, 3) := by decide +kernel
theorem dX12_pace_30 : decode cX12_pace 30 = .ok (.iload 4, 2) := by decide +kernel
theorem dX12_pace_32 : decode cX12_pace 32 = .ok (.aload_n 0, 1) := by decide +kernel
theorem dX12_pace_33 : decode cX12_pace 33 = .ok (.getfield 19, 3) := by decide +kernel
theorem dX12_pace_36 : decode cX12_pace 36 = .ok (.iconst 1, 1) := by decide +kernel
theorem dX12_pace_37 : decode cX12_pace 37 = .ok (.iaload, 1) := by decide +kernel
theorem dX12_pace_38 : decode cX12_pace 38 = .ok (.if_icmp .eq 12, 3) := by decide +kernel
theorem dX12_pace_41 : decode cX12_pace 41 = .ok (.aload_n 0, 1) := by decide +kernel
theorem dX12_pace_42 : decode cX12_pace 42 = .ok (.getfield 22, 3) := by decide +kernel
theorem dX12_pace_45 : decode cX12_pace 45 = .ok (.iload 4, 2) := by decide +kernel
theorem dX12_pace_47 : decode cX12_pace 47 = .ok (.invokestatic 143, 3) := by decide +kernel
theorem dX12_pace_50 : decode cX12_pace 50 = .ok (.aload_n 0, 1) := by decide +kernel
theorem dX12_pace_51 : decode cX12_pace 51 = .ok (.iload_n 1, 1) := by decide +kernel
theorem dX12_pace_52 : decode cX12_pace 52 = .ok (.invokevirtual 153, 3) := by decide +kernel
theorem dX12_pace_55 : decode cX12_pace 55 = .ok (.aload_n 0, 1) := by decide +kernel
theorem dX12_pace_56 : decode cX12_pace 56 = .ok (.getfield 22, 3) := by decide +kernel
theorem dX12_pace_59 : decode cX12_pace 59 = .ok (.iconst 3, 1) := by decide +kernel
theorem dX12_pace_60 : decode cX12_pace 60 = .ok (.iaload, 1) := by decide +kernel
theorem dX12_pace_61 : decode cX12_pace 61 = .ok (.invokestatic 146, 3) := by decide +kernel
theorem dX12_pace_64 : decode cX12_pace 64 = .ok (.istore 5, 2) := by decide +kernel
theorem dX12_pace_66 : decode cX12_pace 66 = .ok (.iload 5, 2) := by decide +kernel
theorem dX12_pace_68 : decode cX12_pace 68 = .ok (.iload_n 3, 1) := by decide +kernel
theorem dX12_pace_69 : decode cX12_pace 69 = .ok (.if_icmp .le 8, 3) := by decide +kernel
theorem dX12_pace_72 : decode cX12_pace 72 = .ok (.iload 4, 2) := by decide +kernel
theorem dX12_pace_74 : decode cX12_pace 74 = .ok (.goto 4, 3) := by decide +kernel
theorem dX12_pace_77 : decode cX12_pace 77 = .ok (.iload_n 2, 1) := by decide +kernel
theorem dX12_pace_78 : decode cX12_pace 78 = .ok (.istore_n 2, 1) := by decide +kernel
theorem dX12_pace_79 : decode cX12_pace 79 = .ok (.iload 5, 2) := by decide +kernel
theorem dX12_pace_81 : decode cX12_pace 81 = .ok (.iload_n 3, 1) := by decide +kernel
theorem dX12_pace_82 : decode cX12_pace 82 = .ok (.if_icmp .le 8, 3) := by decide +kernel
theorem dX12_pace_85 : decode cX12_pace 85 = .ok (.iload 5, 2) := by decide +kernel
theorem dX12_pace_87 : decode cX12_pace 87 = .ok (.goto 4, 3) := by decide +kernel
theorem dX12_pace_90 : decode cX12_pace 90 = .ok (.iload_n 3, 1) := by decide +kernel
theorem dX12_pace_91 : decode cX12_pace 91 = .ok (.istore_n 3, 1) := by decide +kernel
theorem dX12_pace_92 : decode cX12_pace 92 = .ok (.iinc 4 1, 3) := by decide +kernel
theorem dX12_pace_95 : decode cX12_pace 95 = .ok (.goto (-76), 3) := by decide +kernel
theorem dX12_pace_98 : decode cX12_pace 98 = .ok (.iload_n 2, 1) := by decide +kernel
theorem dX12_pace_99 : decode cX12_pace 99 = .ok (.ireturn, 1) := by decide +kernel
theorem dX12_entry_0 : decode cX12_entry 0 = .ok (.aload_n 0, 1) := by decide +kernel
theorem dX12_entry_1 : decode cX12_entry 1 = .ok (.iload_n 1, 1) := by decide +kernel
theorem dX12_entry_2 : decode cX12_entry 2 = .ok (.invokevirtual 127, 3) := by decide +kernel
theorem dX12_entry_5 : decode cX12_entry 5 = .ok (.ifCond .ne 5, 3) := by decide +kernel
theorem dX12_entry_8 : decode cX12_entry 8 = .ok (.iconst (-1), 1) := by decide +kernel
theorem dX12_entry_9 : decode cX12_entry 9 = .ok (.ireturn, 1) := by decide +kernel
theorem dX12_entry_10 : decode cX12_entry 10 = .ok (.aload_n 0, 1) := by decide +kernel
theorem dX12_entry_11 : decode cX12_entry 11 = .ok (.getfield 19, 3) := by decide +kernel
theorem dX12_entry_14 : decode cX12_entry 14 = .ok (.iconst 3, 1) := by decide +kernel
theorem dX12_entry_15 : decode cX12_entry 15 = .ok (.iaload, 1) := by decide +kernel
theorem dX12_entry_16 : decode cX12_entry 16 = .ok (.iload_n 1, 1) := by decide +kernel
theorem dX12_entry_17 : decode cX12_entry 17 = .ok (.invokestatic 107, 3) := by decide +kernel
theorem dX12_entry_20 : decode cX12_entry 20 = .ok (.ifCond .eq 6, 3) := by decide +kernel
theorem dX12_entry_23 : decode cX12_entry 23 = .ok (.bipush (-2), 2) := by decide +kernel
theorem dX12_entry_25 : decode cX12_entry 25 = .ok (.ireturn, 1) := by decide +kernel
theorem dX12_entry_26 : decode cX12_entry 26 = .ok (.iconst 0, 1) := by decide +kernel
theorem dX12_entry_27 : decode cX12_entry 27 = .ok (.istore_n 2, 1) := by decide +kernel
theorem dX12_entry_28 : decode cX12_entry 28 = .ok (.iconst (-1), 1) := by decide +kernel
theorem dX12_entry_29 : decode cX12_entry 29 = .ok (.istore_n 3, 1) := by decide +kernel
theorem dX12_entry_30 : decode cX12_entry 30 = .ok (.iconst 0, 1) := by decide +kernel
theorem dX12_entry_31 : decode cX12_entry 31 = .ok (.istore 4, 2) := by decide +kernel
theorem dX12_entry_33 : decode cX12_entry 33 = .ok (.iload 4, 2) := by decide +kernel
theorem dX12_entry_35 : decode cX12_entry 35 = .ok (.bipush 12, 2) := by decide +kernel
theorem dX12_entry_37 : decode cX12_entry 37 = .ok (.if_icmp .ge 72, 3) := by decide +kernel
theorem dX12_entry_40 : decode cX12_entry 40 = .ok (.aload_n 0, 1) := by decide +kernel
theorem dX12_entry_41 : decode cX12_entry 41 = .ok (.invokevirtual 130, 3) := by decide +kernel
theorem dX12_entry_44 : decode cX12_entry 44 = .ok (.aload_n 0, 1) := by decide +kernel
theorem dX12_entry_45 : decode cX12_entry 45 = .ok (.getfield 22, 3) := by decide +kernel
theorem dX12_entry_48 : decode cX12_entry 48 = .ok (.iload_n 1, 1) := by decide +kernel
theorem dX12_entry_49 : decode cX12_entry 49 = .ok (.iload 4, 2) := by decide +kernel
theorem dX12_entry_51 : decode cX12_entry 51 = .ok (.invokestatic 149, 3) := by decide +kernel
theorem dX12_entry_54 : decode cX12_entry 54 = .ok (.aload_n 0, 1) := by decide +kernel
theorem dX12_entry_55 : decode cX12_entry 55 = .ok (.iload_n 1, 1) := by decide +kernel
theorem dX12_entry_56 : decode cX12_entry 56 = .ok (.invokevirtual 133, 3) := by decide +kernel
theorem dX12_entry_59 : decode cX12_entry 59 = .ok (.istore 5, 2) := by decide +kernel
theorem dX12_entry_61 : decode cX12_entry 61 = .ok (.iload 5, 2) := by decide +kernel
theorem dX12_entry_63 : decode cX12_entry 63 = .ok (.bipush (-9), 2) := by decide +kernel
theorem dX12_entry_65 : decode cX12_entry 65 = .ok (.if_icmp .ne 8, 3) := by decide +kernel
theorem dX12_entry_68 : decode cX12_entry 68 = .ok (.bipush 121, 2) := by decide +kernel
theorem dX12_entry_70 : decode cX12_entry 70 = .ok (.goto 5, 3) := by decide +kernel
theorem dX12_entry_73 : decode cX12_entry 73 = .ok (.iload 5, 2) := by decide +kernel
theorem dX12_entry_75 : decode cX12_entry 75 = .ok (.istore 6, 2) := by decide +kernel
theorem dX12_entry_77 : decode cX12_entry 77 = .ok (.iload 6, 2) := by decide +kernel
theorem dX12_entry_79 : decode cX12_entry 79 = .ok (.iload_n 3, 1) := by decide +kernel
theorem dX12_entry_80 : decode cX12_entry 80 = .ok (.if_icmp .le 8, 3) := by decide +kernel
theorem dX12_entry_83 : decode cX12_entry 83 = .ok (.iload 4, 2) := by decide +kernel
theorem dX12_entry_85 : decode cX12_entry 85 = .ok (.goto 4, 3) := by decide +kernel
theorem dX12_entry_88 : decode cX12_entry 88 = .ok (.iload_n 2, 1) := by decide +kernel
theorem dX12_entry_89 : decode cX12_entry 89 = .ok (.istore_n 2, 1) := by decide +kernel
theorem dX12_entry_90 : decode cX12_entry 90 = .ok (.iload 6, 2) := by decide +kernel
theorem dX12_entry_92 : decode cX12_entry 92 = .ok (.iload_n 3, 1) := by decide +kernel
theorem dX12_entry_93 : decode cX12_entry 93 = .ok (.if_icmp .le 8, 3) := by decide +kernel
theorem dX12_entry_96 : decode cX12_entry 96 = .ok (.iload 6, 2) := by decide +kernel
theorem dX12_entry_98 : decode cX12_entry 98 = .ok (.goto 4, 3) := by decide +kernel
theorem dX12_entry_101 : decode cX12_entry 101 = .ok (.iload_n 3, 1) := by decide +kernel
theorem dX12_entry_102 : decode cX12_entry 102 = .ok (.istore_n 3, 1) := by decide +kernel
theorem dX12_entry_103 : decode cX12_entry 103 = .ok (.iinc 4 1, 3) := by decide +kernel
theorem dX12_entry_106 : decode cX12_entry 106 = .ok (.goto (-73), 3) := by decide +kernel
theorem dX12_entry_109 : decode cX12_entry 109 = .ok (.iload_n 2, 1) := by decide +kernel
theorem dX12_entry_110 : decode cX12_entry 110 = .ok (.ireturn, 1) := by decide +kernel
theorem dX12_divisor_0 : decode cX12_divisor 0 = .ok (.iload_n 0, 1) := by decide +kernel
theorem dX12_divisor_1 : decode cX12_divisor 1 = .ok (.istore_n 2, 1) := by decide +kernel
theorem dX12_divisor_2 : decode cX12_divisor 2 = .ok (.iload_n 1, 1) := by decide +kernel
theorem dX12_divisor_3 : decode cX12_divisor 3 = .ok (.istore_n 3, 1) := by decide +kernel
theorem dX12_divisor_4 : decode cX12_divisor 4 = .ok (.iload_n 3, 1) := by decide +kernel
theorem dX12_divisor_5 : decode cX12_divisor 5 = .ok (.ifCond .le 16, 3) := by decide +kernel
theorem dX12_divisor_8 : decode cX12_divisor 8 = .ok (.iload_n 2, 1) := by decide +kernel
theorem dX12_divisor_9 : decode cX12_divisor 9 = .ok (.iload_n 3, 1) := by decide +kernel
theorem dX12_divisor_10 : decode cX12_divisor 10 = .ok (.irem, 1) := by decide +kernel
theorem dX12_divisor_11 : decode cX12_divisor 11 = .ok (.istore 4, 2) := by decide +kernel
theorem dX12_divisor_13 : decode cX12_divisor 13 = .ok (.iload_n 3, 1) := by decide +kernel
theorem dX12_divisor_14 : decode cX12_divisor 14 = .ok (.istore_n 2, 1) := by decide +kernel
theorem dX12_divisor_15 : decode cX12_divisor 15 = .ok (.iload 4, 2) := by decide +kernel
theorem dX12_divisor_17 : decode cX12_divisor 17 = .ok (.istore_n 3, 1) := by decide +kernel
theorem dX12_divisor_18 : decode cX12_divisor 18 = .ok (.goto (-14), 3) := by decide +kernel
theorem dX12_divisor_21 : decode cX12_divisor 21 = .ok (.iload_n 2, 1) := by decide +kernel
theorem dX12_divisor_22 : decode cX12_divisor 22 = .ok (.ireturn, 1) := by decide +kernel
theorem dX12_allStay_0 : decode cX12_allStay 0 = .ok (.iload_n 1, 1) := by decide +kernel
theorem dX12_allStay_1 : decode cX12_allStay 1 = .ok (.istore_n 3, 1) := by decide +kernel
theorem dX12_allStay_2 : decode cX12_allStay 2 = .ok (.aload_n 0, 1) := by decide +kernel
theorem dX12_allStay_3 : decode cX12_allStay 3 = .ok (.invokevirtual 130, 3) := by decide +kernel
theorem dX12_allStay_6 : decode cX12_allStay 6 = .ok (.iconst 0, 1) := by decide +kernel
theorem dX12_allStay_7 : decode cX12_allStay 7 = .ok (.istore 4, 2) := by decide +kernel
theorem dX12_allStay_9 : decode cX12_allStay 9 = .ok (.iload 4, 2) := by decide +kernel
theorem dX12_allStay_11 : decode cX12_allStay 11 = .ok (.iload_n 2, 1) := by decide +kernel
theorem dX12_allStay_12 : decode cX12_allStay 12 = .ok (.if_icmp .ge 87, 3) := by decide +kernel
theorem dX12_allStay_15 : decode cX12_allStay 15 = .ok (.iconst 0, 1) := by decide +kernel
theorem dX12_allStay_16 : decode cX12_allStay 16 = .ok (.istore 5, 2) := by decide +kernel
theorem dX12_allStay_18 : decode cX12_allStay 18 = .ok (.iconst 0, 1) := by decide +kernel
theorem dX12_allStay_19 : decode cX12_allStay 19 = .ok (.istore 6, 2) := by decide +kernel
theorem dX12_allStay_21 : decode cX12_allStay 21 = .ok (.iload 6, 2) := by decide +kernel
theorem dX12_allStay_23 : decode cX12_allStay 23 = .ok (.aload_n 0, 1) := by decide +kernel
theorem dX12_allStay_24 : decode cX12_allStay 24 = .ok (.getfield 47, 3) := by decide +kernel
theorem dX12_allStay_27 : decode cX12_allStay 27 = .ok (.if_icmp .ge 49, 3) := by decide +kernel
theorem dX12_allStay_30 : decode cX12_allStay 30 = .ok (.iload 5, 2) := by decide +kernel
theorem dX12_allStay_32 : decode cX12_allStay 32 = .ok (.aload_n 0, 1) := by decide +kernel
theorem dX12_allStay_33 : decode cX12_allStay 33 = .ok (.getfield 22, 3) := by decide +kernel
theorem dX12_allStay_36 : decode cX12_allStay 36 = .ok (.iconst 3, 1) := by decide +kernel
theorem dX12_allStay_37 : decode cX12_allStay 37 = .ok (.iaload, 1) := by decide +kernel
theorem dX12_allStay_38 : decode cX12_allStay 38 = .ok (.iload 6, 2) := by decide +kernel
theorem dX12_allStay_40 : decode cX12_allStay 40 = .ok (.invokestatic 107, 3) := by decide +kernel
theorem dX12_allStay_43 : decode cX12_allStay 43 = .ok (.ifCond .eq 23, 3) := by decide +kernel
theorem dX12_allStay_46 : decode cX12_allStay 46 = .ok (.aload_n 0, 1) := by decide +kernel
theorem dX12_allStay_47 : decode cX12_allStay 47 = .ok (.getfield 22, 3) := by decide +kernel
theorem dX12_allStay_50 : decode cX12_allStay 50 = .ok (.bipush 10, 2) := by decide +kernel
theorem dX12_allStay_52 : decode cX12_allStay 52 = .ok (.iload 6, 2) := by decide +kernel
theorem dX12_allStay_54 : decode cX12_allStay 54 = .ok (.iadd, 1) := by decide +kernel
theorem dX12_allStay_55 : decode cX12_allStay 55 = .ok (.iaload, 1) := by decide +kernel
theorem dX12_allStay_56 : decode cX12_allStay 56 = .ok (.ifCond .ne 10, 3) := by decide +kernel
theorem dX12_allStay_59 : decode cX12_allStay 59 = .ok (.iconst 1, 1) := by decide +kernel
theorem dX12_allStay_60 : decode cX12_allStay 60 = .ok (.iload 6, 2) := by decide +kernel
theorem dX12_allStay_62 : decode cX12_allStay 62 = .ok (.ishl, 1) := by decide +kernel
theorem dX12_allStay_63 : decode cX12_allStay 63 = .ok (.goto 4, 3) := by decide +kernel
theorem dX12_allStay_66 : decode cX12_allStay 66 = .ok (.iconst 0, 1) := by decide +kernel
theorem dX12_allStay_67 : decode cX12_allStay 67 = .ok (.ior, 1) := by decide +kernel
theorem dX12_allStay_68 : decode cX12_allStay 68 = .ok (.istore 5, 2) := by decide +kernel
theorem dX12_allStay_70 : decode cX12_allStay 70 = .ok (.iinc 6 1, 3) := by decide +kernel
theorem dX12_allStay_73 : decode cX12_allStay 73 = .ok (.goto (-52), 3) := by decide +kernel
theorem dX12_allStay_76 : decode cX12_allStay 76 = .ok (.aload_n 0, 1) := by decide +kernel
theorem dX12_allStay_77 : decode cX12_allStay 77 = .ok (.aload_n 0, 1) := by decide +kernel
theorem dX12_allStay_78 : decode cX12_allStay 78 = .ok (.getfield 22, 3) := by decide +kernel
theorem dX12_allStay_81 : decode cX12_allStay 81 = .ok (.iload_n 3, 1) := by decide +kernel
theorem dX12_allStay_82 : decode cX12_allStay 82 = .ok (.invokevirtual 123, 3) := by decide +kernel
theorem dX12_allStay_85 : decode cX12_allStay 85 = .ok (.pop, 1) := by decide +kernel
theorem dX12_allStay_86 : decode cX12_allStay 86 = .ok (.iload_n 3, 1) := by decide +kernel
theorem dX12_allStay_87 : decode cX12_allStay 87 = .ok (.iload 5, 2) := by decide +kernel
theorem dX12_allStay_89 : decode cX12_allStay 89 = .ok (.iconst (-1), 1) := by decide +kernel
theorem dX12_allStay_90 : decode cX12_allStay 90 = .ok (.ixor, 1) := by decide +kernel
theorem dX12_allStay_91 : decode cX12_allStay 91 = .ok (.iand, 1) := by decide +kernel
theorem dX12_allStay_92 : decode cX12_allStay 92 = .ok (.istore_n 3, 1) := by decide +kernel
theorem dX12_allStay_93 : decode cX12_allStay 93 = .ok (.iinc 4 1, 3) := by decide +kernel
theorem dX12_allStay_96 : decode cX12_allStay 96 = .ok (.goto (-87), 3) := by decide +kernel
theorem dX12_allStay_99 : decode cX12_allStay 99 = .ok (.aload_n 0, 1) := by decide +kernel
theorem dX12_allStay_100 : decode cX12_allStay 100 = .ok (.getfield 22, 3) := by decide +kernel
theorem dX12_allStay_103 : decode cX12_allStay 103 = .ok (.iconst 3, 1) := by decide +kernel
theorem dX12_allStay_104 : decode cX12_allStay 104 = .ok (.iaload, 1) := by decide +kernel
theorem dX12_allStay_105 : decode cX12_allStay 105 = .ok (.aload_n 0, 1) := by decide +kernel
theorem dX12_allStay_106 : decode cX12_allStay 106 = .ok (.getfield 19, 3) := by decide +kernel
theorem dX12_allStay_109 : decode cX12_allStay 109 = .ok (.iconst 3, 1) := by decide +kernel
theorem dX12_allStay_110 : decode cX12_allStay 110 = .ok (.iaload, 1) := by decide +kernel
theorem dX12_allStay_111 : decode cX12_allStay 111 = .ok (.if_icmp .ne 7, 3) := by decide +kernel
theorem dX12_allStay_114 : decode cX12_allStay 114 = .ok (.iconst 1, 1) := by decide +kernel
theorem dX12_allStay_115 : decode cX12_allStay 115 = .ok (.goto 4, 3) := by decide +kernel
theorem dX12_allStay_118 : decode cX12_allStay 118 = .ok (.iconst 0, 1) := by decide +kernel
theorem dX12_allStay_119 : decode cX12_allStay 119 = .ok (.ireturn, 1) := by decide +kernel
theorem dX12_odds_0 : decode cX12_odds 0 = .ok (.iload_n 1, 1) := by decide +kernel
theorem dX12_odds_1 : decode cX12_odds 1 = .ok (.iconst 0, 1) := by decide +kernel
theorem dX12_odds_2 : decode cX12_odds 2 = .ok (.bipush 10, 2) := by decide +kernel
theorem dX12_odds_4 : decode cX12_odds 4 = .ok (.invokestatic 51, 3) := by decide +kernel
theorem dX12_odds_7 : decode cX12_odds 7 = .ok (.ifCond .eq 22, 3) := by decide +kernel
theorem dX12_odds_10 : decode cX12_odds 10 = .ok (.iload_n 2, 1) := by decide +kernel
theorem dX12_odds_11 : decode cX12_odds 11 = .ok (.iconst 0, 1) := by decide +kernel
theorem dX12_odds_12 : decode cX12_odds 12 = .ok (.bipush 60, 2) := by decide +kernel
theorem dX12_odds_14 : decode cX12_odds 14 = .ok (.invokestatic 51, 3) := by decide +kernel
theorem dX12_odds_17 : decode cX12_odds 17 = .ok (.ifCond .eq 12, 3) := by decide +kernel
theorem dX12_odds_20 : decode cX12_odds 20 = .ok (.iload_n 3, 1) := by decide +kernel
theorem dX12_odds_21 : decode cX12_odds 21 = .ok (.iconst 0, 1) := by decide +kernel
theorem dX12_odds_22 : decode cX12_odds 22 = .ok (.iconst 1, 1) := by decide +kernel
theorem dX12_odds_23 : decode cX12_odds 23 = .ok (.invokestatic 51, 3) := by decide +kernel
theorem dX12_odds_26 : decode cX12_odds 26 = .ok (.ifCond .ne 5, 3) := by decide +kernel
theorem dX12_odds_29 : decode cX12_odds 29 = .ok (.iconst (-1), 1) := by decide +kernel
theorem dX12_odds_30 : decode cX12_odds 30 = .ok (.ireturn, 1) := by decide +kernel
theorem dX12_odds_31 : decode cX12_odds 31 = .ok (.iconst 0, 1) := by decide +kernel
theorem dX12_odds_32 : decode cX12_odds 32 = .ok (.istore 4, 2) := by decide +kernel
theorem dX12_odds_34 : decode cX12_odds 34 = .ok (.iconst 0, 1) := by decide +kernel
theorem dX12_odds_35 : decode cX12_odds 35 = .ok (.istore 5, 2) := by decide +kernel
theorem dX12_odds_37 : decode cX12_odds 37 = .ok (.iconst 0, 1) := by decide +kernel
theorem dX12_odds_38 : decode cX12_odds 38 = .ok (.istore 6, 2) := by decide +kernel
theorem dX12_odds_40 : decode cX12_odds 40 = .ok (.iload 6, 2) := by decide +kernel
theorem dX12_odds_42 : decode cX12_odds 42 = .ok (.iconst 1, 1) := by decide +kernel
theorem dX12_odds_43 : decode cX12_odds 43 = .ok (.aload_n 0, 1) := by decide +kernel
theorem dX12_odds_44 : decode cX12_odds 44 = .ok (.getfield 47, 3) := by decide +kernel
theorem dX12_odds_47 : decode cX12_odds 47 = .ok (.ishl, 1) := by decide +kernel
theorem dX12_odds_48 : decode cX12_odds 48 = .ok (.if_icmp .ge 118, 3) := by decide +kernel
theorem dX12_odds_51 : decode cX12_odds 51 = .ok (.iload 6, 2) := by decide +kernel
theorem dX12_odds_53 : decode cX12_odds 53 = .ok (.aload_n 0, 1) := by decide +kernel
theorem dX12_odds_54 : decode cX12_odds 54 = .ok (.getfield 19, 3) := by decide +kernel
theorem dX12_odds_57 : decode cX12_odds 57 = .ok (.iconst 3, 1) := by decide +kernel
theorem dX12_odds_58 : decode cX12_odds 58 = .ok (.iaload, 1) := by decide +kernel
theorem dX12_odds_59 : decode cX12_odds 59 = .ok (.iconst (-1), 1) := by decide +kernel
theorem dX12_odds_60 : decode cX12_odds 60 = .ok (.ixor, 1) := by decide +kernel
theorem dX12_odds_61 : decode cX12_odds 61 = .ok (.iand, 1) := by decide +kernel
theorem dX12_odds_62 : decode cX12_odds 62 = .ok (.ifCond .ne 98, 3) := by decide +kernel
theorem dX12_odds_65 : decode cX12_odds 65 = .ok (.iconst 1, 1) := by decide +kernel
theorem dX12_odds_66 : decode cX12_odds 66 = .ok (.istore 7, 2) := by decide +kernel
theorem dX12_odds_68 : decode cX12_odds 68 = .ok (.iconst 0, 1) := by decide +kernel
theorem dX12_odds_69 : decode cX12_odds 69 = .ok (.istore 8, 2) := by decide +kernel
theorem dX12_odds_71 : decode cX12_odds 71 = .ok (.iload 8, 2) := by decide +kernel
theorem dX12_odds_73 : decode cX12_odds 73 = .ok (.aload_n 0, 1) := by decide +kernel
theorem dX12_odds_74 : decode cX12_odds 74 = .ok (.getfield 47, 3) := by decide +kernel
theorem dX12_odds_77 : decode cX12_odds 77 = .ok (.if_icmp .ge 50, 3) := by decide +kernel
theorem dX12_odds_80 : decode cX12_odds 80 = .ok (.iload 7, 2) := by decide +kernel
theorem dX12_odds_82 : decode cX12_odds 82 = .ok (.iload 6, 2) := by decide +kernel
theorem dX12_odds_84 : decode cX12_odds 84 = .ok (.iload 8, 2) := by decide +kernel
theorem dX12_odds_86 : decode cX12_odds 86 = .ok (.invokestatic 107, 3) := by decide +kernel
theorem dX12_odds_89 : decode cX12_odds 89 = .ok (.ifCond .eq 7, 3) := by decide +kernel
theorem dX12_odds_92 : decode cX12_odds 92 = .ok (.iload_n 1, 1) := by decide +kernel
theorem dX12_odds_93 : decode cX12_odds 93 = .ok (.goto 25, 3) := by decide +kernel
theorem dX12_odds_96 : decode cX12_odds 96 = .ok (.aload_n 0, 1) := by decide +kernel
theorem dX12_odds_97 : decode cX12_odds 97 = .ok (.getfield 19, 3) := by decide +kernel
theorem dX12_odds_100 : decode cX12_odds 100 = .ok (.iconst 3, 1) := by decide +kernel
theorem dX12_odds_101 : decode cX12_odds 101 = .ok (.iaload, 1) := by decide +kernel
theorem dX12_odds_102 : decode cX12_odds 102 = .ok (.iload 8, 2) := by decide +kernel
theorem dX12_odds_104 : decode cX12_odds 104 = .ok (.invokestatic 107, 3) := by decide +kernel
theorem dX12_odds_107 : decode cX12_odds 107 = .ok (.ifCond .eq 10, 3) := by decide +kernel
theorem dX12_odds_110 : decode cX12_odds 110 = .ok (.bipush 10, 2) := by decide +kernel
theorem dX12_odds_112 : decode cX12_odds 112 = .ok (.iload_n 1, 1) := by decide +kernel
theorem dX12_odds_113 : decode cX12_odds 113 = .ok (.isub, 1) := by decide +kernel
theorem dX12_odds_114 : decode cX12_odds 114 = .ok (.goto 4, 3) := by decide +kernel
theorem dX12_odds_117 : decode cX12_odds 117 = .ok (.iconst 1, 1) := by decide +kernel
theorem dX12_odds_118 : decode cX12_odds 118 = .ok (.imul, 1) := by decide +kernel
theorem dX12_odds_119 : decode cX12_odds 119 = .ok (.istore 7, 2) := by decide +kernel
theorem dX12_odds_121 : decode cX12_odds 121 = .ok (.iinc 8 1, 3) := by decide +kernel
theorem dX12_odds_124 : decode cX12_odds 124 = .ok (.goto (-53), 3) := by decide +kernel
theorem dX12_odds_127 : decode cX12_odds 127 = .ok (.iload 4, 2) := by decide +kernel
theorem dX12_odds_129 : decode cX12_odds 129 = .ok (.iload 7, 2) := by decide +kernel
theorem dX12_odds_131 : decode cX12_odds 131 = .ok (.ifCond .le 18, 3) := by decide +kernel
theorem dX12_odds_134 : decode cX12_odds 134 = .ok (.aload_n 0, 1) := by decide +kernel
theorem dX12_odds_135 : decode cX12_odds 135 = .ok (.iload 6, 2) := by decide +kernel
theorem dX12_odds_137 : decode cX12_odds 137 = .ok (.iload_n 2, 1) := by decide +kernel
theorem dX12_odds_138 : decode cX12_odds 138 = .ok (.invokevirtual 157, 3) := by decide +kernel
theorem dX12_odds_141 : decode cX12_odds 141 = .ok (.ifCond .eq 8, 3) := by decide +kernel
theorem dX12_odds_144 : decode cX12_odds 144 = .ok (.iload 7, 2) := by decide +kernel
theorem dX12_odds_146 : decode cX12_odds 146 = .ok (.goto 4, 3) := by decide +kernel
theorem dX12_odds_149 : decode cX12_odds 149 = .ok (.iconst 0, 1) := by decide +kernel
theorem dX12_odds_150 : decode cX12_odds 150 = .ok (.iadd, 1) := by decide +kernel
theorem dX12_odds_151 : decode cX12_odds 151 = .ok (.istore 4, 2) := by decide +kernel
theorem dX12_odds_153 : decode cX12_odds 153 = .ok (.iload 5, 2) := by decide +kernel
theorem dX12_odds_155 : decode cX12_odds 155 = .ok (.iload 7, 2) := by decide +kernel
theorem dX12_odds_157 : decode cX12_odds 157 = .ok (.iadd, 1) := by decide +kernel
theorem dX12_odds_158 : decode cX12_odds 158 = .ok (.istore 5, 2) := by decide +kernel
theorem dX12_odds_160 : decode cX12_odds 160 = .ok (.iinc 6 1, 3) := by decide +kernel
theorem dX12_odds_163 : decode cX12_odds 163 = .ok (.goto (-123), 3) := by decide +kernel
theorem dX12_odds_166 : decode cX12_odds 166 = .ok (.iload 4, 2) := by decide +kernel
theorem dX12_odds_168 : decode cX12_odds 168 = .ok (.iload 5, 2) := by decide +kernel
theorem dX12_odds_170 : decode cX12_odds 170 = .ok (.invokestatic 160, 3) := by decide +kernel
theorem dX12_odds_173 : decode cX12_odds 173 = .ok (.istore 6, 2) := by decide +kernel
theorem dX12_odds_175 : decode cX12_odds 175 = .ok (.iload_n 3, 1) := by decide +kernel
theorem dX12_odds_176 : decode cX12_odds 176 = .ok (.ifCond .ne 11, 3) := by decide +kernel
theorem dX12_odds_179 : decode cX12_odds 179 = .ok (.iload 4, 2) := by decide +kernel
theorem dX12_odds_181 : decode cX12_odds 181 = .ok (.iload 6, 2) := by decide +kernel
theorem dX12_odds_183 : decode cX12_odds 183 = .ok (.idiv, 1) := by decide +kernel
theorem dX12_odds_184 : decode cX12_odds 184 = .ok (.goto 8, 3) := by decide +kernel
theorem dX12_odds_187 : decode cX12_odds 187 = .ok (.iload 5, 2) := by decide +kernel
theorem dX12_odds_189 : decode cX12_odds 189 = .ok (.iload 6, 2) := by decide +kernel
theorem dX12_odds_191 : decode cX12_odds 191 = .ok (.idiv, 1) := by decide +kernel
theorem dX12_odds_192 : decode cX12_odds 192 = .ok (.ireturn, 1) := by decide +kernel
theorem dX12_sees_0 : decode cX12_sees 0 = .ok (.iload_n 1, 1) := by decide +kernel
theorem dX12_sees_1 : decode cX12_sees 1 = .ok (.iconst 1, 1) := by decide +kernel
theorem dX12_sees_2 : decode cX12_sees 2 = .ok (.iconst 4, 1) := by decide +kernel
theorem dX12_sees_3 : decode cX12_sees 3 = .ok (.invokestatic 51, 3) := by decide +kernel
theorem dX12_sees_6 : decode cX12_sees 6 = .ok (.ifCond .eq 22, 3) := by decide +kernel
theorem dX12_sees_9 : decode cX12_sees 9 = .ok (.iload_n 2, 1) := by decide +kernel
theorem dX12_sees_10 : decode cX12_sees 10 = .ok (.iconst 0, 1) := by decide +kernel
theorem dX12_sees_11 : decode cX12_sees 11 = .ok (.bipush 40, 2) := by decide +kernel
theorem dX12_sees_13 : decode cX12_sees 13 = .ok (.invokestatic 51, 3) := by decide +kernel
theorem dX12_sees_16 : decode cX12_sees 16 = .ok (.ifCond .eq 12, 3) := by decide +kernel
theorem dX12_sees_19 : decode cX12_sees 19 = .ok (.iload_n 3, 1) := by decide +kernel
theorem dX12_sees_20 : decode cX12_sees 20 = .ok (.iconst 0, 1) := by decide +kernel
theorem dX12_sees_21 : decode cX12_sees 21 = .ok (.iconst 1, 1) := by decide +kernel
theorem dX12_sees_22 : decode cX12_sees 22 = .ok (.invokestatic 51, 3) := by decide +kernel
theorem dX12_sees_25 : decode cX12_sees 25 = .ok (.ifCond .ne 5, 3) := by decide +kernel
theorem dX12_sees_28 : decode cX12_sees 28 = .ok (.iconst (-1), 1) := by decide +kernel
theorem dX12_sees_29 : decode cX12_sees 29 = .ok (.ireturn, 1) := by decide +kernel
theorem dX12_sees_30 : decode cX12_sees 30 = .ok (.aload_n 0, 1) := by decide +kernel
theorem dX12_sees_31 : decode cX12_sees 31 = .ok (.getfield 104, 3) := by decide +kernel
theorem dX12_sees_34 : decode cX12_sees 34 = .ok (.bipush 6, 2) := by decide +kernel
theorem dX12_sees_36 : decode cX12_sees 36 = .ok (.if_icmp .ne 6, 3) := by decide +kernel
theorem dX12_sees_39 : decode cX12_sees 39 = .ok (.bipush (-3), 2) := by decide +kernel
theorem dX12_sees_41 : decode cX12_sees 41 = .ok (.ireturn, 1) := by decide +kernel
theorem dX12_sees_42 : decode cX12_sees 42 = .ok (.aload_n 0, 1) := by decide +kernel
theorem dX12_sees_43 : decode cX12_sees 43 = .ok (.getfield 35, 3) := by decide +kernel
theorem dX12_sees_46 : decode cX12_sees 46 = .ok (.aload_n 0, 1) := by decide +kernel
theorem dX12_sees_47 : decode cX12_sees 47 = .ok (.getfield 104, 3) := by decide +kernel
theorem dX12_sees_50 : decode cX12_sees 50 = .ok (.iload_n 1, 1) := by decide +kernel
theorem dX12_sees_51 : decode cX12_sees 51 = .ok (.iastore, 1) := by decide +kernel
theorem dX12_sees_52 : decode cX12_sees 52 = .ok (.aload_n 0, 1) := by decide +kernel
theorem dX12_sees_53 : decode cX12_sees 53 = .ok (.getfield 38, 3) := by decide +kernel
theorem dX12_sees_56 : decode cX12_sees 56 = .ok (.aload_n 0, 1) := by decide +kernel
theorem dX12_sees_57 : decode cX12_sees 57 = .ok (.getfield 104, 3) := by decide +kernel
theorem dX12_sees_60 : decode cX12_sees 60 = .ok (.iload_n 2, 1) := by decide +kernel
theorem dX12_sees_61 : decode cX12_sees 61 = .ok (.iastore, 1) := by decide +kernel
theorem dX12_sees_62 : decode cX12_sees 62 = .ok (.aload_n 0, 1) := by decide +kernel
theorem dX12_sees_63 : decode cX12_sees 63 = .ok (.getfield 41, 3) := by decide +kernel
theorem dX12_sees_66 : decode cX12_sees 66 = .ok (.aload_n 0, 1) := by decide +kernel
theorem dX12_sees_67 : decode cX12_sees 67 = .ok (.getfield 104, 3) := by decide +kernel
theorem dX12_sees_70 : decode cX12_sees 70 = .ok (.iload_n 3, 1) := by decide +kernel
theorem dX12_sees_71 : decode cX12_sees 71 = .ok (.iastore, 1) := by decide +kernel
theorem dX12_sees_72 : decode cX12_sees 72 = .ok (.aload_n 0, 1) := by decide +kernel
theorem dX12_sees_73 : decode cX12_sees 73 = .ok (.dup, 1) := by decide +kernel
theorem dX12_sees_74 : decode cX12_sees 74 = .ok (.getfield 104, 3) := by decide +kernel
theorem dX12_sees_77 : decode cX12_sees 77 = .ok (.iconst 1, 1) := by decide +kernel
theorem dX12_sees_78 : decode cX12_sees 78 = .ok (.iadd, 1) := by decide +kernel
theorem dX12_sees_79 : decode cX12_sees 79 = .ok (.putfield 104, 3) := by decide +kernel
theorem dX12_sees_82 : decode cX12_sees 82 = .ok (.aload_n 0, 1) := by decide +kernel
theorem dX12_sees_83 : decode cX12_sees 83 = .ok (.getfield 104, 3) := by decide +kernel
theorem dX12_sees_86 : decode cX12_sees 86 = .ok (.ireturn, 1) := by decide +kernel
theorem dX12_forget_0 : decode cX12_forget 0 = .ok (.aload_n 0, 1) := by decide +kernel
theorem dX12_forget_1 : decode cX12_forget 1 = .ok (.getfield 104, 3) := by decide +kernel
theorem dX12_forget_4 : decode cX12_forget 4 = .ok (.istore_n 1, 1) := by decide +kernel
theorem dX12_forget_5 : decode cX12_forget 5 = .ok (.aload_n 0, 1) := by decide +kernel
theorem dX12_forget_6 : decode cX12_forget 6 = .ok (.iconst 0, 1) := by decide +kernel
theorem dX12_forget_7 : decode cX12_forget 7 = .ok (.putfield 104, 3) := by decide +kernel
theorem dX12_forget_10 : decode cX12_forget 10 = .ok (.iload_n 1, 1) := by decide +kernel
theorem dX12_forget_11 : decode cX12_forget 11 = .ok (.ireturn, 1) := by decide +kernel
theorem dX12_isUp_0 : decode cX12_isUp 0 = .ok (.iload_n 3, 1) := by decide +kernel
theorem dX12_isUp_1 : decode cX12_isUp 1 = .ok (.iload_n 1, 1) := by decide +kernel
theorem dX12_isUp_2 : decode cX12_isUp 2 = .ok (.if_icmp .lt 16, 3) := by decide +kernel
theorem dX12_isUp_5 : decode cX12_isUp 5 = .ok (.iload_n 3, 1) := by decide +kernel
theorem dX12_isUp_6 : decode cX12_isUp 6 = .ok (.iload_n 1, 1) := by decide +kernel
theorem dX12_isUp_7 : decode cX12_isUp 7 = .ok (.isub, 1) := by decide +kernel
theorem dX12_isUp_8 : decode cX12_isUp 8 = .ok (.iload_n 0, 1) := by decide +kernel
theorem dX12_isUp_9 : decode cX12_isUp 9 = .ok (.irem, 1) := by decide +kernel
theorem dX12_isUp_10 : decode cX12_isUp 10 = .ok (.iload_n 2, 1) := by decide +kernel
theorem dX12_isUp_11 : decode cX12_isUp 11 = .ok (.if_icmp .ge 7, 3) := by decide +kernel
theorem dX12_isUp_14 : decode cX12_isUp 14 = .ok (.iconst 1, 1) := by decide +kernel
theorem dX12_isUp_15 : decode cX12_isUp 15 = .ok (.goto 4, 3) := by decide +kernel
theorem dX12_isUp_18 : decode cX12_isUp 18 = .ok (.iconst 0, 1) := by decide +kernel
theorem dX12_isUp_19 : decode cX12_isUp 19 = .ok (.ireturn, 1) := by decide +kernel
theorem dX12_fits_0 : decode cX12_fits 0 = .ok (.iconst 1, 1) := by decide +kernel
theorem dX12_fits_1 : decode cX12_fits 1 = .ok (.istore_n 3, 1) := by decide +kernel
theorem dX12_fits_2 : decode cX12_fits 2 = .ok (.iconst 0, 1) := by decide +kernel
theorem dX12_fits_3 : decode cX12_fits 3 = .ok (.istore 4, 2) := by decide +kernel
theorem dX12_fits_5 : decode cX12_fits 5 = .ok (.iload 4, 2) := by decide +kernel
theorem dX12_fits_7 : decode cX12_fits 7 = .ok (.aload_n 0, 1) := by decide +kernel
theorem dX12_fits_8 : decode cX12_fits 8 = .ok (.getfield 104, 3) := by decide +kernel
theorem dX12_fits_11 : decode cX12_fits 11 = .ok (.if_icmp .ge 57, 3) := by decide +kernel
theorem dX12_fits_14 : decode cX12_fits 14 = .ok (.iload_n 3, 1) := by decide +kernel
theorem dX12_fits_15 : decode cX12_fits 15 = .ok (.ifCond .eq 45, 3) := by decide +kernel
theorem dX12_fits_18 : decode cX12_fits 18 = .ok (.iload_n 1, 1) := by decide +kernel
theorem dX12_fits_19 : decode cX12_fits 19 = .ok (.iload_n 2, 1) := by decide +kernel
theorem dX12_fits_20 : decode cX12_fits 20 = .ok (.aload_n 0, 1) := by decide +kernel
theorem dX12_fits_21 : decode cX12_fits 21 = .ok (.getfield 35, 3) := by decide +kernel
theorem dX12_fits_24 : decode cX12_fits 24 = .ok (.iload 4, 2) := by decide +kernel
theorem dX12_fits_26 : decode cX12_fits 26 = .ok (.iaload, 1) := by decide +kernel
theorem dX12_fits_27 : decode cX12_fits 27 = .ok (.aload_n 0, 1) := by decide +kernel
theorem dX12_fits_28 : decode cX12_fits 28 = .ok (.getfield 38, 3) := by decide +kernel
theorem dX12_fits_31 : decode cX12_fits 31 = .ok (.iload 4, 2) := by decide +kernel
theorem dX12_fits_33 : decode cX12_fits 33 = .ok (.iaload, 1) := by decide +kernel
theorem dX12_fits_34 : decode cX12_fits 34 = .ok (.invokestatic 163, 3) := by decide +kernel
theorem dX12_fits_37 : decode cX12_fits 37 = .ok (.aload_n 0, 1) := by decide +kernel
theorem dX12_fits_38 : decode cX12_fits 38 = .ok (.getfield 41, 3) := by decide +kernel
theorem dX12_fits_41 : decode cX12_fits 41 = .ok (.iload 4, 2) := by decide +kernel
theorem dX12_fits_43 : decode cX12_fits 43 = .ok (.iaload, 1) := by decide +kernel
theorem dX12_fits_44 : decode cX12_fits 44 = .ok (.iconst 1, 1) := by decide +kernel
theorem dX12_fits_45 : decode cX12_fits 45 = .ok (.if_icmp .ne 7, 3) := by decide +kernel
theorem dX12_fits_48 : decode cX12_fits 48 = .ok (.iconst 1, 1) := by decide +kernel
theorem dX12_fits_49 : decode cX12_fits 49 = .ok (.goto 4, 3) := by decide +kernel
theorem dX12_fits_52 : decode cX12_fits 52 = .ok (.iconst 0, 1) := by decide +kernel
theorem dX12_fits_53 : decode cX12_fits 53 = .ok (.if_icmp .ne 7, 3) := by decide +kernel
theorem dX12_fits_56 : decode cX12_fits 56 = .ok (.iconst 1, 1) := by decide +kernel
theorem dX12_fits_57 : decode cX12_fits 57 = .ok (.goto 4, 3) := by decide +kernel
theorem dX12_fits_60 : decode cX12_fits 60 = .ok (.iconst 0, 1) := by decide +kernel
theorem dX12_fits_61 : decode cX12_fits 61 = .ok (.istore_n 3, 1) := by decide +kernel
theorem dX12_fits_62 : decode cX12_fits 62 = .ok (.iinc 4 1, 3) := by decide +kernel
theorem dX12_fits_65 : decode cX12_fits 65 = .ok (.goto (-60), 3) := by decide +kernel
theorem dX12_fits_68 : decode cX12_fits 68 = .ok (.iload_n 3, 1) := by decide +kernel
theorem dX12_fits_69 : decode cX12_fits 69 = .ok (.ireturn, 1) := by decide +kernel
theorem dX12_ways_0 : decode cX12_ways 0 = .ok (.iload_n 1, 1) := by decide +kernel
theorem dX12_ways_1 : decode cX12_ways 1 = .ok (.iconst 0, 1) := by decide +kernel
theorem dX12_ways_2 : decode cX12_ways 2 = .ok (.iconst 1, 1) := by decide +kernel
theorem dX12_ways_3 : decode cX12_ways 3 = .ok (.invokestatic 51, 3) := by decide +kernel
theorem dX12_ways_6 : decode cX12_ways 6 = .ok (.ifCond .ne 5, 3) := by decide +kernel
theorem dX12_ways_9 : decode cX12_ways 9 = .ok (.iconst (-1), 1) := by decide +kernel
theorem dX12_ways_10 : decode cX12_ways 10 = .ok (.ireturn, 1) := by decide +kernel
theorem dX12_ways_11 : decode cX12_ways 11 = .ok (.iconst 0, 1) := by decide +kernel
theorem dX12_ways_12 : decode cX12_ways 12 = .ok (.istore_n 2, 1) := by decide +kernel
theorem dX12_ways_13 : decode cX12_ways 13 = .ok (.bipush (-9), 2) := by decide +kernel
theorem dX12_ways_15 : decode cX12_ways 15 = .ok (.istore_n 3, 1) := by decide +kernel
theorem dX12_ways_16 : decode cX12_ways 16 = .ok (.bipush 12, 2) := by decide +kernel
theorem dX12_ways_18 : decode cX12_ways 18 = .ok (.istore 4, 2) := by decide +kernel
theorem dX12_ways_20 : decode cX12_ways 20 = .ok (.iload 4, 2) := by decide +kernel
theorem dX12_ways_22 : decode cX12_ways 22 = .ok (.iconst 1, 1) := by decide +kernel
theorem dX12_ways_23 : decode cX12_ways 23 = .ok (.if_icmp .le 47, 3) := by decide +kernel
theorem dX12_ways_26 : decode cX12_ways 26 = .ok (.bipush 11, 2) := by decide +kernel
theorem dX12_ways_28 : decode cX12_ways 28 = .ok (.istore 5, 2) := by decide +kernel
theorem dX12_ways_30 : decode cX12_ways 30 = .ok (.iload 5, 2) := by decide +kernel
theorem dX12_ways_32 : decode cX12_ways 32 = .ok (.ifCond .lt 32, 3) := by decide +kernel
theorem dX12_ways_35 : decode cX12_ways 35 = .ok (.aload_n 0, 1) := by decide +kernel
theorem dX12_ways_36 : decode cX12_ways 36 = .ok (.iload 4, 2) := by decide +kernel
theorem dX12_ways_38 : decode cX12_ways 38 = .ok (.iload 5, 2) := by decide +kernel
theorem dX12_ways_40 : decode cX12_ways 40 = .ok (.invokevirtual 167, 3) := by decide +kernel
theorem dX12_ways_43 : decode cX12_ways 43 = .ok (.ifCond .eq 15, 3) := by decide +kernel
theorem dX12_ways_46 : decode cX12_ways 46 = .ok (.iinc 2 1, 3) := by decide +kernel
theorem dX12_ways_49 : decode cX12_ways 49 = .ok (.bipush 100, 2) := by decide +kernel
theorem dX12_ways_51 : decode cX12_ways 51 = .ok (.iload 4, 2) := by decide +kernel
theorem dX12_ways_53 : decode cX12_ways 53 = .ok (.imul, 1) := by decide +kernel
theorem dX12_ways_54 : decode cX12_ways 54 = .ok (.iload 5, 2) := by decide +kernel
theorem dX12_ways_56 : decode cX12_ways 56 = .ok (.iadd, 1) := by decide +kernel
theorem dX12_ways_57 : decode cX12_ways 57 = .ok (.istore_n 3, 1) := by decide +kernel
theorem dX12_ways_58 : decode cX12_ways 58 = .ok (.iinc 5 (-1), 3) := by decide +kernel
theorem dX12_ways_61 : decode cX12_ways 61 = .ok (.goto (-31), 3) := by decide +kernel
theorem dX12_ways_64 : decode cX12_ways 64 = .ok (.iinc 4 (-1), 3) := by decide +kernel
theorem dX12_ways_67 : decode cX12_ways 67 = .ok (.goto (-47), 3) := by decide +kernel
theorem dX12_ways_70 : decode cX12_ways 70 = .ok (.iload_n 1, 1) := by decide +kernel
theorem dX12_ways_71 : decode cX12_ways 71 = .ok (.ifCond .ne 7, 3) := by decide +kernel
theorem dX12_ways_74 : decode cX12_ways 74 = .ok (.iload_n 2, 1) := by decide +kernel
theorem dX12_ways_75 : decode cX12_ways 75 = .ok (.goto 4, 3) := by decide +kernel
theorem dX12_ways_78 : decode cX12_ways 78 = .ok (.iload_n 3, 1) := by decide +kernel
theorem dX12_ways_79 : decode cX12_ways 79 = .ok (.ireturn, 1) := by decide +kernel
theorem dX12_look_0 : decode cX12_look 0 = .ok (.iload_n 1, 1) := by decide +kernel
theorem dX12_look_1 : decode cX12_look 1 = .ok (.iconst 1, 1) := by decide +kernel
theorem dX12_look_2 : decode cX12_look 2 = .ok (.iconst 4, 1) := by decide +kernel
theorem dX12_look_3 : decode cX12_look 3 = .ok (.invokestatic 51, 3) := by decide +kernel
theorem dX12_look_6 : decode cX12_look 6 = .ok (.ifCond .ne 5, 3) := by decide +kernel
theorem dX12_look_9 : decode cX12_look 9 = .ok (.iconst (-1), 1) := by decide +kernel
theorem dX12_look_10 : decode cX12_look 10 = .ok (.ireturn, 1) := by decide +kernel
theorem dX12_look_11 : decode cX12_look 11 = .ok (.aload_n 0, 1) := by decide +kernel
theorem dX12_look_12 : decode cX12_look 12 = .ok (.iconst 0, 1) := by decide +kernel
theorem dX12_look_13 : decode cX12_look 13 = .ok (.invokevirtual 170, 3) := by decide +kernel
theorem dX12_look_16 : decode cX12_look 16 = .ok (.istore_n 2, 1) := by decide +kernel
theorem dX12_look_17 : decode cX12_look 17 = .ok (.bipush (-9), 2) := by decide +kernel
theorem dX12_look_19 : decode cX12_look 19 = .ok (.istore_n 3, 1) := by decide +kernel
theorem dX12_look_20 : decode cX12_look 20 = .ok (.iconst 0, 1) := by decide +kernel
theorem dX12_look_21 : decode cX12_look 21 = .ok (.istore 4, 2) := by decide +kernel
theorem dX12_look_23 : decode cX12_look 23 = .ok (.iconst 0, 1) := by decide +kernel
theorem dX12_look_24 : decode cX12_look 24 = .ok (.istore 5, 2) := by decide +kernel
theorem dX12_look_26 : decode cX12_look 26 = .ok (.iload 5, 2) := by decide +kernel
theorem dX12_look_28 : decode cX12_look 28 = .ok (.bipush 40, 2) := by decide +kernel
theorem dX12_look_30 : decode cX12_look 30 = .ok (.if_icmp .gt 149, 3) := by decide +kernel
theorem dX12_look_33 : decode cX12_look 33 = .ok (.iload_n 2, 1) := by decide +kernel
theorem dX12_look_34 : decode cX12_look 34 = .ok (.iconst 1, 1) := by decide +kernel
theorem dX12_look_35 : decode cX12_look 35 = .ok (.if_icmp .le 144, 3) := by decide +kernel
theorem dX12_look_38 : decode cX12_look 38 = .ok (.iconst 0, 1) := by decide +kernel
theorem dX12_look_39 : decode cX12_look 39 = .ok (.istore 6, 2) := by decide +kernel
theorem dX12_look_41 : decode cX12_look 41 = .ok (.iconst 2, 1) := by decide +kernel
theorem dX12_look_42 : decode cX12_look 42 = .ok (.istore 7, 2) := by decide +kernel
theorem dX12_look_44 : decode cX12_look 44 = .ok (.iload 7, 2) := by decide +kernel
theorem dX12_look_46 : decode cX12_look 46 = .ok (.bipush 13, 2) := by decide +kernel
theorem dX12_look_48 : decode cX12_look 48 = .ok (.if_icmp .ge 59, 3) := by decide +kernel
theorem dX12_look_51 : decode cX12_look 51 = .ok (.iconst 0, 1) := by decide +kernel
theorem dX12_look_52 : decode cX12_look 52 = .ok (.istore 8, 2) := by decide +kernel
theorem dX12_look_54 : decode cX12_look 54 = .ok (.iload 8, 2) := by decide +kernel
theorem dX12_look_56 : decode cX12_look 56 = .ok (.bipush 12, 2) := by decide +kernel
theorem dX12_look_58 : decode cX12_look 58 = .ok (.if_icmp .ge 43, 3) := by decide +kernel
theorem dX12_look_61 : decode cX12_look 61 = .ok (.iload 6, 2) := by decide +kernel
theorem dX12_look_63 : decode cX12_look 63 = .ok (.aload_n 0, 1) := by decide +kernel
theorem dX12_look_64 : decode cX12_look 64 = .ok (.iload 7, 2) := by decide +kernel
theorem dX12_look_66 : decode cX12_look 66 = .ok (.iload 8, 2) := by decide +kernel
theorem dX12_look_68 : decode cX12_look 68 = .ok (.invokevirtual 167, 3) := by decide +kernel
theorem dX12_look_71 : decode cX12_look 71 = .ok (.ifCond .eq 20, 3) := by decide +kernel
theorem dX12_look_74 : decode cX12_look 74 = .ok (.iload 7, 2) := by decide +kernel
theorem dX12_look_76 : decode cX12_look 76 = .ok (.iload 8, 2) := by decide +kernel
theorem dX12_look_78 : decode cX12_look 78 = .ok (.iload_n 1, 1) := by decide +kernel
theorem dX12_look_79 : decode cX12_look 79 = .ok (.iload 5, 2) := by decide +kernel
theorem dX12_look_81 : decode cX12_look 81 = .ok (.invokestatic 163, 3) := by decide +kernel
theorem dX12_look_84 : decode cX12_look 84 = .ok (.ifCond .eq 7, 3) := by decide +kernel
theorem dX12_look_87 : decode cX12_look 87 = .ok (.iconst 1, 1) := by decide +kernel
theorem dX12_look_88 : decode cX12_look 88 = .ok (.goto 4, 3) := by decide +kernel
theorem dX12_look_91 : decode cX12_look 91 = .ok (.iconst 0, 1) := by decide +kernel
theorem dX12_look_92 : decode cX12_look 92 = .ok (.iadd, 1) := by decide +kernel
theorem dX12_look_93 : decode cX12_look 93 = .ok (.istore 6, 2) := by decide +kernel
theorem dX12_look_95 : decode cX12_look 95 = .ok (.iinc 8 1, 3) := by decide +kernel
theorem dX12_look_98 : decode cX12_look 98 = .ok (.goto (-44), 3) := by decide +kernel
theorem dX12_look_101 : decode cX12_look 101 = .ok (.iinc 7 1, 3) := by decide +kernel
theorem dX12_look_104 : decode cX12_look 104 = .ok (.goto (-60), 3) := by decide +kernel
theorem dX12_look_107 : decode cX12_look 107 = .ok (.iload 6, 2) := by decide +kernel
theorem dX12_look_109 : decode cX12_look 109 = .ok (.iload_n 2, 1) := by decide +kernel
theorem dX12_look_110 : decode cX12_look 110 = .ok (.iload 6, 2) := by decide +kernel
theorem dX12_look_112 : decode cX12_look 112 = .ok (.isub, 1) := by decide +kernel
theorem dX12_look_113 : decode cX12_look 113 = .ok (.if_icmp .le 8, 3) := by decide +kernel
theorem dX12_look_116 : decode cX12_look 116 = .ok (.iload 6, 2) := by decide +kernel
theorem dX12_look_118 : decode cX12_look 118 = .ok (.goto 7, 3) := by decide +kernel
theorem dX12_look_121 : decode cX12_look 121 = .ok (.iload_n 2, 1) := by decide +kernel
theorem dX12_look_122 : decode cX12_look 122 = .ok (.iload 6, 2) := by decide +kernel
theorem dX12_look_124 : decode cX12_look 124 = .ok (.isub, 1) := by decide +kernel
theorem dX12_look_125 : decode cX12_look 125 = .ok (.istore 7, 2) := by decide +kernel
theorem dX12_look_127 : decode cX12_look 127 = .ok (.iload_n 3, 1) := by decide +kernel
theorem dX12_look_128 : decode cX12_look 128 = .ok (.bipush (-9), 2) := by decide +kernel
theorem dX12_look_130 : decode cX12_look 130 = .ok (.if_icmp .eq 10, 3) := by decide +kernel
theorem dX12_look_133 : decode cX12_look 133 = .ok (.iload 7, 2) := by decide +kernel
theorem dX12_look_135 : decode cX12_look 135 = .ok (.iload 4, 2) := by decide +kernel
theorem dX12_look_137 : decode cX12_look 137 = .ok (.if_icmp .ge 7, 3) := by decide +kernel
theorem dX12_look_140 : decode cX12_look 140 = .ok (.iconst 1, 1) := by decide +kernel
theorem dX12_look_141 : decode cX12_look 141 = .ok (.goto 4, 3) := by decide +kernel
theorem dX12_look_144 : decode cX12_look 144 = .ok (.iconst 0, 1) := by decide +kernel
theorem dX12_look_145 : decode cX12_look 145 = .ok (.istore 8, 2) := by decide +kernel
theorem dX12_look_147 : decode cX12_look 147 = .ok (.iload 8, 2) := by decide +kernel
theorem dX12_look_149 : decode cX12_look 149 = .ok (.ifCond .eq 8, 3) := by decide +kernel
theorem dX12_look_152 : decode cX12_look 152 = .ok (.iload 5, 2) := by decide +kernel
theorem dX12_look_154 : decode cX12_look 154 = .ok (.goto 4, 3) := by decide +kernel
theorem dX12_look_157 : decode cX12_look 157 = .ok (.iload_n 3, 1) := by decide +kernel
theorem dX12_look_158 : decode cX12_look 158 = .ok (.istore_n 3, 1) := by decide +kernel
theorem dX12_look_159 : decode cX12_look 159 = .ok (.iload 8, 2) := by decide +kernel
theorem dX12_look_161 : decode cX12_look 161 = .ok (.ifCond .eq 8, 3) := by decide +kernel
theorem dX12_look_164 : decode cX12_look 164 = .ok (.iload 7, 2) := by decide +kernel
theorem dX12_look_166 : decode cX12_look 166 = .ok (.goto 5, 3) := by decide +kernel
theorem dX12_look_169 : decode cX12_look 169 = .ok (.iload 4, 2) := by decide +kernel
theorem dX12_look_171 : decode cX12_look 171 = .ok (.istore 4, 2) := by decide +kernel
theorem dX12_look_173 : decode cX12_look 173 = .ok (.iinc 5 1, 3) := by decide +kernel
theorem dX12_look_176 : decode cX12_look 176 = .ok (.goto (-150), 3) := by decide +kernel
theorem dX12_look_179 : decode cX12_look 179 = .ok (.iload_n 3, 1) := by decide +kernel
theorem dX12_look_180 : decode cX12_look 180 = .ok (.ireturn, 1) := by decide +kernel
theorem dX12_rate_0 : decode cX12_rate 0 = .ok (.iload_n 1, 1) := by decide +kernel
theorem dX12_rate_1 : decode cX12_rate 1 = .ok (.iconst 0, 1) := by decide +kernel
theorem dX12_rate_2 : decode cX12_rate 2 = .ok (.iconst 5, 1) := by decide +kernel
theorem dX12_rate_3 : decode cX12_rate 3 = .ok (.invokestatic 51, 3) := by decide +kernel
theorem dX12_rate_6 : decode cX12_rate 6 = .ok (.ifCond .eq 11, 3) := by decide +kernel
theorem dX12_rate_9 : decode cX12_rate 9 = .ok (.aload_n 0, 1) := by decide +kernel
theorem dX12_rate_10 : decode cX12_rate 10 = .ok (.iload_n 2, 1) := by decide +kernel
theorem dX12_rate_11 : decode cX12_rate 11 = .ok (.invokevirtual 127, 3) := by decide +kernel
theorem dX12_rate_14 : decode cX12_rate 14 = .ok (.ifCond .ne 6, 3) := by decide +kernel
theorem dX12_rate_17 : decode cX12_rate 17 = .ok (.ldc 173, 2) := by decide +kernel
theorem dX12_rate_19 : decode cX12_rate 19 = .ok (.ireturn, 1) := by decide +kernel
theorem dX12_rate_20 : decode cX12_rate 20 = .ok (.aload_n 0, 1) := by decide +kernel
theorem dX12_rate_21 : decode cX12_rate 21 = .ok (.getfield 19, 3) := by decide +kernel
theorem dX12_rate_24 : decode cX12_rate 24 = .ok (.bipush 16, 2) := by decide +kernel
theorem dX12_rate_26 : decode cX12_rate 26 = .ok (.iload_n 2, 1) := by decide +kernel
theorem dX12_rate_27 : decode cX12_rate 27 = .ok (.iadd, 1) := by decide +kernel
theorem dX12_rate_28 : decode cX12_rate 28 = .ok (.iaload, 1) := by decide +kernel
theorem dX12_rate_29 : decode cX12_rate 29 = .ok (.istore_n 3, 1) := by decide +kernel
theorem dX12_rate_30 : decode cX12_rate 30 = .ok (.aload_n 0, 1) := by decide +kernel
theorem dX12_rate_31 : decode cX12_rate 31 = .ok (.dup, 1) := by decide +kernel
theorem dX12_rate_32 : decode cX12_rate 32 = .ok (.getfield 174, 3) := by decide +kernel
theorem dX12_rate_35 : decode cX12_rate 35 = .ok (.lconst 1, 1) := by decide +kernel
theorem dX12_rate_36 : decode cX12_rate 36 = .ok (.ladd, 1) := by decide +kernel
theorem dX12_rate_37 : decode cX12_rate 37 = .ok (.putfield 174, 3) := by decide +kernel
theorem dX12_rate_40 : decode cX12_rate 40 = .ok (.iload_n 1, 1) := by decide +kernel
theorem dX12_rate_41 : decode cX12_rate 41 = .ok (.tableswitch 144 1 5 #[35, 56, 77, 100, 123], 35) := by decide +kernel
theorem dX12_rate_76 : decode cX12_rate 76 = .ok (.aload_n 0, 1) := by decide +kernel
theorem dX12_rate_77 : decode cX12_rate 77 = .ok (.dup, 1) := by decide +kernel
theorem dX12_rate_78 : decode cX12_rate 78 = .ok (.getfield 174, 3) := by decide +kernel
theorem dX12_rate_81 : decode cX12_rate 81 = .ok (.ldc2_w 178, 3) := by decide +kernel
theorem dX12_rate_84 : decode cX12_rate 84 = .ok (.ladd, 1) := by decide +kernel
theorem dX12_rate_85 : decode cX12_rate 85 = .ok (.putfield 174, 3) := by decide +kernel
theorem dX12_rate_88 : decode cX12_rate 88 = .ok (.iload_n 3, 1) := by decide +kernel
theorem dX12_rate_89 : decode cX12_rate 89 = .ok (.aload_n 0, 1) := by decide +kernel
theorem dX12_rate_90 : decode cX12_rate 90 = .ok (.getfield 16, 3) := by decide +kernel
theorem dX12_rate_93 : decode cX12_rate 93 = .ok (.iload_n 2, 1) := by decide +kernel
theorem dX12_rate_94 : decode cX12_rate 94 = .ok (.iaload, 1) := by decide +kernel
theorem dX12_rate_95 : decode cX12_rate 95 = .ok (.iadd, 1) := by decide +kernel
theorem dX12_rate_96 : decode cX12_rate 96 = .ok (.ireturn, 1) := by decide +kernel
theorem dX12_rate_97 : decode cX12_rate 97 = .ok (.aload_n 0, 1) := by decide +kernel
theorem dX12_rate_98 : decode cX12_rate 98 = .ok (.dup, 1) := by decide +kernel
theorem dX12_rate_99 : decode cX12_rate 99 = .ok (.getfield 174, 3) := by decide +kernel
theorem dX12_rate_102 : decode cX12_rate 102 = .ok (.ldc2_w 180, 3) := by decide +kernel
theorem dX12_rate_105 : decode cX12_rate 105 = .ok (.ladd, 1) := by decide +kernel
theorem dX12_rate_106 : decode cX12_rate 106 = .ok (.putfield 174, 3) := by decide +kernel
theorem dX12_rate_109 : decode cX12_rate 109 = .ok (.iload_n 3, 1) := by decide +kernel
theorem dX12_rate_110 : decode cX12_rate 110 = .ok (.aload_n 0, 1) := by decide +kernel
theorem dX12_rate_111 : decode cX12_rate 111 = .ok (.getfield 19, 3) := by decide +kernel
theorem dX12_rate_114 : decode cX12_rate 114 = .ok (.iconst 2, 1) := by decide +kernel
theorem dX12_rate_115 : decode cX12_rate 115 = .ok (.iaload, 1) := by decide +kernel
theorem dX12_rate_116 : decode cX12_rate 116 = .ok (.isub, 1) := by decide +kernel
theorem dX12_rate_117 : decode cX12_rate 117 = .ok (.ireturn, 1) := by decide +kernel
theorem dX12_rate_118 : decode cX12_rate 118 = .ok (.aload_n 0, 1) := by decide +kernel
theorem dX12_rate_119 : decode cX12_rate 119 = .ok (.dup, 1) := by decide +kernel
theorem dX12_rate_120 : decode cX12_rate 120 = .ok (.getfield 174, 3) := by decide +kernel
theorem dX12_rate_123 : decode cX12_rate 123 = .ok (.ldc2_w 182, 3) := by decide +kernel
theorem dX12_rate_126 : decode cX12_rate 126 = .ok (.ladd, 1) := by decide +kernel
theorem dX12_rate_127 : decode cX12_rate 127 = .ok (.putfield 174, 3) := by decide +kernel
theorem dX12_rate_130 : decode cX12_rate 130 = .ok (.iconst 2, 1) := by decide +kernel
theorem dX12_rate_131 : decode cX12_rate 131 = .ok (.iload_n 3, 1) := by decide +kernel
theorem dX12_rate_132 : decode cX12_rate 132 = .ok (.aload_n 0, 1) := by decide +kernel
theorem dX12_rate_133 : decode cX12_rate 133 = .ok (.getfield 16, 3) := by decide +kernel
theorem dX12_rate_136 : decode cX12_rate 136 = .ok (.iload_n 2, 1) := by decide +kernel
theorem dX12_rate_137 : decode cX12_rate 137 = .ok (.iaload, 1) := by decide +kernel
theorem dX12_rate_138 : decode cX12_rate 138 = .ok (.iadd, 1) := by decide +kernel
theorem dX12_rate_139 : decode cX12_rate 139 = .ok (.imul, 1) := by decide +kernel
theorem dX12_rate_140 : decode cX12_rate 140 = .ok (.ireturn, 1) := by decide +kernel
theorem dX12_rate_141 : decode cX12_rate 141 = .ok (.aload_n 0, 1) := by decide +kernel
theorem dX12_rate_142 : decode cX12_rate 142 = .ok (.dup, 1) := by decide +kernel
theorem dX12_rate_143 : decode cX12_rate 143 = .ok (.getfield 174, 3) := by decide +kernel
theorem dX12_rate_146 : decode cX12_rate 146 = .ok (.ldc2_w 184, 3) := by decide +kernel
theorem dX12_rate_149 : decode cX12_rate 149 = .ok (.ladd, 1) := by decide +kernel
theorem dX12_rate_150 : decode cX12_rate 150 = .ok (.putfield 174, 3) := by decide +kernel
theorem dX12_rate_153 : decode cX12_rate 153 = .ok (.iload_n 3, 1) := by decide +kernel
theorem dX12_rate_154 : decode cX12_rate 154 = .ok (.aload_n 0, 1) := by decide +kernel
theorem dX12_rate_155 : decode cX12_rate 155 = .ok (.getfield 19, 3) := by decide +kernel
theorem dX12_rate_158 : decode cX12_rate 158 = .ok (.iconst 2, 1) := by decide +kernel
theorem dX12_rate_159 : decode cX12_rate 159 = .ok (.iaload, 1) := by decide +kernel
theorem dX12_rate_160 : decode cX12_rate 160 = .ok (.isub, 1) := by decide +kernel
theorem dX12_rate_161 : decode cX12_rate 161 = .ok (.iload_n 2, 1) := by decide +kernel
theorem dX12_rate_162 : decode cX12_rate 162 = .ok (.iadd, 1) := by decide +kernel
theorem dX12_rate_163 : decode cX12_rate 163 = .ok (.ireturn, 1) := by decide +kernel
theorem dX12_rate_164 : decode cX12_rate 164 = .ok (.aload_n 0, 1) := by decide +kernel
theorem dX12_rate_165 : decode cX12_rate 165 = .ok (.dup, 1) := by decide +kernel
theorem dX12_rate_166 : decode cX12_rate 166 = .ok (.getfield 174, 3) := by decide +kernel
theorem dX12_rate_169 : decode cX12_rate 169 = .ok (.ldc2_w 186, 3) := by decide +kernel
theorem dX12_rate_172 : decode cX12_rate 172 = .ok (.ladd, 1) := by decide +kernel
theorem dX12_rate_173 : decode cX12_rate 173 = .ok (.putfield 174, 3) := by decide +kernel
theorem dX12_rate_176 : decode cX12_rate 176 = .ok (.iload_n 3, 1) := by decide +kernel
theorem dX12_rate_177 : decode cX12_rate 177 = .ok (.aload_n 0, 1) := by decide +kernel
theorem dX12_rate_178 : decode cX12_rate 178 = .ok (.getfield 19, 3) := by decide +kernel
theorem dX12_rate_181 : decode cX12_rate 181 = .ok (.iconst 0, 1) := by decide +kernel
theorem dX12_rate_182 : decode cX12_rate 182 = .ok (.iaload, 1) := by decide +kernel
theorem dX12_rate_183 : decode cX12_rate 183 = .ok (.iadd, 1) := by decide +kernel
theorem dX12_rate_184 : decode cX12_rate 184 = .ok (.ireturn, 1) := by decide +kernel
theorem dX12_rate_185 : decode cX12_rate 185 = .ok (.iload_n 3, 1) := by decide +kernel
theorem dX12_rate_186 : decode cX12_rate 186 = .ok (.ireturn, 1) := by decide +kernel
theorem dX12_keep_0 : decode cX12_keep 0 = .ok (.iload_n 1, 1) := by decide +kernel
theorem dX12_keep_1 : decode cX12_keep 1 = .ok (.iconst 0, 1) := by decide +kernel
theorem dX12_keep_2 : decode cX12_keep 2 = .ok (.iconst 1, 1) := by decide +kernel
theorem dX12_keep_3 : decode cX12_keep 3 = .ok (.invokestatic 51, 3) := by decide +kernel
theorem dX12_keep_6 : decode cX12_keep 6 = .ok (.ifCond .ne 5, 3) := by decide +kernel
theorem dX12_keep_9 : decode cX12_keep 9 = .ok (.iconst (-1), 1) := by decide +kernel
theorem dX12_keep_10 : decode cX12_keep 10 = .ok (.ireturn, 1) := by decide +kernel
theorem dX12_keep_11 : decode cX12_keep 11 = .ok (.aload_n 0, 1) := by decide +kernel
theorem dX12_keep_12 : decode cX12_keep 12 = .ok (.getfield 31, 3) := by decide +kernel
theorem dX12_keep_15 : decode cX12_keep 15 = .ok (.iload_n 1, 1) := by decide +kernel
theorem dX12_keep_16 : decode cX12_keep 16 = .ok (.iconst 1, 1) := by decide +kernel
theorem dX12_keep_17 : decode cX12_keep 17 = .ok (.bastore, 1) := by decide +kernel
theorem dX12_keep_18 : decode cX12_keep 18 = .ok (.aload_n 0, 1) := by decide +kernel
theorem dX12_keep_19 : decode cX12_keep 19 = .ok (.getfield 19, 3) := by decide +kernel
theorem dX12_keep_22 : decode cX12_keep 22 = .ok (.iconst 0, 1) := by decide +kernel
theorem dX12_keep_23 : decode cX12_keep 23 = .ok (.aload_n 0, 1) := by decide +kernel
theorem dX12_keep_24 : decode cX12_keep 24 = .ok (.getfield 28, 3) := by decide +kernel
theorem dX12_keep_27 : decode cX12_keep 27 = .ok (.bipush 22, 2) := by decide +kernel
theorem dX12_keep_29 : decode cX12_keep 29 = .ok (.iload_n 1, 1) := by decide +kernel
theorem dX12_keep_30 : decode cX12_keep 30 = .ok (.imul, 1) := by decide +kernel
theorem dX12_keep_31 : decode cX12_keep 31 = .ok (.bipush 22, 2) := by decide +kernel
theorem dX12_keep_33 : decode cX12_keep 33 = .ok (.invokestatic 119, 3) := by decide +kernel
theorem dX12_keep_36 : decode cX12_keep 36 = .ok (.aload_n 0, 1) := by decide +kernel
theorem dX12_keep_37 : decode cX12_keep 37 = .ok (.getfield 19, 3) := by decide +kernel
theorem dX12_keep_40 : decode cX12_keep 40 = .ok (.iconst 0, 1) := by decide +kernel
theorem dX12_keep_41 : decode cX12_keep 41 = .ok (.iaload, 1) := by decide +kernel
theorem dX12_keep_42 : decode cX12_keep 42 = .ok (.ireturn, 1) := by decide +kernel
theorem dX12_back_0 : decode cX12_back 0 = .ok (.iload_n 1, 1) := by decide +kernel
theorem dX12_back_1 : decode cX12_back 1 = .ok (.iconst 0, 1) := by decide +kernel
theorem dX12_back_2 : decode cX12_back 2 = .ok (.iconst 1, 1) := by decide +kernel
theorem dX12_back_3 : decode cX12_back 3 = .ok (.invokestatic 51, 3) := by decide +kernel
theorem dX12_back_6 : decode cX12_back 6 = .ok (.ifCond .ne 5, 3) := by decide +kernel
theorem dX12_back_9 : decode cX12_back 9 = .ok (.iconst (-1), 1) := by decide +kernel
theorem dX12_back_10 : decode cX12_back 10 = .ok (.ireturn, 1) := by decide +kernel
theorem dX12_back_11 : decode cX12_back 11 = .ok (.aload_n 0, 1) := by decide +kernel
theorem dX12_back_12 : decode cX12_back 12 = .ok (.getfield 31, 3) := by decide +kernel
theorem dX12_back_15 : decode cX12_back 15 = .ok (.iload_n 1, 1) := by decide +kernel
theorem dX12_back_16 : decode cX12_back 16 = .ok (.baload, 1) := by decide +kernel
theorem dX12_back_17 : decode cX12_back 17 = .ok (.ifCond .ne 6, 3) := by decide +kernel
theorem dX12_back_20 : decode cX12_back 20 = .ok (.bipush (-2), 2) := by decide +kernel
theorem dX12_back_22 : decode cX12_back 22 = .ok (.ireturn, 1) := by decide +kernel
theorem dX12_back_23 : decode cX12_back 23 = .ok (.aload_n 0, 1) := by decide +kernel
theorem dX12_back_24 : decode cX12_back 24 = .ok (.getfield 28, 3) := by decide +kernel
theorem dX12_back_27 : decode cX12_back 27 = .ok (.bipush 22, 2) := by decide +kernel
theorem dX12_back_29 : decode cX12_back 29 = .ok (.iload_n 1, 1) := by decide +kernel
theorem dX12_back_30 : decode cX12_back 30 = .ok (.imul, 1) := by decide +kernel
theorem dX12_back_31 : decode cX12_back 31 = .ok (.aload_n 0, 1) := by decide +kernel
theorem dX12_back_32 : decode cX12_back 32 = .ok (.getfield 19, 3) := by decide +kernel
theorem dX12_back_35 : decode cX12_back 35 = .ok (.iconst 0, 1) := by decide +kernel
theorem dX12_back_36 : decode cX12_back 36 = .ok (.bipush 22, 2) := by decide +kernel
theorem dX12_back_38 : decode cX12_back 38 = .ok (.invokestatic 119, 3) := by decide +kernel
theorem dX12_back_41 : decode cX12_back 41 = .ok (.aload_n 0, 1) := by decide +kernel
theorem dX12_back_42 : decode cX12_back 42 = .ok (.iconst 0, 1) := by decide +kernel
theorem dX12_back_43 : decode cX12_back 43 = .ok (.putfield 101, 3) := by decide +kernel
theorem dX12_back_46 : decode cX12_back 46 = .ok (.aload_n 0, 1) := by decide +kernel
theorem dX12_back_47 : decode cX12_back 47 = .ok (.getfield 19, 3) := by decide +kernel
theorem dX12_back_50 : decode cX12_back 50 = .ok (.iconst 0, 1) := by decide +kernel
theorem dX12_back_51 : decode cX12_back 51 = .ok (.iaload, 1) := by decide +kernel
theorem dX12_back_52 : decode cX12_back 52 = .ok (.ireturn, 1) := by decide +kernel
theorem dX12_count_0 : decode cX12_count 0 = .ok (.iload_n 1, 1) := by decide +kernel
theorem dX12_count_1 : decode cX12_count 1 = .ok (.ifCond .ne 10, 3) := by decide +kernel
theorem dX12_count_4 : decode cX12_count 4 = .ok (.aload_n 0, 1) := by decide +kernel
theorem dX12_count_5 : decode cX12_count 5 = .ok (.getfield 47, 3) := by decide +kernel
theorem dX12_count_8 : decode cX12_count 8 = .ok (.goto 28, 3) := by decide +kernel
theorem dX12_count_11 : decode cX12_count 11 = .ok (.iload_n 1, 1) := by decide +kernel
theorem dX12_count_12 : decode cX12_count 12 = .ok (.iconst 1, 1) := by decide +kernel
theorem dX12_count_13 : decode cX12_count 13 = .ok (.if_icmp .ne 10, 3) := by decide +kernel
theorem dX12_count_16 : decode cX12_count 16 = .ok (.aload_n 0, 1) := by decide +kernel
theorem dX12_count_17 : decode cX12_count 17 = .ok (.getfield 104, 3) := by decide +kernel
theorem dX12_count_20 : decode cX12_count 20 = .ok (.goto 16, 3) := by decide +kernel
theorem dX12_count_23 : decode cX12_count 23 = .ok (.iload_n 1, 1) := by decide +kernel
theorem dX12_count_24 : decode cX12_count 24 = .ok (.iconst 2, 1) := by decide +kernel
theorem dX12_count_25 : decode cX12_count 25 = .ok (.if_icmp .ne 10, 3) := by decide +kernel
theorem dX12_count_28 : decode cX12_count 28 = .ok (.aload_n 0, 1) := by decide +kernel
theorem dX12_count_29 : decode cX12_count 29 = .ok (.getfield 55, 3) := by decide +kernel
theorem dX12_count_32 : decode cX12_count 32 = .ok (.goto 4, 3) := by decide +kernel
theorem dX12_count_35 : decode cX12_count 35 = .ok (.iconst (-1), 1) := by decide +kernel
theorem dX12_count_36 : decode cX12_count 36 = .ok (.ireturn, 1) := by decide +kernel
theorem dX12_trace_0 : decode cX12_trace 0 = .ok (.aload_n 0, 1) := by decide +kernel
theorem dX12_trace_1 : decode cX12_trace 1 = .ok (.getfield 174, 3) := by decide +kernel
theorem dX12_trace_4 : decode cX12_trace 4 = .ok (.lreturn, 1) := by decide +kernel
