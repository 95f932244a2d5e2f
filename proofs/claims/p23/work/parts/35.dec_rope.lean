theorem dX11_init_0 : decode cX11_init 0 = .ok (.aload_n 0, 1) := by decide +kernel
theorem dX11_init_1 : decode cX11_init 1 = .ok (.invokespecial 1, 3) := by decide +kernel
theorem dX11_init_4 : decode cX11_init 4 = .ok (.aload_n 0, 1) := by decide +kernel
theorem dX11_init_5 : decode cX11_init 5 = .ok (.new 7, 3) := by decide +kernel
theorem dX11_init_8 : decode cX11_init 8 = .ok (.dup, 1) := by decide +kernel
theorem dX11_init_9 : decode cX11_init 9 = .ok (.invokespecial 9, 3) := by decide +kernel
theorem dX11_init_12 : decode cX11_init 12 = .ok (.putfield 10, 3) := by decide +kernel
theorem dX11_init_15 : decode cX11_init 15 = .ok (.aload_n 0, 1) := by decide +kernel
theorem dX11_init_16 : decode cX11_init 16 = .ok (.new 16, 3) := by decide +kernel
theorem dX11_init_19 : decode cX11_init 19 = .ok (.dup, 1) := by decide +kernel
theorem dX11_init_20 : decode cX11_init 20 = .ok (.invokespecial 18, 3) := by decide +kernel
theorem dX11_init_23 : decode cX11_init 23 = .ok (.putfield 19, 3) := by decide +kernel
theorem dX11_init_26 : decode cX11_init 26 = .ok (.aload_n 0, 1) := by decide +kernel
theorem dX11_init_27 : decode cX11_init 27 = .ok (.new 16, 3) := by decide +kernel
theorem dX11_init_30 : decode cX11_init 30 = .ok (.dup, 1) := by decide +kernel
theorem dX11_init_31 : decode cX11_init 31 = .ok (.invokespecial 18, 3) := by decide +kernel
theorem dX11_init_34 : decode cX11_init 34 = .ok (.putfield 23, 3) := by decide +kernel
theorem dX11_init_37 : decode cX11_init 37 = .ok (.aload_n 0, 1) := by decide +kernel
theorem dX11_init_38 : decode cX11_init 38 = .ok (.new 26, 3) := by decide +kernel
theorem dX11_init_41 : decode cX11_init 41 = .ok (.dup, 1) := by decide +kernel
theorem dX11_init_42 : decode cX11_init 42 = .ok (.invokespecial 28, 3) := by decide +kernel
theorem dX11_init_45 : decode cX11_init 45 = .ok (.putfield 29, 3) := by decide +kernel
theorem dX11_init_48 : decode cX11_init 48 = .ok (.aload_n 0, 1) := by decide +kernel
theorem dX11_init_49 : decode cX11_init 49 = .ok (.new 26, 3) := by decide +kernel
theorem dX11_init_52 : decode cX11_init 52 = .ok (.dup, 1) := by decide +kernel
theorem dX11_init_53 : decode cX11_init 53 = .ok (.invokespecial 28, 3) := by decide +kernel
theorem dX11_init_56 : decode cX11_init 56 = .ok (.putfield 33, 3) := by decide +kernel
theorem dX11_init_59 : decode cX11_init 59 = .ok (.aload_n 0, 1) := by decide +kernel
theorem dX11_init_60 : decode cX11_init 60 = .ok (.new 36, 3) := by decide +kernel
theorem dX11_init_63 : decode cX11_init 63 = .ok (.dup, 1) := by decide +kernel
theorem dX11_init_64 : decode cX11_init 64 = .ok (.invokespecial 38, 3) := by decide +kernel
theorem dX11_init_67 : decode cX11_init 67 = .ok (.putfield 39, 3) := by decide +kernel
theorem dX11_init_70 : decode cX11_init 70 = .ok (.aload_n 0, 1) := by decide +kernel
theorem dX11_init_71 : decode cX11_init 71 = .ok (.iconst 2, 1) := by decide +kernel
theorem dX11_init_72 : decode cX11_init 72 = .ok (.anewarray 26, 3) := by decide +kernel
theorem dX11_init_75 : decode cX11_init 75 = .ok (.dup, 1) := by decide +kernel
theorem dX11_init_76 : decode cX11_init 76 = .ok (.iconst 0, 1) := by decide +kernel
theorem dX11_init_77 : decode cX11_init 77 = .ok (.new 26, 3) := by decide +kernel
theorem dX11_init_80 : decode cX11_init 80 = .ok (.dup, 1) := by decide +kernel
theorem dX11_init_81 : decode cX11_init 81 = .ok (.invokespecial 28, 3) := by decide +kernel
theorem dX11_init_84 : decode cX11_init 84 = .ok (.aastore, 1) := by decide +kernel
theorem dX11_init_85 : decode cX11_init 85 = .ok (.dup, 1) := by decide +kernel
theorem dX11_init_86 : decode cX11_init 86 = .ok (.iconst 1, 1) := by decide +kernel
theorem dX11_init_87 : decode cX11_init 87 = .ok (.new 26, 3) := by decide +kernel
theorem dX11_init_90 : decode cX11_init 90 = .ok (.dup, 1) := by decide +kernel
theorem dX11_init_91 : decode cX11_init 91 = .ok (.invokespecial 28, 3) := by decide +kernel
theorem dX11_init_94 : decode cX11_init 94 = .ok (.aastore, 1) := by decide +kernel
theorem dX11_init_95 : decode cX11_init 95 = .ok (.putfield 43, 3) := by decide +kernel
theorem dX11_init_98 : decode cX11_init 98 = .ok (.aload_n 0, 1) := by decide +kernel
theorem dX11_init_99 : decode cX11_init 99 = .ok (.iconst 2, 1) := by decide +kernel
theorem dX11_init_100 : decode cX11_init 100 = .ok (.newarray .boolean, 2) := by decide +kernel
theorem dX11_init_102 : decode cX11_init 102 = .ok (.putfield 47, 3) := by decide +kernel
theorem dX11_init_105 : decode cX11_init 105 = .ok (.aload_n 0, 1) := by decide +kernel
theorem dX11_init_106 : decode cX11_init 106 = .ok (.new 51, 3) := by decide +kernel
theorem dX11_init_109 : decode cX11_init 109 = .ok (.dup, 1) := by decide +kernel
theorem dX11_init_110 : decode cX11_init 110 = .ok (.invokespecial 53, 3) := by decide +kernel
theorem dX11_init_113 : decode cX11_init 113 = .ok (.putfield 54, 3) := by decide +kernel
theorem dX11_init_116 : decode cX11_init 116 = .ok (.aload_n 0, 1) := by decide +kernel
theorem dX11_init_117 : decode cX11_init 117 = .ok (.bipush 6, 2) := by decide +kernel
theorem dX11_init_119 : decode cX11_init 119 = .ok (.anewarray 58, 3) := by decide +kernel
theorem dX11_init_122 : decode cX11_init 122 = .ok (.dup, 1) := by decide +kernel
theorem dX11_init_123 : decode cX11_init 123 = .ok (.iconst 0, 1) := by decide +kernel
theorem dX11_init_124 : decode cX11_init 124 = .ok (.new 58, 3) := by decide +kernel
theorem dX11_init_127 : decode cX11_init 127 = .ok (.dup, 1) := by decide +kernel
theorem dX11_init_128 : decode cX11_init 128 = .ok (.invokespecial 60, 3) := by decide +kernel
theorem dX11_init_131 : decode cX11_init 131 = .ok (.aastore, 1) := by decide +kernel
theorem dX11_init_132 : decode cX11_init 132 = .ok (.dup, 1) := by decide +kernel
theorem dX11_init_133 : decode cX11_init 133 = .ok (.iconst 1, 1) := by decide +kernel
theorem dX11_init_134 : decode cX11_init 134 = .ok (.new 61, 3) := by decide +kernel
theorem dX11_init_137 : decode cX11_init 137 = .ok (.dup, 1) := by decide +kernel
theorem dX11_init_138 : decode cX11_init 138 = .ok (.invokespecial 63, 3) := by decide +kernel
theorem dX11_init_141 : decode cX11_init 141 = .ok (.aastore, 1) := by decide +kernel
theorem dX11_init_142 : decode cX11_init 142 = .ok (.dup, 1) := by decide +kernel
theorem dX11_init_143 : decode cX11_init 143 = .ok (.iconst 2, 1) := by decide +kernel
theorem dX11_init_144 : decode cX11_init 144 = .ok (.new 64, 3) := by decide +kernel
theorem dX11_init_147 : decode cX11_init 147 = .ok (.dup, 1) := by decide +kernel
theorem dX11_init_148 : decode cX11_init 148 = .ok (.invokespecial 66, 3) := by decide +kernel
theorem dX11_init_151 : decode cX11_init 151 = .ok (.aastore, 1) := by decide +kernel
theorem dX11_init_152 : decode cX11_init 152 = .ok (.dup, 1) := by decide +kernel
theorem dX11_init_153 : decode cX11_init 153 = .ok (.iconst 3, 1) := by decide +kernel
theorem dX11_init_154 : decode cX11_init 154 = .ok (.new 67, 3) := by decide +kernel
theorem dX11_init_157 : decode cX11_init 157 = .ok (.dup, 1) := by decide +kernel
theorem dX11_init_158 : decode cX11_init 158 = .ok (.invokespecial 69, 3) := by decide +kernel
theorem dX11_init_161 : decode cX11_init 161 = .ok (.aastore, 1) := by decide +kernel
theorem dX11_init_162 : decode cX11_init 162 = .ok (.dup, 1) := by decide +kernel
theorem dX11_init_163 : decode cX11_init 163 = .ok (.iconst 4, 1) := by decide +kernel
theorem dX11_init_164 : decode cX11_init 164 = .ok (.new 70, 3) := by decide +kernel
theorem dX11_init_167 : decode cX11_init 167 = .ok (.dup, 1) := by decide +kernel
theorem dX11_init_168 : decode cX11_init 168 = .ok (.invokespecial 72, 3) := by decide +kernel
theorem dX11_init_171 : decode cX11_init 171 = .ok (.aastore, 1) := by decide +kernel
theorem dX11_init_172 : decode cX11_init 172 = .ok (.dup, 1) := by decide +kernel
theorem dX11_init_173 : decode cX11_init 173 = .ok (.iconst 5, 1) := by decide +kernel
theorem dX11_init_174 : decode cX11_init 174 = .ok (.new 73, 3) := by decide +kernel
theorem dX11_init_177 : decode cX11_init 177 = .ok (.dup, 1) := by decide +kernel
theorem dX11_init_178 : decode cX11_init 178 = .ok (.invokespecial 75, 3) := by decide +kernel
theorem dX11_init_181 : decode cX11_init 181 = .ok (.aastore, 1) := by decide +kernel
theorem dX11_init_182 : decode cX11_init 182 = .ok (.putfield 76, 3) := by decide +kernel
theorem dX11_init_185 : decode cX11_init 185 = .ok (.aload_n 0, 1) := by decide +kernel
theorem dX11_init_186 : decode cX11_init 186 = .ok (.getfield 29, 3) := by decide +kernel
theorem dX11_init_189 : decode cX11_init 189 = .ok (.aload_n 0, 1) := by decide +kernel
theorem dX11_init_190 : decode cX11_init 190 = .ok (.getfield 19, 3) := by decide +kernel
theorem dX11_init_193 : decode cX11_init 193 = .ok (.invokevirtual 80, 3) := by decide +kernel
theorem dX11_init_196 : decode cX11_init 196 = .ok (.return_, 1) := by decide +kernel
theorem dX11_type_0 : decode cX11_type 0 = .ok (.iload_n 1, 1) := by decide +kernel
theorem dX11_type_1 : decode cX11_type 1 = .ok (.ifCond .lt 10, 3) := by decide +kernel
theorem dX11_type_4 : decode cX11_type 4 = .ok (.iload_n 1, 1) := by decide +kernel
theorem dX11_type_5 : decode cX11_type 5 = .ok (.sipush 255, 3) := by decide +kernel
theorem dX11_type_8 : decode cX11_type 8 = .ok (.if_icmp .le 5, 3) := by decide +kernel
theorem dX11_type_11 : decode cX11_type 11 = .ok (.iconst (-1), 1) := by decide +kernel
theorem dX11_type_12 : decode cX11_type 12 = .ok (.ireturn, 1) := by decide +kernel
theorem dX11_type_13 : decode cX11_type 13 = .ok (.aload_n 0, 1) := by decide +kernel
theorem dX11_type_14 : decode cX11_type 14 = .ok (.getfield 10, 3) := by decide +kernel
theorem dX11_type_17 : decode cX11_type 17 = .ok (.getfield 84, 3) := by decide +kernel
theorem dX11_type_20 : decode cX11_type 20 = .ok (.bipush 120, 2) := by decide +kernel
theorem dX11_type_22 : decode cX11_type 22 = .ok (.if_icmp .lt 6, 3) := by decide +kernel
theorem dX11_type_25 : decode cX11_type 25 = .ok (.bipush (-3), 2) := by decide +kernel
theorem dX11_type_27 : decode cX11_type 27 = .ok (.ireturn, 1) := by decide +kernel
theorem dX11_type_28 : decode cX11_type 28 = .ok (.aload_n 0, 1) := by decide +kernel
theorem dX11_type_29 : decode cX11_type 29 = .ok (.getfield 10, 3) := by decide +kernel
theorem dX11_type_32 : decode cX11_type 32 = .ok (.getfield 88, 3) := by decide +kernel
theorem dX11_type_35 : decode cX11_type 35 = .ok (.aload_n 0, 1) := by decide +kernel
theorem dX11_type_36 : decode cX11_type 36 = .ok (.getfield 10, 3) := by decide +kernel
theorem dX11_type_39 : decode cX11_type 39 = .ok (.getfield 84, 3) := by decide +kernel
theorem dX11_type_42 : decode cX11_type 42 = .ok (.iload_n 1, 1) := by decide +kernel
theorem dX11_type_43 : decode cX11_type 43 = .ok (.iastore, 1) := by decide +kernel
theorem dX11_type_44 : decode cX11_type 44 = .ok (.aload_n 0, 1) := by decide +kernel
theorem dX11_type_45 : decode cX11_type 45 = .ok (.getfield 10, 3) := by decide +kernel
theorem dX11_type_48 : decode cX11_type 48 = .ok (.dup, 1) := by decide +kernel
theorem dX11_type_49 : decode cX11_type 49 = .ok (.getfield 84, 3) := by decide +kernel
theorem dX11_type_52 : decode cX11_type 52 = .ok (.iconst 1, 1) := by decide +kernel
theorem dX11_type_53 : decode cX11_type 53 = .ok (.iadd, 1) := by decide +kernel
theorem dX11_type_54 : decode cX11_type 54 = .ok (.putfield 84, 3) := by decide +kernel
theorem dX11_type_57 : decode cX11_type 57 = .ok (.aload_n 0, 1) := by decide +kernel
theorem dX11_type_58 : decode cX11_type 58 = .ok (.getfield 10, 3) := by decide +kernel
theorem dX11_type_61 : decode cX11_type 61 = .ok (.getfield 84, 3) := by decide +kernel
theorem dX11_type_64 : decode cX11_type 64 = .ok (.ireturn, 1) := by decide +kernel
theorem dX11_clear_0 : decode cX11_clear 0 = .ok (.aload_n 0, 1) := by decide +kernel
theorem dX11_clear_1 : decode cX11_clear 1 = .ok (.getfield 10, 3) := by decide +kernel
theorem dX11_clear_4 : decode cX11_clear 4 = .ok (.getfield 84, 3) := by decide +kernel
theorem dX11_clear_7 : decode cX11_clear 7 = .ok (.istore_n 1, 1) := by decide +kernel
theorem dX11_clear_8 : decode cX11_clear 8 = .ok (.aload_n 0, 1) := by decide +kernel
theorem dX11_clear_9 : decode cX11_clear 9 = .ok (.getfield 10, 3) := by decide +kernel
theorem dX11_clear_12 : decode cX11_clear 12 = .ok (.iconst 0, 1) := by decide +kernel
theorem dX11_clear_13 : decode cX11_clear 13 = .ok (.putfield 84, 3) := by decide +kernel
theorem dX11_clear_16 : decode cX11_clear 16 = .ok (.iload_n 1, 1) := by decide +kernel
theorem dX11_clear_17 : decode cX11_clear 17 = .ok (.ireturn, 1) := by decide +kernel
theorem dX11_yard_0 : decode cX11_yard 0 = .ok (.aload_n 0, 1) := by decide +kernel
theorem dX11_yard_1 : decode cX11_yard 1 = .ok (.getfield 10, 3) := by decide +kernel
theorem dX11_yard_4 : decode cX11_yard 4 = .ok (.aload_n 0, 1) := by decide +kernel
theorem dX11_yard_5 : decode cX11_yard 5 = .ok (.getfield 23, 3) := by decide +kernel
theorem dX11_yard_8 : decode cX11_yard 8 = .ok (.invokevirtual 92, 3) := by decide +kernel
theorem dX11_yard_11 : decode cX11_yard 11 = .ok (.istore_n 1, 1) := by decide +kernel
theorem dX11_yard_12 : decode cX11_yard 12 = .ok (.iload_n 1, 1) := by decide +kernel
theorem dX11_yard_13 : decode cX11_yard 13 = .ok (.bipush (-9), 2) := by decide +kernel
theorem dX11_yard_15 : decode cX11_yard 15 = .ok (.if_icmp .eq 8, 3) := by decide +kernel
theorem dX11_yard_18 : decode cX11_yard 18 = .ok (.bipush (-10), 2) := by decide +kernel
theorem dX11_yard_20 : decode cX11_yard 20 = .ok (.iload_n 1, 1) := by decide +kernel
theorem dX11_yard_21 : decode cX11_yard 21 = .ok (.isub, 1) := by decide +kernel
theorem dX11_yard_22 : decode cX11_yard 22 = .ok (.ireturn, 1) := by decide +kernel
theorem dX11_yard_23 : decode cX11_yard 23 = .ok (.aload_n 0, 1) := by decide +kernel
theorem dX11_yard_24 : decode cX11_yard 24 = .ok (.getfield 10, 3) := by decide +kernel
theorem dX11_yard_27 : decode cX11_yard 27 = .ok (.iconst 0, 1) := by decide +kernel
theorem dX11_yard_28 : decode cX11_yard 28 = .ok (.putfield 84, 3) := by decide +kernel
theorem dX11_yard_31 : decode cX11_yard 31 = .ok (.aload_n 0, 1) := by decide +kernel
theorem dX11_yard_32 : decode cX11_yard 32 = .ok (.getfield 19, 3) := by decide +kernel
theorem dX11_yard_35 : decode cX11_yard 35 = .ok (.astore_n 2, 1) := by decide +kernel
theorem dX11_yard_36 : decode cX11_yard 36 = .ok (.aload_n 0, 1) := by decide +kernel
theorem dX11_yard_37 : decode cX11_yard 37 = .ok (.aload_n 0, 1) := by decide +kernel
theorem dX11_yard_38 : decode cX11_yard 38 = .ok (.getfield 23, 3) := by decide +kernel
theorem dX11_yard_41 : decode cX11_yard 41 = .ok (.putfield 19, 3) := by decide +kernel
theorem dX11_yard_44 : decode cX11_yard 44 = .ok (.aload_n 0, 1) := by decide +kernel
theorem dX11_yard_45 : decode cX11_yard 45 = .ok (.aload_n 2, 1) := by decide +kernel
theorem dX11_yard_46 : decode cX11_yard 46 = .ok (.putfield 23, 3) := by decide +kernel
theorem dX11_yard_49 : decode cX11_yard 49 = .ok (.aload_n 0, 1) := by decide +kernel
theorem dX11_yard_50 : decode cX11_yard 50 = .ok (.getfield 29, 3) := by decide +kernel
theorem dX11_yard_53 : decode cX11_yard 53 = .ok (.aload_n 0, 1) := by decide +kernel
theorem dX11_yard_54 : decode cX11_yard 54 = .ok (.getfield 19, 3) := by decide +kernel
theorem dX11_yard_57 : decode cX11_yard 57 = .ok (.invokevirtual 80, 3) := by decide +kernel
theorem dX11_yard_60 : decode cX11_yard 60 = .ok (.aload_n 0, 1) := by decide +kernel
theorem dX11_yard_61 : decode cX11_yard 61 = .ok (.getfield 39, 3) := by decide +kernel
theorem dX11_yard_64 : decode cX11_yard 64 = .ok (.iconst 0, 1) := by decide +kernel
theorem dX11_yard_65 : decode cX11_yard 65 = .ok (.putfield 96, 3) := by decide +kernel
theorem dX11_yard_68 : decode cX11_yard 68 = .ok (.aload_n 0, 1) := by decide +kernel
theorem dX11_yard_69 : decode cX11_yard 69 = .ok (.getfield 54, 3) := by decide +kernel
theorem dX11_yard_72 : decode cX11_yard 72 = .ok (.iconst 0, 1) := by decide +kernel
theorem dX11_yard_73 : decode cX11_yard 73 = .ok (.putfield 99, 3) := by decide +kernel
theorem dX11_yard_76 : decode cX11_yard 76 = .ok (.iconst 0, 1) := by decide +kernel
theorem dX11_yard_77 : decode cX11_yard 77 = .ok (.istore_n 3, 1) := by decide +kernel
theorem dX11_yard_78 : decode cX11_yard 78 = .ok (.iload_n 3, 1) := by decide +kernel
theorem dX11_yard_79 : decode cX11_yard 79 = .ok (.iconst 2, 1) := by decide +kernel
theorem dX11_yard_80 : decode cX11_yard 80 = .ok (.if_icmp .ge 16, 3) := by decide +kernel
theorem dX11_yard_83 : decode cX11_yard 83 = .ok (.aload_n 0, 1) := by decide +kernel
theorem dX11_yard_84 : decode cX11_yard 84 = .ok (.getfield 47, 3) := by decide +kernel
theorem dX11_yard_87 : decode cX11_yard 87 = .ok (.iload_n 3, 1) := by decide +kernel
theorem dX11_yard_88 : decode cX11_yard 88 = .ok (.iconst 0, 1) := by decide +kernel
theorem dX11_yard_89 : decode cX11_yard 89 = .ok (.bastore, 1) := by decide +kernel
theorem dX11_yard_90 : decode cX11_yard 90 = .ok (.iinc 3 1, 3) := by decide +kernel
theorem dX11_yard_93 : decode cX11_yard 93 = .ok (.goto (-15), 3) := by decide +kernel
theorem dX11_yard_96 : decode cX11_yard 96 = .ok (.aload_n 0, 1) := by decide +kernel
theorem dX11_yard_97 : decode cX11_yard 97 = .ok (.getfield 10, 3) := by decide +kernel
theorem dX11_yard_100 : decode cX11_yard 100 = .ok (.getfield 100, 3) := by decide +kernel
theorem dX11_yard_103 : decode cX11_yard 103 = .ok (.ireturn, 1) := by decide +kernel
theorem dX11_jumper_0 : decode cX11_jumper 0 = .ok (.aload_n 0, 1) := by decide +kernel
theorem dX11_jumper_1 : decode cX11_jumper 1 = .ok (.iload_n 1, 1) := by decide +kernel
theorem dX11_jumper_2 : decode cX11_jumper 2 = .ok (.invokevirtual 103, 3) := by decide +kernel
theorem dX11_jumper_5 : decode cX11_jumper 5 = .ok (.ifCond .eq 5, 3) := by decide +kernel
theorem dX11_jumper_8 : decode cX11_jumper 8 = .ok (.iconst (-1), 1) := by decide +kernel
theorem dX11_jumper_9 : decode cX11_jumper 9 = .ok (.ireturn, 1) := by decide +kernel
theorem dX11_jumper_10 : decode cX11_jumper 10 = .ok (.iload_n 2, 1) := by decide +kernel
theorem dX11_jumper_11 : decode cX11_jumper 11 = .ok (.tableswitch 130 0 6 #[41, 51, 61, 71, 88, 98, 124], 41) := by decide +kernel
theorem dX11_jumper_52 : decode cX11_jumper 52 = .ok (.aload_n 0, 1) := by decide +kernel
theorem dX11_jumper_53 : decode cX11_jumper 53 = .ok (.getfield 19, 3) := by decide +kernel
theorem dX11_jumper_56 : decode cX11_jumper 56 = .ok (.getfield 107, 3) := by decide +kernel
theorem dX11_jumper_59 : decode cX11_jumper 59 = .ok (.iload_n 1, 1) := by decide +kernel
theorem dX11_jumper_60 : decode cX11_jumper 60 = .ok (.iaload, 1) := by decide +kernel
theorem dX11_jumper_61 : decode cX11_jumper 61 = .ok (.ireturn, 1) := by decide +kernel
theorem dX11_jumper_62 : decode cX11_jumper 62 = .ok (.aload_n 0, 1) := by decide +kernel
theorem dX11_jumper_63 : decode cX11_jumper 63 = .ok (.getfield 19, 3) := by decide +kernel
theorem dX11_jumper_66 : decode cX11_jumper 66 = .ok (.getfield 110, 3) := by decide +kernel
theorem dX11_jumper_69 : decode cX11_jumper 69 = .ok (.iload_n 1, 1) := by decide +kernel
theorem dX11_jumper_70 : decode cX11_jumper 70 = .ok (.iaload, 1) := by decide +kernel
theorem dX11_jumper_71 : decode cX11_jumper 71 = .ok (.ireturn, 1) := by decide +kernel
theorem dX11_jumper_72 : decode cX11_jumper 72 = .ok (.aload_n 0, 1) := by decide +kernel
theorem dX11_jumper_73 : decode cX11_jumper 73 = .ok (.getfield 29, 3) := by decide +kernel
theorem dX11_jumper_76 : decode cX11_jumper 76 = .ok (.getfield 113, 3) := by decide +kernel
theorem dX11_jumper_79 : decode cX11_jumper 79 = .ok (.iload_n 1, 1) := by decide +kernel
theorem dX11_jumper_80 : decode cX11_jumper 80 = .ok (.iaload, 1) := by decide +kernel
theorem dX11_jumper_81 : decode cX11_jumper 81 = .ok (.ireturn, 1) := by decide +kernel
theorem dX11_jumper_82 : decode cX11_jumper 82 = .ok (.aload_n 0, 1) := by decide +kernel
theorem dX11_jumper_83 : decode cX11_jumper 83 = .ok (.getfield 29, 3) := by decide +kernel
theorem dX11_jumper_86 : decode cX11_jumper 86 = .ok (.iload_n 1, 1) := by decide +kernel
theorem dX11_jumper_87 : decode cX11_jumper 87 = .ok (.invokevirtual 116, 3) := by decide +kernel
theorem dX11_jumper_90 : decode cX11_jumper 90 = .ok (.ifCond .eq 7, 3) := by decide +kernel
theorem dX11_jumper_93 : decode cX11_jumper 93 = .ok (.iconst 1, 1) := by decide +kernel
theorem dX11_jumper_94 : decode cX11_jumper 94 = .ok (.goto 4, 3) := by decide +kernel
theorem dX11_jumper_97 : decode cX11_jumper 97 = .ok (.iconst 0, 1) := by decide +kernel
theorem dX11_jumper_98 : decode cX11_jumper 98 = .ok (.ireturn, 1) := by decide +kernel
theorem dX11_jumper_99 : decode cX11_jumper 99 = .ok (.aload_n 0, 1) := by decide +kernel
theorem dX11_jumper_100 : decode cX11_jumper 100 = .ok (.getfield 29, 3) := by decide +kernel
theorem dX11_jumper_103 : decode cX11_jumper 103 = .ok (.getfield 119, 3) := by decide +kernel
theorem dX11_jumper_106 : decode cX11_jumper 106 = .ok (.iload_n 1, 1) := by decide +kernel
theorem dX11_jumper_107 : decode cX11_jumper 107 = .ok (.iaload, 1) := by decide +kernel
theorem dX11_jumper_108 : decode cX11_jumper 108 = .ok (.ireturn, 1) := by decide +kernel
theorem dX11_jumper_109 : decode cX11_jumper 109 = .ok (.aload_n 0, 1) := by decide +kernel
theorem dX11_jumper_110 : decode cX11_jumper 110 = .ok (.getfield 29, 3) := by decide +kernel
theorem dX11_jumper_113 : decode cX11_jumper 113 = .ok (.iload_n 1, 1) := by decide +kernel
theorem dX11_jumper_114 : decode cX11_jumper 114 = .ok (.invokevirtual 116, 3) := by decide +kernel
theorem dX11_jumper_117 : decode cX11_jumper 117 = .ok (.ifCond .eq 15, 3) := by decide +kernel
theorem dX11_jumper_120 : decode cX11_jumper 120 = .ok (.aload_n 0, 1) := by decide +kernel
theorem dX11_jumper_121 : decode cX11_jumper 121 = .ok (.getfield 29, 3) := by decide +kernel
theorem dX11_jumper_124 : decode cX11_jumper 124 = .ok (.getfield 122, 3) := by decide +kernel
theorem dX11_jumper_127 : decode cX11_jumper 127 = .ok (.iload_n 1, 1) := by decide +kernel
theorem dX11_jumper_128 : decode cX11_jumper 128 = .ok (.iaload, 1) := by decide +kernel
theorem dX11_jumper_129 : decode cX11_jumper 129 = .ok (.goto 5, 3) := by decide +kernel
theorem dX11_jumper_132 : decode cX11_jumper 132 = .ok (.bipush (-9), 2) := by decide +kernel
theorem dX11_jumper_134 : decode cX11_jumper 134 = .ok (.ireturn, 1) := by decide +kernel
theorem dX11_jumper_135 : decode cX11_jumper 135 = .ok (.aload_n 0, 1) := by decide +kernel
theorem dX11_jumper_136 : decode cX11_jumper 136 = .ok (.iload_n 1, 1) := by decide +kernel
theorem dX11_jumper_137 : decode cX11_jumper 137 = .ok (.invokevirtual 125, 3) := by decide +kernel
theorem dX11_jumper_140 : decode cX11_jumper 140 = .ok (.ireturn, 1) := by decide +kernel
theorem dX11_jumper_141 : decode cX11_jumper 141 = .ok (.iconst (-1), 1) := by decide +kernel
theorem dX11_jumper_142 : decode cX11_jumper 142 = .ok (.ireturn, 1) := by decide +kernel
theorem dX11_now_0 : decode cX11_now 0 = .ok (.iload_n 1, 1) := by decide +kernel
theorem dX11_now_1 : decode cX11_now 1 = .ok (.tableswitch 93 0 6 #[43, 51, 59, 67, 75, 80, 85], 43) := by decide +kernel
theorem dX11_now_44 : decode cX11_now 44 = .ok (.aload_n 0, 1) := by decide +kernel
theorem dX11_now_45 : decode cX11_now 45 = .ok (.getfield 29, 3) := by decide +kernel
theorem dX11_now_48 : decode cX11_now 48 = .ok (.getfield 129, 3) := by decide +kernel
theorem dX11_now_51 : decode cX11_now 51 = .ok (.ireturn, 1) := by decide +kernel
theorem dX11_now_52 : decode cX11_now 52 = .ok (.aload_n 0, 1) := by decide +kernel
theorem dX11_now_53 : decode cX11_now 53 = .ok (.getfield 29, 3) := by decide +kernel
theorem dX11_now_56 : decode cX11_now 56 = .ok (.getfield 132, 3) := by decide +kernel
theorem dX11_now_59 : decode cX11_now 59 = .ok (.ireturn, 1) := by decide +kernel
theorem dX11_now_60 : decode cX11_now 60 = .ok (.aload_n 0, 1) := by decide +kernel
theorem dX11_now_61 : decode cX11_now 61 = .ok (.getfield 29, 3) := by decide +kernel
theorem dX11_now_64 : decode cX11_now 64 = .ok (.getfield 135, 3) := by decide +kernel
theorem dX11_now_67 : decode cX11_now 67 = .ok (.ireturn, 1) := by decide +kernel
theorem dX11_now_68 : decode cX11_now 68 = .ok (.aload_n 0, 1) := by decide +kernel
theorem dX11_now_69 : decode cX11_now 69 = .ok (.getfield 29, 3) := by decide +kernel
theorem dX11_now_72 : decode cX11_now 72 = .ok (.getfield 138, 3) := by decide +kernel
theorem dX11_now_75 : decode cX11_now 75 = .ok (.ireturn, 1) := by decide +kernel
theorem dX11_now_76 : decode cX11_now 76 = .ok (.aload_n 0, 1) := by decide +kernel
theorem dX11_now_77 : decode cX11_now 77 = .ok (.invokevirtual 141, 3) := by decide +kernel
theorem dX11_now_80 : decode cX11_now 80 = .ok (.ireturn, 1) := by decide +kernel
theorem dX11_now_81 : decode cX11_now 81 = .ok (.aload_n 0, 1) := by decide +kernel
theorem dX11_now_82 : decode cX11_now 82 = .ok (.invokevirtual 145, 3) := by decide +kernel
theorem dX11_now_85 : decode cX11_now 85 = .ok (.ireturn, 1) := by decide +kernel
theorem dX11_now_86 : decode cX11_now 86 = .ok (.aload_n 0, 1) := by decide +kernel
theorem dX11_now_87 : decode cX11_now 87 = .ok (.getfield 39, 3) := by decide +kernel
theorem dX11_now_90 : decode cX11_now 90 = .ok (.getfield 96, 3) := by decide +kernel
theorem dX11_now_93 : decode cX11_now 93 = .ok (.ireturn, 1) := by decide +kernel
theorem dX11_now_94 : decode cX11_now 94 = .ok (.iconst (-1), 1) := by decide +kernel
theorem dX11_now_95 : decode cX11_now 95 = .ok (.ireturn, 1) := by decide +kernel
theorem dX11_ticks_0 : decode cX11_ticks 0 = .ok (.aload_n 0, 1) := by decide +kernel
theorem dX11_ticks_1 : decode cX11_ticks 1 = .ok (.getfield 29, 3) := by decide +kernel
theorem dX11_ticks_4 : decode cX11_ticks 4 = .ok (.getfield 129, 3) := by decide +kernel
theorem dX11_ticks_7 : decode cX11_ticks 7 = .ok (.sipush 999, 3) := by decide +kernel
theorem dX11_ticks_10 : decode cX11_ticks 10 = .ok (.if_icmp .lt 6, 3) := by decide +kernel
theorem dX11_ticks_13 : decode cX11_ticks 13 = .ok (.bipush (-2), 2) := by decide +kernel
theorem dX11_ticks_15 : decode cX11_ticks 15 = .ok (.ireturn, 1) := by decide +kernel
theorem dX11_ticks_16 : decode cX11_ticks 16 = .ok (.aload_n 0, 1) := by decide +kernel
theorem dX11_ticks_17 : decode cX11_ticks 17 = .ok (.getfield 39, 3) := by decide +kernel
theorem dX11_ticks_20 : decode cX11_ticks 20 = .ok (.aload_n 0, 1) := by decide +kernel
theorem dX11_ticks_21 : decode cX11_ticks 21 = .ok (.getfield 29, 3) := by decide +kernel
theorem dX11_ticks_24 : decode cX11_ticks 24 = .ok (.invokevirtual 148, 3) := by decide +kernel
theorem dX11_ticks_27 : decode cX11_ticks 27 = .ok (.aload_n 0, 1) := by decide +kernel
theorem dX11_ticks_28 : decode cX11_ticks 28 = .ok (.getfield 29, 3) := by decide +kernel
theorem dX11_ticks_31 : decode cX11_ticks 31 = .ok (.aload_n 0, 1) := by decide +kernel
theorem dX11_ticks_32 : decode cX11_ticks 32 = .ok (.getfield 19, 3) := by decide +kernel
theorem dX11_ticks_35 : decode cX11_ticks 35 = .ok (.invokevirtual 152, 3) := by decide +kernel
theorem dX11_ticks_38 : decode cX11_ticks 38 = .ok (.ireturn, 1) := by decide +kernel
theorem dX11_speeds_0 : decode cX11_speeds 0 = .ok (.iload_n 1, 1) := by decide +kernel
theorem dX11_speeds_1 : decode cX11_speeds 1 = .ok (.iconst 2, 1) := by decide +kernel
theorem dX11_speeds_2 : decode cX11_speeds 2 = .ok (.if_icmp .lt 9, 3) := by decide +kernel
theorem dX11_speeds_5 : decode cX11_speeds 5 = .ok (.iload_n 1, 1) := by decide +kernel
theorem dX11_speeds_6 : decode cX11_speeds 6 = .ok (.bipush 9, 2) := by decide +kernel
theorem dX11_speeds_8 : decode cX11_speeds 8 = .ok (.if_icmp .le 5, 3) := by decide +kernel
theorem dX11_speeds_11 : decode cX11_speeds 11 = .ok (.iconst (-1), 1) := by decide +kernel
theorem dX11_speeds_12 : decode cX11_speeds 12 = .ok (.ireturn, 1) := by decide +kernel
theorem dX11_speeds_13 : decode cX11_speeds 13 = .ok (.aload_n 0, 1) := by decide +kernel
theorem dX11_speeds_14 : decode cX11_speeds 14 = .ok (.getfield 29, 3) := by decide +kernel
theorem dX11_speeds_17 : decode cX11_speeds 17 = .ok (.getfield 132, 3) := by decide +kernel
theorem dX11_speeds_20 : decode cX11_speeds 20 = .ok (.istore_n 2, 1) := by decide +kernel
theorem dX11_speeds_21 : decode cX11_speeds 21 = .ok (.iload_n 1, 1) := by decide +kernel
theorem dX11_speeds_22 : decode cX11_speeds 22 = .ok (.iload_n 2, 1) := by decide +kernel
theorem dX11_speeds_23 : decode cX11_speeds 23 = .ok (.if_icmp .ne 6, 3) := by decide +kernel
theorem dX11_speeds_26 : decode cX11_speeds 26 = .ok (.bipush (-2), 2) := by decide +kernel
theorem dX11_speeds_28 : decode cX11_speeds 28 = .ok (.ireturn, 1) := by decide +kernel
theorem dX11_speeds_29 : decode cX11_speeds 29 = .ok (.aload_n 0, 1) := by decide +kernel
theorem dX11_speeds_30 : decode cX11_speeds 30 = .ok (.getfield 39, 3) := by decide +kernel
theorem dX11_speeds_33 : decode cX11_speeds 33 = .ok (.aload_n 0, 1) := by decide +kernel
theorem dX11_speeds_34 : decode cX11_speeds 34 = .ok (.getfield 29, 3) := by decide +kernel
theorem dX11_speeds_37 : decode cX11_speeds 37 = .ok (.invokevirtual 148, 3) := by decide +kernel
theorem dX11_speeds_40 : decode cX11_speeds 40 = .ok (.aload_n 0, 1) := by decide +kernel
theorem dX11_speeds_41 : decode cX11_speeds 41 = .ok (.getfield 29, 3) := by decide +kernel
theorem dX11_speeds_44 : decode cX11_speeds 44 = .ok (.iload_n 1, 1) := by decide +kernel
theorem dX11_speeds_45 : decode cX11_speeds 45 = .ok (.invokevirtual 155, 3) := by decide +kernel
theorem dX11_speeds_48 : decode cX11_speeds 48 = .ok (.iload_n 2, 1) := by decide +kernel
theorem dX11_speeds_49 : decode cX11_speeds 49 = .ok (.ireturn, 1) := by decide +kernel
theorem dX11_goes_0 : decode cX11_goes 0 = .ok (.aload_n 0, 1) := by decide +kernel
theorem dX11_goes_1 : decode cX11_goes 1 = .ok (.iload_n 1, 1) := by decide +kernel
theorem dX11_goes_2 : decode cX11_goes 2 = .ok (.invokevirtual 103, 3) := by decide +kernel
theorem dX11_goes_5 : decode cX11_goes 5 = .ok (.ifCond .eq 5, 3) := by decide +kernel
theorem dX11_goes_8 : decode cX11_goes 8 = .ok (.iconst (-1), 1) := by decide +kernel
theorem dX11_goes_9 : decode cX11_goes 9 = .ok (.ireturn, 1) := by decide +kernel
theorem dX11_goes_10 : decode cX11_goes 10 = .ok (.aload_n 0, 1) := by decide +kernel
theorem dX11_goes_11 : decode cX11_goes 11 = .ok (.getfield 29, 3) := by decide +kernel
theorem dX11_goes_14 : decode cX11_goes 14 = .ok (.iload_n 1, 1) := by decide +kernel
theorem dX11_goes_15 : decode cX11_goes 15 = .ok (.invokevirtual 116, 3) := by decide +kernel
theorem dX11_goes_18 : decode cX11_goes 18 = .ok (.ifCond .ne 6, 3) := by decide +kernel
theorem dX11_goes_21 : decode cX11_goes 21 = .ok (.bipush (-2), 2) := by decide +kernel
theorem dX11_goes_23 : decode cX11_goes 23 = .ok (.ireturn, 1) := by decide +kernel
theorem dX11_goes_24 : decode cX11_goes 24 = .ok (.aload_n 0, 1) := by decide +kernel
theorem dX11_goes_25 : decode cX11_goes 25 = .ok (.getfield 39, 3) := by decide +kernel
theorem dX11_goes_28 : decode cX11_goes 28 = .ok (.aload_n 0, 1) := by decide +kernel
theorem dX11_goes_29 : decode cX11_goes 29 = .ok (.getfield 29, 3) := by decide +kernel
theorem dX11_goes_32 : decode cX11_goes 32 = .ok (.invokevirtual 148, 3) := by decide +kernel
theorem dX11_goes_35 : decode cX11_goes 35 = .ok (.aload_n 0, 1) := by decide +kernel
theorem dX11_goes_36 : decode cX11_goes 36 = .ok (.getfield 29, 3) := by decide +kernel
theorem dX11_goes_39 : decode cX11_goes 39 = .ok (.iload_n 1, 1) := by decide +kernel
theorem dX11_goes_40 : decode cX11_goes 40 = .ok (.invokevirtual 159, 3) := by decide +kernel
theorem dX11_goes_43 : decode cX11_goes 43 = .ok (.aload_n 0, 1) := by decide +kernel
theorem dX11_goes_44 : decode cX11_goes 44 = .ok (.getfield 29, 3) := by decide +kernel
theorem dX11_goes_47 : decode cX11_goes 47 = .ok (.getfield 138, 3) := by decide +kernel
theorem dX11_goes_50 : decode cX11_goes 50 = .ok (.invokestatic 162, 3) := by decide +kernel
theorem dX11_goes_53 : decode cX11_goes 53 = .ok (.ireturn, 1) := by decide +kernel
theorem dX11_comes_0 : decode cX11_comes 0 = .ok (.aload_n 0, 1) := by decide +kernel
theorem dX11_comes_1 : decode cX11_comes 1 = .ok (.iload_n 1, 1) := by decide +kernel
theorem dX11_comes_2 : decode cX11_comes 2 = .ok (.invokevirtual 103, 3) := by decide +kernel
theorem dX11_comes_5 : decode cX11_comes 5 = .ok (.ifCond .ne 13, 3) := by decide +kernel
theorem dX11_comes_8 : decode cX11_comes 8 = .ok (.iload_n 2, 1) := by decide +kernel
theorem dX11_comes_9 : decode cX11_comes 9 = .ok (.ifCond .lt 9, 3) := by decide +kernel
theorem dX11_comes_12 : decode cX11_comes 12 = .ok (.iload_n 2, 1) := by decide +kernel
theorem dX11_comes_13 : decode cX11_comes 13 = .ok (.bipush 11, 2) := by decide +kernel
theorem dX11_comes_15 : decode cX11_comes 15 = .ok (.if_icmp .le 5, 3) := by decide +kernel
theorem dX11_comes_18 : decode cX11_comes 18 = .ok (.iconst (-1), 1) := by decide +kernel
theorem dX11_comes_19 : decode cX11_comes 19 = .ok (.ireturn, 1) := by decide +kernel
theorem dX11_comes_20 : decode cX11_comes 20 = .ok (.aload_n 0, 1) := by decide +kernel
theorem dX11_comes_21 : decode cX11_comes 21 = .ok (.getfield 29, 3) := by decide +kernel
theorem dX11_comes_24 : decode cX11_comes 24 = .ok (.iload_n 1, 1) := by decide +kernel
theorem dX11_comes_25 : decode cX11_comes 25 = .ok (.invokevirtual 116, 3) := by decide +kernel
theorem dX11_comes_28 : decode cX11_comes 28 = .ok (.ifCond .eq 6, 3) := by decide +kernel
theorem dX11_comes_31 : decode cX11_comes 31 = .ok (.bipush (-2), 2) := by decide +kernel
theorem dX11_comes_33 : decode cX11_comes 33 = .ok (.ireturn, 1) := by decide +kernel
theorem dX11_comes_34 : decode cX11_comes 34 = .ok (.aload_n 0, 1) := by decide +kernel
theorem dX11_comes_35 : decode cX11_comes 35 = .ok (.getfield 39, 3) := by decide +kernel
theorem dX11_comes_38 : decode cX11_comes 38 = .ok (.aload_n 0, 1) := by decide +kernel
theorem dX11_comes_39 : decode cX11_comes 39 = .ok (.getfield 29, 3) := by decide +kernel
theorem dX11_comes_42 : decode cX11_comes 42 = .ok (.invokevirtual 148, 3) := by decide +kernel
theorem dX11_comes_45 : decode cX11_comes 45 = .ok (.aload_n 0, 1) := by decide +kernel
theorem dX11_comes_46 : decode cX11_comes 46 = .ok (.getfield 29, 3) := by decide +kernel
theorem dX11_comes_49 : decode cX11_comes 49 = .ok (.iload_n 1, 1) := by decide +kernel
theorem dX11_comes_50 : decode cX11_comes 50 = .ok (.iload_n 2, 1) := by decide +kernel
theorem dX11_comes_51 : decode cX11_comes 51 = .ok (.invokevirtual 167, 3) := by decide +kernel
theorem dX11_comes_54 : decode cX11_comes 54 = .ok (.aload_n 0, 1) := by decide +kernel
theorem dX11_comes_55 : decode cX11_comes 55 = .ok (.getfield 29, 3) := by decide +kernel
theorem dX11_comes_58 : decode cX11_comes 58 = .ok (.getfield 138, 3) := by decide +kernel
theorem dX11_comes_61 : decode cX11_comes 61 = .ok (.invokestatic 162, 3) := by decide +kernel
theorem dX11_comes_64 : decode cX11_comes 64 = .ok (.ireturn, 1) := by decide +kernel
theorem dX11_undo_0 : decode cX11_undo 0 = .ok (.aload_n 0, 1) := by decide +kernel
theorem dX11_undo_1 : decode cX11_undo 1 = .ok (.getfield 39, 3) := by decide +kernel
theorem dX11_undo_4 : decode cX11_undo 4 = .ok (.getfield 96, 3) := by decide +kernel
theorem dX11_undo_7 : decode cX11_undo 7 = .ok (.ifCond .gt 6, 3) := by decide +kernel
theorem dX11_undo_10 : decode cX11_undo 10 = .ok (.bipush (-2), 2) := by decide +kernel
theorem dX11_undo_12 : decode cX11_undo 12 = .ok (.ireturn, 1) := by decide +kernel
theorem dX11_undo_13 : decode cX11_undo 13 = .ok (.aload_n 0, 1) := by decide +kernel
theorem dX11_undo_14 : decode cX11_undo 14 = .ok (.getfield 39, 3) := by decide +kernel
theorem dX11_undo_17 : decode cX11_undo 17 = .ok (.aload_n 0, 1) := by decide +kernel
theorem dX11_undo_18 : decode cX11_undo 18 = .ok (.getfield 29, 3) := by decide +kernel
theorem dX11_undo_21 : decode cX11_undo 21 = .ok (.invokevirtual 171, 3) := by decide +kernel
theorem dX11_undo_24 : decode cX11_undo 24 = .ok (.aload_n 0, 1) := by decide +kernel
theorem dX11_undo_25 : decode cX11_undo 25 = .ok (.getfield 39, 3) := by decide +kernel
theorem dX11_undo_28 : decode cX11_undo 28 = .ok (.getfield 96, 3) := by decide +kernel
theorem dX11_undo_31 : decode cX11_undo 31 = .ok (.ireturn, 1) := by decide +kernel
theorem dX11_stay_0 : decode cX11_stay 0 = .ok (.iload_n 1, 1) := by decide +kernel
theorem dX11_stay_1 : decode cX11_stay 1 = .ok (.ifCond .lt 9, 3) := by decide +kernel
theorem dX11_stay_4 : decode cX11_stay 4 = .ok (.iload_n 1, 1) := by decide +kernel
theorem dX11_stay_5 : decode cX11_stay 5 = .ok (.bipush 120, 2) := by decide +kernel
theorem dX11_stay_7 : decode cX11_stay 7 = .ok (.if_icmp .le 5, 3) := by decide +kernel
theorem dX11_stay_10 : decode cX11_stay 10 = .ok (.iconst (-1), 1) := by decide +kernel
theorem dX11_stay_11 : decode cX11_stay 11 = .ok (.ireturn, 1) := by decide +kernel
theorem dX11_stay_12 : decode cX11_stay 12 = .ok (.aload_n 0, 1) := by decide +kernel
theorem dX11_stay_13 : decode cX11_stay 13 = .ok (.getfield 33, 3) := by decide +kernel
theorem dX11_stay_16 : decode cX11_stay 16 = .ok (.aload_n 0, 1) := by decide +kernel
theorem dX11_stay_17 : decode cX11_stay 17 = .ok (.getfield 29, 3) := by decide +kernel
theorem dX11_stay_20 : decode cX11_stay 20 = .ok (.invokevirtual 174, 3) := by decide +kernel
theorem dX11_stay_23 : decode cX11_stay 23 = .ok (.aload_n 0, 1) := by decide +kernel
theorem dX11_stay_24 : decode cX11_stay 24 = .ok (.iload_n 1, 1) := by decide +kernel
theorem dX11_stay_25 : decode cX11_stay 25 = .ok (.invokevirtual 177, 3) := by decide +kernel
theorem dX11_stay_28 : decode cX11_stay 28 = .ok (.aload_n 0, 1) := by decide +kernel
theorem dX11_stay_29 : decode cX11_stay 29 = .ok (.getfield 33, 3) := by decide +kernel
theorem dX11_stay_32 : decode cX11_stay 32 = .ok (.getfield 138, 3) := by decide +kernel
theorem dX11_stay_35 : decode cX11_stay 35 = .ok (.ireturn, 1) := by decide +kernel
theorem dX11_pace_0 : decode cX11_pace 0 = .ok (.iload_n 1, 1) := by decide +kernel
theorem dX11_pace_1 : decode cX11_pace 1 = .ok (.ifCond .lt 9, 3) := by decide +kernel
theorem dX11_pace_4 : decode cX11_pace 4 = .ok (.iload_n 1, 1) := by decide +kernel
theorem dX11_pace_5 : decode cX11_pace 5 = .ok (.bipush 120, 2) := by decide +kernel
theorem dX11_pace_7 : decode cX11_pace 7 = .ok (.if_icmp .le 5, 3) := by decide +kernel
theorem dX11_pace_10 : decode cX11_pace 10 = .ok (.iconst (-1), 1) := by decide +kernel
theorem dX11_pace_11 : decode cX11_pace 11 = .ok (.ireturn, 1) := by decide +kernel
theorem dX11_pace_12 : decode cX11_pace 12 = .ok (.iconst 2, 1) := by decide +kernel
theorem dX11_pace_13 : decode cX11_pace 13 = .ok (.istore_n 2, 1) := by decide +kernel
theorem dX11_pace_14 : decode cX11_pace 14 = .ok (.iconst (-1), 1) := by decide +kernel
theorem dX11_pace_15 : decode cX11_pace 15 = .ok (.istore_n 3, 1) := by decide +kernel
theorem dX11_pace_16 : decode cX11_pace 16 = .ok (.iconst 2, 1) := by decide +kernel
theorem dX11_pace_17 : decode cX11_pace 17 = .ok (.istore 4, 2) := by decide +kernel
theorem dX11_pace_19 : decode cX11_pace 19 = .ok (.iload 4, 2) := by decide +kernel
theorem dX11_pace_21 : decode cX11_pace 21 = .ok (.bipush 9, 2) := by decide +kernel
theorem dX11_pace_23 : decode cX11_pace 23 = .ok (.if_icmp .gt 58, 3) := by decide +kernel
theorem dX11_pace_26 : decode cX11_pace 26 = .ok (.aload_n 0, 1) := by decide +kernel
theorem dX11_pace_27 : decode cX11_pace 27 = .ok (.getfield 33, 3) := by decide +kernel
theorem dX11_pace_30 : decode cX11_pace 30 = .ok (.aload_n 0, 1) := by decide +kernel
theorem dX11_pace_31 : decode cX11_pace 31 = .ok (.getfield 29, 3) := by decide +kernel
theorem dX11_pace_34 : decode cX11_pace 34 = .ok (.invokevirtual 174, 3) := by decide +kernel
theorem dX11_pace_37 : decode cX11_pace 37 = .ok (.aload_n 0, 1) := by decide +kernel
theorem dX11_pace_38 : decode cX11_pace 38 = .ok (.getfield 33, 3) := by decide +kernel
theorem dX11_pace_41 : decode cX11_pace 41 = .ok (.iload 4, 2) := by decide +kernel
theorem dX11_pace_43 : decode cX11_pace 43 = .ok (.invokevirtual 155, 3) := by decide +kernel
theorem dX11_pace_46 : decode cX11_pace 46 = .ok (.aload_n 0, 1) := by decide +kernel
theorem dX11_pace_47 : decode cX11_pace 47 = .ok (.iload_n 1, 1) := by decide +kernel
theorem dX11_pace_48 : decode cX11_pace 48 = .ok (.invokevirtual 177, 3) := by decide +kernel
theorem dX11_pace_51 : decode cX11_pace 51 = .ok (.aload_n 0, 1) := by decide +kernel
theorem dX11_pace_52 : decode cX11_pace 52 = .ok (.getfield 33, 3) := by decide +kernel
theorem dX11_pace_55 : decode cX11_pace 55 = .ok (.getfield 138, 3) := by decide +kernel
theorem dX11_pace_58 : decode cX11_pace 58 = .ok (.invokestatic 162, 3) := by decide +kernel
theorem dX11_pace_61 : decode cX11_pace 61 = .ok (.istore 5, 2) := by decide +kernel
theorem dX11_pace_63 : decode cX11_pace 63 = .ok (.iload 5, 2) := by decide +kernel
theorem dX11_pace_65 : decode cX11_pace 65 = .ok (.iload_n 3, 1) := by decide +kernel
theorem dX11_pace_66 : decode cX11_pace 66 = .ok (.if_icmp .le 9, 3) := by decide +kernel
theorem dX11_pace_69 : decode cX11_pace 69 = .ok (.iload 5, 2) := by decide +kernel
theorem dX11_pace_71 : decode cX11_pace 71 = .ok (.istore_n 3, 1) := by decide +kernel
theorem dX11_pace_72 : decode cX11_pace 72 = .ok (.iload 4, 2) := by decide +kernel
theorem dX11_pace_74 : decode cX11_pace 74 = .ok (.istore_n 2, 1) := by decide +kernel
theorem dX11_pace_75 : decode cX11_pace 75 = .ok (.iinc 4 1, 3) := by decide +kernel
theorem dX11_pace_78 : decode cX11_pace 78 = .ok (.goto (-59), 3) := by decide +kernel
theorem dX11_pace_81 : decode cX11_pace 81 = .ok (.iload_n 2, 1) := by decide +kernel
theorem dX11_pace_82 : decode cX11_pace 82 = .ok (.ireturn, 1) := by decide +kernel
theorem dX11_entry_0 : decode cX11_entry 0 = .ok (.aload_n 0, 1) := by decide +kernel
theorem dX11_entry_1 : decode cX11_entry 1 = .ok (.iload_n 1, 1) := by decide +kernel
theorem dX11_entry_2 : decode cX11_entry 2 = .ok (.invokevirtual 103, 3) := by decide +kernel
theorem dX11_entry_5 : decode cX11_entry 5 = .ok (.ifCond .eq 5, 3) := by decide +kernel
theorem dX11_entry_8 : decode cX11_entry 8 = .ok (.iconst (-1), 1) := by decide +kernel
theorem dX11_entry_9 : decode cX11_entry 9 = .ok (.ireturn, 1) := by decide +kernel
theorem dX11_entry_10 : decode cX11_entry 10 = .ok (.aload_n 0, 1) := by decide +kernel
theorem dX11_entry_11 : decode cX11_entry 11 = .ok (.getfield 29, 3) := by decide +kernel
theorem dX11_entry_14 : decode cX11_entry 14 = .ok (.iload_n 1, 1) := by decide +kernel
theorem dX11_entry_15 : decode cX11_entry 15 = .ok (.invokevirtual 116, 3) := by decide +kernel
theorem dX11_entry_18 : decode cX11_entry 18 = .ok (.ifCond .eq 6, 3) := by decide +kernel
theorem dX11_entry_21 : decode cX11_entry 21 = .ok (.bipush (-2), 2) := by decide +kernel
theorem dX11_entry_23 : decode cX11_entry 23 = .ok (.ireturn, 1) := by decide +kernel
theorem dX11_entry_24 : decode cX11_entry 24 = .ok (.iconst 0, 1) := by decide +kernel
theorem dX11_entry_25 : decode cX11_entry 25 = .ok (.istore_n 2, 1) := by decide +kernel
theorem dX11_entry_26 : decode cX11_entry 26 = .ok (.iconst 0, 1) := by decide +kernel
theorem dX11_entry_27 : decode cX11_entry 27 = .ok (.istore_n 3, 1) := by decide +kernel
theorem dX11_entry_28 : decode cX11_entry 28 = .ok (.iconst 0, 1) := by decide +kernel
theorem dX11_entry_29 : decode cX11_entry 29 = .ok (.istore 4, 2) := by decide +kernel
theorem dX11_entry_31 : decode cX11_entry 31 = .ok (.iload 4, 2) := by decide +kernel
theorem dX11_entry_33 : decode cX11_entry 33 = .ok (.bipush 11, 2) := by decide +kernel
theorem dX11_entry_35 : decode cX11_entry 35 = .ok (.if_icmp .gt 65, 3) := by decide +kernel
theorem dX11_entry_38 : decode cX11_entry 38 = .ok (.aload_n 0, 1) := by decide +kernel
theorem dX11_entry_39 : decode cX11_entry 39 = .ok (.getfield 33, 3) := by decide +kernel
theorem dX11_entry_42 : decode cX11_entry 42 = .ok (.aload_n 0, 1) := by decide +kernel
theorem dX11_entry_43 : decode cX11_entry 43 = .ok (.getfield 29, 3) := by decide +kernel
theorem dX11_entry_46 : decode cX11_entry 46 = .ok (.invokevirtual 174, 3) := by decide +kernel
theorem dX11_entry_49 : decode cX11_entry 49 = .ok (.aload_n 0, 1) := by decide +kernel
theorem dX11_entry_50 : decode cX11_entry 50 = .ok (.getfield 33, 3) := by decide +kernel
theorem dX11_entry_53 : decode cX11_entry 53 = .ok (.iload_n 1, 1) := by decide +kernel
theorem dX11_entry_54 : decode cX11_entry 54 = .ok (.iload 4, 2) := by decide +kernel
theorem dX11_entry_56 : decode cX11_entry 56 = .ok (.invokevirtual 167, 3) := by decide +kernel
theorem dX11_entry_59 : decode cX11_entry 59 = .ok (.aload_n 0, 1) := by decide +kernel
theorem dX11_entry_60 : decode cX11_entry 60 = .ok (.iload_n 1, 1) := by decide +kernel
theorem dX11_entry_61 : decode cX11_entry 61 = .ok (.invokevirtual 180, 3) := by decide +kernel
theorem dX11_entry_64 : decode cX11_entry 64 = .ok (.istore 5, 2) := by decide +kernel
theorem dX11_entry_66 : decode cX11_entry 66 = .ok (.iload 5, 2) := by decide +kernel
theorem dX11_entry_68 : decode cX11_entry 68 = .ok (.bipush (-9), 2) := by decide +kernel
theorem dX11_entry_70 : decode cX11_entry 70 = .ok (.if_icmp .ne 8, 3) := by decide +kernel
theorem dX11_entry_73 : decode cX11_entry 73 = .ok (.bipush 121, 2) := by decide +kernel
theorem dX11_entry_75 : decode cX11_entry 75 = .ok (.goto 5, 3) := by decide +kernel
theorem dX11_entry_78 : decode cX11_entry 78 = .ok (.iload 5, 2) := by decide +kernel
theorem dX11_entry_80 : decode cX11_entry 80 = .ok (.istore 6, 2) := by decide +kernel
theorem dX11_entry_82 : decode cX11_entry 82 = .ok (.iload 6, 2) := by decide +kernel
theorem dX11_entry_84 : decode cX11_entry 84 = .ok (.iload_n 3, 1) := by decide +kernel
theorem dX11_entry_85 : decode cX11_entry 85 = .ok (.if_icmp .le 9, 3) := by decide +kernel
theorem dX11_entry_88 : decode cX11_entry 88 = .ok (.iload 6, 2) := by decide +kernel
theorem dX11_entry_90 : decode cX11_entry 90 = .ok (.istore_n 3, 1) := by decide +kernel
theorem dX11_entry_91 : decode cX11_entry 91 = .ok (.iload 4, 2) := by decide +kernel
theorem dX11_entry_93 : decode cX11_entry 93 = .ok (.istore_n 2, 1) := by decide +kernel
theorem dX11_entry_94 : decode cX11_entry 94 = .ok (.iinc 4 1, 3) := by decide +kernel
theorem dX11_entry_97 : decode cX11_entry 97 = .ok (.goto (-66), 3) := by decide +kernel
theorem dX11_entry_100 : decode cX11_entry 100 = .ok (.iload_n 2, 1) := by decide +kernel
theorem dX11_entry_101 : decode cX11_entry 101 = .ok (.ireturn, 1) := by decide +kernel
theorem dX11_odds_0 : decode cX11_odds 0 = .ok (.iload_n 1, 1) := by decide +kernel
theorem dX11_odds_1 : decode cX11_odds 1 = .ok (.ifCond .lt 28, 3) := by decide +kernel
theorem dX11_odds_4 : decode cX11_odds 4 = .ok (.iload_n 1, 1) := by decide +kernel
theorem dX11_odds_5 : decode cX11_odds 5 = .ok (.bipush 10, 2) := by decide +kernel
theorem dX11_odds_7 : decode cX11_odds 7 = .ok (.if_icmp .gt 22, 3) := by decide +kernel
theorem dX11_odds_10 : decode cX11_odds 10 = .ok (.iload_n 2, 1) := by decide +kernel
theorem dX11_odds_11 : decode cX11_odds 11 = .ok (.ifCond .lt 18, 3) := by decide +kernel
theorem dX11_odds_14 : decode cX11_odds 14 = .ok (.iload_n 2, 1) := by decide +kernel
theorem dX11_odds_15 : decode cX11_odds 15 = .ok (.bipush 60, 2) := by decide +kernel
theorem dX11_odds_17 : decode cX11_odds 17 = .ok (.if_icmp .gt 12, 3) := by decide +kernel
theorem dX11_odds_20 : decode cX11_odds 20 = .ok (.iload_n 3, 1) := by decide +kernel
theorem dX11_odds_21 : decode cX11_odds 21 = .ok (.ifCond .lt 8, 3) := by decide +kernel
theorem dX11_odds_24 : decode cX11_odds 24 = .ok (.iload_n 3, 1) := by decide +kernel
theorem dX11_odds_25 : decode cX11_odds 25 = .ok (.iconst 1, 1) := by decide +kernel
theorem dX11_odds_26 : decode cX11_odds 26 = .ok (.if_icmp .le 5, 3) := by decide +kernel
theorem dX11_odds_29 : decode cX11_odds 29 = .ok (.iconst (-1), 1) := by decide +kernel
theorem dX11_odds_30 : decode cX11_odds 30 = .ok (.ireturn, 1) := by decide +kernel
theorem dX11_odds_31 : decode cX11_odds 31 = .ok (.iconst 1, 1) := by decide +kernel
theorem dX11_odds_32 : decode cX11_odds 32 = .ok (.istore 4, 2) := by decide +kernel
theorem dX11_odds_34 : decode cX11_odds 34 = .ok (.iconst 1, 1) := by decide +kernel
theorem dX11_odds_35 : decode cX11_odds 35 = .ok (.istore 5, 2) := by decide +kernel
theorem dX11_odds_37 : decode cX11_odds 37 = .ok (.iconst 0, 1) := by decide +kernel
theorem dX11_odds_38 : decode cX11_odds 38 = .ok (.istore 6, 2) := by decide +kernel
theorem dX11_odds_40 : decode cX11_odds 40 = .ok (.iload 6, 2) := by decide +kernel
theorem dX11_odds_42 : decode cX11_odds 42 = .ok (.aload_n 0, 1) := by decide +kernel
theorem dX11_odds_43 : decode cX11_odds 43 = .ok (.getfield 19, 3) := by decide +kernel
theorem dX11_odds_46 : decode cX11_odds 46 = .ok (.getfield 183, 3) := by decide +kernel
theorem dX11_odds_49 : decode cX11_odds 49 = .ok (.if_icmp .ge 41, 3) := by decide +kernel
theorem dX11_odds_52 : decode cX11_odds 52 = .ok (.aload_n 0, 1) := by decide +kernel
theorem dX11_odds_53 : decode cX11_odds 53 = .ok (.getfield 29, 3) := by decide +kernel
theorem dX11_odds_56 : decode cX11_odds 56 = .ok (.iload 6, 2) := by decide +kernel
theorem dX11_odds_58 : decode cX11_odds 58 = .ok (.invokevirtual 116, 3) := by decide +kernel
theorem dX11_odds_61 : decode cX11_odds 61 = .ok (.ifCond .eq 23, 3) := by decide +kernel
theorem dX11_odds_64 : decode cX11_odds 64 = .ok (.iload 4, 2) := by decide +kernel
theorem dX11_odds_66 : decode cX11_odds 66 = .ok (.aload_n 0, 1) := by decide +kernel
theorem dX11_odds_67 : decode cX11_odds 67 = .ok (.iload 6, 2) := by decide +kernel
theorem dX11_odds_69 : decode cX11_odds 69 = .ok (.iload_n 1, 1) := by decide +kernel
theorem dX11_odds_70 : decode cX11_odds 70 = .ok (.iload_n 2, 1) := by decide +kernel
theorem dX11_odds_71 : decode cX11_odds 71 = .ok (.invokevirtual 184, 3) := by decide +kernel
theorem dX11_odds_74 : decode cX11_odds 74 = .ok (.imul, 1) := by decide +kernel
theorem dX11_odds_75 : decode cX11_odds 75 = .ok (.istore 4, 2) := by decide +kernel
theorem dX11_odds_77 : decode cX11_odds 77 = .ok (.iload 5, 2) := by decide +kernel
theorem dX11_odds_79 : decode cX11_odds 79 = .ok (.bipush 10, 2) := by decide +kernel
theorem dX11_odds_81 : decode cX11_odds 81 = .ok (.imul, 1) := by decide +kernel
theorem dX11_odds_82 : decode cX11_odds 82 = .ok (.istore 5, 2) := by decide +kernel
theorem dX11_odds_84 : decode cX11_odds 84 = .ok (.iinc 6 1, 3) := by decide +kernel
theorem dX11_odds_87 : decode cX11_odds 87 = .ok (.goto (-47), 3) := by decide +kernel
theorem dX11_odds_90 : decode cX11_odds 90 = .ok (.iload 4, 2) := by decide +kernel
theorem dX11_odds_92 : decode cX11_odds 92 = .ok (.iload 5, 2) := by decide +kernel
theorem dX11_odds_94 : decode cX11_odds 94 = .ok (.invokestatic 188, 3) := by decide +kernel
theorem dX11_odds_97 : decode cX11_odds 97 = .ok (.istore 6, 2) := by decide +kernel
theorem dX11_odds_99 : decode cX11_odds 99 = .ok (.iload 6, 2) := by decide +kernel
theorem dX11_odds_101 : decode cX11_odds 101 = .ok (.ifCond .gt 5, 3) := by decide +kernel
theorem dX11_odds_104 : decode cX11_odds 104 = .ok (.iconst (-1), 1) := by decide +kernel
theorem dX11_odds_105 : decode cX11_odds 105 = .ok (.ireturn, 1) := by decide +kernel
theorem dX11_odds_106 : decode cX11_odds 106 = .ok (.iload_n 3, 1) := by decide +kernel
theorem dX11_odds_107 : decode cX11_odds 107 = .ok (.ifCond .ne 11, 3) := by decide +kernel
theorem dX11_odds_110 : decode cX11_odds 110 = .ok (.iload 4, 2) := by decide +kernel
theorem dX11_odds_112 : decode cX11_odds 112 = .ok (.iload 6, 2) := by decide +kernel
theorem dX11_odds_114 : decode cX11_odds 114 = .ok (.idiv, 1) := by decide +kernel
theorem dX11_odds_115 : decode cX11_odds 115 = .ok (.goto 8, 3) := by decide +kernel
theorem dX11_odds_118 : decode cX11_odds 118 = .ok (.iload 5, 2) := by decide +kernel
theorem dX11_odds_120 : decode cX11_odds 120 = .ok (.iload 6, 2) := by decide +kernel
theorem dX11_odds_122 : decode cX11_odds 122 = .ok (.idiv, 1) := by decide +kernel
theorem dX11_odds_123 : decode cX11_odds 123 = .ok (.ireturn, 1) := by decide +kernel
theorem dX11_sees_0 : decode cX11_sees 0 = .ok (.iload_n 1, 1) := by decide +kernel
theorem dX11_sees_1 : decode cX11_sees 1 = .ok (.invokestatic 192, 3) := by decide +kernel
theorem dX11_sees_4 : decode cX11_sees 4 = .ok (.ifCond .ne 22, 3) := by decide +kernel
theorem dX11_sees_7 : decode cX11_sees 7 = .ok (.iload_n 2, 1) := by decide +kernel
theorem dX11_sees_8 : decode cX11_sees 8 = .ok (.ifCond .lt 18, 3) := by decide +kernel
theorem dX11_sees_11 : decode cX11_sees 11 = .ok (.iload_n 2, 1) := by decide +kernel
theorem dX11_sees_12 : decode cX11_sees 12 = .ok (.bipush 40, 2) := by decide +kernel
theorem dX11_sees_14 : decode cX11_sees 14 = .ok (.if_icmp .gt 12, 3) := by decide +kernel
theorem dX11_sees_17 : decode cX11_sees 17 = .ok (.iload_n 3, 1) := by decide +kernel
theorem dX11_sees_18 : decode cX11_sees 18 = .ok (.ifCond .lt 8, 3) := by decide +kernel
theorem dX11_sees_21 : decode cX11_sees 21 = .ok (.iload_n 3, 1) := by decide +kernel
theorem dX11_sees_22 : decode cX11_sees 22 = .ok (.iconst 1, 1) := by decide +kernel
theorem dX11_sees_23 : decode cX11_sees 23 = .ok (.if_icmp .le 5, 3) := by decide +kernel
theorem dX11_sees_26 : decode cX11_sees 26 = .ok (.iconst (-1), 1) := by decide +kernel
theorem dX11_sees_27 : decode cX11_sees 27 = .ok (.ireturn, 1) := by decide +kernel
theorem dX11_sees_28 : decode cX11_sees 28 = .ok (.aload_n 0, 1) := by decide +kernel
theorem dX11_sees_29 : decode cX11_sees 29 = .ok (.getfield 54, 3) := by decide +kernel
theorem dX11_sees_32 : decode cX11_sees 32 = .ok (.getfield 99, 3) := by decide +kernel
theorem dX11_sees_35 : decode cX11_sees 35 = .ok (.bipush 6, 2) := by decide +kernel
theorem dX11_sees_37 : decode cX11_sees 37 = .ok (.if_icmp .lt 6, 3) := by decide +kernel
theorem dX11_sees_40 : decode cX11_sees 40 = .ok (.bipush (-3), 2) := by decide +kernel
theorem dX11_sees_42 : decode cX11_sees 42 = .ok (.ireturn, 1) := by decide +kernel
theorem dX11_sees_43 : decode cX11_sees 43 = .ok (.aload_n 0, 1) := by decide +kernel
theorem dX11_sees_44 : decode cX11_sees 44 = .ok (.getfield 54, 3) := by decide +kernel
theorem dX11_sees_47 : decode cX11_sees 47 = .ok (.iload_n 1, 1) := by decide +kernel
theorem dX11_sees_48 : decode cX11_sees 48 = .ok (.iload_n 2, 1) := by decide +kernel
theorem dX11_sees_49 : decode cX11_sees 49 = .ok (.iload_n 3, 1) := by decide +kernel
theorem dX11_sees_50 : decode cX11_sees 50 = .ok (.iconst 1, 1) := by decide +kernel
theorem dX11_sees_51 : decode cX11_sees 51 = .ok (.if_icmp .ne 7, 3) := by decide +kernel
theorem dX11_sees_54 : decode cX11_sees 54 = .ok (.iconst 1, 1) := by decide +kernel
theorem dX11_sees_55 : decode cX11_sees 55 = .ok (.goto 4, 3) := by decide +kernel
theorem dX11_sees_58 : decode cX11_sees 58 = .ok (.iconst 0, 1) := by decide +kernel
theorem dX11_sees_59 : decode cX11_sees 59 = .ok (.invokevirtual 195, 3) := by decide +kernel
theorem dX11_sees_62 : decode cX11_sees 62 = .ok (.aload_n 0, 1) := by decide +kernel
theorem dX11_sees_63 : decode cX11_sees 63 = .ok (.getfield 54, 3) := by decide +kernel
theorem dX11_sees_66 : decode cX11_sees 66 = .ok (.getfield 99, 3) := by decide +kernel
theorem dX11_sees_69 : decode cX11_sees 69 = .ok (.ireturn, 1) := by decide +kernel
theorem dX11_forget_0 : decode cX11_forget 0 = .ok (.aload_n 0, 1) := by decide +kernel
theorem dX11_forget_1 : decode cX11_forget 1 = .ok (.getfield 54, 3) := by decide +kernel
theorem dX11_forget_4 : decode cX11_forget 4 = .ok (.getfield 99, 3) := by decide +kernel
theorem dX11_forget_7 : decode cX11_forget 7 = .ok (.istore_n 1, 1) := by decide +kernel
theorem dX11_forget_8 : decode cX11_forget 8 = .ok (.aload_n 0, 1) := by decide +kernel
theorem dX11_forget_9 : decode cX11_forget 9 = .ok (.getfield 54, 3) := by decide +kernel
theorem dX11_forget_12 : decode cX11_forget 12 = .ok (.iconst 0, 1) := by decide +kernel
theorem dX11_forget_13 : decode cX11_forget 13 = .ok (.putfield 99, 3) := by decide +kernel
theorem dX11_forget_16 : decode cX11_forget 16 = .ok (.iload_n 1, 1) := by decide +kernel
theorem dX11_forget_17 : decode cX11_forget 17 = .ok (.ireturn, 1) := by decide +kernel
theorem dX11_ways_0 : decode cX11_ways 0 = .ok (.iload_n 1, 1) := by decide +kernel
theorem dX11_ways_1 : decode cX11_ways 1 = .ok (.ifCond .lt 8, 3) := by decide +kernel
theorem dX11_ways_4 : decode cX11_ways 4 = .ok (.iload_n 1, 1) := by decide +kernel
theorem dX11_ways_5 : decode cX11_ways 5 = .ok (.iconst 1, 1) := by decide +kernel
theorem dX11_ways_6 : decode cX11_ways 6 = .ok (.if_icmp .le 5, 3) := by decide +kernel
theorem dX11_ways_9 : decode cX11_ways 9 = .ok (.iconst (-1), 1) := by decide +kernel
theorem dX11_ways_10 : decode cX11_ways 10 = .ok (.ireturn, 1) := by decide +kernel
theorem dX11_ways_11 : decode cX11_ways 11 = .ok (.aload_n 0, 1) := by decide +kernel
theorem dX11_ways_12 : decode cX11_ways 12 = .ok (.getfield 54, 3) := by decide +kernel
theorem dX11_ways_15 : decode cX11_ways 15 = .ok (.invokevirtual 199, 3) := by decide +kernel
theorem dX11_ways_18 : decode cX11_ways 18 = .ok (.iload_n 1, 1) := by decide +kernel
theorem dX11_ways_19 : decode cX11_ways 19 = .ok (.ifCond .ne 11, 3) := by decide +kernel
theorem dX11_ways_22 : decode cX11_ways 22 = .ok (.aload_n 0, 1) := by decide +kernel
theorem dX11_ways_23 : decode cX11_ways 23 = .ok (.getfield 54, 3) := by decide +kernel
theorem dX11_ways_26 : decode cX11_ways 26 = .ok (.getfield 202, 3) := by decide +kernel
theorem dX11_ways_29 : decode cX11_ways 29 = .ok (.ireturn, 1) := by decide +kernel
theorem dX11_ways_30 : decode cX11_ways 30 = .ok (.aload_n 0, 1) := by decide +kernel
theorem dX11_ways_31 : decode cX11_ways 31 = .ok (.getfield 54, 3) := by decide +kernel
theorem dX11_ways_34 : decode cX11_ways 34 = .ok (.getfield 202, 3) := by decide +kernel
theorem dX11_ways_37 : decode cX11_ways 37 = .ok (.ifCond .ne 8, 3) := by decide +kernel
theorem dX11_ways_40 : decode cX11_ways 40 = .ok (.bipush (-9), 2) := by decide +kernel
theorem dX11_ways_42 : decode cX11_ways 42 = .ok (.goto 25, 3) := by decide +kernel
theorem dX11_ways_45 : decode cX11_ways 45 = .ok (.bipush 100, 2) := by decide +kernel
theorem dX11_ways_47 : decode cX11_ways 47 = .ok (.aload_n 0, 1) := by decide +kernel
theorem dX11_ways_48 : decode cX11_ways 48 = .ok (.getfield 54, 3) := by decide +kernel
theorem dX11_ways_51 : decode cX11_ways 51 = .ok (.getfield 205, 3) := by decide +kernel
theorem dX11_ways_54 : decode cX11_ways 54 = .ok (.iconst 0, 1) := by decide +kernel
theorem dX11_ways_55 : decode cX11_ways 55 = .ok (.iaload, 1) := by decide +kernel
theorem dX11_ways_56 : decode cX11_ways 56 = .ok (.imul, 1) := by decide +kernel
theorem dX11_ways_57 : decode cX11_ways 57 = .ok (.aload_n 0, 1) := by decide +kernel
theorem dX11_ways_58 : decode cX11_ways 58 = .ok (.getfield 54, 3) := by decide +kernel
theorem dX11_ways_61 : decode cX11_ways 61 = .ok (.getfield 208, 3) := by decide +kernel
theorem dX11_ways_64 : decode cX11_ways 64 = .ok (.iconst 0, 1) := by decide +kernel
theorem dX11_ways_65 : decode cX11_ways 65 = .ok (.iaload, 1) := by decide +kernel
theorem dX11_ways_66 : decode cX11_ways 66 = .ok (.iadd, 1) := by decide +kernel
theorem dX11_ways_67 : decode cX11_ways 67 = .ok (.ireturn, 1) := by decide +kernel
theorem dX11_look_0 : decode cX11_look 0 = .ok (.iload_n 1, 1) := by decide +kernel
theorem dX11_look_1 : decode cX11_look 1 = .ok (.invokestatic 192, 3) := by decide +kernel
theorem dX11_look_4 : decode cX11_look 4 = .ok (.ifCond .eq 5, 3) := by decide +kernel
theorem dX11_look_7 : decode cX11_look 7 = .ok (.iconst (-1), 1) := by decide +kernel
theorem dX11_look_8 : decode cX11_look 8 = .ok (.ireturn, 1) := by decide +kernel
theorem dX11_look_9 : decode cX11_look 9 = .ok (.aload_n 0, 1) := by decide +kernel
theorem dX11_look_10 : decode cX11_look 10 = .ok (.getfield 54, 3) := by decide +kernel
theorem dX11_look_13 : decode cX11_look 13 = .ok (.invokevirtual 199, 3) := by decide +kernel
theorem dX11_look_16 : decode cX11_look 16 = .ok (.aload_n 0, 1) := by decide +kernel
theorem dX11_look_17 : decode cX11_look 17 = .ok (.getfield 54, 3) := by decide +kernel
theorem dX11_look_20 : decode cX11_look 20 = .ok (.getfield 202, 3) := by decide +kernel
theorem dX11_look_23 : decode cX11_look 23 = .ok (.iconst 1, 1) := by decide +kernel
theorem dX11_look_24 : decode cX11_look 24 = .ok (.if_icmp .gt 8, 3) := by decide +kernel
theorem dX11_look_27 : decode cX11_look 27 = .ok (.bipush (-9), 2) := by decide +kernel
theorem dX11_look_29 : decode cX11_look 29 = .ok (.goto 11, 3) := by decide +kernel
theorem dX11_look_32 : decode cX11_look 32 = .ok (.aload_n 0, 1) := by decide +kernel
theorem dX11_look_33 : decode cX11_look 33 = .ok (.getfield 54, 3) := by decide +kernel
theorem dX11_look_36 : decode cX11_look 36 = .ok (.iload_n 1, 1) := by decide +kernel
theorem dX11_look_37 : decode cX11_look 37 = .ok (.invokevirtual 211, 3) := by decide +kernel
theorem dX11_look_40 : decode cX11_look 40 = .ok (.ireturn, 1) := by decide +kernel
theorem dX11_rate_0 : decode cX11_rate 0 = .ok (.iload_n 1, 1) := by decide +kernel
theorem dX11_rate_1 : decode cX11_rate 1 = .ok (.ifCond .lt 20, 3) := by decide +kernel
theorem dX11_rate_4 : decode cX11_rate 4 = .ok (.iload_n 1, 1) := by decide +kernel
theorem dX11_rate_5 : decode cX11_rate 5 = .ok (.aload_n 0, 1) := by decide +kernel
theorem dX11_rate_6 : decode cX11_rate 6 = .ok (.getfield 76, 3) := by decide +kernel
theorem dX11_rate_9 : decode cX11_rate 9 = .ok (.arraylength, 1) := by decide +kernel
theorem dX11_rate_10 : decode cX11_rate 10 = .ok (.if_icmp .ge 11, 3) := by decide +kernel
theorem dX11_rate_13 : decode cX11_rate 13 = .ok (.aload_n 0, 1) := by decide +kernel
theorem dX11_rate_14 : decode cX11_rate 14 = .ok (.iload_n 2, 1) := by decide +kernel
theorem dX11_rate_15 : decode cX11_rate 15 = .ok (.invokevirtual 103, 3) := by decide +kernel
theorem dX11_rate_18 : decode cX11_rate 18 = .ok (.ifCond .eq 6, 3) := by decide +kernel
theorem dX11_rate_21 : decode cX11_rate 21 = .ok (.ldc 214, 2) := by decide +kernel
theorem dX11_rate_23 : decode cX11_rate 23 = .ok (.ireturn, 1) := by decide +kernel
theorem dX11_rate_24 : decode cX11_rate 24 = .ok (.aload_n 0, 1) := by decide +kernel
theorem dX11_rate_25 : decode cX11_rate 25 = .ok (.getfield 76, 3) := by decide +kernel
theorem dX11_rate_28 : decode cX11_rate 28 = .ok (.iload_n 1, 1) := by decide +kernel
theorem dX11_rate_29 : decode cX11_rate 29 = .ok (.aaload, 1) := by decide +kernel
theorem dX11_rate_30 : decode cX11_rate 30 = .ok (.astore_n 3, 1) := by decide +kernel
theorem dX11_rate_31 : decode cX11_rate 31 = .ok (.aload_n 3, 1) := by decide +kernel
theorem dX11_rate_32 : decode cX11_rate 32 = .ok (.ifnonnull 8, 3) := by decide +kernel
theorem dX11_rate_35 : decode cX11_rate 35 = .ok (.ldc 214, 2) := by decide +kernel
theorem dX11_rate_37 : decode cX11_rate 37 = .ok (.goto 9, 3) := by decide +kernel
theorem dX11_rate_40 : decode cX11_rate 40 = .ok (.aload_n 3, 1) := by decide +kernel
theorem dX11_rate_41 : decode cX11_rate 41 = .ok (.aload_n 0, 1) := by decide +kernel
theorem dX11_rate_42 : decode cX11_rate 42 = .ok (.iload_n 2, 1) := by decide +kernel
theorem dX11_rate_43 : decode cX11_rate 43 = .ok (.invokevirtual 215, 3) := by decide +kernel
theorem dX11_rate_46 : decode cX11_rate 46 = .ok (.ireturn, 1) := by decide +kernel
theorem dX11_keep_0 : decode cX11_keep 0 = .ok (.aload_n 0, 1) := by decide +kernel
theorem dX11_keep_1 : decode cX11_keep 1 = .ok (.iload_n 1, 1) := by decide +kernel
theorem dX11_keep_2 : decode cX11_keep 2 = .ok (.invokevirtual 219, 3) := by decide +kernel
theorem dX11_keep_5 : decode cX11_keep 5 = .ok (.ifCond .eq 5, 3) := by decide +kernel
theorem dX11_keep_8 : decode cX11_keep 8 = .ok (.iconst (-1), 1) := by decide +kernel
theorem dX11_keep_9 : decode cX11_keep 9 = .ok (.ireturn, 1) := by decide +kernel
theorem dX11_keep_10 : decode cX11_keep 10 = .ok (.aload_n 0, 1) := by decide +kernel
theorem dX11_keep_11 : decode cX11_keep 11 = .ok (.getfield 43, 3) := by decide +kernel
theorem dX11_keep_14 : decode cX11_keep 14 = .ok (.iload_n 1, 1) := by decide +kernel
theorem dX11_keep_15 : decode cX11_keep 15 = .ok (.aaload, 1) := by decide +kernel
theorem dX11_keep_16 : decode cX11_keep 16 = .ok (.aload_n 0, 1) := by decide +kernel
theorem dX11_keep_17 : decode cX11_keep 17 = .ok (.getfield 29, 3) := by decide +kernel
theorem dX11_keep_20 : decode cX11_keep 20 = .ok (.invokevirtual 174, 3) := by decide +kernel
theorem dX11_keep_23 : decode cX11_keep 23 = .ok (.aload_n 0, 1) := by decide +kernel
theorem dX11_keep_24 : decode cX11_keep 24 = .ok (.getfield 47, 3) := by decide +kernel
theorem dX11_keep_27 : decode cX11_keep 27 = .ok (.iload_n 1, 1) := by decide +kernel
theorem dX11_keep_28 : decode cX11_keep 28 = .ok (.iconst 1, 1) := by decide +kernel
theorem dX11_keep_29 : decode cX11_keep 29 = .ok (.bastore, 1) := by decide +kernel
theorem dX11_keep_30 : decode cX11_keep 30 = .ok (.aload_n 0, 1) := by decide +kernel
theorem dX11_keep_31 : decode cX11_keep 31 = .ok (.getfield 29, 3) := by decide +kernel
theorem dX11_keep_34 : decode cX11_keep 34 = .ok (.getfield 129, 3) := by decide +kernel
theorem dX11_keep_37 : decode cX11_keep 37 = .ok (.ireturn, 1) := by decide +kernel
theorem dX11_back_0 : decode cX11_back 0 = .ok (.aload_n 0, 1) := by decide +kernel
theorem dX11_back_1 : decode cX11_back 1 = .ok (.iload_n 1, 1) := by decide +kernel
theorem dX11_back_2 : decode cX11_back 2 = .ok (.invokevirtual 219, 3) := by decide +kernel
theorem dX11_back_5 : decode cX11_back 5 = .ok (.ifCond .eq 5, 3) := by decide +kernel
theorem dX11_back_8 : decode cX11_back 8 = .ok (.iconst (-1), 1) := by decide +kernel
theorem dX11_back_9 : decode cX11_back 9 = .ok (.ireturn, 1) := by decide +kernel
theorem dX11_back_10 : decode cX11_back 10 = .ok (.aload_n 0, 1) := by decide +kernel
theorem dX11_back_11 : decode cX11_back 11 = .ok (.getfield 47, 3) := by decide +kernel
theorem dX11_back_14 : decode cX11_back 14 = .ok (.iload_n 1, 1) := by decide +kernel
theorem dX11_back_15 : decode cX11_back 15 = .ok (.baload, 1) := by decide +kernel
theorem dX11_back_16 : decode cX11_back 16 = .ok (.ifCond .ne 6, 3) := by decide +kernel
theorem dX11_back_19 : decode cX11_back 19 = .ok (.bipush (-2), 2) := by decide +kernel
theorem dX11_back_21 : decode cX11_back 21 = .ok (.ireturn, 1) := by decide +kernel
theorem dX11_back_22 : decode cX11_back 22 = .ok (.aload_n 0, 1) := by decide +kernel
theorem dX11_back_23 : decode cX11_back 23 = .ok (.getfield 29, 3) := by decide +kernel
theorem dX11_back_26 : decode cX11_back 26 = .ok (.aload_n 0, 1) := by decide +kernel
theorem dX11_back_27 : decode cX11_back 27 = .ok (.getfield 43, 3) := by decide +kernel
theorem dX11_back_30 : decode cX11_back 30 = .ok (.iload_n 1, 1) := by decide +kernel
theorem dX11_back_31 : decode cX11_back 31 = .ok (.aaload, 1) := by decide +kernel
theorem dX11_back_32 : decode cX11_back 32 = .ok (.invokevirtual 174, 3) := by decide +kernel
theorem dX11_back_35 : decode cX11_back 35 = .ok (.aload_n 0, 1) := by decide +kernel
theorem dX11_back_36 : decode cX11_back 36 = .ok (.getfield 39, 3) := by decide +kernel
theorem dX11_back_39 : decode cX11_back 39 = .ok (.iconst 0, 1) := by decide +kernel
theorem dX11_back_40 : decode cX11_back 40 = .ok (.putfield 96, 3) := by decide +kernel
theorem dX11_back_43 : decode cX11_back 43 = .ok (.aload_n 0, 1) := by decide +kernel
theorem dX11_back_44 : decode cX11_back 44 = .ok (.getfield 29, 3) := by decide +kernel
theorem dX11_back_47 : decode cX11_back 47 = .ok (.getfield 129, 3) := by decide +kernel
theorem dX11_back_50 : decode cX11_back 50 = .ok (.ireturn, 1) := by decide +kernel
theorem dX11_count_0 : decode cX11_count 0 = .ok (.iload_n 1, 1) := by decide +kernel
theorem dX11_count_1 : decode cX11_count 1 = .ok (.tableswitch 51 0 2 #[27, 35, 43], 27) := by decide +kernel
theorem dX11_count_28 : decode cX11_count 28 = .ok (.aload_n 0, 1) := by decide +kernel
theorem dX11_count_29 : decode cX11_count 29 = .ok (.getfield 19, 3) := by decide +kernel
theorem dX11_count_32 : decode cX11_count 32 = .ok (.getfield 183, 3) := by decide +kernel
theorem dX11_count_35 : decode cX11_count 35 = .ok (.ireturn, 1) := by decide +kernel
theorem dX11_count_36 : decode cX11_count 36 = .ok (.aload_n 0, 1) := by decide +kernel
theorem dX11_count_37 : decode cX11_count 37 = .ok (.getfield 54, 3) := by decide +kernel
theorem dX11_count_40 : decode cX11_count 40 = .ok (.getfield 99, 3) := by decide +kernel
theorem dX11_count_43 : decode cX11_count 43 = .ok (.ireturn, 1) := by decide +kernel
theorem dX11_count_44 : decode cX11_count 44 = .ok (.aload_n 0, 1) := by decide +kernel
theorem dX11_count_45 : decode cX11_count 45 = .ok (.getfield 10, 3) := by decide +kernel
theorem dX11_count_48 : decode cX11_count 48 = .ok (.getfield 84, 3) := by decide +kernel
theorem dX11_count_51 : decode cX11_count 51 = .ok (.ireturn, 1) := by decide +kernel
theorem dX11_count_52 : decode cX11_count 52 = .ok (.iconst (-1), 1) := by decide +kernel
theorem dX11_count_53 : decode cX11_count 53 = .ok (.ireturn, 1) := by decide +kernel
theorem dX11_trace_0 : decode cX11_trace 0 = .ok (.aload_n 0, 1) := by decide +kernel
theorem dX11_trace_1 : decode cX11_trace 1 = .ok (.getfield 222, 3) := by decide +kernel
theorem dX11_trace_4 : decode cX11_trace 4 = .ok (.lreturn, 1) := by decide +kernel
theorem dX11_isNobody_0 : decode cX11_isNobody 0 = .ok (.iload_n 1, 1) := by decide +kernel
theorem dX11_isNobody_1 : decode cX11_isNobody 1 = .ok (.ifCond .lt 14, 3) := by decide +kernel
theorem dX11_isNobody_4 : decode cX11_isNobody 4 = .ok (.iload_n 1, 1) := by decide +kernel
theorem dX11_isNobody_5 : decode cX11_isNobody 5 = .ok (.aload_n 0, 1) := by decide +kernel
theorem dX11_isNobody_6 : decode cX11_isNobody 6 = .ok (.getfield 19, 3) := by decide +kernel
theorem dX11_isNobody_9 : decode cX11_isNobody 9 = .ok (.getfield 183, 3) := by decide +kernel
theorem dX11_isNobody_12 : decode cX11_isNobody 12 = .ok (.if_icmp .lt 7, 3) := by decide +kernel
theorem dX11_isNobody_15 : decode cX11_isNobody 15 = .ok (.iconst 1, 1) := by decide +kernel
theorem dX11_isNobody_16 : decode cX11_isNobody 16 = .ok (.goto 4, 3) := by decide +kernel
theorem dX11_isNobody_19 : decode cX11_isNobody 19 = .ok (.iconst 0, 1) := by decide +kernel
theorem dX11_isNobody_20 : decode cX11_isNobody 20 = .ok (.ireturn, 1) := by decide +kernel
theorem dX11_isNoHang_0 : decode cX11_isNoHang 0 = .ok (.iload_n 0, 1) := by decide +kernel
theorem dX11_isNoHang_1 : decode cX11_isNoHang 1 = .ok (.iconst 1, 1) := by decide +kernel
theorem dX11_isNoHang_2 : decode cX11_isNoHang 2 = .ok (.if_icmp .lt 8, 3) := by decide +kernel
theorem dX11_isNoHang_5 : decode cX11_isNoHang 5 = .ok (.iload_n 0, 1) := by decide +kernel
theorem dX11_isNoHang_6 : decode cX11_isNoHang 6 = .ok (.iconst 4, 1) := by decide +kernel
theorem dX11_isNoHang_7 : decode cX11_isNoHang 7 = .ok (.if_icmp .le 7, 3) := by decide +kernel
theorem dX11_isNoHang_10 : decode cX11_isNoHang 10 = .ok (.iconst 1, 1) := by decide +kernel
theorem dX11_isNoHang_11 : decode cX11_isNoHang 11 = .ok (.goto 4, 3) := by decide +kernel
theorem dX11_isNoHang_14 : decode cX11_isNoHang 14 = .ok (.iconst 0, 1) := by decide +kernel
theorem dX11_isNoHang_15 : decode cX11_isNoHang 15 = .ok (.ireturn, 1) := by decide +kernel
theorem dX11_isNoImage_0 : decode cX11_isNoImage 0 = .ok (.iload_n 1, 1) := by decide +kernel
theorem dX11_isNoImage_1 : decode cX11_isNoImage 1 = .ok (.ifCond .lt 21, 3) := by decide +kernel
theorem dX11_isNoImage_4 : decode cX11_isNoImage 4 = .ok (.iload_n 1, 1) := by decide +kernel
theorem dX11_isNoImage_5 : decode cX11_isNoImage 5 = .ok (.aload_n 0, 1) := by decide +kernel
theorem dX11_isNoImage_6 : decode cX11_isNoImage 6 = .ok (.getfield 43, 3) := by decide +kernel
theorem dX11_isNoImage_9 : decode cX11_isNoImage 9 = .ok (.arraylength, 1) := by decide +kernel
theorem dX11_isNoImage_10 : decode cX11_isNoImage 10 = .ok (.if_icmp .ge 12, 3) := by decide +kernel
theorem dX11_isNoImage_13 : decode cX11_isNoImage 13 = .ok (.aload_n 0, 1) := by decide +kernel
theorem dX11_isNoImage_14 : decode cX11_isNoImage 14 = .ok (.getfield 43, 3) := by decide +kernel
theorem dX11_isNoImage_17 : decode cX11_isNoImage 17 = .ok (.iload_n 1, 1) := by decide +kernel
theorem dX11_isNoImage_18 : decode cX11_isNoImage 18 = .ok (.aaload, 1) := by decide +kernel
theorem dX11_isNoImage_19 : decode cX11_isNoImage 19 = .ok (.ifnonnull 7, 3) := by decide +kernel
theorem dX11_isNoImage_22 : decode cX11_isNoImage 22 = .ok (.iconst 1, 1) := by decide +kernel
theorem dX11_isNoImage_23 : decode cX11_isNoImage 23 = .ok (.goto 4, 3) := by decide +kernel
theorem dX11_isNoImage_26 : decode cX11_isNoImage 26 = .ok (.iconst 0, 1) := by decide +kernel
theorem dX11_isNoImage_27 : decode cX11_isNoImage 27 = .ok (.ireturn, 1) := by decide +kernel
theorem dX11_playOn_0 : decode cX11_playOn 0 = .ok (.iconst 0, 1) := by decide +kernel
theorem dX11_playOn_1 : decode cX11_playOn 1 = .ok (.istore_n 2, 1) := by decide +kernel
theorem dX11_playOn_2 : decode cX11_playOn 2 = .ok (.iload_n 2, 1) := by decide +kernel
theorem dX11_playOn_3 : decode cX11_playOn 3 = .ok (.iload_n 1, 1) := by decide +kernel
theorem dX11_playOn_4 : decode cX11_playOn 4 = .ok (.if_icmp .ge 21, 3) := by decide +kernel
theorem dX11_playOn_7 : decode cX11_playOn 7 = .ok (.aload_n 0, 1) := by decide +kernel
theorem dX11_playOn_8 : decode cX11_playOn 8 = .ok (.getfield 33, 3) := by decide +kernel
theorem dX11_playOn_11 : decode cX11_playOn 11 = .ok (.aload_n 0, 1) := by decide +kernel
theorem dX11_playOn_12 : decode cX11_playOn 12 = .ok (.getfield 19, 3) := by decide +kernel
theorem dX11_playOn_15 : decode cX11_playOn 15 = .ok (.invokevirtual 152, 3) := by decide +kernel
theorem dX11_playOn_18 : decode cX11_playOn 18 = .ok (.pop, 1) := by decide +kernel
theorem dX11_playOn_19 : decode cX11_playOn 19 = .ok (.iinc 2 1, 3) := by decide +kernel
theorem dX11_playOn_22 : decode cX11_playOn 22 = .ok (.goto (-20), 3) := by decide +kernel
theorem dX11_playOn_25 : decode cX11_playOn 25 = .ok (.return_, 1) := by decide +kernel
theorem dX11_playTillOut_0 : decode cX11_playTillOut 0 = .ok (.iconst 1, 1) := by decide +kernel
theorem dX11_playTillOut_1 : decode cX11_playTillOut 1 = .ok (.istore_n 2, 1) := by decide +kernel
theorem dX11_playTillOut_2 : decode cX11_playTillOut 2 = .ok (.iload_n 2, 1) := by decide +kernel
theorem dX11_playTillOut_3 : decode cX11_playTillOut 3 = .ok (.bipush 120, 2) := by decide +kernel
theorem dX11_playTillOut_5 : decode cX11_playTillOut 5 = .ok (.if_icmp .gt 34, 3) := by decide +kernel
theorem dX11_playTillOut_8 : decode cX11_playTillOut 8 = .ok (.aload_n 0, 1) := by decide +kernel
theorem dX11_playTillOut_9 : decode cX11_playTillOut 9 = .ok (.getfield 33, 3) := by decide +kernel
theorem dX11_playTillOut_12 : decode cX11_playTillOut 12 = .ok (.aload_n 0, 1) := by decide +kernel
theorem dX11_playTillOut_13 : decode cX11_playTillOut 13 = .ok (.getfield 19, 3) := by decide +kernel
theorem dX11_playTillOut_16 : decode cX11_playTillOut 16 = .ok (.invokevirtual 152, 3) := by decide +kernel
theorem dX11_playTillOut_19 : decode cX11_playTillOut 19 = .ok (.pop, 1) := by decide +kernel
theorem dX11_playTillOut_20 : decode cX11_playTillOut 20 = .ok (.aload_n 0, 1) := by decide +kernel
theorem dX11_playTillOut_21 : decode cX11_playTillOut 21 = .ok (.getfield 33, 3) := by decide +kernel
theorem dX11_playTillOut_24 : decode cX11_playTillOut 24 = .ok (.iload_n 1, 1) := by decide +kernel
theorem dX11_playTillOut_25 : decode cX11_playTillOut 25 = .ok (.invokevirtual 116, 3) := by decide +kernel
theorem dX11_playTillOut_28 : decode cX11_playTillOut 28 = .ok (.ifCond .ne 5, 3) := by decide +kernel
theorem dX11_playTillOut_31 : decode cX11_playTillOut 31 = .ok (.iload_n 2, 1) := by decide +kernel
theorem dX11_playTillOut_32 : decode cX11_playTillOut 32 = .ok (.ireturn, 1) := by decide +kernel
theorem dX11_playTillOut_33 : decode cX11_playTillOut 33 = .ok (.iinc 2 1, 3) := by decide +kernel
theorem dX11_playTillOut_36 : decode cX11_playTillOut 36 = .ok (.goto (-34), 3) := by decide +kernel
theorem dX11_playTillOut_39 : decode cX11_playTillOut 39 = .ok (.bipush (-9), 2) := by decide +kernel
theorem dX11_playTillOut_41 : decode cX11_playTillOut 41 = .ok (.ireturn, 1) := by decide +kernel
theorem dX11_tripNow_0 : decode cX11_tripNow 0 = .ok (.aload_n 0, 1) := by decide +kernel
theorem dX11_tripNow_1 : decode cX11_tripNow 1 = .ok (.getfield 29, 3) := by decide +kernel
theorem dX11_tripNow_4 : decode cX11_tripNow 4 = .ok (.iload_n 1, 1) := by decide +kernel
theorem dX11_tripNow_5 : decode cX11_tripNow 5 = .ok (.invokevirtual 116, 3) := by decide +kernel
theorem dX11_tripNow_8 : decode cX11_tripNow 8 = .ok (.ifCond .ne 6, 3) := by decide +kernel
theorem dX11_tripNow_11 : decode cX11_tripNow 11 = .ok (.bipush (-9), 2) := by decide +kernel
theorem dX11_tripNow_13 : decode cX11_tripNow 13 = .ok (.ireturn, 1) := by decide +kernel
theorem dX11_tripNow_14 : decode cX11_tripNow 14 = .ok (.aload_n 0, 1) := by decide +kernel
theorem dX11_tripNow_15 : decode cX11_tripNow 15 = .ok (.getfield 33, 3) := by decide +kernel
theorem dX11_tripNow_18 : decode cX11_tripNow 18 = .ok (.aload_n 0, 1) := by decide +kernel
theorem dX11_tripNow_19 : decode cX11_tripNow 19 = .ok (.getfield 29, 3) := by decide +kernel
theorem dX11_tripNow_22 : decode cX11_tripNow 22 = .ok (.invokevirtual 174, 3) := by decide +kernel
theorem dX11_tripNow_25 : decode cX11_tripNow 25 = .ok (.aload_n 0, 1) := by decide +kernel
theorem dX11_tripNow_26 : decode cX11_tripNow 26 = .ok (.iload_n 1, 1) := by decide +kernel
theorem dX11_tripNow_27 : decode cX11_tripNow 27 = .ok (.invokevirtual 180, 3) := by decide +kernel
theorem dX11_tripNow_30 : decode cX11_tripNow 30 = .ok (.ireturn, 1) := by decide +kernel
theorem dX11_playTillFirst_0 : decode cX11_playTillFirst 0 = .ok (.aload_n 0, 1) := by decide +kernel
theorem dX11_playTillFirst_1 : decode cX11_playTillFirst 1 = .ok (.getfield 33, 3) := by decide +kernel
theorem dX11_playTillFirst_4 : decode cX11_playTillFirst 4 = .ok (.aload_n 0, 1) := by decide +kernel
theorem dX11_playTillFirst_5 : decode cX11_playTillFirst 5 = .ok (.getfield 29, 3) := by decide +kernel
theorem dX11_playTillFirst_8 : decode cX11_playTillFirst 8 = .ok (.invokevirtual 174, 3) := by decide +kernel
theorem dX11_playTillFirst_11 : decode cX11_playTillFirst 11 = .ok (.iconst 1, 1) := by decide +kernel
theorem dX11_playTillFirst_12 : decode cX11_playTillFirst 12 = .ok (.istore_n 1, 1) := by decide +kernel
theorem dX11_playTillFirst_13 : decode cX11_playTillFirst 13 = .ok (.iload_n 1, 1) := by decide +kernel
theorem dX11_playTillFirst_14 : decode cX11_playTillFirst 14 = .ok (.bipush 120, 2) := by decide +kernel
theorem dX11_playTillFirst_16 : decode cX11_playTillFirst 16 = .ok (.if_icmp .gt 25, 3) := by decide +kernel
theorem dX11_playTillFirst_19 : decode cX11_playTillFirst 19 = .ok (.aload_n 0, 1) := by decide +kernel
theorem dX11_playTillFirst_20 : decode cX11_playTillFirst 20 = .ok (.getfield 33, 3) := by decide +kernel
theorem dX11_playTillFirst_23 : decode cX11_playTillFirst 23 = .ok (.aload_n 0, 1) := by decide +kernel
theorem dX11_playTillFirst_24 : decode cX11_playTillFirst 24 = .ok (.getfield 19, 3) := by decide +kernel
theorem dX11_playTillFirst_27 : decode cX11_playTillFirst 27 = .ok (.invokevirtual 152, 3) := by decide +kernel
theorem dX11_playTillFirst_30 : decode cX11_playTillFirst 30 = .ok (.ifCond .eq 5, 3) := by decide +kernel
theorem dX11_playTillFirst_33 : decode cX11_playTillFirst 33 = .ok (.iload_n 1, 1) := by decide +kernel
theorem dX11_playTillFirst_34 : decode cX11_playTillFirst 34 = .ok (.ireturn, 1) := by decide +kernel
theorem dX11_playTillFirst_35 : decode cX11_playTillFirst 35 = .ok (.iinc 1 1, 3) := by decide +kernel
theorem dX11_playTillFirst_38 : decode cX11_playTillFirst 38 = .ok (.goto (-25), 3) := by decide +kernel
theorem dX11_playTillFirst_41 : decode cX11_playTillFirst 41 = .ok (.bipush (-9), 2) := by decide +kernel
theorem dX11_playTillFirst_43 : decode cX11_playTillFirst 43 = .ok (.ireturn, 1) := by decide +kernel
theorem dX11_firstOnes_0 : decode cX11_firstOnes 0 = .ok (.aload_n 0, 1) := by decide +kernel
theorem dX11_firstOnes_1 : decode cX11_firstOnes 1 = .ok (.invokevirtual 141, 3) := by decide +kernel
theorem dX11_firstOnes_4 : decode cX11_firstOnes 4 = .ok (.pop, 1) := by decide +kernel
theorem dX11_firstOnes_5 : decode cX11_firstOnes 5 = .ok (.aload_n 0, 1) := by decide +kernel
theorem dX11_firstOnes_6 : decode cX11_firstOnes 6 = .ok (.getfield 29, 3) := by decide +kernel
theorem dX11_firstOnes_9 : decode cX11_firstOnes 9 = .ok (.getfield 138, 3) := by decide +kernel
theorem dX11_firstOnes_12 : decode cX11_firstOnes 12 = .ok (.aload_n 0, 1) := by decide +kernel
theorem dX11_firstOnes_13 : decode cX11_firstOnes 13 = .ok (.getfield 33, 3) := by decide +kernel
theorem dX11_firstOnes_16 : decode cX11_firstOnes 16 = .ok (.getfield 138, 3) := by decide +kernel
theorem dX11_firstOnes_19 : decode cX11_firstOnes 19 = .ok (.iconst (-1), 1) := by decide +kernel
theorem dX11_firstOnes_20 : decode cX11_firstOnes 20 = .ok (.ixor, 1) := by decide +kernel
theorem dX11_firstOnes_21 : decode cX11_firstOnes 21 = .ok (.iand, 1) := by decide +kernel
theorem dX11_firstOnes_22 : decode cX11_firstOnes 22 = .ok (.ireturn, 1) := by decide +kernel
theorem dX11_tenthsThatStay_0 : decode cX11_tenthsThatStay 0 = .ok (.iconst 0, 1) := by decide +kernel
theorem dX11_tenthsThatStay_1 : decode cX11_tenthsThatStay 1 = .ok (.istore 4, 2) := by decide +kernel
theorem dX11_tenthsThatStay_3 : decode cX11_tenthsThatStay 3 = .ok (.aload_n 0, 1) := by decide +kernel
theorem dX11_tenthsThatStay_4 : decode cX11_tenthsThatStay 4 = .ok (.iload_n 1, 1) := by decide +kernel
theorem dX11_tenthsThatStay_5 : decode cX11_tenthsThatStay 5 = .ok (.iconst 0, 1) := by decide +kernel
theorem dX11_tenthsThatStay_6 : decode cX11_tenthsThatStay 6 = .ok (.iload_n 3, 1) := by decide +kernel
theorem dX11_tenthsThatStay_7 : decode cX11_tenthsThatStay 7 = .ok (.invokevirtual 226, 3) := by decide +kernel
theorem dX11_tenthsThatStay_10 : decode cX11_tenthsThatStay 10 = .ok (.ifCond .eq 12, 3) := by decide +kernel
theorem dX11_tenthsThatStay_13 : decode cX11_tenthsThatStay 13 = .ok (.iload 4, 2) := by decide +kernel
theorem dX11_tenthsThatStay_15 : decode cX11_tenthsThatStay 15 = .ok (.bipush 10, 2) := by decide +kernel
theorem dX11_tenthsThatStay_17 : decode cX11_tenthsThatStay 17 = .ok (.iload_n 2, 1) := by decide +kernel
theorem dX11_tenthsThatStay_18 : decode cX11_tenthsThatStay 18 = .ok (.isub, 1) := by decide +kernel
theorem dX11_tenthsThatStay_19 : decode cX11_tenthsThatStay 19 = .ok (.iadd, 1) := by decide +kernel
theorem dX11_tenthsThatStay_20 : decode cX11_tenthsThatStay 20 = .ok (.istore 4, 2) := by decide +kernel
theorem dX11_tenthsThatStay_22 : decode cX11_tenthsThatStay 22 = .ok (.aload_n 0, 1) := by decide +kernel
theorem dX11_tenthsThatStay_23 : decode cX11_tenthsThatStay 23 = .ok (.iload_n 1, 1) := by decide +kernel
theorem dX11_tenthsThatStay_24 : decode cX11_tenthsThatStay 24 = .ok (.aload_n 0, 1) := by decide +kernel
theorem dX11_tenthsThatStay_25 : decode cX11_tenthsThatStay 25 = .ok (.getfield 19, 3) := by decide +kernel
theorem dX11_tenthsThatStay_28 : decode cX11_tenthsThatStay 28 = .ok (.getfield 107, 3) := by decide +kernel
theorem dX11_tenthsThatStay_31 : decode cX11_tenthsThatStay 31 = .ok (.iload_n 1, 1) := by decide +kernel
theorem dX11_tenthsThatStay_32 : decode cX11_tenthsThatStay 32 = .ok (.iaload, 1) := by decide +kernel
theorem dX11_tenthsThatStay_33 : decode cX11_tenthsThatStay 33 = .ok (.iload_n 3, 1) := by decide +kernel
theorem dX11_tenthsThatStay_34 : decode cX11_tenthsThatStay 34 = .ok (.invokevirtual 226, 3) := by decide +kernel
theorem dX11_tenthsThatStay_37 : decode cX11_tenthsThatStay 37 = .ok (.ifCond .eq 9, 3) := by decide +kernel
theorem dX11_tenthsThatStay_40 : decode cX11_tenthsThatStay 40 = .ok (.iload 4, 2) := by decide +kernel
theorem dX11_tenthsThatStay_42 : decode cX11_tenthsThatStay 42 = .ok (.iload_n 2, 1) := by decide +kernel
theorem dX11_tenthsThatStay_43 : decode cX11_tenthsThatStay 43 = .ok (.iadd, 1) := by decide +kernel
theorem dX11_tenthsThatStay_44 : decode cX11_tenthsThatStay 44 = .ok (.istore 4, 2) := by decide +kernel
theorem dX11_tenthsThatStay_46 : decode cX11_tenthsThatStay 46 = .ok (.iload 4, 2) := by decide +kernel
theorem dX11_tenthsThatStay_48 : decode cX11_tenthsThatStay 48 = .ok (.ireturn, 1) := by decide +kernel
theorem dX11_staysAlone_0 : decode cX11_staysAlone 0 = .ok (.aload_n 0, 1) := by decide +kernel
theorem dX11_staysAlone_1 : decode cX11_staysAlone 1 = .ok (.getfield 33, 3) := by decide +kernel
theorem dX11_staysAlone_4 : decode cX11_staysAlone 4 = .ok (.aload_n 0, 1) := by decide +kernel
theorem dX11_staysAlone_5 : decode cX11_staysAlone 5 = .ok (.getfield 29, 3) := by decide +kernel
theorem dX11_staysAlone_8 : decode cX11_staysAlone 8 = .ok (.invokevirtual 174, 3) := by decide +kernel
theorem dX11_staysAlone_11 : decode cX11_staysAlone 11 = .ok (.aload_n 0, 1) := by decide +kernel
theorem dX11_staysAlone_12 : decode cX11_staysAlone 12 = .ok (.getfield 33, 3) := by decide +kernel
theorem dX11_staysAlone_15 : decode cX11_staysAlone 15 = .ok (.iconst 1, 1) := by decide +kernel
theorem dX11_staysAlone_16 : decode cX11_staysAlone 16 = .ok (.iload_n 1, 1) := by decide +kernel
theorem dX11_staysAlone_17 : decode cX11_staysAlone 17 = .ok (.ishl, 1) := by decide +kernel
theorem dX11_staysAlone_18 : decode cX11_staysAlone 18 = .ok (.putfield 138, 3) := by decide +kernel
theorem dX11_staysAlone_21 : decode cX11_staysAlone 21 = .ok (.aload_n 0, 1) := by decide +kernel
theorem dX11_staysAlone_22 : decode cX11_staysAlone 22 = .ok (.getfield 33, 3) := by decide +kernel
theorem dX11_staysAlone_25 : decode cX11_staysAlone 25 = .ok (.getfield 122, 3) := by decide +kernel
theorem dX11_staysAlone_28 : decode cX11_staysAlone 28 = .ok (.iload_n 1, 1) := by decide +kernel
theorem dX11_staysAlone_29 : decode cX11_staysAlone 29 = .ok (.dup2, 1) := by decide +kernel
theorem dX11_staysAlone_30 : decode cX11_staysAlone 30 = .ok (.iaload, 1) := by decide +kernel
theorem dX11_staysAlone_31 : decode cX11_staysAlone 31 = .ok (.iload_n 2, 1) := by decide +kernel
theorem dX11_staysAlone_32 : decode cX11_staysAlone 32 = .ok (.iadd, 1) := by decide +kernel
theorem dX11_staysAlone_33 : decode cX11_staysAlone 33 = .ok (.iastore, 1) := by decide +kernel
theorem dX11_staysAlone_34 : decode cX11_staysAlone 34 = .ok (.aload_n 0, 1) := by decide +kernel
theorem dX11_staysAlone_35 : decode cX11_staysAlone 35 = .ok (.iload_n 3, 1) := by decide +kernel
theorem dX11_staysAlone_36 : decode cX11_staysAlone 36 = .ok (.invokevirtual 177, 3) := by decide +kernel
theorem dX11_staysAlone_39 : decode cX11_staysAlone 39 = .ok (.aload_n 0, 1) := by decide +kernel
theorem dX11_staysAlone_40 : decode cX11_staysAlone 40 = .ok (.getfield 33, 3) := by decide +kernel
theorem dX11_staysAlone_43 : decode cX11_staysAlone 43 = .ok (.iload_n 1, 1) := by decide +kernel
theorem dX11_staysAlone_44 : decode cX11_staysAlone 44 = .ok (.invokevirtual 116, 3) := by decide +kernel
theorem dX11_staysAlone_47 : decode cX11_staysAlone 47 = .ok (.ireturn, 1) := by decide +kernel
theorem dX11_commonDivisor_0 : decode cX11_commonDivisor 0 = .ok (.iload_n 0, 1) := by decide +kernel
theorem dX11_commonDivisor_1 : decode cX11_commonDivisor 1 = .ok (.istore_n 2, 1) := by decide +kernel
theorem dX11_commonDivisor_2 : decode cX11_commonDivisor 2 = .ok (.iload_n 1, 1) := by decide +kernel
theorem dX11_commonDivisor_3 : decode cX11_commonDivisor 3 = .ok (.istore_n 3, 1) := by decide +kernel
theorem dX11_commonDivisor_4 : decode cX11_commonDivisor 4 = .ok (.iconst 0, 1) := by decide +kernel
theorem dX11_commonDivisor_5 : decode cX11_commonDivisor 5 = .ok (.istore 4, 2) := by decide +kernel
theorem dX11_commonDivisor_7 : decode cX11_commonDivisor 7 = .ok (.iload 4, 2) := by decide +kernel
theorem dX11_commonDivisor_9 : decode cX11_commonDivisor 9 = .ok (.bipush 64, 2) := by decide +kernel
theorem dX11_commonDivisor_11 : decode cX11_commonDivisor 11 = .ok (.if_icmp .ge 23, 3) := by decide +kernel
theorem dX11_commonDivisor_14 : decode cX11_commonDivisor 14 = .ok (.iload_n 3, 1) := by decide +kernel
theorem dX11_commonDivisor_15 : decode cX11_commonDivisor 15 = .ok (.ifCond .eq 19, 3) := by decide +kernel
theorem dX11_commonDivisor_18 : decode cX11_commonDivisor 18 = .ok (.iload_n 2, 1) := by decide +kernel
theorem dX11_commonDivisor_19 : decode cX11_commonDivisor 19 = .ok (.iload_n 3, 1) := by decide +kernel
theorem dX11_commonDivisor_20 : decode cX11_commonDivisor 20 = .ok (.irem, 1) := by decide +kernel
theorem dX11_commonDivisor_21 : decode cX11_commonDivisor 21 = .ok (.istore 5, 2) := by decide +kernel
theorem dX11_commonDivisor_23 : decode cX11_commonDivisor 23 = .ok (.iload_n 3, 1) := by decide +kernel
theorem dX11_commonDivisor_24 : decode cX11_commonDivisor 24 = .ok (.istore_n 2, 1) := by decide +kernel
theorem dX11_commonDivisor_25 : decode cX11_commonDivisor 25 = .ok (.iload 5, 2) := by decide +kernel
theorem dX11_commonDivisor_27 : decode cX11_commonDivisor 27 = .ok (.istore_n 3, 1) := by decide +kernel
theorem dX11_commonDivisor_28 : decode cX11_commonDivisor 28 = .ok (.iinc 4 1, 3) := by decide +kernel
theorem dX11_commonDivisor_31 : decode cX11_commonDivisor 31 = .ok (.goto (-24), 3) := by decide +kernel
theorem dX11_commonDivisor_34 : decode cX11_commonDivisor 34 = .ok (.iload_n 2, 1) := by decide +kernel
theorem dX11_commonDivisor_35 : decode cX11_commonDivisor 35 = .ok (.ireturn, 1) := by decide +kernel
