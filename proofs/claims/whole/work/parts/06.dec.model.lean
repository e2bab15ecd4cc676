theorem dX5_init_0 : decode cX5_init 0 = .ok (.aload_n 0, 1) := by decide +kernel
theorem dX5_init_1 : decode cX5_init 1 = .ok (.invokespecial 1, 3) := by decide +kernel
theorem dX5_init_4 : decode cX5_init 4 = .ok (.aload_n 0, 1) := by decide +kernel
theorem dX5_init_5 : decode cX5_init 5 = .ok (.bipush 8, 2) := by decide +kernel
theorem dX5_init_7 : decode cX5_init 7 = .ok (.newarray .int, 2) := by decide +kernel
theorem dX5_init_9 : decode cX5_init 9 = .ok (.putfield 7, 3) := by decide +kernel
theorem dX5_init_12 : decode cX5_init 12 = .ok (.aload_n 0, 1) := by decide +kernel
theorem dX5_init_13 : decode cX5_init 13 = .ok (.bipush 8, 2) := by decide +kernel
theorem dX5_init_15 : decode cX5_init 15 = .ok (.newarray .int, 2) := by decide +kernel
theorem dX5_init_17 : decode cX5_init 17 = .ok (.putfield 13, 3) := by decide +kernel
theorem dX5_init_20 : decode cX5_init 20 = .ok (.aload_n 0, 1) := by decide +kernel
theorem dX5_init_21 : decode cX5_init 21 = .ok (.bipush 8, 2) := by decide +kernel
theorem dX5_init_23 : decode cX5_init 23 = .ok (.newarray .int, 2) := by decide +kernel
theorem dX5_init_25 : decode cX5_init 25 = .ok (.putfield 16, 3) := by decide +kernel
theorem dX5_init_28 : decode cX5_init 28 = .ok (.aload_n 0, 1) := by decide +kernel
theorem dX5_init_29 : decode cX5_init 29 = .ok (.bipush 8, 2) := by decide +kernel
theorem dX5_init_31 : decode cX5_init 31 = .ok (.newarray .int, 2) := by decide +kernel
theorem dX5_init_33 : decode cX5_init 33 = .ok (.putfield 19, 3) := by decide +kernel
theorem dX5_init_36 : decode cX5_init 36 = .ok (.aload_n 0, 1) := by decide +kernel
theorem dX5_init_37 : decode cX5_init 37 = .ok (.iconst 4, 1) := by decide +kernel
theorem dX5_init_38 : decode cX5_init 38 = .ok (.newarray .int, 2) := by decide +kernel
theorem dX5_init_40 : decode cX5_init 40 = .ok (.putfield 22, 3) := by decide +kernel
theorem dX5_init_43 : decode cX5_init 43 = .ok (.aload_n 0, 1) := by decide +kernel
theorem dX5_init_44 : decode cX5_init 44 = .ok (.iconst 4, 1) := by decide +kernel
theorem dX5_init_45 : decode cX5_init 45 = .ok (.newarray .int, 2) := by decide +kernel
theorem dX5_init_47 : decode cX5_init 47 = .ok (.putfield 25, 3) := by decide +kernel
theorem dX5_init_50 : decode cX5_init 50 = .ok (.aload_n 0, 1) := by decide +kernel
theorem dX5_init_51 : decode cX5_init 51 = .ok (.iconst 2, 1) := by decide +kernel
theorem dX5_init_52 : decode cX5_init 52 = .ok (.newarray .int, 2) := by decide +kernel
theorem dX5_init_54 : decode cX5_init 54 = .ok (.putfield 28, 3) := by decide +kernel
theorem dX5_init_57 : decode cX5_init 57 = .ok (.aload_n 0, 1) := by decide +kernel
theorem dX5_init_58 : decode cX5_init 58 = .ok (.iconst 2, 1) := by decide +kernel
theorem dX5_init_59 : decode cX5_init 59 = .ok (.newarray .boolean, 2) := by decide +kernel
theorem dX5_init_61 : decode cX5_init 61 = .ok (.putfield 31, 3) := by decide +kernel
theorem dX5_init_64 : decode cX5_init 64 = .ok (.aload_n 0, 1) := by decide +kernel
theorem dX5_init_65 : decode cX5_init 65 = .ok (.bipush 60, 2) := by decide +kernel
theorem dX5_init_67 : decode cX5_init 67 = .ok (.newarray .int, 2) := by decide +kernel
theorem dX5_init_69 : decode cX5_init 69 = .ok (.putfield 35, 3) := by decide +kernel
theorem dX5_init_72 : decode cX5_init 72 = .ok (.aload_n 0, 1) := by decide +kernel
theorem dX5_init_73 : decode cX5_init 73 = .ok (.bipush 60, 2) := by decide +kernel
theorem dX5_init_75 : decode cX5_init 75 = .ok (.newarray .int, 2) := by decide +kernel
theorem dX5_init_77 : decode cX5_init 77 = .ok (.putfield 38, 3) := by decide +kernel
theorem dX5_init_80 : decode cX5_init 80 = .ok (.aload_n 0, 1) := by decide +kernel
theorem dX5_init_81 : decode cX5_init 81 = .ok (.bipush 60, 2) := by decide +kernel
theorem dX5_init_83 : decode cX5_init 83 = .ok (.newarray .int, 2) := by decide +kernel
theorem dX5_init_85 : decode cX5_init 85 = .ok (.putfield 41, 3) := by decide +kernel
theorem dX5_init_88 : decode cX5_init 88 = .ok (.aload_n 0, 1) := by decide +kernel
theorem dX5_init_89 : decode cX5_init 89 = .ok (.bipush 60, 2) := by decide +kernel
theorem dX5_init_91 : decode cX5_init 91 = .ok (.newarray .int, 2) := by decide +kernel
theorem dX5_init_93 : decode cX5_init 93 = .ok (.putfield 44, 3) := by decide +kernel
theorem dX5_init_96 : decode cX5_init 96 = .ok (.aload_n 0, 1) := by decide +kernel
theorem dX5_init_97 : decode cX5_init 97 = .ok (.bipush 60, 2) := by decide +kernel
theorem dX5_init_99 : decode cX5_init 99 = .ok (.newarray .int, 2) := by decide +kernel
theorem dX5_init_101 : decode cX5_init 101 = .ok (.putfield 47, 3) := by decide +kernel
theorem dX5_init_104 : decode cX5_init 104 = .ok (.aload_n 0, 1) := by decide +kernel
theorem dX5_init_105 : decode cX5_init 105 = .ok (.bipush 60, 2) := by decide +kernel
theorem dX5_init_107 : decode cX5_init 107 = .ok (.newarray .int, 2) := by decide +kernel
theorem dX5_init_109 : decode cX5_init 109 = .ok (.putfield 50, 3) := by decide +kernel
theorem dX5_init_112 : decode cX5_init 112 = .ok (.aload_n 0, 1) := by decide +kernel
theorem dX5_init_113 : decode cX5_init 113 = .ok (.bipush 60, 2) := by decide +kernel
theorem dX5_init_115 : decode cX5_init 115 = .ok (.newarray .int, 2) := by decide +kernel
theorem dX5_init_117 : decode cX5_init 117 = .ok (.putfield 53, 3) := by decide +kernel
theorem dX5_init_120 : decode cX5_init 120 = .ok (.aload_n 0, 1) := by decide +kernel
theorem dX5_init_121 : decode cX5_init 121 = .ok (.bipush 60, 2) := by decide +kernel
theorem dX5_init_123 : decode cX5_init 123 = .ok (.newarray .int, 2) := by decide +kernel
theorem dX5_init_125 : decode cX5_init 125 = .ok (.putfield 56, 3) := by decide +kernel
theorem dX5_init_128 : decode cX5_init 128 = .ok (.aload_n 0, 1) := by decide +kernel
theorem dX5_init_129 : decode cX5_init 129 = .ok (.bipush 60, 2) := by decide +kernel
theorem dX5_init_131 : decode cX5_init 131 = .ok (.newarray .int, 2) := by decide +kernel
theorem dX5_init_133 : decode cX5_init 133 = .ok (.putfield 59, 3) := by decide +kernel
theorem dX5_init_136 : decode cX5_init 136 = .ok (.iconst 0, 1) := by decide +kernel
theorem dX5_init_137 : decode cX5_init 137 = .ok (.istore_n 1, 1) := by decide +kernel
theorem dX5_init_138 : decode cX5_init 138 = .ok (.iload_n 1, 1) := by decide +kernel
theorem dX5_init_139 : decode cX5_init 139 = .ok (.iconst 4, 1) := by decide +kernel
theorem dX5_init_140 : decode cX5_init 140 = .ok (.if_icmp .ge 27, 3) := by decide +kernel
theorem dX5_init_143 : decode cX5_init 143 = .ok (.aload_n 0, 1) := by decide +kernel
theorem dX5_init_144 : decode cX5_init 144 = .ok (.getfield 22, 3) := by decide +kernel
theorem dX5_init_147 : decode cX5_init 147 = .ok (.iload_n 1, 1) := by decide +kernel
theorem dX5_init_148 : decode cX5_init 148 = .ok (.sipush 10000, 3) := by decide +kernel
theorem dX5_init_151 : decode cX5_init 151 = .ok (.iastore, 1) := by decide +kernel
theorem dX5_init_152 : decode cX5_init 152 = .ok (.aload_n 0, 1) := by decide +kernel
theorem dX5_init_153 : decode cX5_init 153 = .ok (.getfield 25, 3) := by decide +kernel
theorem dX5_init_156 : decode cX5_init 156 = .ok (.iload_n 1, 1) := by decide +kernel
theorem dX5_init_157 : decode cX5_init 157 = .ok (.sipush 10000, 3) := by decide +kernel
theorem dX5_init_160 : decode cX5_init 160 = .ok (.iastore, 1) := by decide +kernel
theorem dX5_init_161 : decode cX5_init 161 = .ok (.iinc 1 1, 3) := by decide +kernel
theorem dX5_init_164 : decode cX5_init 164 = .ok (.goto (-26), 3) := by decide +kernel
theorem dX5_init_167 : decode cX5_init 167 = .ok (.aload_n 0, 1) := by decide +kernel
theorem dX5_init_168 : decode cX5_init 168 = .ok (.getfield 28, 3) := by decide +kernel
theorem dX5_init_171 : decode cX5_init 171 = .ok (.iconst 0, 1) := by decide +kernel
theorem dX5_init_172 : decode cX5_init 172 = .ok (.sipush 20000, 3) := by decide +kernel
theorem dX5_init_175 : decode cX5_init 175 = .ok (.iastore, 1) := by decide +kernel
theorem dX5_init_176 : decode cX5_init 176 = .ok (.aload_n 0, 1) := by decide +kernel
theorem dX5_init_177 : decode cX5_init 177 = .ok (.getfield 28, 3) := by decide +kernel
theorem dX5_init_180 : decode cX5_init 180 = .ok (.iconst 1, 1) := by decide +kernel
theorem dX5_init_181 : decode cX5_init 181 = .ok (.sipush 20000, 3) := by decide +kernel
theorem dX5_init_184 : decode cX5_init 184 = .ok (.iastore, 1) := by decide +kernel
theorem dX5_init_185 : decode cX5_init 185 = .ok (.return_, 1) := by decide +kernel
theorem dX5_thrown_0 : decode cX5_thrown 0 = .ok (.aload_n 0, 1) := by decide +kernel
theorem dX5_thrown_1 : decode cX5_thrown 1 = .ok (.getfield 62, 3) := by decide +kernel
theorem dX5_thrown_4 : decode cX5_thrown 4 = .ok (.ireturn, 1) := by decide +kernel
theorem dX5_isFine_0 : decode cX5_isFine 0 = .ok (.aload_n 0, 1) := by decide +kernel
theorem dX5_isFine_1 : decode cX5_isFine 1 = .ok (.iload_n 1, 1) := by decide +kernel
theorem dX5_isFine_2 : decode cX5_isFine 2 = .ok (.putfield 62, 3) := by decide +kernel
theorem dX5_isFine_5 : decode cX5_isFine 5 = .ok (.iload_n 1, 1) := by decide +kernel
theorem dX5_isFine_6 : decode cX5_isFine 6 = .ok (.ifCond .ne 7, 3) := by decide +kernel
theorem dX5_isFine_9 : decode cX5_isFine 9 = .ok (.iconst 1, 1) := by decide +kernel
theorem dX5_isFine_10 : decode cX5_isFine 10 = .ok (.goto 4, 3) := by decide +kernel
theorem dX5_isFine_13 : decode cX5_isFine 13 = .ok (.iconst 0, 1) := by decide +kernel
theorem dX5_isFine_14 : decode cX5_isFine 14 = .ok (.ireturn, 1) := by decide +kernel
theorem dX5_isIn_0 : decode cX5_isIn 0 = .ok (.iload_n 0, 1) := by decide +kernel
theorem dX5_isIn_1 : decode cX5_isIn 1 = .ok (.iload_n 1, 1) := by decide +kernel
theorem dX5_isIn_2 : decode cX5_isIn 2 = .ok (.if_icmp .lt 12, 3) := by decide +kernel
theorem dX5_isIn_5 : decode cX5_isIn 5 = .ok (.iload_n 0, 1) := by decide +kernel
theorem dX5_isIn_6 : decode cX5_isIn 6 = .ok (.iload_n 2, 1) := by decide +kernel
theorem dX5_isIn_7 : decode cX5_isIn 7 = .ok (.if_icmp .gt 7, 3) := by decide +kernel
theorem dX5_isIn_10 : decode cX5_isIn 10 = .ok (.iconst 1, 1) := by decide +kernel
theorem dX5_isIn_11 : decode cX5_isIn 11 = .ok (.goto 4, 3) := by decide +kernel
theorem dX5_isIn_14 : decode cX5_isIn 14 = .ok (.iconst 0, 1) := by decide +kernel
theorem dX5_isIn_15 : decode cX5_isIn 15 = .ok (.ireturn, 1) := by decide +kernel
theorem dX5_isRack_0 : decode cX5_isRack 0 = .ok (.iload_n 1, 1) := by decide +kernel
theorem dX5_isRack_1 : decode cX5_isRack 1 = .ok (.iconst 0, 1) := by decide +kernel
theorem dX5_isRack_2 : decode cX5_isRack 2 = .ok (.aload_n 0, 1) := by decide +kernel
theorem dX5_isRack_3 : decode cX5_isRack 3 = .ok (.getfield 66, 3) := by decide +kernel
theorem dX5_isRack_6 : decode cX5_isRack 6 = .ok (.iconst 1, 1) := by decide +kernel
theorem dX5_isRack_7 : decode cX5_isRack 7 = .ok (.isub, 1) := by decide +kernel
theorem dX5_isRack_8 : decode cX5_isRack 8 = .ok (.invokestatic 69, 3) := by decide +kernel
theorem dX5_isRack_11 : decode cX5_isRack 11 = .ok (.ireturn, 1) := by decide +kernel
theorem dX5_find_0 : decode cX5_find 0 = .ok (.iconst 0, 1) := by decide +kernel
theorem dX5_find_1 : decode cX5_find 1 = .ok (.istore_n 2, 1) := by decide +kernel
theorem dX5_find_2 : decode cX5_find 2 = .ok (.iload_n 2, 1) := by decide +kernel
theorem dX5_find_3 : decode cX5_find 3 = .ok (.aload_n 0, 1) := by decide +kernel
theorem dX5_find_4 : decode cX5_find 4 = .ok (.getfield 73, 3) := by decide +kernel
theorem dX5_find_7 : decode cX5_find 7 = .ok (.if_icmp .ge 21, 3) := by decide +kernel
theorem dX5_find_10 : decode cX5_find 10 = .ok (.aload_n 0, 1) := by decide +kernel
theorem dX5_find_11 : decode cX5_find 11 = .ok (.getfield 35, 3) := by decide +kernel
theorem dX5_find_14 : decode cX5_find 14 = .ok (.iload_n 2, 1) := by decide +kernel
theorem dX5_find_15 : decode cX5_find 15 = .ok (.iaload, 1) := by decide +kernel
theorem dX5_find_16 : decode cX5_find 16 = .ok (.iload_n 1, 1) := by decide +kernel
theorem dX5_find_17 : decode cX5_find 17 = .ok (.if_icmp .ne 5, 3) := by decide +kernel
theorem dX5_find_20 : decode cX5_find 20 = .ok (.iload_n 2, 1) := by decide +kernel
theorem dX5_find_21 : decode cX5_find 21 = .ok (.ireturn, 1) := by decide +kernel
theorem dX5_find_22 : decode cX5_find 22 = .ok (.iinc 2 1, 3) := by decide +kernel
theorem dX5_find_25 : decode cX5_find 25 = .ok (.goto (-23), 3) := by decide +kernel
theorem dX5_find_28 : decode cX5_find 28 = .ok (.iconst (-1), 1) := by decide +kernel
theorem dX5_find_29 : decode cX5_find 29 = .ok (.ireturn, 1) := by decide +kernel
theorem dX5_isCorded_0 : decode cX5_isCorded 0 = .ok (.iload_n 0, 1) := by decide +kernel
theorem dX5_isCorded_1 : decode cX5_isCorded 1 = .ok (.iconst 2, 1) := by decide +kernel
theorem dX5_isCorded_2 : decode cX5_isCorded 2 = .ok (.if_icmp .eq 8, 3) := by decide +kernel
theorem dX5_isCorded_5 : decode cX5_isCorded 5 = .ok (.iload_n 0, 1) := by decide +kernel
theorem dX5_isCorded_6 : decode cX5_isCorded 6 = .ok (.iload_n 1, 1) := by decide +kernel
theorem dX5_isCorded_7 : decode cX5_isCorded 7 = .ok (.if_icmp .ne 7, 3) := by decide +kernel
theorem dX5_isCorded_10 : decode cX5_isCorded 10 = .ok (.iconst 1, 1) := by decide +kernel
theorem dX5_isCorded_11 : decode cX5_isCorded 11 = .ok (.goto 4, 3) := by decide +kernel
theorem dX5_isCorded_14 : decode cX5_isCorded 14 = .ok (.iconst 0, 1) := by decide +kernel
theorem dX5_isCorded_15 : decode cX5_isCorded 15 = .ok (.ireturn, 1) := by decide +kernel
theorem dX5_worst_0 : decode cX5_worst 0 = .ok (.iconst 0, 1) := by decide +kernel
theorem dX5_worst_1 : decode cX5_worst 1 = .ok (.istore_n 3, 1) := by decide +kernel
theorem dX5_worst_2 : decode cX5_worst 2 = .ok (.iconst 0, 1) := by decide +kernel
theorem dX5_worst_3 : decode cX5_worst 3 = .ok (.istore 4, 2) := by decide +kernel
theorem dX5_worst_5 : decode cX5_worst 5 = .ok (.iload 4, 2) := by decide +kernel
theorem dX5_worst_7 : decode cX5_worst 7 = .ok (.aload_n 0, 1) := by decide +kernel
theorem dX5_worst_8 : decode cX5_worst 8 = .ok (.getfield 73, 3) := by decide +kernel
theorem dX5_worst_11 : decode cX5_worst 11 = .ok (.if_icmp .ge 76, 3) := by decide +kernel
theorem dX5_worst_14 : decode cX5_worst 14 = .ok (.aload_n 0, 1) := by decide +kernel
theorem dX5_worst_15 : decode cX5_worst 15 = .ok (.getfield 50, 3) := by decide +kernel
theorem dX5_worst_18 : decode cX5_worst 18 = .ok (.iload 4, 2) := by decide +kernel
theorem dX5_worst_20 : decode cX5_worst 20 = .ok (.iaload, 1) := by decide +kernel
theorem dX5_worst_21 : decode cX5_worst 21 = .ok (.iconst (-1), 1) := by decide +kernel
theorem dX5_worst_22 : decode cX5_worst 22 = .ok (.if_icmp .eq 23, 3) := by decide +kernel
theorem dX5_worst_25 : decode cX5_worst 25 = .ok (.iload_n 1, 1) := by decide +kernel
theorem dX5_worst_26 : decode cX5_worst 26 = .ok (.iconst (-1), 1) := by decide +kernel
theorem dX5_worst_27 : decode cX5_worst 27 = .ok (.if_icmp .eq 14, 3) := by decide +kernel
theorem dX5_worst_30 : decode cX5_worst 30 = .ok (.aload_n 0, 1) := by decide +kernel
theorem dX5_worst_31 : decode cX5_worst 31 = .ok (.getfield 50, 3) := by decide +kernel
theorem dX5_worst_34 : decode cX5_worst 34 = .ok (.iload 4, 2) := by decide +kernel
theorem dX5_worst_36 : decode cX5_worst 36 = .ok (.iaload, 1) := by decide +kernel
theorem dX5_worst_37 : decode cX5_worst 37 = .ok (.iload_n 1, 1) := by decide +kernel
theorem dX5_worst_38 : decode cX5_worst 38 = .ok (.if_icmp .ne 7, 3) := by decide +kernel
theorem dX5_worst_41 : decode cX5_worst 41 = .ok (.iconst 1, 1) := by decide +kernel
theorem dX5_worst_42 : decode cX5_worst 42 = .ok (.goto 4, 3) := by decide +kernel
theorem dX5_worst_45 : decode cX5_worst 45 = .ok (.iconst 0, 1) := by decide +kernel
theorem dX5_worst_46 : decode cX5_worst 46 = .ok (.istore 5, 2) := by decide +kernel
theorem dX5_worst_48 : decode cX5_worst 48 = .ok (.iload_n 3, 1) := by decide +kernel
theorem dX5_worst_49 : decode cX5_worst 49 = .ok (.iload 5, 2) := by decide +kernel
theorem dX5_worst_51 : decode cX5_worst 51 = .ok (.ifCond .eq 27, 3) := by decide +kernel
theorem dX5_worst_54 : decode cX5_worst 54 = .ok (.aload_n 0, 1) := by decide +kernel
theorem dX5_worst_55 : decode cX5_worst 55 = .ok (.getfield 47, 3) := by decide +kernel
theorem dX5_worst_58 : decode cX5_worst 58 = .ok (.iload 4, 2) := by decide +kernel
theorem dX5_worst_60 : decode cX5_worst 60 = .ok (.iaload, 1) := by decide +kernel
theorem dX5_worst_61 : decode cX5_worst 61 = .ok (.iload_n 2, 1) := by decide +kernel
theorem dX5_worst_62 : decode cX5_worst 62 = .ok (.invokestatic 76, 3) := by decide +kernel
theorem dX5_worst_65 : decode cX5_worst 65 = .ok (.ifCond .eq 13, 3) := by decide +kernel
theorem dX5_worst_68 : decode cX5_worst 68 = .ok (.aload_n 0, 1) := by decide +kernel
theorem dX5_worst_69 : decode cX5_worst 69 = .ok (.getfield 41, 3) := by decide +kernel
theorem dX5_worst_72 : decode cX5_worst 72 = .ok (.iload 4, 2) := by decide +kernel
theorem dX5_worst_74 : decode cX5_worst 74 = .ok (.iaload, 1) := by decide +kernel
theorem dX5_worst_75 : decode cX5_worst 75 = .ok (.goto 4, 3) := by decide +kernel
theorem dX5_worst_78 : decode cX5_worst 78 = .ok (.iconst 0, 1) := by decide +kernel
theorem dX5_worst_79 : decode cX5_worst 79 = .ok (.iadd, 1) := by decide +kernel
theorem dX5_worst_80 : decode cX5_worst 80 = .ok (.istore_n 3, 1) := by decide +kernel
theorem dX5_worst_81 : decode cX5_worst 81 = .ok (.iinc 4 1, 3) := by decide +kernel
theorem dX5_worst_84 : decode cX5_worst 84 = .ok (.goto (-79), 3) := by decide +kernel
theorem dX5_worst_87 : decode cX5_worst 87 = .ok (.iload_n 3, 1) := by decide +kernel
theorem dX5_worst_88 : decode cX5_worst 88 = .ok (.ireturn, 1) := by decide +kernel
theorem dX5_weighs_0 : decode cX5_weighs 0 = .ok (.iconst 0, 1) := by decide +kernel
theorem dX5_weighs_1 : decode cX5_weighs 1 = .ok (.istore_n 2, 1) := by decide +kernel
theorem dX5_weighs_2 : decode cX5_weighs 2 = .ok (.iconst 0, 1) := by decide +kernel
theorem dX5_weighs_3 : decode cX5_weighs 3 = .ok (.istore_n 3, 1) := by decide +kernel
theorem dX5_weighs_4 : decode cX5_weighs 4 = .ok (.iload_n 3, 1) := by decide +kernel
theorem dX5_weighs_5 : decode cX5_weighs 5 = .ok (.aload_n 0, 1) := by decide +kernel
theorem dX5_weighs_6 : decode cX5_weighs 6 = .ok (.getfield 73, 3) := by decide +kernel
theorem dX5_weighs_9 : decode cX5_weighs 9 = .ok (.if_icmp .ge 32, 3) := by decide +kernel
theorem dX5_weighs_12 : decode cX5_weighs 12 = .ok (.iload_n 2, 1) := by decide +kernel
theorem dX5_weighs_13 : decode cX5_weighs 13 = .ok (.aload_n 0, 1) := by decide +kernel
theorem dX5_weighs_14 : decode cX5_weighs 14 = .ok (.getfield 50, 3) := by decide +kernel
theorem dX5_weighs_17 : decode cX5_weighs 17 = .ok (.iload_n 3, 1) := by decide +kernel
theorem dX5_weighs_18 : decode cX5_weighs 18 = .ok (.iaload, 1) := by decide +kernel
theorem dX5_weighs_19 : decode cX5_weighs 19 = .ok (.iload_n 1, 1) := by decide +kernel
theorem dX5_weighs_20 : decode cX5_weighs 20 = .ok (.if_icmp .ne 12, 3) := by decide +kernel
theorem dX5_weighs_23 : decode cX5_weighs 23 = .ok (.aload_n 0, 1) := by decide +kernel
theorem dX5_weighs_24 : decode cX5_weighs 24 = .ok (.getfield 44, 3) := by decide +kernel
theorem dX5_weighs_27 : decode cX5_weighs 27 = .ok (.iload_n 3, 1) := by decide +kernel
theorem dX5_weighs_28 : decode cX5_weighs 28 = .ok (.iaload, 1) := by decide +kernel
theorem dX5_weighs_29 : decode cX5_weighs 29 = .ok (.goto 4, 3) := by decide +kernel
theorem dX5_weighs_32 : decode cX5_weighs 32 = .ok (.iconst 0, 1) := by decide +kernel
theorem dX5_weighs_33 : decode cX5_weighs 33 = .ok (.iadd, 1) := by decide +kernel
theorem dX5_weighs_34 : decode cX5_weighs 34 = .ok (.istore_n 2, 1) := by decide +kernel
theorem dX5_weighs_35 : decode cX5_weighs 35 = .ok (.iinc 3 1, 3) := by decide +kernel
theorem dX5_weighs_38 : decode cX5_weighs 38 = .ok (.goto (-34), 3) := by decide +kernel
theorem dX5_weighs_41 : decode cX5_weighs 41 = .ok (.iload_n 2, 1) := by decide +kernel
theorem dX5_weighs_42 : decode cX5_weighs 42 = .ok (.ireturn, 1) := by decide +kernel
theorem dX5_rowWeighs_0 : decode cX5_rowWeighs 0 = .ok (.iconst 0, 1) := by decide +kernel
theorem dX5_rowWeighs_1 : decode cX5_rowWeighs 1 = .ok (.istore_n 2, 1) := by decide +kernel
theorem dX5_rowWeighs_2 : decode cX5_rowWeighs 2 = .ok (.iconst 0, 1) := by decide +kernel
theorem dX5_rowWeighs_3 : decode cX5_rowWeighs 3 = .ok (.istore_n 3, 1) := by decide +kernel
theorem dX5_rowWeighs_4 : decode cX5_rowWeighs 4 = .ok (.iload_n 3, 1) := by decide +kernel
theorem dX5_rowWeighs_5 : decode cX5_rowWeighs 5 = .ok (.aload_n 0, 1) := by decide +kernel
theorem dX5_rowWeighs_6 : decode cX5_rowWeighs 6 = .ok (.getfield 66, 3) := by decide +kernel
theorem dX5_rowWeighs_9 : decode cX5_rowWeighs 9 = .ok (.if_icmp .ge 31, 3) := by decide +kernel
theorem dX5_rowWeighs_12 : decode cX5_rowWeighs 12 = .ok (.iload_n 2, 1) := by decide +kernel
theorem dX5_rowWeighs_13 : decode cX5_rowWeighs 13 = .ok (.aload_n 0, 1) := by decide +kernel
theorem dX5_rowWeighs_14 : decode cX5_rowWeighs 14 = .ok (.getfield 7, 3) := by decide +kernel
theorem dX5_rowWeighs_17 : decode cX5_rowWeighs 17 = .ok (.iload_n 3, 1) := by decide +kernel
theorem dX5_rowWeighs_18 : decode cX5_rowWeighs 18 = .ok (.iaload, 1) := by decide +kernel
theorem dX5_rowWeighs_19 : decode cX5_rowWeighs 19 = .ok (.iload_n 1, 1) := by decide +kernel
theorem dX5_rowWeighs_20 : decode cX5_rowWeighs 20 = .ok (.if_icmp .ne 11, 3) := by decide +kernel
theorem dX5_rowWeighs_23 : decode cX5_rowWeighs 23 = .ok (.aload_n 0, 1) := by decide +kernel
theorem dX5_rowWeighs_24 : decode cX5_rowWeighs 24 = .ok (.iload_n 3, 1) := by decide +kernel
theorem dX5_rowWeighs_25 : decode cX5_rowWeighs 25 = .ok (.invokevirtual 80, 3) := by decide +kernel
theorem dX5_rowWeighs_28 : decode cX5_rowWeighs 28 = .ok (.goto 4, 3) := by decide +kernel
theorem dX5_rowWeighs_31 : decode cX5_rowWeighs 31 = .ok (.iconst 0, 1) := by decide +kernel
theorem dX5_rowWeighs_32 : decode cX5_rowWeighs 32 = .ok (.iadd, 1) := by decide +kernel
theorem dX5_rowWeighs_33 : decode cX5_rowWeighs 33 = .ok (.istore_n 2, 1) := by decide +kernel
theorem dX5_rowWeighs_34 : decode cX5_rowWeighs 34 = .ok (.iinc 3 1, 3) := by decide +kernel
theorem dX5_rowWeighs_37 : decode cX5_rowWeighs 37 = .ok (.goto (-33), 3) := by decide +kernel
theorem dX5_rowWeighs_40 : decode cX5_rowWeighs 40 = .ok (.iload_n 2, 1) := by decide +kernel
theorem dX5_rowWeighs_41 : decode cX5_rowWeighs 41 = .ok (.ireturn, 1) := by decide +kernel
theorem dX5_rowHeats_0 : decode cX5_rowHeats 0 = .ok (.iconst 0, 1) := by decide +kernel
theorem dX5_rowHeats_1 : decode cX5_rowHeats 1 = .ok (.istore_n 2, 1) := by decide +kernel
theorem dX5_rowHeats_2 : decode cX5_rowHeats 2 = .ok (.iconst 0, 1) := by decide +kernel
theorem dX5_rowHeats_3 : decode cX5_rowHeats 3 = .ok (.istore_n 3, 1) := by decide +kernel
theorem dX5_rowHeats_4 : decode cX5_rowHeats 4 = .ok (.iload_n 3, 1) := by decide +kernel
theorem dX5_rowHeats_5 : decode cX5_rowHeats 5 = .ok (.aload_n 0, 1) := by decide +kernel
theorem dX5_rowHeats_6 : decode cX5_rowHeats 6 = .ok (.getfield 73, 3) := by decide +kernel
theorem dX5_rowHeats_9 : decode cX5_rowHeats 9 = .ok (.if_icmp .ge 47, 3) := by decide +kernel
theorem dX5_rowHeats_12 : decode cX5_rowHeats 12 = .ok (.iload_n 2, 1) := by decide +kernel
theorem dX5_rowHeats_13 : decode cX5_rowHeats 13 = .ok (.aload_n 0, 1) := by decide +kernel
theorem dX5_rowHeats_14 : decode cX5_rowHeats 14 = .ok (.getfield 50, 3) := by decide +kernel
theorem dX5_rowHeats_17 : decode cX5_rowHeats 17 = .ok (.iload_n 3, 1) := by decide +kernel
theorem dX5_rowHeats_18 : decode cX5_rowHeats 18 = .ok (.iaload, 1) := by decide +kernel
theorem dX5_rowHeats_19 : decode cX5_rowHeats 19 = .ok (.iconst (-1), 1) := by decide +kernel
theorem dX5_rowHeats_20 : decode cX5_rowHeats 20 = .ok (.if_icmp .eq 27, 3) := by decide +kernel
theorem dX5_rowHeats_23 : decode cX5_rowHeats 23 = .ok (.aload_n 0, 1) := by decide +kernel
theorem dX5_rowHeats_24 : decode cX5_rowHeats 24 = .ok (.getfield 7, 3) := by decide +kernel
theorem dX5_rowHeats_27 : decode cX5_rowHeats 27 = .ok (.aload_n 0, 1) := by decide +kernel
theorem dX5_rowHeats_28 : decode cX5_rowHeats 28 = .ok (.getfield 50, 3) := by decide +kernel
theorem dX5_rowHeats_31 : decode cX5_rowHeats 31 = .ok (.iload_n 3, 1) := by decide +kernel
theorem dX5_rowHeats_32 : decode cX5_rowHeats 32 = .ok (.iaload, 1) := by decide +kernel
theorem dX5_rowHeats_33 : decode cX5_rowHeats 33 = .ok (.iaload, 1) := by decide +kernel
theorem dX5_rowHeats_34 : decode cX5_rowHeats 34 = .ok (.iload_n 1, 1) := by decide +kernel
theorem dX5_rowHeats_35 : decode cX5_rowHeats 35 = .ok (.if_icmp .ne 12, 3) := by decide +kernel
theorem dX5_rowHeats_38 : decode cX5_rowHeats 38 = .ok (.aload_n 0, 1) := by decide +kernel
theorem dX5_rowHeats_39 : decode cX5_rowHeats 39 = .ok (.getfield 41, 3) := by decide +kernel
theorem dX5_rowHeats_42 : decode cX5_rowHeats 42 = .ok (.iload_n 3, 1) := by decide +kernel
theorem dX5_rowHeats_43 : decode cX5_rowHeats 43 = .ok (.iaload, 1) := by decide +kernel
theorem dX5_rowHeats_44 : decode cX5_rowHeats 44 = .ok (.goto 4, 3) := by decide +kernel
theorem dX5_rowHeats_47 : decode cX5_rowHeats 47 = .ok (.iconst 0, 1) := by decide +kernel
theorem dX5_rowHeats_48 : decode cX5_rowHeats 48 = .ok (.iadd, 1) := by decide +kernel
theorem dX5_rowHeats_49 : decode cX5_rowHeats 49 = .ok (.istore_n 2, 1) := by decide +kernel
theorem dX5_rowHeats_50 : decode cX5_rowHeats 50 = .ok (.iinc 3 1, 3) := by decide +kernel
theorem dX5_rowHeats_53 : decode cX5_rowHeats 53 = .ok (.goto (-49), 3) := by decide +kernel
theorem dX5_rowHeats_56 : decode cX5_rowHeats 56 = .ok (.iload_n 2, 1) := by decide +kernel
theorem dX5_rowHeats_57 : decode cX5_rowHeats 57 = .ok (.ireturn, 1) := by decide +kernel
theorem dX5_addRack_0 : decode cX5_addRack 0 = .ok (.iload_n 1, 1) := by decide +kernel
theorem dX5_addRack_1 : decode cX5_addRack 1 = .ok (.iconst 0, 1) := by decide +kernel
theorem dX5_addRack_2 : decode cX5_addRack 2 = .ok (.iconst 3, 1) := by decide +kernel
theorem dX5_addRack_3 : decode cX5_addRack 3 = .ok (.invokestatic 69, 3) := by decide +kernel
theorem dX5_addRack_6 : decode cX5_addRack 6 = .ok (.ifCond .eq 40, 3) := by decide +kernel
theorem dX5_addRack_9 : decode cX5_addRack 9 = .ok (.iload_n 2, 1) := by decide +kernel
theorem dX5_addRack_10 : decode cX5_addRack 10 = .ok (.iconst 1, 1) := by decide +kernel
theorem dX5_addRack_11 : decode cX5_addRack 11 = .ok (.bipush 20, 2) := by decide +kernel
theorem dX5_addRack_13 : decode cX5_addRack 13 = .ok (.invokestatic 69, 3) := by decide +kernel
theorem dX5_addRack_16 : decode cX5_addRack 16 = .ok (.ifCond .eq 30, 3) := by decide +kernel
theorem dX5_addRack_19 : decode cX5_addRack 19 = .ok (.iload_n 3, 1) := by decide +kernel
theorem dX5_addRack_20 : decode cX5_addRack 20 = .ok (.iconst 0, 1) := by decide +kernel
theorem dX5_addRack_21 : decode cX5_addRack 21 = .ok (.sipush 10000, 3) := by decide +kernel
theorem dX5_addRack_24 : decode cX5_addRack 24 = .ok (.invokestatic 69, 3) := by decide +kernel
theorem dX5_addRack_27 : decode cX5_addRack 27 = .ok (.ifCond .eq 19, 3) := by decide +kernel
theorem dX5_addRack_30 : decode cX5_addRack 30 = .ok (.iload 4, 2) := by decide +kernel
theorem dX5_addRack_32 : decode cX5_addRack 32 = .ok (.iconst 0, 1) := by decide +kernel
theorem dX5_addRack_33 : decode cX5_addRack 33 = .ok (.sipush 10000, 3) := by decide +kernel
theorem dX5_addRack_36 : decode cX5_addRack 36 = .ok (.invokestatic 69, 3) := by decide +kernel
theorem dX5_addRack_39 : decode cX5_addRack 39 = .ok (.ifCond .eq 7, 3) := by decide +kernel
theorem dX5_addRack_42 : decode cX5_addRack 42 = .ok (.iconst 1, 1) := by decide +kernel
theorem dX5_addRack_43 : decode cX5_addRack 43 = .ok (.goto 4, 3) := by decide +kernel
theorem dX5_addRack_46 : decode cX5_addRack 46 = .ok (.iconst 0, 1) := by decide +kernel
theorem dX5_addRack_47 : decode cX5_addRack 47 = .ok (.istore 5, 2) := by decide +kernel
theorem dX5_addRack_49 : decode cX5_addRack 49 = .ok (.aload_n 0, 1) := by decide +kernel
theorem dX5_addRack_50 : decode cX5_addRack 50 = .ok (.iload 5, 2) := by decide +kernel
theorem dX5_addRack_52 : decode cX5_addRack 52 = .ok (.ifCond .ne 7, 3) := by decide +kernel
theorem dX5_addRack_55 : decode cX5_addRack 55 = .ok (.iconst 1, 1) := by decide +kernel
theorem dX5_addRack_56 : decode cX5_addRack 56 = .ok (.goto 17, 3) := by decide +kernel
theorem dX5_addRack_59 : decode cX5_addRack 59 = .ok (.aload_n 0, 1) := by decide +kernel
theorem dX5_addRack_60 : decode cX5_addRack 60 = .ok (.getfield 66, 3) := by decide +kernel
theorem dX5_addRack_63 : decode cX5_addRack 63 = .ok (.bipush 8, 2) := by decide +kernel
theorem dX5_addRack_65 : decode cX5_addRack 65 = .ok (.if_icmp .ne 7, 3) := by decide +kernel
theorem dX5_addRack_68 : decode cX5_addRack 68 = .ok (.iconst 2, 1) := by decide +kernel
theorem dX5_addRack_69 : decode cX5_addRack 69 = .ok (.goto 4, 3) := by decide +kernel
theorem dX5_addRack_72 : decode cX5_addRack 72 = .ok (.iconst 0, 1) := by decide +kernel
theorem dX5_addRack_73 : decode cX5_addRack 73 = .ok (.invokevirtual 84, 3) := by decide +kernel
theorem dX5_addRack_76 : decode cX5_addRack 76 = .ok (.ifCond .ne 5, 3) := by decide +kernel
theorem dX5_addRack_79 : decode cX5_addRack 79 = .ok (.iconst 0, 1) := by decide +kernel
theorem dX5_addRack_80 : decode cX5_addRack 80 = .ok (.ireturn, 1) := by decide +kernel
theorem dX5_addRack_81 : decode cX5_addRack 81 = .ok (.aload_n 0, 1) := by decide +kernel
theorem dX5_addRack_82 : decode cX5_addRack 82 = .ok (.getfield 7, 3) := by decide +kernel
theorem dX5_addRack_85 : decode cX5_addRack 85 = .ok (.aload_n 0, 1) := by decide +kernel
theorem dX5_addRack_86 : decode cX5_addRack 86 = .ok (.getfield 66, 3) := by decide +kernel
theorem dX5_addRack_89 : decode cX5_addRack 89 = .ok (.iload_n 1, 1) := by decide +kernel
theorem dX5_addRack_90 : decode cX5_addRack 90 = .ok (.iastore, 1) := by decide +kernel
theorem dX5_addRack_91 : decode cX5_addRack 91 = .ok (.aload_n 0, 1) := by decide +kernel
theorem dX5_addRack_92 : decode cX5_addRack 92 = .ok (.getfield 13, 3) := by decide +kernel
theorem dX5_addRack_95 : decode cX5_addRack 95 = .ok (.aload_n 0, 1) := by decide +kernel
theorem dX5_addRack_96 : decode cX5_addRack 96 = .ok (.getfield 66, 3) := by decide +kernel
theorem dX5_addRack_99 : decode cX5_addRack 99 = .ok (.iload_n 2, 1) := by decide +kernel
theorem dX5_addRack_100 : decode cX5_addRack 100 = .ok (.iastore, 1) := by decide +kernel
theorem dX5_addRack_101 : decode cX5_addRack 101 = .ok (.aload_n 0, 1) := by decide +kernel
theorem dX5_addRack_102 : decode cX5_addRack 102 = .ok (.getfield 16, 3) := by decide +kernel
theorem dX5_addRack_105 : decode cX5_addRack 105 = .ok (.aload_n 0, 1) := by decide +kernel
theorem dX5_addRack_106 : decode cX5_addRack 106 = .ok (.getfield 66, 3) := by decide +kernel
theorem dX5_addRack_109 : decode cX5_addRack 109 = .ok (.iload_n 3, 1) := by decide +kernel
theorem dX5_addRack_110 : decode cX5_addRack 110 = .ok (.iastore, 1) := by decide +kernel
theorem dX5_addRack_111 : decode cX5_addRack 111 = .ok (.aload_n 0, 1) := by decide +kernel
theorem dX5_addRack_112 : decode cX5_addRack 112 = .ok (.getfield 19, 3) := by decide +kernel
theorem dX5_addRack_115 : decode cX5_addRack 115 = .ok (.aload_n 0, 1) := by decide +kernel
theorem dX5_addRack_116 : decode cX5_addRack 116 = .ok (.getfield 66, 3) := by decide +kernel
theorem dX5_addRack_119 : decode cX5_addRack 119 = .ok (.iload 4, 2) := by decide +kernel
theorem dX5_addRack_121 : decode cX5_addRack 121 = .ok (.iastore, 1) := by decide +kernel
theorem dX5_addRack_122 : decode cX5_addRack 122 = .ok (.aload_n 0, 1) := by decide +kernel
theorem dX5_addRack_123 : decode cX5_addRack 123 = .ok (.dup, 1) := by decide +kernel
theorem dX5_addRack_124 : decode cX5_addRack 124 = .ok (.getfield 66, 3) := by decide +kernel
theorem dX5_addRack_127 : decode cX5_addRack 127 = .ok (.iconst 1, 1) := by decide +kernel
theorem dX5_addRack_128 : decode cX5_addRack 128 = .ok (.iadd, 1) := by decide +kernel
theorem dX5_addRack_129 : decode cX5_addRack 129 = .ok (.putfield 66, 3) := by decide +kernel
theorem dX5_addRack_132 : decode cX5_addRack 132 = .ok (.aload_n 0, 1) := by decide +kernel
theorem dX5_addRack_133 : decode cX5_addRack 133 = .ok (.getfield 66, 3) := by decide +kernel
theorem dX5_addRack_136 : decode cX5_addRack 136 = .ok (.iconst 1, 1) := by decide +kernel
theorem dX5_addRack_137 : decode cX5_addRack 137 = .ok (.isub, 1) := by decide +kernel
theorem dX5_addRack_138 : decode cX5_addRack 138 = .ok (.ireturn, 1) := by decide +kernel
theorem dX5_setRow_0 : decode cX5_setRow 0 = .ok (.iload_n 1, 1) := by decide +kernel
theorem dX5_setRow_1 : decode cX5_setRow 1 = .ok (.iconst 0, 1) := by decide +kernel
theorem dX5_setRow_2 : decode cX5_setRow 2 = .ok (.iconst 3, 1) := by decide +kernel
theorem dX5_setRow_3 : decode cX5_setRow 3 = .ok (.invokestatic 69, 3) := by decide +kernel
theorem dX5_setRow_6 : decode cX5_setRow 6 = .ok (.ifCond .eq 29, 3) := by decide +kernel
theorem dX5_setRow_9 : decode cX5_setRow 9 = .ok (.iload_n 2, 1) := by decide +kernel
theorem dX5_setRow_10 : decode cX5_setRow 10 = .ok (.iconst 0, 1) := by decide +kernel
theorem dX5_setRow_11 : decode cX5_setRow 11 = .ok (.sipush 10000, 3) := by decide +kernel
theorem dX5_setRow_14 : decode cX5_setRow 14 = .ok (.invokestatic 69, 3) := by decide +kernel
theorem dX5_setRow_17 : decode cX5_setRow 17 = .ok (.ifCond .eq 18, 3) := by decide +kernel
theorem dX5_setRow_20 : decode cX5_setRow 20 = .ok (.iload_n 3, 1) := by decide +kernel
theorem dX5_setRow_21 : decode cX5_setRow 21 = .ok (.iconst 0, 1) := by decide +kernel
theorem dX5_setRow_22 : decode cX5_setRow 22 = .ok (.sipush 10000, 3) := by decide +kernel
theorem dX5_setRow_25 : decode cX5_setRow 25 = .ok (.invokestatic 69, 3) := by decide +kernel
theorem dX5_setRow_28 : decode cX5_setRow 28 = .ok (.ifCond .eq 7, 3) := by decide +kernel
theorem dX5_setRow_31 : decode cX5_setRow 31 = .ok (.iconst 1, 1) := by decide +kernel
theorem dX5_setRow_32 : decode cX5_setRow 32 = .ok (.goto 4, 3) := by decide +kernel
theorem dX5_setRow_35 : decode cX5_setRow 35 = .ok (.iconst 0, 1) := by decide +kernel
theorem dX5_setRow_36 : decode cX5_setRow 36 = .ok (.istore 4, 2) := by decide +kernel
theorem dX5_setRow_38 : decode cX5_setRow 38 = .ok (.aload_n 0, 1) := by decide +kernel
theorem dX5_setRow_39 : decode cX5_setRow 39 = .ok (.iload 4, 2) := by decide +kernel
theorem dX5_setRow_41 : decode cX5_setRow 41 = .ok (.ifCond .ne 7, 3) := by decide +kernel
theorem dX5_setRow_44 : decode cX5_setRow 44 = .ok (.iconst 1, 1) := by decide +kernel
theorem dX5_setRow_45 : decode cX5_setRow 45 = .ok (.goto 26, 3) := by decide +kernel
theorem dX5_setRow_48 : decode cX5_setRow 48 = .ok (.aload_n 0, 1) := by decide +kernel
theorem dX5_setRow_49 : decode cX5_setRow 49 = .ok (.iload_n 1, 1) := by decide +kernel
theorem dX5_setRow_50 : decode cX5_setRow 50 = .ok (.invokevirtual 88, 3) := by decide +kernel
theorem dX5_setRow_53 : decode cX5_setRow 53 = .ok (.iload_n 2, 1) := by decide +kernel
theorem dX5_setRow_54 : decode cX5_setRow 54 = .ok (.if_icmp .gt 12, 3) := by decide +kernel
theorem dX5_setRow_57 : decode cX5_setRow 57 = .ok (.aload_n 0, 1) := by decide +kernel
theorem dX5_setRow_58 : decode cX5_setRow 58 = .ok (.iload_n 1, 1) := by decide +kernel
theorem dX5_setRow_59 : decode cX5_setRow 59 = .ok (.invokevirtual 91, 3) := by decide +kernel
theorem dX5_setRow_62 : decode cX5_setRow 62 = .ok (.iload_n 3, 1) := by decide +kernel
theorem dX5_setRow_63 : decode cX5_setRow 63 = .ok (.if_icmp .le 7, 3) := by decide +kernel
theorem dX5_setRow_66 : decode cX5_setRow 66 = .ok (.iconst 2, 1) := by decide +kernel
theorem dX5_setRow_67 : decode cX5_setRow 67 = .ok (.goto 4, 3) := by decide +kernel
theorem dX5_setRow_70 : decode cX5_setRow 70 = .ok (.iconst 0, 1) := by decide +kernel
theorem dX5_setRow_71 : decode cX5_setRow 71 = .ok (.invokevirtual 84, 3) := by decide +kernel
theorem dX5_setRow_74 : decode cX5_setRow 74 = .ok (.ifCond .eq 17, 3) := by decide +kernel
theorem dX5_setRow_77 : decode cX5_setRow 77 = .ok (.aload_n 0, 1) := by decide +kernel
theorem dX5_setRow_78 : decode cX5_setRow 78 = .ok (.getfield 22, 3) := by decide +kernel
theorem dX5_setRow_81 : decode cX5_setRow 81 = .ok (.iload_n 1, 1) := by decide +kernel
theorem dX5_setRow_82 : decode cX5_setRow 82 = .ok (.iload_n 2, 1) := by decide +kernel
theorem dX5_setRow_83 : decode cX5_setRow 83 = .ok (.iastore, 1) := by decide +kernel
theorem dX5_setRow_84 : decode cX5_setRow 84 = .ok (.aload_n 0, 1) := by decide +kernel
theorem dX5_setRow_85 : decode cX5_setRow 85 = .ok (.getfield 25, 3) := by decide +kernel
theorem dX5_setRow_88 : decode cX5_setRow 88 = .ok (.iload_n 1, 1) := by decide +kernel
theorem dX5_setRow_89 : decode cX5_setRow 89 = .ok (.iload_n 3, 1) := by decide +kernel
theorem dX5_setRow_90 : decode cX5_setRow 90 = .ok (.iastore, 1) := by decide +kernel
theorem dX5_setRow_91 : decode cX5_setRow 91 = .ok (.return_, 1) := by decide +kernel
theorem dX5_setFeed_0 : decode cX5_setFeed 0 = .ok (.iload_n 1, 1) := by decide +kernel
theorem dX5_setFeed_1 : decode cX5_setFeed 1 = .ok (.iconst 0, 1) := by decide +kernel
theorem dX5_setFeed_2 : decode cX5_setFeed 2 = .ok (.iconst 1, 1) := by decide +kernel
theorem dX5_setFeed_3 : decode cX5_setFeed 3 = .ok (.invokestatic 69, 3) := by decide +kernel
theorem dX5_setFeed_6 : decode cX5_setFeed 6 = .ok (.ifCond .eq 18, 3) := by decide +kernel
theorem dX5_setFeed_9 : decode cX5_setFeed 9 = .ok (.iload_n 2, 1) := by decide +kernel
theorem dX5_setFeed_10 : decode cX5_setFeed 10 = .ok (.iconst 0, 1) := by decide +kernel
theorem dX5_setFeed_11 : decode cX5_setFeed 11 = .ok (.sipush 20000, 3) := by decide +kernel
theorem dX5_setFeed_14 : decode cX5_setFeed 14 = .ok (.invokestatic 69, 3) := by decide +kernel
theorem dX5_setFeed_17 : decode cX5_setFeed 17 = .ok (.ifCond .eq 7, 3) := by decide +kernel
theorem dX5_setFeed_20 : decode cX5_setFeed 20 = .ok (.iconst 1, 1) := by decide +kernel
theorem dX5_setFeed_21 : decode cX5_setFeed 21 = .ok (.goto 4, 3) := by decide +kernel
theorem dX5_setFeed_24 : decode cX5_setFeed 24 = .ok (.iconst 0, 1) := by decide +kernel
theorem dX5_setFeed_25 : decode cX5_setFeed 25 = .ok (.istore_n 3, 1) := by decide +kernel
theorem dX5_setFeed_26 : decode cX5_setFeed 26 = .ok (.aload_n 0, 1) := by decide +kernel
theorem dX5_setFeed_27 : decode cX5_setFeed 27 = .ok (.iload_n 3, 1) := by decide +kernel
theorem dX5_setFeed_28 : decode cX5_setFeed 28 = .ok (.ifCond .ne 7, 3) := by decide +kernel
theorem dX5_setFeed_31 : decode cX5_setFeed 31 = .ok (.iconst 1, 1) := by decide +kernel
theorem dX5_setFeed_32 : decode cX5_setFeed 32 = .ok (.goto 18, 3) := by decide +kernel
theorem dX5_setFeed_35 : decode cX5_setFeed 35 = .ok (.aload_n 0, 1) := by decide +kernel
theorem dX5_setFeed_36 : decode cX5_setFeed 36 = .ok (.iconst (-1), 1) := by decide +kernel
theorem dX5_setFeed_37 : decode cX5_setFeed 37 = .ok (.iload_n 1, 1) := by decide +kernel
theorem dX5_setFeed_38 : decode cX5_setFeed 38 = .ok (.invokevirtual 94, 3) := by decide +kernel
theorem dX5_setFeed_41 : decode cX5_setFeed 41 = .ok (.iload_n 2, 1) := by decide +kernel
theorem dX5_setFeed_42 : decode cX5_setFeed 42 = .ok (.if_icmp .le 7, 3) := by decide +kernel
theorem dX5_setFeed_45 : decode cX5_setFeed 45 = .ok (.iconst 2, 1) := by decide +kernel
theorem dX5_setFeed_46 : decode cX5_setFeed 46 = .ok (.goto 4, 3) := by decide +kernel
theorem dX5_setFeed_49 : decode cX5_setFeed 49 = .ok (.iconst 0, 1) := by decide +kernel
theorem dX5_setFeed_50 : decode cX5_setFeed 50 = .ok (.invokevirtual 84, 3) := by decide +kernel
theorem dX5_setFeed_53 : decode cX5_setFeed 53 = .ok (.ifCond .ne 5, 3) := by decide +kernel
theorem dX5_setFeed_56 : decode cX5_setFeed 56 = .ok (.iconst 0, 1) := by decide +kernel
theorem dX5_setFeed_57 : decode cX5_setFeed 57 = .ok (.ireturn, 1) := by decide +kernel
theorem dX5_setFeed_58 : decode cX5_setFeed 58 = .ok (.aload_n 0, 1) := by decide +kernel
theorem dX5_setFeed_59 : decode cX5_setFeed 59 = .ok (.getfield 28, 3) := by decide +kernel
theorem dX5_setFeed_62 : decode cX5_setFeed 62 = .ok (.iload_n 1, 1) := by decide +kernel
theorem dX5_setFeed_63 : decode cX5_setFeed 63 = .ok (.iaload, 1) := by decide +kernel
theorem dX5_setFeed_64 : decode cX5_setFeed 64 = .ok (.istore 4, 2) := by decide +kernel
theorem dX5_setFeed_66 : decode cX5_setFeed 66 = .ok (.aload_n 0, 1) := by decide +kernel
theorem dX5_setFeed_67 : decode cX5_setFeed 67 = .ok (.getfield 28, 3) := by decide +kernel
theorem dX5_setFeed_70 : decode cX5_setFeed 70 = .ok (.iload_n 1, 1) := by decide +kernel
theorem dX5_setFeed_71 : decode cX5_setFeed 71 = .ok (.iload_n 2, 1) := by decide +kernel
theorem dX5_setFeed_72 : decode cX5_setFeed 72 = .ok (.iastore, 1) := by decide +kernel
theorem dX5_setFeed_73 : decode cX5_setFeed 73 = .ok (.iload 4, 2) := by decide +kernel
theorem dX5_setFeed_75 : decode cX5_setFeed 75 = .ok (.ireturn, 1) := by decide +kernel
theorem dX5_isDarkAt_0 : decode cX5_isDarkAt 0 = .ok (.aload_n 0, 1) := by decide +kernel
theorem dX5_isDarkAt_1 : decode cX5_isDarkAt 1 = .ok (.getfield 31, 3) := by decide +kernel
theorem dX5_isDarkAt_4 : decode cX5_isDarkAt 4 = .ok (.iconst 0, 1) := by decide +kernel
theorem dX5_isDarkAt_5 : decode cX5_isDarkAt 5 = .ok (.baload, 1) := by decide +kernel
theorem dX5_isDarkAt_6 : decode cX5_isDarkAt 6 = .ok (.ifCond .ne 16, 3) := by decide +kernel
theorem dX5_isDarkAt_9 : decode cX5_isDarkAt 9 = .ok (.aload_n 0, 1) := by decide +kernel
theorem dX5_isDarkAt_10 : decode cX5_isDarkAt 10 = .ok (.getfield 47, 3) := by decide +kernel
theorem dX5_isDarkAt_13 : decode cX5_isDarkAt 13 = .ok (.iload_n 1, 1) := by decide +kernel
theorem dX5_isDarkAt_14 : decode cX5_isDarkAt 14 = .ok (.iaload, 1) := by decide +kernel
theorem dX5_isDarkAt_15 : decode cX5_isDarkAt 15 = .ok (.iconst 0, 1) := by decide +kernel
theorem dX5_isDarkAt_16 : decode cX5_isDarkAt 16 = .ok (.invokestatic 76, 3) := by decide +kernel
theorem dX5_isDarkAt_19 : decode cX5_isDarkAt 19 = .ok (.ifCond .ne 29, 3) := by decide +kernel
theorem dX5_isDarkAt_22 : decode cX5_isDarkAt 22 = .ok (.aload_n 0, 1) := by decide +kernel
theorem dX5_isDarkAt_23 : decode cX5_isDarkAt 23 = .ok (.getfield 31, 3) := by decide +kernel
theorem dX5_isDarkAt_26 : decode cX5_isDarkAt 26 = .ok (.iconst 1, 1) := by decide +kernel
theorem dX5_isDarkAt_27 : decode cX5_isDarkAt 27 = .ok (.baload, 1) := by decide +kernel
theorem dX5_isDarkAt_28 : decode cX5_isDarkAt 28 = .ok (.ifCond .ne 16, 3) := by decide +kernel
theorem dX5_isDarkAt_31 : decode cX5_isDarkAt 31 = .ok (.aload_n 0, 1) := by decide +kernel
theorem dX5_isDarkAt_32 : decode cX5_isDarkAt 32 = .ok (.getfield 47, 3) := by decide +kernel
theorem dX5_isDarkAt_35 : decode cX5_isDarkAt 35 = .ok (.iload_n 1, 1) := by decide +kernel
theorem dX5_isDarkAt_36 : decode cX5_isDarkAt 36 = .ok (.iaload, 1) := by decide +kernel
theorem dX5_isDarkAt_37 : decode cX5_isDarkAt 37 = .ok (.iconst 1, 1) := by decide +kernel
theorem dX5_isDarkAt_38 : decode cX5_isDarkAt 38 = .ok (.invokestatic 76, 3) := by decide +kernel
theorem dX5_isDarkAt_41 : decode cX5_isDarkAt 41 = .ok (.ifCond .ne 7, 3) := by decide +kernel
theorem dX5_isDarkAt_44 : decode cX5_isDarkAt 44 = .ok (.iconst 1, 1) := by decide +kernel
theorem dX5_isDarkAt_45 : decode cX5_isDarkAt 45 = .ok (.goto 4, 3) := by decide +kernel
theorem dX5_isDarkAt_48 : decode cX5_isDarkAt 48 = .ok (.iconst 0, 1) := by decide +kernel
theorem dX5_isDarkAt_49 : decode cX5_isDarkAt 49 = .ok (.ireturn, 1) := by decide +kernel
theorem dX5_switchFeed_0 : decode cX5_switchFeed 0 = .ok (.aload_n 0, 1) := by decide +kernel
theorem dX5_switchFeed_1 : decode cX5_switchFeed 1 = .ok (.iload_n 1, 1) := by decide +kernel
theorem dX5_switchFeed_2 : decode cX5_switchFeed 2 = .ok (.iconst 0, 1) := by decide +kernel
theorem dX5_switchFeed_3 : decode cX5_switchFeed 3 = .ok (.iconst 1, 1) := by decide +kernel
theorem dX5_switchFeed_4 : decode cX5_switchFeed 4 = .ok (.invokestatic 69, 3) := by decide +kernel
theorem dX5_switchFeed_7 : decode cX5_switchFeed 7 = .ok (.ifCond .eq 7, 3) := by decide +kernel
theorem dX5_switchFeed_10 : decode cX5_switchFeed 10 = .ok (.iconst 0, 1) := by decide +kernel
theorem dX5_switchFeed_11 : decode cX5_switchFeed 11 = .ok (.goto 4, 3) := by decide +kernel
theorem dX5_switchFeed_14 : decode cX5_switchFeed 14 = .ok (.iconst 1, 1) := by decide +kernel
theorem dX5_switchFeed_15 : decode cX5_switchFeed 15 = .ok (.invokevirtual 84, 3) := by decide +kernel
theorem dX5_switchFeed_18 : decode cX5_switchFeed 18 = .ok (.ifCond .ne 5, 3) := by decide +kernel
theorem dX5_switchFeed_21 : decode cX5_switchFeed 21 = .ok (.iconst 0, 1) := by decide +kernel
theorem dX5_switchFeed_22 : decode cX5_switchFeed 22 = .ok (.ireturn, 1) := by decide +kernel
theorem dX5_switchFeed_23 : decode cX5_switchFeed 23 = .ok (.aload_n 0, 1) := by decide +kernel
theorem dX5_switchFeed_24 : decode cX5_switchFeed 24 = .ok (.getfield 31, 3) := by decide +kernel
theorem dX5_switchFeed_27 : decode cX5_switchFeed 27 = .ok (.iload_n 1, 1) := by decide +kernel
theorem dX5_switchFeed_28 : decode cX5_switchFeed 28 = .ok (.aload_n 0, 1) := by decide +kernel
theorem dX5_switchFeed_29 : decode cX5_switchFeed 29 = .ok (.getfield 31, 3) := by decide +kernel
theorem dX5_switchFeed_32 : decode cX5_switchFeed 32 = .ok (.iload_n 1, 1) := by decide +kernel
theorem dX5_switchFeed_33 : decode cX5_switchFeed 33 = .ok (.baload, 1) := by decide +kernel
theorem dX5_switchFeed_34 : decode cX5_switchFeed 34 = .ok (.ifCond .ne 7, 3) := by decide +kernel
theorem dX5_switchFeed_37 : decode cX5_switchFeed 37 = .ok (.iconst 1, 1) := by decide +kernel
theorem dX5_switchFeed_38 : decode cX5_switchFeed 38 = .ok (.goto 4, 3) := by decide +kernel
theorem dX5_switchFeed_41 : decode cX5_switchFeed 41 = .ok (.iconst 0, 1) := by decide +kernel
theorem dX5_switchFeed_42 : decode cX5_switchFeed 42 = .ok (.bastore, 1) := by decide +kernel
theorem dX5_switchFeed_43 : decode cX5_switchFeed 43 = .ok (.iconst 0, 1) := by decide +kernel
theorem dX5_switchFeed_44 : decode cX5_switchFeed 44 = .ok (.istore_n 2, 1) := by decide +kernel
theorem dX5_switchFeed_45 : decode cX5_switchFeed 45 = .ok (.iconst 0, 1) := by decide +kernel
theorem dX5_switchFeed_46 : decode cX5_switchFeed 46 = .ok (.istore_n 3, 1) := by decide +kernel
theorem dX5_switchFeed_47 : decode cX5_switchFeed 47 = .ok (.iload_n 3, 1) := by decide +kernel
theorem dX5_switchFeed_48 : decode cX5_switchFeed 48 = .ok (.aload_n 0, 1) := by decide +kernel
theorem dX5_switchFeed_49 : decode cX5_switchFeed 49 = .ok (.getfield 73, 3) := by decide +kernel
theorem dX5_switchFeed_52 : decode cX5_switchFeed 52 = .ok (.if_icmp .ge 25, 3) := by decide +kernel
theorem dX5_switchFeed_55 : decode cX5_switchFeed 55 = .ok (.iload_n 2, 1) := by decide +kernel
theorem dX5_switchFeed_56 : decode cX5_switchFeed 56 = .ok (.aload_n 0, 1) := by decide +kernel
theorem dX5_switchFeed_57 : decode cX5_switchFeed 57 = .ok (.iload_n 3, 1) := by decide +kernel
theorem dX5_switchFeed_58 : decode cX5_switchFeed 58 = .ok (.invokevirtual 98, 3) := by decide +kernel
theorem dX5_switchFeed_61 : decode cX5_switchFeed 61 = .ok (.ifCond .eq 7, 3) := by decide +kernel
theorem dX5_switchFeed_64 : decode cX5_switchFeed 64 = .ok (.iconst 1, 1) := by decide +kernel
theorem dX5_switchFeed_65 : decode cX5_switchFeed 65 = .ok (.goto 4, 3) := by decide +kernel
theorem dX5_switchFeed_68 : decode cX5_switchFeed 68 = .ok (.iconst 0, 1) := by decide +kernel
theorem dX5_switchFeed_69 : decode cX5_switchFeed 69 = .ok (.iadd, 1) := by decide +kernel
theorem dX5_switchFeed_70 : decode cX5_switchFeed 70 = .ok (.istore_n 2, 1) := by decide +kernel
theorem dX5_switchFeed_71 : decode cX5_switchFeed 71 = .ok (.iinc 3 1, 3) := by decide +kernel
theorem dX5_switchFeed_74 : decode cX5_switchFeed 74 = .ok (.goto (-27), 3) := by decide +kernel
theorem dX5_switchFeed_77 : decode cX5_switchFeed 77 = .ok (.iload_n 2, 1) := by decide +kernel
theorem dX5_switchFeed_78 : decode cX5_switchFeed 78 = .ok (.ireturn, 1) := by decide +kernel
theorem dX5_hasFailed_0 : decode cX5_hasFailed 0 = .ok (.aload_n 0, 1) := by decide +kernel
theorem dX5_hasFailed_1 : decode cX5_hasFailed 1 = .ok (.iload_n 1, 1) := by decide +kernel
theorem dX5_hasFailed_2 : decode cX5_hasFailed 2 = .ok (.iconst 0, 1) := by decide +kernel
theorem dX5_hasFailed_3 : decode cX5_hasFailed 3 = .ok (.iconst 1, 1) := by decide +kernel
theorem dX5_hasFailed_4 : decode cX5_hasFailed 4 = .ok (.invokestatic 69, 3) := by decide +kernel
theorem dX5_hasFailed_7 : decode cX5_hasFailed 7 = .ok (.ifCond .eq 7, 3) := by decide +kernel
theorem dX5_hasFailed_10 : decode cX5_hasFailed 10 = .ok (.iconst 0, 1) := by decide +kernel
theorem dX5_hasFailed_11 : decode cX5_hasFailed 11 = .ok (.goto 4, 3) := by decide +kernel
theorem dX5_hasFailed_14 : decode cX5_hasFailed 14 = .ok (.iconst 1, 1) := by decide +kernel
theorem dX5_hasFailed_15 : decode cX5_hasFailed 15 = .ok (.invokevirtual 84, 3) := by decide +kernel
theorem dX5_hasFailed_18 : decode cX5_hasFailed 18 = .ok (.ifCond .eq 16, 3) := by decide +kernel
theorem dX5_hasFailed_21 : decode cX5_hasFailed 21 = .ok (.aload_n 0, 1) := by decide +kernel
theorem dX5_hasFailed_22 : decode cX5_hasFailed 22 = .ok (.getfield 31, 3) := by decide +kernel
theorem dX5_hasFailed_25 : decode cX5_hasFailed 25 = .ok (.iload_n 1, 1) := by decide +kernel
theorem dX5_hasFailed_26 : decode cX5_hasFailed 26 = .ok (.baload, 1) := by decide +kernel
theorem dX5_hasFailed_27 : decode cX5_hasFailed 27 = .ok (.ifCond .eq 7, 3) := by decide +kernel
theorem dX5_hasFailed_30 : decode cX5_hasFailed 30 = .ok (.iconst 1, 1) := by decide +kernel
theorem dX5_hasFailed_31 : decode cX5_hasFailed 31 = .ok (.goto 4, 3) := by decide +kernel
theorem dX5_hasFailed_34 : decode cX5_hasFailed 34 = .ok (.iconst 0, 1) := by decide +kernel
theorem dX5_hasFailed_35 : decode cX5_hasFailed 35 = .ok (.ireturn, 1) := by decide +kernel
theorem dX5_racks_0 : decode cX5_racks 0 = .ok (.aload_n 0, 1) := by decide +kernel
theorem dX5_racks_1 : decode cX5_racks 1 = .ok (.iconst 0, 1) := by decide +kernel
theorem dX5_racks_2 : decode cX5_racks 2 = .ok (.putfield 62, 3) := by decide +kernel
theorem dX5_racks_5 : decode cX5_racks 5 = .ok (.aload_n 0, 1) := by decide +kernel
theorem dX5_racks_6 : decode cX5_racks 6 = .ok (.getfield 66, 3) := by decide +kernel
theorem dX5_racks_9 : decode cX5_racks 9 = .ok (.ireturn, 1) := by decide +kernel
theorem dX5_inSlot_0 : decode cX5_inSlot 0 = .ok (.iconst 0, 1) := by decide +kernel
theorem dX5_inSlot_1 : decode cX5_inSlot 1 = .ok (.istore_n 3, 1) := by decide +kernel
theorem dX5_inSlot_2 : decode cX5_inSlot 2 = .ok (.iload_n 3, 1) := by decide +kernel
theorem dX5_inSlot_3 : decode cX5_inSlot 3 = .ok (.aload_n 0, 1) := by decide +kernel
theorem dX5_inSlot_4 : decode cX5_inSlot 4 = .ok (.getfield 73, 3) := by decide +kernel
theorem dX5_inSlot_7 : decode cX5_inSlot 7 = .ok (.if_icmp .ge 48, 3) := by decide +kernel
theorem dX5_inSlot_10 : decode cX5_inSlot 10 = .ok (.aload_n 0, 1) := by decide +kernel
theorem dX5_inSlot_11 : decode cX5_inSlot 11 = .ok (.getfield 50, 3) := by decide +kernel
theorem dX5_inSlot_14 : decode cX5_inSlot 14 = .ok (.iload_n 3, 1) := by decide +kernel
theorem dX5_inSlot_15 : decode cX5_inSlot 15 = .ok (.iaload, 1) := by decide +kernel
theorem dX5_inSlot_16 : decode cX5_inSlot 16 = .ok (.iload_n 1, 1) := by decide +kernel
theorem dX5_inSlot_17 : decode cX5_inSlot 17 = .ok (.if_icmp .ne 32, 3) := by decide +kernel
theorem dX5_inSlot_20 : decode cX5_inSlot 20 = .ok (.iload_n 2, 1) := by decide +kernel
theorem dX5_inSlot_21 : decode cX5_inSlot 21 = .ok (.aload_n 0, 1) := by decide +kernel
theorem dX5_inSlot_22 : decode cX5_inSlot 22 = .ok (.getfield 53, 3) := by decide +kernel
theorem dX5_inSlot_25 : decode cX5_inSlot 25 = .ok (.iload_n 3, 1) := by decide +kernel
theorem dX5_inSlot_26 : decode cX5_inSlot 26 = .ok (.iaload, 1) := by decide +kernel
theorem dX5_inSlot_27 : decode cX5_inSlot 27 = .ok (.if_icmp .lt 22, 3) := by decide +kernel
theorem dX5_inSlot_30 : decode cX5_inSlot 30 = .ok (.iload_n 2, 1) := by decide +kernel
theorem dX5_inSlot_31 : decode cX5_inSlot 31 = .ok (.aload_n 0, 1) := by decide +kernel
theorem dX5_inSlot_32 : decode cX5_inSlot 32 = .ok (.getfield 53, 3) := by decide +kernel
theorem dX5_inSlot_35 : decode cX5_inSlot 35 = .ok (.iload_n 3, 1) := by decide +kernel
theorem dX5_inSlot_36 : decode cX5_inSlot 36 = .ok (.iaload, 1) := by decide +kernel
theorem dX5_inSlot_37 : decode cX5_inSlot 37 = .ok (.aload_n 0, 1) := by decide +kernel
theorem dX5_inSlot_38 : decode cX5_inSlot 38 = .ok (.getfield 38, 3) := by decide +kernel
theorem dX5_inSlot_41 : decode cX5_inSlot 41 = .ok (.iload_n 3, 1) := by decide +kernel
theorem dX5_inSlot_42 : decode cX5_inSlot 42 = .ok (.iaload, 1) := by decide +kernel
theorem dX5_inSlot_43 : decode cX5_inSlot 43 = .ok (.iadd, 1) := by decide +kernel
theorem dX5_inSlot_44 : decode cX5_inSlot 44 = .ok (.if_icmp .ge 5, 3) := by decide +kernel
theorem dX5_inSlot_47 : decode cX5_inSlot 47 = .ok (.iload_n 3, 1) := by decide +kernel
theorem dX5_inSlot_48 : decode cX5_inSlot 48 = .ok (.ireturn, 1) := by decide +kernel
theorem dX5_inSlot_49 : decode cX5_inSlot 49 = .ok (.iinc 3 1, 3) := by decide +kernel
theorem dX5_inSlot_52 : decode cX5_inSlot 52 = .ok (.goto (-50), 3) := by decide +kernel
theorem dX5_inSlot_55 : decode cX5_inSlot 55 = .ok (.iconst (-1), 1) := by decide +kernel
theorem dX5_inSlot_56 : decode cX5_inSlot 56 = .ok (.ireturn, 1) := by decide +kernel
theorem dX5_isFree_0 : decode cX5_isFree 0 = .ok (.iload_n 2, 1) := by decide +kernel
theorem dX5_isFree_1 : decode cX5_isFree 1 = .ok (.iload_n 3, 1) := by decide +kernel
theorem dX5_isFree_2 : decode cX5_isFree 2 = .ok (.iadd, 1) := by decide +kernel
theorem dX5_isFree_3 : decode cX5_isFree 3 = .ok (.aload_n 0, 1) := by decide +kernel
theorem dX5_isFree_4 : decode cX5_isFree 4 = .ok (.getfield 13, 3) := by decide +kernel
theorem dX5_isFree_7 : decode cX5_isFree 7 = .ok (.iload_n 1, 1) := by decide +kernel
theorem dX5_isFree_8 : decode cX5_isFree 8 = .ok (.iaload, 1) := by decide +kernel
theorem dX5_isFree_9 : decode cX5_isFree 9 = .ok (.if_icmp .gt 7, 3) := by decide +kernel
theorem dX5_isFree_12 : decode cX5_isFree 12 = .ok (.iconst 1, 1) := by decide +kernel
theorem dX5_isFree_13 : decode cX5_isFree 13 = .ok (.goto 4, 3) := by decide +kernel
theorem dX5_isFree_16 : decode cX5_isFree 16 = .ok (.iconst 0, 1) := by decide +kernel
theorem dX5_isFree_17 : decode cX5_isFree 17 = .ok (.istore 4, 2) := by decide +kernel
theorem dX5_isFree_19 : decode cX5_isFree 19 = .ok (.iload_n 2, 1) := by decide +kernel
theorem dX5_isFree_20 : decode cX5_isFree 20 = .ok (.istore 5, 2) := by decide +kernel
theorem dX5_isFree_22 : decode cX5_isFree 22 = .ok (.iload 5, 2) := by decide +kernel
theorem dX5_isFree_24 : decode cX5_isFree 24 = .ok (.iload_n 2, 1) := by decide +kernel
theorem dX5_isFree_25 : decode cX5_isFree 25 = .ok (.iload_n 3, 1) := by decide +kernel
theorem dX5_isFree_26 : decode cX5_isFree 26 = .ok (.iadd, 1) := by decide +kernel
theorem dX5_isFree_27 : decode cX5_isFree 27 = .ok (.if_icmp .ge 32, 3) := by decide +kernel
theorem dX5_isFree_30 : decode cX5_isFree 30 = .ok (.iload 4, 2) := by decide +kernel
theorem dX5_isFree_32 : decode cX5_isFree 32 = .ok (.ifCond .eq 27, 3) := by decide +kernel
theorem dX5_isFree_35 : decode cX5_isFree 35 = .ok (.aload_n 0, 1) := by decide +kernel
theorem dX5_isFree_36 : decode cX5_isFree 36 = .ok (.iload_n 1, 1) := by decide +kernel
theorem dX5_isFree_37 : decode cX5_isFree 37 = .ok (.iload 5, 2) := by decide +kernel
theorem dX5_isFree_39 : decode cX5_isFree 39 = .ok (.invokevirtual 101, 3) := by decide +kernel
theorem dX5_isFree_42 : decode cX5_isFree 42 = .ok (.iconst (-1), 1) := by decide +kernel
theorem dX5_isFree_43 : decode cX5_isFree 43 = .ok (.if_icmp .ne 7, 3) := by decide +kernel
theorem dX5_isFree_46 : decode cX5_isFree 46 = .ok (.iconst 1, 1) := by decide +kernel
theorem dX5_isFree_47 : decode cX5_isFree 47 = .ok (.goto 4, 3) := by decide +kernel
theorem dX5_isFree_50 : decode cX5_isFree 50 = .ok (.iconst 0, 1) := by decide +kernel
theorem dX5_isFree_51 : decode cX5_isFree 51 = .ok (.istore 4, 2) := by decide +kernel
theorem dX5_isFree_53 : decode cX5_isFree 53 = .ok (.iinc 5 1, 3) := by decide +kernel
theorem dX5_isFree_56 : decode cX5_isFree 56 = .ok (.goto (-34), 3) := by decide +kernel
theorem dX5_isFree_59 : decode cX5_isFree 59 = .ok (.iload 4, 2) := by decide +kernel
theorem dX5_isFree_61 : decode cX5_isFree 61 = .ok (.ireturn, 1) := by decide +kernel
theorem dX5_isBorne_0 : decode cX5_isBorne 0 = .ok (.aload_n 0, 1) := by decide +kernel
theorem dX5_isBorne_1 : decode cX5_isBorne 1 = .ok (.getfield 7, 3) := by decide +kernel
theorem dX5_isBorne_4 : decode cX5_isBorne 4 = .ok (.iload_n 1, 1) := by decide +kernel
theorem dX5_isBorne_5 : decode cX5_isBorne 5 = .ok (.iaload, 1) := by decide +kernel
theorem dX5_isBorne_6 : decode cX5_isBorne 6 = .ok (.istore 5, 2) := by decide +kernel
theorem dX5_isBorne_8 : decode cX5_isBorne 8 = .ok (.aload_n 0, 1) := by decide +kernel
theorem dX5_isBorne_9 : decode cX5_isBorne 9 = .ok (.iload_n 1, 1) := by decide +kernel
theorem dX5_isBorne_10 : decode cX5_isBorne 10 = .ok (.invokevirtual 80, 3) := by decide +kernel
theorem dX5_isBorne_13 : decode cX5_isBorne 13 = .ok (.iload_n 3, 1) := by decide +kernel
theorem dX5_isBorne_14 : decode cX5_isBorne 14 = .ok (.iadd, 1) := by decide +kernel
theorem dX5_isBorne_15 : decode cX5_isBorne 15 = .ok (.aload_n 0, 1) := by decide +kernel
theorem dX5_isBorne_16 : decode cX5_isBorne 16 = .ok (.getfield 16, 3) := by decide +kernel
theorem dX5_isBorne_19 : decode cX5_isBorne 19 = .ok (.iload_n 1, 1) := by decide +kernel
theorem dX5_isBorne_20 : decode cX5_isBorne 20 = .ok (.iaload, 1) := by decide +kernel
theorem dX5_isBorne_21 : decode cX5_isBorne 21 = .ok (.if_icmp .gt 43, 3) := by decide +kernel
theorem dX5_isBorne_24 : decode cX5_isBorne 24 = .ok (.aload_n 0, 1) := by decide +kernel
theorem dX5_isBorne_25 : decode cX5_isBorne 25 = .ok (.iload 5, 2) := by decide +kernel
theorem dX5_isBorne_27 : decode cX5_isBorne 27 = .ok (.invokevirtual 91, 3) := by decide +kernel
theorem dX5_isBorne_30 : decode cX5_isBorne 30 = .ok (.iload_n 3, 1) := by decide +kernel
theorem dX5_isBorne_31 : decode cX5_isBorne 31 = .ok (.iadd, 1) := by decide +kernel
theorem dX5_isBorne_32 : decode cX5_isBorne 32 = .ok (.aload_n 0, 1) := by decide +kernel
theorem dX5_isBorne_33 : decode cX5_isBorne 33 = .ok (.getfield 25, 3) := by decide +kernel
theorem dX5_isBorne_36 : decode cX5_isBorne 36 = .ok (.iload 5, 2) := by decide +kernel
theorem dX5_isBorne_38 : decode cX5_isBorne 38 = .ok (.iaload, 1) := by decide +kernel
theorem dX5_isBorne_39 : decode cX5_isBorne 39 = .ok (.if_icmp .gt 25, 3) := by decide +kernel
theorem dX5_isBorne_42 : decode cX5_isBorne 42 = .ok (.aload_n 0, 1) := by decide +kernel
theorem dX5_isBorne_43 : decode cX5_isBorne 43 = .ok (.iload 5, 2) := by decide +kernel
theorem dX5_isBorne_45 : decode cX5_isBorne 45 = .ok (.invokevirtual 88, 3) := by decide +kernel
theorem dX5_isBorne_48 : decode cX5_isBorne 48 = .ok (.iload_n 2, 1) := by decide +kernel
theorem dX5_isBorne_49 : decode cX5_isBorne 49 = .ok (.iadd, 1) := by decide +kernel
theorem dX5_isBorne_50 : decode cX5_isBorne 50 = .ok (.aload_n 0, 1) := by decide +kernel
theorem dX5_isBorne_51 : decode cX5_isBorne 51 = .ok (.getfield 22, 3) := by decide +kernel
theorem dX5_isBorne_54 : decode cX5_isBorne 54 = .ok (.iload 5, 2) := by decide +kernel
theorem dX5_isBorne_56 : decode cX5_isBorne 56 = .ok (.iaload, 1) := by decide +kernel
theorem dX5_isBorne_57 : decode cX5_isBorne 57 = .ok (.if_icmp .gt 7, 3) := by decide +kernel
theorem dX5_isBorne_60 : decode cX5_isBorne 60 = .ok (.iconst 1, 1) := by decide +kernel
theorem dX5_isBorne_61 : decode cX5_isBorne 61 = .ok (.goto 4, 3) := by decide +kernel
theorem dX5_isBorne_64 : decode cX5_isBorne 64 = .ok (.iconst 0, 1) := by decide +kernel
theorem dX5_isBorne_65 : decode cX5_isBorne 65 = .ok (.istore 6, 2) := by decide +kernel
theorem dX5_isBorne_67 : decode cX5_isBorne 67 = .ok (.iconst 0, 1) := by decide +kernel
theorem dX5_isBorne_68 : decode cX5_isBorne 68 = .ok (.istore 7, 2) := by decide +kernel
theorem dX5_isBorne_70 : decode cX5_isBorne 70 = .ok (.iload 7, 2) := by decide +kernel
theorem dX5_isBorne_72 : decode cX5_isBorne 72 = .ok (.iconst 2, 1) := by decide +kernel
theorem dX5_isBorne_73 : decode cX5_isBorne 73 = .ok (.if_icmp .ge 77, 3) := by decide +kernel
theorem dX5_isBorne_76 : decode cX5_isBorne 76 = .ok (.iload 4, 2) := by decide +kernel
theorem dX5_isBorne_78 : decode cX5_isBorne 78 = .ok (.iload 7, 2) := by decide +kernel
theorem dX5_isBorne_80 : decode cX5_isBorne 80 = .ok (.invokestatic 76, 3) := by decide +kernel
theorem dX5_isBorne_83 : decode cX5_isBorne 83 = .ok (.ifCond .eq 7, 3) := by decide +kernel
theorem dX5_isBorne_86 : decode cX5_isBorne 86 = .ok (.iload_n 2, 1) := by decide +kernel
theorem dX5_isBorne_87 : decode cX5_isBorne 87 = .ok (.goto 4, 3) := by decide +kernel
theorem dX5_isBorne_90 : decode cX5_isBorne 90 = .ok (.iconst 0, 1) := by decide +kernel
theorem dX5_isBorne_91 : decode cX5_isBorne 91 = .ok (.istore 8, 2) := by decide +kernel
theorem dX5_isBorne_93 : decode cX5_isBorne 93 = .ok (.iload 6, 2) := by decide +kernel
theorem dX5_isBorne_95 : decode cX5_isBorne 95 = .ok (.ifCond .eq 46, 3) := by decide +kernel
theorem dX5_isBorne_98 : decode cX5_isBorne 98 = .ok (.aload_n 0, 1) := by decide +kernel
theorem dX5_isBorne_99 : decode cX5_isBorne 99 = .ok (.iload_n 1, 1) := by decide +kernel
theorem dX5_isBorne_100 : decode cX5_isBorne 100 = .ok (.iload 7, 2) := by decide +kernel
theorem dX5_isBorne_102 : decode cX5_isBorne 102 = .ok (.invokevirtual 94, 3) := by decide +kernel
theorem dX5_isBorne_105 : decode cX5_isBorne 105 = .ok (.iload 8, 2) := by decide +kernel
theorem dX5_isBorne_107 : decode cX5_isBorne 107 = .ok (.iadd, 1) := by decide +kernel
theorem dX5_isBorne_108 : decode cX5_isBorne 108 = .ok (.aload_n 0, 1) := by decide +kernel
theorem dX5_isBorne_109 : decode cX5_isBorne 109 = .ok (.getfield 19, 3) := by decide +kernel
theorem dX5_isBorne_112 : decode cX5_isBorne 112 = .ok (.iload_n 1, 1) := by decide +kernel
theorem dX5_isBorne_113 : decode cX5_isBorne 113 = .ok (.iaload, 1) := by decide +kernel
theorem dX5_isBorne_114 : decode cX5_isBorne 114 = .ok (.if_icmp .gt 27, 3) := by decide +kernel
theorem dX5_isBorne_117 : decode cX5_isBorne 117 = .ok (.aload_n 0, 1) := by decide +kernel
theorem dX5_isBorne_118 : decode cX5_isBorne 118 = .ok (.iconst (-1), 1) := by decide +kernel
theorem dX5_isBorne_119 : decode cX5_isBorne 119 = .ok (.iload 7, 2) := by decide +kernel
theorem dX5_isBorne_121 : decode cX5_isBorne 121 = .ok (.invokevirtual 94, 3) := by decide +kernel
theorem dX5_isBorne_124 : decode cX5_isBorne 124 = .ok (.iload 8, 2) := by decide +kernel
theorem dX5_isBorne_126 : decode cX5_isBorne 126 = .ok (.iadd, 1) := by decide +kernel
theorem dX5_isBorne_127 : decode cX5_isBorne 127 = .ok (.aload_n 0, 1) := by decide +kernel
theorem dX5_isBorne_128 : decode cX5_isBorne 128 = .ok (.getfield 28, 3) := by decide +kernel
theorem dX5_isBorne_131 : decode cX5_isBorne 131 = .ok (.iload 7, 2) := by decide +kernel
theorem dX5_isBorne_133 : decode cX5_isBorne 133 = .ok (.iaload, 1) := by decide +kernel
theorem dX5_isBorne_134 : decode cX5_isBorne 134 = .ok (.if_icmp .gt 7, 3) := by decide +kernel
theorem dX5_isBorne_137 : decode cX5_isBorne 137 = .ok (.iconst 1, 1) := by decide +kernel
theorem dX5_isBorne_138 : decode cX5_isBorne 138 = .ok (.goto 4, 3) := by decide +kernel
theorem dX5_isBorne_141 : decode cX5_isBorne 141 = .ok (.iconst 0, 1) := by decide +kernel
theorem dX5_isBorne_142 : decode cX5_isBorne 142 = .ok (.istore 6, 2) := by decide +kernel
theorem dX5_isBorne_144 : decode cX5_isBorne 144 = .ok (.iinc 7 1, 3) := by decide +kernel
theorem dX5_isBorne_147 : decode cX5_isBorne 147 = .ok (.goto (-77), 3) := by decide +kernel
theorem dX5_isBorne_150 : decode cX5_isBorne 150 = .ok (.iload 6, 2) := by decide +kernel
theorem dX5_isBorne_152 : decode cX5_isBorne 152 = .ok (.ireturn, 1) := by decide +kernel
theorem dX5_slotIn_0 : decode cX5_slotIn 0 = .ok (.aload_n 0, 1) := by decide +kernel
theorem dX5_slotIn_1 : decode cX5_slotIn 1 = .ok (.iload_n 1, 1) := by decide +kernel
theorem dX5_slotIn_2 : decode cX5_slotIn 2 = .ok (.iload_n 3, 1) := by decide +kernel
theorem dX5_slotIn_3 : decode cX5_slotIn 3 = .ok (.iload 4, 2) := by decide +kernel
theorem dX5_slotIn_5 : decode cX5_slotIn 5 = .ok (.iload 5, 2) := by decide +kernel
theorem dX5_slotIn_7 : decode cX5_slotIn 7 = .ok (.invokevirtual 104, 3) := by decide +kernel
theorem dX5_slotIn_10 : decode cX5_slotIn 10 = .ok (.ifCond .eq 37, 3) := by decide +kernel
theorem dX5_slotIn_13 : decode cX5_slotIn 13 = .ok (.iconst 0, 1) := by decide +kernel
theorem dX5_slotIn_14 : decode cX5_slotIn 14 = .ok (.istore 6, 2) := by decide +kernel
theorem dX5_slotIn_16 : decode cX5_slotIn 16 = .ok (.iload 6, 2) := by decide +kernel
theorem dX5_slotIn_18 : decode cX5_slotIn 18 = .ok (.aload_n 0, 1) := by decide +kernel
theorem dX5_slotIn_19 : decode cX5_slotIn 19 = .ok (.getfield 13, 3) := by decide +kernel
theorem dX5_slotIn_22 : decode cX5_slotIn 22 = .ok (.iload_n 1, 1) := by decide +kernel
theorem dX5_slotIn_23 : decode cX5_slotIn 23 = .ok (.iaload, 1) := by decide +kernel
theorem dX5_slotIn_24 : decode cX5_slotIn 24 = .ok (.if_icmp .ge 23, 3) := by decide +kernel
theorem dX5_slotIn_27 : decode cX5_slotIn 27 = .ok (.aload_n 0, 1) := by decide +kernel
theorem dX5_slotIn_28 : decode cX5_slotIn 28 = .ok (.iload_n 1, 1) := by decide +kernel
theorem dX5_slotIn_29 : decode cX5_slotIn 29 = .ok (.iload 6, 2) := by decide +kernel
theorem dX5_slotIn_31 : decode cX5_slotIn 31 = .ok (.iload_n 2, 1) := by decide +kernel
theorem dX5_slotIn_32 : decode cX5_slotIn 32 = .ok (.invokevirtual 108, 3) := by decide +kernel
theorem dX5_slotIn_35 : decode cX5_slotIn 35 = .ok (.ifCond .eq 6, 3) := by decide +kernel
theorem dX5_slotIn_38 : decode cX5_slotIn 38 = .ok (.iload 6, 2) := by decide +kernel
theorem dX5_slotIn_40 : decode cX5_slotIn 40 = .ok (.ireturn, 1) := by decide +kernel
theorem dX5_slotIn_41 : decode cX5_slotIn 41 = .ok (.iinc 6 1, 3) := by decide +kernel
theorem dX5_slotIn_44 : decode cX5_slotIn 44 = .ok (.goto (-28), 3) := by decide +kernel
theorem dX5_slotIn_47 : decode cX5_slotIn 47 = .ok (.iconst (-1), 1) := by decide +kernel
theorem dX5_slotIn_48 : decode cX5_slotIn 48 = .ok (.ireturn, 1) := by decide +kernel
theorem dX5_puts_0 : decode cX5_puts 0 = .ok (.iconst 0, 1) := by decide +kernel
theorem dX5_puts_1 : decode cX5_puts 1 = .ok (.istore_n 2, 1) := by decide +kernel
theorem dX5_puts_2 : decode cX5_puts 2 = .ok (.iload_n 2, 1) := by decide +kernel
theorem dX5_puts_3 : decode cX5_puts 3 = .ok (.aload_n 0, 1) := by decide +kernel
theorem dX5_puts_4 : decode cX5_puts 4 = .ok (.getfield 66, 3) := by decide +kernel
theorem dX5_puts_7 : decode cX5_puts 7 = .ok (.if_icmp .ge 60, 3) := by decide +kernel
theorem dX5_puts_10 : decode cX5_puts 10 = .ok (.aload_n 0, 1) := by decide +kernel
theorem dX5_puts_11 : decode cX5_puts 11 = .ok (.iload_n 2, 1) := by decide +kernel
theorem dX5_puts_12 : decode cX5_puts 12 = .ok (.aload_n 0, 1) := by decide +kernel
theorem dX5_puts_13 : decode cX5_puts 13 = .ok (.getfield 38, 3) := by decide +kernel
theorem dX5_puts_16 : decode cX5_puts 16 = .ok (.iload_n 1, 1) := by decide +kernel
theorem dX5_puts_17 : decode cX5_puts 17 = .ok (.iaload, 1) := by decide +kernel
theorem dX5_puts_18 : decode cX5_puts 18 = .ok (.aload_n 0, 1) := by decide +kernel
theorem dX5_puts_19 : decode cX5_puts 19 = .ok (.getfield 41, 3) := by decide +kernel
theorem dX5_puts_22 : decode cX5_puts 22 = .ok (.iload_n 1, 1) := by decide +kernel
theorem dX5_puts_23 : decode cX5_puts 23 = .ok (.iaload, 1) := by decide +kernel
theorem dX5_puts_24 : decode cX5_puts 24 = .ok (.aload_n 0, 1) := by decide +kernel
theorem dX5_puts_25 : decode cX5_puts 25 = .ok (.getfield 44, 3) := by decide +kernel
theorem dX5_puts_28 : decode cX5_puts 28 = .ok (.iload_n 1, 1) := by decide +kernel
theorem dX5_puts_29 : decode cX5_puts 29 = .ok (.iaload, 1) := by decide +kernel
theorem dX5_puts_30 : decode cX5_puts 30 = .ok (.aload_n 0, 1) := by decide +kernel
theorem dX5_puts_31 : decode cX5_puts 31 = .ok (.getfield 47, 3) := by decide +kernel
theorem dX5_puts_34 : decode cX5_puts 34 = .ok (.iload_n 1, 1) := by decide +kernel
theorem dX5_puts_35 : decode cX5_puts 35 = .ok (.iaload, 1) := by decide +kernel
theorem dX5_puts_36 : decode cX5_puts 36 = .ok (.invokevirtual 111, 3) := by decide +kernel
theorem dX5_puts_39 : decode cX5_puts 39 = .ok (.istore_n 3, 1) := by decide +kernel
theorem dX5_puts_40 : decode cX5_puts 40 = .ok (.iload_n 3, 1) := by decide +kernel
theorem dX5_puts_41 : decode cX5_puts 41 = .ok (.iconst (-1), 1) := by decide +kernel
theorem dX5_puts_42 : decode cX5_puts 42 = .ok (.if_icmp .eq 19, 3) := by decide +kernel
theorem dX5_puts_45 : decode cX5_puts 45 = .ok (.aload_n 0, 1) := by decide +kernel
theorem dX5_puts_46 : decode cX5_puts 46 = .ok (.getfield 50, 3) := by decide +kernel
theorem dX5_puts_49 : decode cX5_puts 49 = .ok (.iload_n 1, 1) := by decide +kernel
theorem dX5_puts_50 : decode cX5_puts 50 = .ok (.iload_n 2, 1) := by decide +kernel
theorem dX5_puts_51 : decode cX5_puts 51 = .ok (.iastore, 1) := by decide +kernel
theorem dX5_puts_52 : decode cX5_puts 52 = .ok (.aload_n 0, 1) := by decide +kernel
theorem dX5_puts_53 : decode cX5_puts 53 = .ok (.getfield 53, 3) := by decide +kernel
theorem dX5_puts_56 : decode cX5_puts 56 = .ok (.iload_n 1, 1) := by decide +kernel
theorem dX5_puts_57 : decode cX5_puts 57 = .ok (.iload_n 3, 1) := by decide +kernel
theorem dX5_puts_58 : decode cX5_puts 58 = .ok (.iastore, 1) := by decide +kernel
theorem dX5_puts_59 : decode cX5_puts 59 = .ok (.iload_n 2, 1) := by decide +kernel
theorem dX5_puts_60 : decode cX5_puts 60 = .ok (.ireturn, 1) := by decide +kernel
theorem dX5_puts_61 : decode cX5_puts 61 = .ok (.iinc 2 1, 3) := by decide +kernel
theorem dX5_puts_64 : decode cX5_puts 64 = .ok (.goto (-62), 3) := by decide +kernel
theorem dX5_puts_67 : decode cX5_puts 67 = .ok (.iconst (-1), 1) := by decide +kernel
theorem dX5_puts_68 : decode cX5_puts 68 = .ok (.ireturn, 1) := by decide +kernel
theorem dX5_isKind_0 : decode cX5_isKind 0 = .ok (.iload_n 0, 1) := by decide +kernel
theorem dX5_isKind_1 : decode cX5_isKind 1 = .ok (.iconst 1, 1) := by decide +kernel
theorem dX5_isKind_2 : decode cX5_isKind 2 = .ok (.bipush 6, 2) := by decide +kernel
theorem dX5_isKind_4 : decode cX5_isKind 4 = .ok (.invokestatic 69, 3) := by decide +kernel
theorem dX5_isKind_7 : decode cX5_isKind 7 = .ok (.ifCond .eq 38, 3) := by decide +kernel
theorem dX5_isKind_10 : decode cX5_isKind 10 = .ok (.iload_n 1, 1) := by decide +kernel
theorem dX5_isKind_11 : decode cX5_isKind 11 = .ok (.iconst 0, 1) := by decide +kernel
theorem dX5_isKind_12 : decode cX5_isKind 12 = .ok (.sipush 2000, 3) := by decide +kernel
theorem dX5_isKind_15 : decode cX5_isKind 15 = .ok (.invokestatic 69, 3) := by decide +kernel
theorem dX5_isKind_18 : decode cX5_isKind 18 = .ok (.ifCond .eq 27, 3) := by decide +kernel
theorem dX5_isKind_21 : decode cX5_isKind 21 = .ok (.iload_n 2, 1) := by decide +kernel
theorem dX5_isKind_22 : decode cX5_isKind 22 = .ok (.iconst 0, 1) := by decide +kernel
theorem dX5_isKind_23 : decode cX5_isKind 23 = .ok (.sipush 1000, 3) := by decide +kernel
theorem dX5_isKind_26 : decode cX5_isKind 26 = .ok (.invokestatic 69, 3) := by decide +kernel
theorem dX5_isKind_29 : decode cX5_isKind 29 = .ok (.ifCond .eq 16, 3) := by decide +kernel
theorem dX5_isKind_32 : decode cX5_isKind 32 = .ok (.iload_n 3, 1) := by decide +kernel
theorem dX5_isKind_33 : decode cX5_isKind 33 = .ok (.iconst 0, 1) := by decide +kernel
theorem dX5_isKind_34 : decode cX5_isKind 34 = .ok (.iconst 2, 1) := by decide +kernel
theorem dX5_isKind_35 : decode cX5_isKind 35 = .ok (.invokestatic 69, 3) := by decide +kernel
theorem dX5_isKind_38 : decode cX5_isKind 38 = .ok (.ifCond .eq 7, 3) := by decide +kernel
theorem dX5_isKind_41 : decode cX5_isKind 41 = .ok (.iconst 1, 1) := by decide +kernel
theorem dX5_isKind_42 : decode cX5_isKind 42 = .ok (.goto 4, 3) := by decide +kernel
theorem dX5_isKind_45 : decode cX5_isKind 45 = .ok (.iconst 0, 1) := by decide +kernel
theorem dX5_isKind_46 : decode cX5_isKind 46 = .ok (.ireturn, 1) := by decide +kernel
theorem dX5_place_0 : decode cX5_place 0 = .ok (.iload_n 1, 1) := by decide +kernel
theorem dX5_place_1 : decode cX5_place 1 = .ok (.iload_n 2, 1) := by decide +kernel
theorem dX5_place_2 : decode cX5_place 2 = .ok (.iload_n 3, 1) := by decide +kernel
theorem dX5_place_3 : decode cX5_place 3 = .ok (.iload 4, 2) := by decide +kernel
theorem dX5_place_5 : decode cX5_place 5 = .ok (.invokestatic 115, 3) := by decide +kernel
theorem dX5_place_8 : decode cX5_place 8 = .ok (.istore 5, 2) := by decide +kernel
theorem dX5_place_10 : decode cX5_place 10 = .ok (.aload_n 0, 1) := by decide +kernel
theorem dX5_place_11 : decode cX5_place 11 = .ok (.iload 5, 2) := by decide +kernel
theorem dX5_place_13 : decode cX5_place 13 = .ok (.ifCond .ne 7, 3) := by decide +kernel
theorem dX5_place_16 : decode cX5_place 16 = .ok (.iconst 1, 1) := by decide +kernel
theorem dX5_place_17 : decode cX5_place 17 = .ok (.goto 17, 3) := by decide +kernel
theorem dX5_place_20 : decode cX5_place 20 = .ok (.aload_n 0, 1) := by decide +kernel
theorem dX5_place_21 : decode cX5_place 21 = .ok (.getfield 73, 3) := by decide +kernel
theorem dX5_place_24 : decode cX5_place 24 = .ok (.bipush 60, 2) := by decide +kernel
theorem dX5_place_26 : decode cX5_place 26 = .ok (.if_icmp .ne 7, 3) := by decide +kernel
theorem dX5_place_29 : decode cX5_place 29 = .ok (.iconst 2, 1) := by decide +kernel
theorem dX5_place_30 : decode cX5_place 30 = .ok (.goto 4, 3) := by decide +kernel
theorem dX5_place_33 : decode cX5_place 33 = .ok (.iconst 0, 1) := by decide +kernel
theorem dX5_place_34 : decode cX5_place 34 = .ok (.invokevirtual 84, 3) := by decide +kernel
theorem dX5_place_37 : decode cX5_place 37 = .ok (.ifCond .ne 5, 3) := by decide +kernel
theorem dX5_place_40 : decode cX5_place 40 = .ok (.iconst 0, 1) := by decide +kernel
theorem dX5_place_41 : decode cX5_place 41 = .ok (.ireturn, 1) := by decide +kernel
theorem dX5_place_42 : decode cX5_place 42 = .ok (.aload_n 0, 1) := by decide +kernel
theorem dX5_place_43 : decode cX5_place 43 = .ok (.getfield 38, 3) := by decide +kernel
theorem dX5_place_46 : decode cX5_place 46 = .ok (.aload_n 0, 1) := by decide +kernel
theorem dX5_place_47 : decode cX5_place 47 = .ok (.getfield 73, 3) := by decide +kernel
theorem dX5_place_50 : decode cX5_place 50 = .ok (.iload_n 1, 1) := by decide +kernel
theorem dX5_place_51 : decode cX5_place 51 = .ok (.iastore, 1) := by decide +kernel
theorem dX5_place_52 : decode cX5_place 52 = .ok (.aload_n 0, 1) := by decide +kernel
theorem dX5_place_53 : decode cX5_place 53 = .ok (.getfield 41, 3) := by decide +kernel
theorem dX5_place_56 : decode cX5_place 56 = .ok (.aload_n 0, 1) := by decide +kernel
theorem dX5_place_57 : decode cX5_place 57 = .ok (.getfield 73, 3) := by decide +kernel
theorem dX5_place_60 : decode cX5_place 60 = .ok (.iload_n 2, 1) := by decide +kernel
theorem dX5_place_61 : decode cX5_place 61 = .ok (.iastore, 1) := by decide +kernel
theorem dX5_place_62 : decode cX5_place 62 = .ok (.aload_n 0, 1) := by decide +kernel
theorem dX5_place_63 : decode cX5_place 63 = .ok (.getfield 44, 3) := by decide +kernel
theorem dX5_place_66 : decode cX5_place 66 = .ok (.aload_n 0, 1) := by decide +kernel
theorem dX5_place_67 : decode cX5_place 67 = .ok (.getfield 73, 3) := by decide +kernel
theorem dX5_place_70 : decode cX5_place 70 = .ok (.iload_n 3, 1) := by decide +kernel
theorem dX5_place_71 : decode cX5_place 71 = .ok (.iastore, 1) := by decide +kernel
theorem dX5_place_72 : decode cX5_place 72 = .ok (.aload_n 0, 1) := by decide +kernel
theorem dX5_place_73 : decode cX5_place 73 = .ok (.getfield 47, 3) := by decide +kernel
theorem dX5_place_76 : decode cX5_place 76 = .ok (.aload_n 0, 1) := by decide +kernel
theorem dX5_place_77 : decode cX5_place 77 = .ok (.getfield 73, 3) := by decide +kernel
theorem dX5_place_80 : decode cX5_place 80 = .ok (.iload 4, 2) := by decide +kernel
theorem dX5_place_82 : decode cX5_place 82 = .ok (.iastore, 1) := by decide +kernel
theorem dX5_place_83 : decode cX5_place 83 = .ok (.aload_n 0, 1) := by decide +kernel
theorem dX5_place_84 : decode cX5_place 84 = .ok (.getfield 35, 3) := by decide +kernel
theorem dX5_place_87 : decode cX5_place 87 = .ok (.aload_n 0, 1) := by decide +kernel
theorem dX5_place_88 : decode cX5_place 88 = .ok (.getfield 73, 3) := by decide +kernel
theorem dX5_place_91 : decode cX5_place 91 = .ok (.aload_n 0, 1) := by decide +kernel
theorem dX5_place_92 : decode cX5_place 92 = .ok (.getfield 118, 3) := by decide +kernel
theorem dX5_place_95 : decode cX5_place 95 = .ok (.iastore, 1) := by decide +kernel
theorem dX5_place_96 : decode cX5_place 96 = .ok (.aload_n 0, 1) := by decide +kernel
theorem dX5_place_97 : decode cX5_place 97 = .ok (.aload_n 0, 1) := by decide +kernel
theorem dX5_place_98 : decode cX5_place 98 = .ok (.aload_n 0, 1) := by decide +kernel
theorem dX5_place_99 : decode cX5_place 99 = .ok (.getfield 73, 3) := by decide +kernel
theorem dX5_place_102 : decode cX5_place 102 = .ok (.invokevirtual 121, 3) := by decide +kernel
theorem dX5_place_105 : decode cX5_place 105 = .ok (.iconst (-1), 1) := by decide +kernel
theorem dX5_place_106 : decode cX5_place 106 = .ok (.if_icmp .ne 7, 3) := by decide +kernel
theorem dX5_place_109 : decode cX5_place 109 = .ok (.iconst 2, 1) := by decide +kernel
theorem dX5_place_110 : decode cX5_place 110 = .ok (.goto 4, 3) := by decide +kernel
theorem dX5_place_113 : decode cX5_place 113 = .ok (.iconst 0, 1) := by decide +kernel
theorem dX5_place_114 : decode cX5_place 114 = .ok (.invokevirtual 84, 3) := by decide +kernel
theorem dX5_place_117 : decode cX5_place 117 = .ok (.ifCond .ne 5, 3) := by decide +kernel
theorem dX5_place_120 : decode cX5_place 120 = .ok (.iconst 0, 1) := by decide +kernel
theorem dX5_place_121 : decode cX5_place 121 = .ok (.ireturn, 1) := by decide +kernel
theorem dX5_place_122 : decode cX5_place 122 = .ok (.aload_n 0, 1) := by decide +kernel
theorem dX5_place_123 : decode cX5_place 123 = .ok (.dup, 1) := by decide +kernel
theorem dX5_place_124 : decode cX5_place 124 = .ok (.getfield 73, 3) := by decide +kernel
theorem dX5_place_127 : decode cX5_place 127 = .ok (.iconst 1, 1) := by decide +kernel
theorem dX5_place_128 : decode cX5_place 128 = .ok (.iadd, 1) := by decide +kernel
theorem dX5_place_129 : decode cX5_place 129 = .ok (.putfield 73, 3) := by decide +kernel
theorem dX5_place_132 : decode cX5_place 132 = .ok (.aload_n 0, 1) := by decide +kernel
theorem dX5_place_133 : decode cX5_place 133 = .ok (.dup, 1) := by decide +kernel
theorem dX5_place_134 : decode cX5_place 134 = .ok (.getfield 118, 3) := by decide +kernel
theorem dX5_place_137 : decode cX5_place 137 = .ok (.iconst 1, 1) := by decide +kernel
theorem dX5_place_138 : decode cX5_place 138 = .ok (.iadd, 1) := by decide +kernel
theorem dX5_place_139 : decode cX5_place 139 = .ok (.putfield 118, 3) := by decide +kernel
theorem dX5_place_142 : decode cX5_place 142 = .ok (.aload_n 0, 1) := by decide +kernel
theorem dX5_place_143 : decode cX5_place 143 = .ok (.getfield 118, 3) := by decide +kernel
theorem dX5_place_146 : decode cX5_place 146 = .ok (.iconst 1, 1) := by decide +kernel
theorem dX5_place_147 : decode cX5_place 147 = .ok (.isub, 1) := by decide +kernel
theorem dX5_place_148 : decode cX5_place 148 = .ok (.ireturn, 1) := by decide +kernel
theorem dX5_takeOut_0 : decode cX5_takeOut 0 = .ok (.aload_n 0, 1) := by decide +kernel
theorem dX5_takeOut_1 : decode cX5_takeOut 1 = .ok (.iload_n 1, 1) := by decide +kernel
theorem dX5_takeOut_2 : decode cX5_takeOut 2 = .ok (.invokevirtual 124, 3) := by decide +kernel
theorem dX5_takeOut_5 : decode cX5_takeOut 5 = .ok (.istore_n 2, 1) := by decide +kernel
theorem dX5_takeOut_6 : decode cX5_takeOut 6 = .ok (.aload_n 0, 1) := by decide +kernel
theorem dX5_takeOut_7 : decode cX5_takeOut 7 = .ok (.iload_n 2, 1) := by decide +kernel
theorem dX5_takeOut_8 : decode cX5_takeOut 8 = .ok (.iconst (-1), 1) := by decide +kernel
theorem dX5_takeOut_9 : decode cX5_takeOut 9 = .ok (.if_icmp .ne 7, 3) := by decide +kernel
theorem dX5_takeOut_12 : decode cX5_takeOut 12 = .ok (.iconst 1, 1) := by decide +kernel
theorem dX5_takeOut_13 : decode cX5_takeOut 13 = .ok (.goto 4, 3) := by decide +kernel
theorem dX5_takeOut_16 : decode cX5_takeOut 16 = .ok (.iconst 0, 1) := by decide +kernel
theorem dX5_takeOut_17 : decode cX5_takeOut 17 = .ok (.invokevirtual 84, 3) := by decide +kernel
theorem dX5_takeOut_20 : decode cX5_takeOut 20 = .ok (.ifCond .ne 5, 3) := by decide +kernel
theorem dX5_takeOut_23 : decode cX5_takeOut 23 = .ok (.iconst 0, 1) := by decide +kernel
theorem dX5_takeOut_24 : decode cX5_takeOut 24 = .ok (.ireturn, 1) := by decide +kernel
theorem dX5_takeOut_25 : decode cX5_takeOut 25 = .ok (.aload_n 0, 1) := by decide +kernel
theorem dX5_takeOut_26 : decode cX5_takeOut 26 = .ok (.getfield 50, 3) := by decide +kernel
theorem dX5_takeOut_29 : decode cX5_takeOut 29 = .ok (.iload_n 2, 1) := by decide +kernel
theorem dX5_takeOut_30 : decode cX5_takeOut 30 = .ok (.iaload, 1) := by decide +kernel
theorem dX5_takeOut_31 : decode cX5_takeOut 31 = .ok (.istore_n 3, 1) := by decide +kernel
theorem dX5_takeOut_32 : decode cX5_takeOut 32 = .ok (.aload_n 0, 1) := by decide +kernel
theorem dX5_takeOut_33 : decode cX5_takeOut 33 = .ok (.dup, 1) := by decide +kernel
theorem dX5_takeOut_34 : decode cX5_takeOut 34 = .ok (.getfield 73, 3) := by decide +kernel
theorem dX5_takeOut_37 : decode cX5_takeOut 37 = .ok (.iconst 1, 1) := by decide +kernel
theorem dX5_takeOut_38 : decode cX5_takeOut 38 = .ok (.isub, 1) := by decide +kernel
theorem dX5_takeOut_39 : decode cX5_takeOut 39 = .ok (.putfield 73, 3) := by decide +kernel
theorem dX5_takeOut_42 : decode cX5_takeOut 42 = .ok (.iload_n 2, 1) := by decide +kernel
theorem dX5_takeOut_43 : decode cX5_takeOut 43 = .ok (.istore 4, 2) := by decide +kernel
theorem dX5_takeOut_45 : decode cX5_takeOut 45 = .ok (.iload 4, 2) := by decide +kernel
theorem dX5_takeOut_47 : decode cX5_takeOut 47 = .ok (.aload_n 0, 1) := by decide +kernel
theorem dX5_takeOut_48 : decode cX5_takeOut 48 = .ok (.getfield 73, 3) := by decide +kernel
theorem dX5_takeOut_51 : decode cX5_takeOut 51 = .ok (.if_icmp .ge 121, 3) := by decide +kernel
theorem dX5_takeOut_54 : decode cX5_takeOut 54 = .ok (.aload_n 0, 1) := by decide +kernel
theorem dX5_takeOut_55 : decode cX5_takeOut 55 = .ok (.getfield 35, 3) := by decide +kernel
theorem dX5_takeOut_58 : decode cX5_takeOut 58 = .ok (.iload 4, 2) := by decide +kernel
theorem dX5_takeOut_60 : decode cX5_takeOut 60 = .ok (.aload_n 0, 1) := by decide +kernel
theorem dX5_takeOut_61 : decode cX5_takeOut 61 = .ok (.getfield 35, 3) := by decide +kernel
theorem dX5_takeOut_64 : decode cX5_takeOut 64 = .ok (.iload 4, 2) := by decide +kernel
theorem dX5_takeOut_66 : decode cX5_takeOut 66 = .ok (.iconst 1, 1) := by decide +kernel
theorem dX5_takeOut_67 : decode cX5_takeOut 67 = .ok (.iadd, 1) := by decide +kernel
theorem dX5_takeOut_68 : decode cX5_takeOut 68 = .ok (.iaload, 1) := by decide +kernel
theorem dX5_takeOut_69 : decode cX5_takeOut 69 = .ok (.iastore, 1) := by decide +kernel
theorem dX5_takeOut_70 : decode cX5_takeOut 70 = .ok (.aload_n 0, 1) := by decide +kernel
theorem dX5_takeOut_71 : decode cX5_takeOut 71 = .ok (.getfield 38, 3) := by decide +kernel
theorem dX5_takeOut_74 : decode cX5_takeOut 74 = .ok (.iload 4, 2) := by decide +kernel
theorem dX5_takeOut_76 : decode cX5_takeOut 76 = .ok (.aload_n 0, 1) := by decide +kernel
theorem dX5_takeOut_77 : decode cX5_takeOut 77 = .ok (.getfield 38, 3) := by decide +kernel
theorem dX5_takeOut_80 : decode cX5_takeOut 80 = .ok (.iload 4, 2) := by decide +kernel
theorem dX5_takeOut_82 : decode cX5_takeOut 82 = .ok (.iconst 1, 1) := by decide +kernel
theorem dX5_takeOut_83 : decode cX5_takeOut 83 = .ok (.iadd, 1) := by decide +kernel
theorem dX5_takeOut_84 : decode cX5_takeOut 84 = .ok (.iaload, 1) := by decide +kernel
theorem dX5_takeOut_85 : decode cX5_takeOut 85 = .ok (.iastore, 1) := by decide +kernel
theorem dX5_takeOut_86 : decode cX5_takeOut 86 = .ok (.aload_n 0, 1) := by decide +kernel
theorem dX5_takeOut_87 : decode cX5_takeOut 87 = .ok (.getfield 41, 3) := by decide +kernel
theorem dX5_takeOut_90 : decode cX5_takeOut 90 = .ok (.iload 4, 2) := by decide +kernel
theorem dX5_takeOut_92 : decode cX5_takeOut 92 = .ok (.aload_n 0, 1) := by decide +kernel
theorem dX5_takeOut_93 : decode cX5_takeOut 93 = .ok (.getfield 41, 3) := by decide +kernel
theorem dX5_takeOut_96 : decode cX5_takeOut 96 = .ok (.iload 4, 2) := by decide +kernel
theorem dX5_takeOut_98 : decode cX5_takeOut 98 = .ok (.iconst 1, 1) := by decide +kernel
theorem dX5_takeOut_99 : decode cX5_takeOut 99 = .ok (.iadd, 1) := by decide +kernel
theorem dX5_takeOut_100 : decode cX5_takeOut 100 = .ok (.iaload, 1) := by decide +kernel
theorem dX5_takeOut_101 : decode cX5_takeOut 101 = .ok (.iastore, 1) := by decide +kernel
theorem dX5_takeOut_102 : decode cX5_takeOut 102 = .ok (.aload_n 0, 1) := by decide +kernel
theorem dX5_takeOut_103 : decode cX5_takeOut 103 = .ok (.getfield 44, 3) := by decide +kernel
theorem dX5_takeOut_106 : decode cX5_takeOut 106 = .ok (.iload 4, 2) := by decide +kernel
theorem dX5_takeOut_108 : decode cX5_takeOut 108 = .ok (.aload_n 0, 1) := by decide +kernel
theorem dX5_takeOut_109 : decode cX5_takeOut 109 = .ok (.getfield 44, 3) := by decide +kernel
theorem dX5_takeOut_112 : decode cX5_takeOut 112 = .ok (.iload 4, 2) := by decide +kernel
theorem dX5_takeOut_114 : decode cX5_takeOut 114 = .ok (.iconst 1, 1) := by decide +kernel
theorem dX5_takeOut_115 : decode cX5_takeOut 115 = .ok (.iadd, 1) := by decide +kernel
theorem dX5_takeOut_116 : decode cX5_takeOut 116 = .ok (.iaload, 1) := by decide +kernel
theorem dX5_takeOut_117 : decode cX5_takeOut 117 = .ok (.iastore, 1) := by decide +kernel
theorem dX5_takeOut_118 : decode cX5_takeOut 118 = .ok (.aload_n 0, 1) := by decide +kernel
theorem dX5_takeOut_119 : decode cX5_takeOut 119 = .ok (.getfield 47, 3) := by decide +kernel
theorem dX5_takeOut_122 : decode cX5_takeOut 122 = .ok (.iload 4, 2) := by decide +kernel
theorem dX5_takeOut_124 : decode cX5_takeOut 124 = .ok (.aload_n 0, 1) := by decide +kernel
theorem dX5_takeOut_125 : decode cX5_takeOut 125 = .ok (.getfield 47, 3) := by decide +kernel
theorem dX5_takeOut_128 : decode cX5_takeOut 128 = .ok (.iload 4, 2) := by decide +kernel
theorem dX5_takeOut_130 : decode cX5_takeOut 130 = .ok (.iconst 1, 1) := by decide +kernel
theorem dX5_takeOut_131 : decode cX5_takeOut 131 = .ok (.iadd, 1) := by decide +kernel
theorem dX5_takeOut_132 : decode cX5_takeOut 132 = .ok (.iaload, 1) := by decide +kernel
theorem dX5_takeOut_133 : decode cX5_takeOut 133 = .ok (.iastore, 1) := by decide +kernel
theorem dX5_takeOut_134 : decode cX5_takeOut 134 = .ok (.aload_n 0, 1) := by decide +kernel
theorem dX5_takeOut_135 : decode cX5_takeOut 135 = .ok (.getfield 50, 3) := by decide +kernel
theorem dX5_takeOut_138 : decode cX5_takeOut 138 = .ok (.iload 4, 2) := by decide +kernel
theorem dX5_takeOut_140 : decode cX5_takeOut 140 = .ok (.aload_n 0, 1) := by decide +kernel
theorem dX5_takeOut_141 : decode cX5_takeOut 141 = .ok (.getfield 50, 3) := by decide +kernel
theorem dX5_takeOut_144 : decode cX5_takeOut 144 = .ok (.iload 4, 2) := by decide +kernel
theorem dX5_takeOut_146 : decode cX5_takeOut 146 = .ok (.iconst 1, 1) := by decide +kernel
theorem dX5_takeOut_147 : decode cX5_takeOut 147 = .ok (.iadd, 1) := by decide +kernel
theorem dX5_takeOut_148 : decode cX5_takeOut 148 = .ok (.iaload, 1) := by decide +kernel
theorem dX5_takeOut_149 : decode cX5_takeOut 149 = .ok (.iastore, 1) := by decide +kernel
theorem dX5_takeOut_150 : decode cX5_takeOut 150 = .ok (.aload_n 0, 1) := by decide +kernel
theorem dX5_takeOut_151 : decode cX5_takeOut 151 = .ok (.getfield 53, 3) := by decide +kernel
theorem dX5_takeOut_154 : decode cX5_takeOut 154 = .ok (.iload 4, 2) := by decide +kernel
theorem dX5_takeOut_156 : decode cX5_takeOut 156 = .ok (.aload_n 0, 1) := by decide +kernel
theorem dX5_takeOut_157 : decode cX5_takeOut 157 = .ok (.getfield 53, 3) := by decide +kernel
theorem dX5_takeOut_160 : decode cX5_takeOut 160 = .ok (.iload 4, 2) := by decide +kernel
theorem dX5_takeOut_162 : decode cX5_takeOut 162 = .ok (.iconst 1, 1) := by decide +kernel
theorem dX5_takeOut_163 : decode cX5_takeOut 163 = .ok (.iadd, 1) := by decide +kernel
theorem dX5_takeOut_164 : decode cX5_takeOut 164 = .ok (.iaload, 1) := by decide +kernel
theorem dX5_takeOut_165 : decode cX5_takeOut 165 = .ok (.iastore, 1) := by decide +kernel
theorem dX5_takeOut_166 : decode cX5_takeOut 166 = .ok (.iinc 4 1, 3) := by decide +kernel
theorem dX5_takeOut_169 : decode cX5_takeOut 169 = .ok (.goto (-124), 3) := by decide +kernel
theorem dX5_takeOut_172 : decode cX5_takeOut 172 = .ok (.iload_n 3, 1) := by decide +kernel
theorem dX5_takeOut_173 : decode cX5_takeOut 173 = .ok (.ireturn, 1) := by decide +kernel
theorem dX5_cord_0 : decode cX5_cord 0 = .ok (.aload_n 0, 1) := by decide +kernel
theorem dX5_cord_1 : decode cX5_cord 1 = .ok (.iload_n 1, 1) := by decide +kernel
theorem dX5_cord_2 : decode cX5_cord 2 = .ok (.invokevirtual 124, 3) := by decide +kernel
theorem dX5_cord_5 : decode cX5_cord 5 = .ok (.istore_n 3, 1) := by decide +kernel
theorem dX5_cord_6 : decode cX5_cord 6 = .ok (.aload_n 0, 1) := by decide +kernel
theorem dX5_cord_7 : decode cX5_cord 7 = .ok (.iload_n 3, 1) := by decide +kernel
theorem dX5_cord_8 : decode cX5_cord 8 = .ok (.iconst (-1), 1) := by decide +kernel
theorem dX5_cord_9 : decode cX5_cord 9 = .ok (.if_icmp .ne 7, 3) := by decide +kernel
theorem dX5_cord_12 : decode cX5_cord 12 = .ok (.iconst 1, 1) := by decide +kernel
theorem dX5_cord_13 : decode cX5_cord 13 = .ok (.goto 17, 3) := by decide +kernel
theorem dX5_cord_16 : decode cX5_cord 16 = .ok (.iload_n 2, 1) := by decide +kernel
theorem dX5_cord_17 : decode cX5_cord 17 = .ok (.iconst 0, 1) := by decide +kernel
theorem dX5_cord_18 : decode cX5_cord 18 = .ok (.iconst 2, 1) := by decide +kernel
theorem dX5_cord_19 : decode cX5_cord 19 = .ok (.invokestatic 69, 3) := by decide +kernel
theorem dX5_cord_22 : decode cX5_cord 22 = .ok (.ifCond .ne 7, 3) := by decide +kernel
theorem dX5_cord_25 : decode cX5_cord 25 = .ok (.iconst 2, 1) := by decide +kernel
theorem dX5_cord_26 : decode cX5_cord 26 = .ok (.goto 4, 3) := by decide +kernel
theorem dX5_cord_29 : decode cX5_cord 29 = .ok (.iconst 0, 1) := by decide +kernel
theorem dX5_cord_30 : decode cX5_cord 30 = .ok (.invokevirtual 84, 3) := by decide +kernel
theorem dX5_cord_33 : decode cX5_cord 33 = .ok (.ifCond .ne 5, 3) := by decide +kernel
theorem dX5_cord_36 : decode cX5_cord 36 = .ok (.iconst 0, 1) := by decide +kernel
theorem dX5_cord_37 : decode cX5_cord 37 = .ok (.ireturn, 1) := by decide +kernel
theorem dX5_cord_38 : decode cX5_cord 38 = .ok (.aload_n 0, 1) := by decide +kernel
theorem dX5_cord_39 : decode cX5_cord 39 = .ok (.getfield 47, 3) := by decide +kernel
theorem dX5_cord_42 : decode cX5_cord 42 = .ok (.iload_n 3, 1) := by decide +kernel
theorem dX5_cord_43 : decode cX5_cord 43 = .ok (.iaload, 1) := by decide +kernel
theorem dX5_cord_44 : decode cX5_cord 44 = .ok (.istore 4, 2) := by decide +kernel
theorem dX5_cord_46 : decode cX5_cord 46 = .ok (.aload_n 0, 1) := by decide +kernel
theorem dX5_cord_47 : decode cX5_cord 47 = .ok (.getfield 47, 3) := by decide +kernel
theorem dX5_cord_50 : decode cX5_cord 50 = .ok (.iload_n 3, 1) := by decide +kernel
theorem dX5_cord_51 : decode cX5_cord 51 = .ok (.iload_n 2, 1) := by decide +kernel
theorem dX5_cord_52 : decode cX5_cord 52 = .ok (.iastore, 1) := by decide +kernel
theorem dX5_cord_53 : decode cX5_cord 53 = .ok (.iconst 0, 1) := by decide +kernel
theorem dX5_cord_54 : decode cX5_cord 54 = .ok (.istore 5, 2) := by decide +kernel
theorem dX5_cord_56 : decode cX5_cord 56 = .ok (.iconst 0, 1) := by decide +kernel
theorem dX5_cord_57 : decode cX5_cord 57 = .ok (.istore 6, 2) := by decide +kernel
theorem dX5_cord_59 : decode cX5_cord 59 = .ok (.iload 6, 2) := by decide +kernel
theorem dX5_cord_61 : decode cX5_cord 61 = .ok (.iconst 2, 1) := by decide +kernel
theorem dX5_cord_62 : decode cX5_cord 62 = .ok (.if_icmp .ge 64, 3) := by decide +kernel
theorem dX5_cord_65 : decode cX5_cord 65 = .ok (.iload 5, 2) := by decide +kernel
theorem dX5_cord_67 : decode cX5_cord 67 = .ok (.ifCond .ne 46, 3) := by decide +kernel
theorem dX5_cord_70 : decode cX5_cord 70 = .ok (.aload_n 0, 1) := by decide +kernel
theorem dX5_cord_71 : decode cX5_cord 71 = .ok (.aload_n 0, 1) := by decide +kernel
theorem dX5_cord_72 : decode cX5_cord 72 = .ok (.getfield 50, 3) := by decide +kernel
theorem dX5_cord_75 : decode cX5_cord 75 = .ok (.iload_n 3, 1) := by decide +kernel
theorem dX5_cord_76 : decode cX5_cord 76 = .ok (.iaload, 1) := by decide +kernel
theorem dX5_cord_77 : decode cX5_cord 77 = .ok (.iload 6, 2) := by decide +kernel
theorem dX5_cord_79 : decode cX5_cord 79 = .ok (.invokevirtual 94, 3) := by decide +kernel
theorem dX5_cord_82 : decode cX5_cord 82 = .ok (.aload_n 0, 1) := by decide +kernel
theorem dX5_cord_83 : decode cX5_cord 83 = .ok (.getfield 19, 3) := by decide +kernel
theorem dX5_cord_86 : decode cX5_cord 86 = .ok (.aload_n 0, 1) := by decide +kernel
theorem dX5_cord_87 : decode cX5_cord 87 = .ok (.getfield 50, 3) := by decide +kernel
theorem dX5_cord_90 : decode cX5_cord 90 = .ok (.iload_n 3, 1) := by decide +kernel
theorem dX5_cord_91 : decode cX5_cord 91 = .ok (.iaload, 1) := by decide +kernel
theorem dX5_cord_92 : decode cX5_cord 92 = .ok (.iaload, 1) := by decide +kernel
theorem dX5_cord_93 : decode cX5_cord 93 = .ok (.if_icmp .gt 20, 3) := by decide +kernel
theorem dX5_cord_96 : decode cX5_cord 96 = .ok (.aload_n 0, 1) := by decide +kernel
theorem dX5_cord_97 : decode cX5_cord 97 = .ok (.iconst (-1), 1) := by decide +kernel
theorem dX5_cord_98 : decode cX5_cord 98 = .ok (.iload 6, 2) := by decide +kernel
theorem dX5_cord_100 : decode cX5_cord 100 = .ok (.invokevirtual 94, 3) := by decide +kernel
theorem dX5_cord_103 : decode cX5_cord 103 = .ok (.aload_n 0, 1) := by decide +kernel
theorem dX5_cord_104 : decode cX5_cord 104 = .ok (.getfield 28, 3) := by decide +kernel
theorem dX5_cord_107 : decode cX5_cord 107 = .ok (.iload 6, 2) := by decide +kernel
theorem dX5_cord_109 : decode cX5_cord 109 = .ok (.iaload, 1) := by decide +kernel
theorem dX5_cord_110 : decode cX5_cord 110 = .ok (.if_icmp .le 7, 3) := by decide +kernel
theorem dX5_cord_113 : decode cX5_cord 113 = .ok (.iconst 1, 1) := by decide +kernel
theorem dX5_cord_114 : decode cX5_cord 114 = .ok (.goto 4, 3) := by decide +kernel
theorem dX5_cord_117 : decode cX5_cord 117 = .ok (.iconst 0, 1) := by decide +kernel
theorem dX5_cord_118 : decode cX5_cord 118 = .ok (.istore 5, 2) := by decide +kernel
theorem dX5_cord_120 : decode cX5_cord 120 = .ok (.iinc 6 1, 3) := by decide +kernel
theorem dX5_cord_123 : decode cX5_cord 123 = .ok (.goto (-64), 3) := by decide +kernel
theorem dX5_cord_126 : decode cX5_cord 126 = .ok (.aload_n 0, 1) := by decide +kernel
theorem dX5_cord_127 : decode cX5_cord 127 = .ok (.iload 5, 2) := by decide +kernel
theorem dX5_cord_129 : decode cX5_cord 129 = .ok (.ifCond .eq 7, 3) := by decide +kernel
theorem dX5_cord_132 : decode cX5_cord 132 = .ok (.iconst 3, 1) := by decide +kernel
theorem dX5_cord_133 : decode cX5_cord 133 = .ok (.goto 4, 3) := by decide +kernel
theorem dX5_cord_136 : decode cX5_cord 136 = .ok (.iconst 0, 1) := by decide +kernel
theorem dX5_cord_137 : decode cX5_cord 137 = .ok (.invokevirtual 84, 3) := by decide +kernel
theorem dX5_cord_140 : decode cX5_cord 140 = .ok (.ifCond .ne 13, 3) := by decide +kernel
theorem dX5_cord_143 : decode cX5_cord 143 = .ok (.aload_n 0, 1) := by decide +kernel
theorem dX5_cord_144 : decode cX5_cord 144 = .ok (.getfield 47, 3) := by decide +kernel
theorem dX5_cord_147 : decode cX5_cord 147 = .ok (.iload_n 3, 1) := by decide +kernel
theorem dX5_cord_148 : decode cX5_cord 148 = .ok (.iload 4, 2) := by decide +kernel
theorem dX5_cord_150 : decode cX5_cord 150 = .ok (.iastore, 1) := by decide +kernel
theorem dX5_cord_151 : decode cX5_cord 151 = .ok (.iconst 0, 1) := by decide +kernel
theorem dX5_cord_152 : decode cX5_cord 152 = .ok (.ireturn, 1) := by decide +kernel
theorem dX5_cord_153 : decode cX5_cord 153 = .ok (.iload 4, 2) := by decide +kernel
theorem dX5_cord_155 : decode cX5_cord 155 = .ok (.ireturn, 1) := by decide +kernel
theorem dX5_isAhead_0 : decode cX5_isAhead 0 = .ok (.aload_n 0, 1) := by decide +kernel
theorem dX5_isAhead_1 : decode cX5_isAhead 1 = .ok (.getfield 38, 3) := by decide +kernel
theorem dX5_isAhead_4 : decode cX5_isAhead 4 = .ok (.iload_n 1, 1) := by decide +kernel
theorem dX5_isAhead_5 : decode cX5_isAhead 5 = .ok (.iaload, 1) := by decide +kernel
theorem dX5_isAhead_6 : decode cX5_isAhead 6 = .ok (.aload_n 0, 1) := by decide +kernel
theorem dX5_isAhead_7 : decode cX5_isAhead 7 = .ok (.getfield 38, 3) := by decide +kernel
theorem dX5_isAhead_10 : decode cX5_isAhead 10 = .ok (.iload_n 2, 1) := by decide +kernel
theorem dX5_isAhead_11 : decode cX5_isAhead 11 = .ok (.iaload, 1) := by decide +kernel
theorem dX5_isAhead_12 : decode cX5_isAhead 12 = .ok (.if_icmp .gt 63, 3) := by decide +kernel
theorem dX5_isAhead_15 : decode cX5_isAhead 15 = .ok (.aload_n 0, 1) := by decide +kernel
theorem dX5_isAhead_16 : decode cX5_isAhead 16 = .ok (.getfield 38, 3) := by decide +kernel
theorem dX5_isAhead_19 : decode cX5_isAhead 19 = .ok (.iload_n 1, 1) := by decide +kernel
theorem dX5_isAhead_20 : decode cX5_isAhead 20 = .ok (.iaload, 1) := by decide +kernel
theorem dX5_isAhead_21 : decode cX5_isAhead 21 = .ok (.aload_n 0, 1) := by decide +kernel
theorem dX5_isAhead_22 : decode cX5_isAhead 22 = .ok (.getfield 38, 3) := by decide +kernel
theorem dX5_isAhead_25 : decode cX5_isAhead 25 = .ok (.iload_n 2, 1) := by decide +kernel
theorem dX5_isAhead_26 : decode cX5_isAhead 26 = .ok (.iaload, 1) := by decide +kernel
theorem dX5_isAhead_27 : decode cX5_isAhead 27 = .ok (.if_icmp .ne 52, 3) := by decide +kernel
theorem dX5_isAhead_30 : decode cX5_isAhead 30 = .ok (.aload_n 0, 1) := by decide +kernel
theorem dX5_isAhead_31 : decode cX5_isAhead 31 = .ok (.getfield 41, 3) := by decide +kernel
theorem dX5_isAhead_34 : decode cX5_isAhead 34 = .ok (.iload_n 1, 1) := by decide +kernel
theorem dX5_isAhead_35 : decode cX5_isAhead 35 = .ok (.iaload, 1) := by decide +kernel
theorem dX5_isAhead_36 : decode cX5_isAhead 36 = .ok (.aload_n 0, 1) := by decide +kernel
theorem dX5_isAhead_37 : decode cX5_isAhead 37 = .ok (.getfield 41, 3) := by decide +kernel
theorem dX5_isAhead_40 : decode cX5_isAhead 40 = .ok (.iload_n 2, 1) := by decide +kernel
theorem dX5_isAhead_41 : decode cX5_isAhead 41 = .ok (.iaload, 1) := by decide +kernel
theorem dX5_isAhead_42 : decode cX5_isAhead 42 = .ok (.if_icmp .gt 33, 3) := by decide +kernel
theorem dX5_isAhead_45 : decode cX5_isAhead 45 = .ok (.aload_n 0, 1) := by decide +kernel
theorem dX5_isAhead_46 : decode cX5_isAhead 46 = .ok (.getfield 41, 3) := by decide +kernel
theorem dX5_isAhead_49 : decode cX5_isAhead 49 = .ok (.iload_n 1, 1) := by decide +kernel
theorem dX5_isAhead_50 : decode cX5_isAhead 50 = .ok (.iaload, 1) := by decide +kernel
theorem dX5_isAhead_51 : decode cX5_isAhead 51 = .ok (.aload_n 0, 1) := by decide +kernel
theorem dX5_isAhead_52 : decode cX5_isAhead 52 = .ok (.getfield 41, 3) := by decide +kernel
theorem dX5_isAhead_55 : decode cX5_isAhead 55 = .ok (.iload_n 2, 1) := by decide +kernel
theorem dX5_isAhead_56 : decode cX5_isAhead 56 = .ok (.iaload, 1) := by decide +kernel
theorem dX5_isAhead_57 : decode cX5_isAhead 57 = .ok (.if_icmp .ne 22, 3) := by decide +kernel
theorem dX5_isAhead_60 : decode cX5_isAhead 60 = .ok (.aload_n 0, 1) := by decide +kernel
theorem dX5_isAhead_61 : decode cX5_isAhead 61 = .ok (.getfield 35, 3) := by decide +kernel
theorem dX5_isAhead_64 : decode cX5_isAhead 64 = .ok (.iload_n 1, 1) := by decide +kernel
theorem dX5_isAhead_65 : decode cX5_isAhead 65 = .ok (.iaload, 1) := by decide +kernel
theorem dX5_isAhead_66 : decode cX5_isAhead 66 = .ok (.aload_n 0, 1) := by decide +kernel
theorem dX5_isAhead_67 : decode cX5_isAhead 67 = .ok (.getfield 35, 3) := by decide +kernel
theorem dX5_isAhead_70 : decode cX5_isAhead 70 = .ok (.iload_n 2, 1) := by decide +kernel
theorem dX5_isAhead_71 : decode cX5_isAhead 71 = .ok (.iaload, 1) := by decide +kernel
theorem dX5_isAhead_72 : decode cX5_isAhead 72 = .ok (.if_icmp .ge 7, 3) := by decide +kernel
theorem dX5_isAhead_75 : decode cX5_isAhead 75 = .ok (.iconst 1, 1) := by decide +kernel
theorem dX5_isAhead_76 : decode cX5_isAhead 76 = .ok (.goto 4, 3) := by decide +kernel
theorem dX5_isAhead_79 : decode cX5_isAhead 79 = .ok (.iconst 0, 1) := by decide +kernel
theorem dX5_isAhead_80 : decode cX5_isAhead 80 = .ok (.ireturn, 1) := by decide +kernel
theorem dX5_nextToPack_0 : decode cX5_nextToPack 0 = .ok (.iconst (-1), 1) := by decide +kernel
theorem dX5_nextToPack_1 : decode cX5_nextToPack 1 = .ok (.istore_n 1, 1) := by decide +kernel
theorem dX5_nextToPack_2 : decode cX5_nextToPack 2 = .ok (.iconst 0, 1) := by decide +kernel
theorem dX5_nextToPack_3 : decode cX5_nextToPack 3 = .ok (.istore_n 2, 1) := by decide +kernel
theorem dX5_nextToPack_4 : decode cX5_nextToPack 4 = .ok (.iload_n 2, 1) := by decide +kernel
theorem dX5_nextToPack_5 : decode cX5_nextToPack 5 = .ok (.aload_n 0, 1) := by decide +kernel
theorem dX5_nextToPack_6 : decode cX5_nextToPack 6 = .ok (.getfield 73, 3) := by decide +kernel
theorem dX5_nextToPack_9 : decode cX5_nextToPack 9 = .ok (.if_icmp .ge 39, 3) := by decide +kernel
theorem dX5_nextToPack_12 : decode cX5_nextToPack 12 = .ok (.aload_n 0, 1) := by decide +kernel
theorem dX5_nextToPack_13 : decode cX5_nextToPack 13 = .ok (.getfield 50, 3) := by decide +kernel
theorem dX5_nextToPack_16 : decode cX5_nextToPack 16 = .ok (.iload_n 2, 1) := by decide +kernel
theorem dX5_nextToPack_17 : decode cX5_nextToPack 17 = .ok (.iaload, 1) := by decide +kernel
theorem dX5_nextToPack_18 : decode cX5_nextToPack 18 = .ok (.iconst (-1), 1) := by decide +kernel
theorem dX5_nextToPack_19 : decode cX5_nextToPack 19 = .ok (.if_icmp .ne 21, 3) := by decide +kernel
theorem dX5_nextToPack_22 : decode cX5_nextToPack 22 = .ok (.iload_n 1, 1) := by decide +kernel
theorem dX5_nextToPack_23 : decode cX5_nextToPack 23 = .ok (.iconst (-1), 1) := by decide +kernel
theorem dX5_nextToPack_24 : decode cX5_nextToPack 24 = .ok (.if_icmp .eq 12, 3) := by decide +kernel
theorem dX5_nextToPack_27 : decode cX5_nextToPack 27 = .ok (.aload_n 0, 1) := by decide +kernel
theorem dX5_nextToPack_28 : decode cX5_nextToPack 28 = .ok (.iload_n 2, 1) := by decide +kernel
theorem dX5_nextToPack_29 : decode cX5_nextToPack 29 = .ok (.iload_n 1, 1) := by decide +kernel
theorem dX5_nextToPack_30 : decode cX5_nextToPack 30 = .ok (.invokevirtual 127, 3) := by decide +kernel
theorem dX5_nextToPack_33 : decode cX5_nextToPack 33 = .ok (.ifCond .eq 7, 3) := by decide +kernel
theorem dX5_nextToPack_36 : decode cX5_nextToPack 36 = .ok (.iload_n 2, 1) := by decide +kernel
theorem dX5_nextToPack_37 : decode cX5_nextToPack 37 = .ok (.goto 4, 3) := by decide +kernel
theorem dX5_nextToPack_40 : decode cX5_nextToPack 40 = .ok (.iload_n 1, 1) := by decide +kernel
theorem dX5_nextToPack_41 : decode cX5_nextToPack 41 = .ok (.istore_n 1, 1) := by decide +kernel
theorem dX5_nextToPack_42 : decode cX5_nextToPack 42 = .ok (.iinc 2 1, 3) := by decide +kernel
theorem dX5_nextToPack_45 : decode cX5_nextToPack 45 = .ok (.goto (-41), 3) := by decide +kernel
theorem dX5_nextToPack_48 : decode cX5_nextToPack 48 = .ok (.iload_n 1, 1) := by decide +kernel
theorem dX5_nextToPack_49 : decode cX5_nextToPack 49 = .ok (.ireturn, 1) := by decide +kernel
theorem dX5_pack_0 : decode cX5_pack 0 = .ok (.aload_n 0, 1) := by decide +kernel
theorem dX5_pack_1 : decode cX5_pack 1 = .ok (.iconst 0, 1) := by decide +kernel
theorem dX5_pack_2 : decode cX5_pack 2 = .ok (.putfield 62, 3) := by decide +kernel
theorem dX5_pack_5 : decode cX5_pack 5 = .ok (.iconst 0, 1) := by decide +kernel
theorem dX5_pack_6 : decode cX5_pack 6 = .ok (.istore_n 1, 1) := by decide +kernel
theorem dX5_pack_7 : decode cX5_pack 7 = .ok (.iload_n 1, 1) := by decide +kernel
theorem dX5_pack_8 : decode cX5_pack 8 = .ok (.aload_n 0, 1) := by decide +kernel
theorem dX5_pack_9 : decode cX5_pack 9 = .ok (.getfield 73, 3) := by decide +kernel
theorem dX5_pack_12 : decode cX5_pack 12 = .ok (.if_icmp .ge 40, 3) := by decide +kernel
theorem dX5_pack_15 : decode cX5_pack 15 = .ok (.aload_n 0, 1) := by decide +kernel
theorem dX5_pack_16 : decode cX5_pack 16 = .ok (.getfield 56, 3) := by decide +kernel
theorem dX5_pack_19 : decode cX5_pack 19 = .ok (.iload_n 1, 1) := by decide +kernel
theorem dX5_pack_20 : decode cX5_pack 20 = .ok (.aload_n 0, 1) := by decide +kernel
theorem dX5_pack_21 : decode cX5_pack 21 = .ok (.getfield 50, 3) := by decide +kernel
theorem dX5_pack_24 : decode cX5_pack 24 = .ok (.iload_n 1, 1) := by decide +kernel
theorem dX5_pack_25 : decode cX5_pack 25 = .ok (.iaload, 1) := by decide +kernel
theorem dX5_pack_26 : decode cX5_pack 26 = .ok (.iastore, 1) := by decide +kernel
theorem dX5_pack_27 : decode cX5_pack 27 = .ok (.aload_n 0, 1) := by decide +kernel
theorem dX5_pack_28 : decode cX5_pack 28 = .ok (.getfield 59, 3) := by decide +kernel
theorem dX5_pack_31 : decode cX5_pack 31 = .ok (.iload_n 1, 1) := by decide +kernel
theorem dX5_pack_32 : decode cX5_pack 32 = .ok (.aload_n 0, 1) := by decide +kernel
theorem dX5_pack_33 : decode cX5_pack 33 = .ok (.getfield 53, 3) := by decide +kernel
theorem dX5_pack_36 : decode cX5_pack 36 = .ok (.iload_n 1, 1) := by decide +kernel
theorem dX5_pack_37 : decode cX5_pack 37 = .ok (.iaload, 1) := by decide +kernel
theorem dX5_pack_38 : decode cX5_pack 38 = .ok (.iastore, 1) := by decide +kernel
theorem dX5_pack_39 : decode cX5_pack 39 = .ok (.aload_n 0, 1) := by decide +kernel
theorem dX5_pack_40 : decode cX5_pack 40 = .ok (.getfield 50, 3) := by decide +kernel
theorem dX5_pack_43 : decode cX5_pack 43 = .ok (.iload_n 1, 1) := by decide +kernel
theorem dX5_pack_44 : decode cX5_pack 44 = .ok (.iconst (-1), 1) := by decide +kernel
theorem dX5_pack_45 : decode cX5_pack 45 = .ok (.iastore, 1) := by decide +kernel
theorem dX5_pack_46 : decode cX5_pack 46 = .ok (.iinc 1 1, 3) := by decide +kernel
theorem dX5_pack_49 : decode cX5_pack 49 = .ok (.goto (-42), 3) := by decide +kernel
theorem dX5_pack_52 : decode cX5_pack 52 = .ok (.aload_n 0, 1) := by decide +kernel
theorem dX5_pack_53 : decode cX5_pack 53 = .ok (.invokevirtual 130, 3) := by decide +kernel
theorem dX5_pack_56 : decode cX5_pack 56 = .ok (.istore_n 1, 1) := by decide +kernel
theorem dX5_pack_57 : decode cX5_pack 57 = .ok (.iload_n 1, 1) := by decide +kernel
theorem dX5_pack_58 : decode cX5_pack 58 = .ok (.iconst (-1), 1) := by decide +kernel
theorem dX5_pack_59 : decode cX5_pack 59 = .ok (.if_icmp .eq 20, 3) := by decide +kernel
theorem dX5_pack_62 : decode cX5_pack 62 = .ok (.aload_n 0, 1) := by decide +kernel
theorem dX5_pack_63 : decode cX5_pack 63 = .ok (.iload_n 1, 1) := by decide +kernel
theorem dX5_pack_64 : decode cX5_pack 64 = .ok (.invokevirtual 121, 3) := by decide +kernel
theorem dX5_pack_67 : decode cX5_pack 67 = .ok (.iconst (-1), 1) := by decide +kernel
theorem dX5_pack_68 : decode cX5_pack 68 = .ok (.if_icmp .eq 11, 3) := by decide +kernel
theorem dX5_pack_71 : decode cX5_pack 71 = .ok (.aload_n 0, 1) := by decide +kernel
theorem dX5_pack_72 : decode cX5_pack 72 = .ok (.invokevirtual 130, 3) := by decide +kernel
theorem dX5_pack_75 : decode cX5_pack 75 = .ok (.istore_n 1, 1) := by decide +kernel
theorem dX5_pack_76 : decode cX5_pack 76 = .ok (.goto (-19), 3) := by decide +kernel
theorem dX5_pack_79 : decode cX5_pack 79 = .ok (.iconst 0, 1) := by decide +kernel
theorem dX5_pack_80 : decode cX5_pack 80 = .ok (.istore_n 2, 1) := by decide +kernel
theorem dX5_pack_81 : decode cX5_pack 81 = .ok (.iconst 0, 1) := by decide +kernel
theorem dX5_pack_82 : decode cX5_pack 82 = .ok (.istore_n 3, 1) := by decide +kernel
theorem dX5_pack_83 : decode cX5_pack 83 = .ok (.iload_n 3, 1) := by decide +kernel
theorem dX5_pack_84 : decode cX5_pack 84 = .ok (.aload_n 0, 1) := by decide +kernel
theorem dX5_pack_85 : decode cX5_pack 85 = .ok (.getfield 73, 3) := by decide +kernel
theorem dX5_pack_88 : decode cX5_pack 88 = .ok (.if_icmp .ge 99, 3) := by decide +kernel
theorem dX5_pack_91 : decode cX5_pack 91 = .ok (.iload_n 2, 1) := by decide +kernel
theorem dX5_pack_92 : decode cX5_pack 92 = .ok (.aload_n 0, 1) := by decide +kernel
theorem dX5_pack_93 : decode cX5_pack 93 = .ok (.getfield 50, 3) := by decide +kernel
theorem dX5_pack_96 : decode cX5_pack 96 = .ok (.iload_n 3, 1) := by decide +kernel
theorem dX5_pack_97 : decode cX5_pack 97 = .ok (.iaload, 1) := by decide +kernel
theorem dX5_pack_98 : decode cX5_pack 98 = .ok (.aload_n 0, 1) := by decide +kernel
theorem dX5_pack_99 : decode cX5_pack 99 = .ok (.getfield 56, 3) := by decide +kernel
theorem dX5_pack_102 : decode cX5_pack 102 = .ok (.iload_n 3, 1) := by decide +kernel
theorem dX5_pack_103 : decode cX5_pack 103 = .ok (.iaload, 1) := by decide +kernel
theorem dX5_pack_104 : decode cX5_pack 104 = .ok (.if_icmp .ne 18, 3) := by decide +kernel
theorem dX5_pack_107 : decode cX5_pack 107 = .ok (.aload_n 0, 1) := by decide +kernel
theorem dX5_pack_108 : decode cX5_pack 108 = .ok (.getfield 53, 3) := by decide +kernel
theorem dX5_pack_111 : decode cX5_pack 111 = .ok (.iload_n 3, 1) := by decide +kernel
theorem dX5_pack_112 : decode cX5_pack 112 = .ok (.iaload, 1) := by decide +kernel
theorem dX5_pack_113 : decode cX5_pack 113 = .ok (.aload_n 0, 1) := by decide +kernel
theorem dX5_pack_114 : decode cX5_pack 114 = .ok (.getfield 59, 3) := by decide +kernel
theorem dX5_pack_117 : decode cX5_pack 117 = .ok (.iload_n 3, 1) := by decide +kernel
theorem dX5_pack_118 : decode cX5_pack 118 = .ok (.iaload, 1) := by decide +kernel
theorem dX5_pack_119 : decode cX5_pack 119 = .ok (.if_icmp .eq 7, 3) := by decide +kernel
theorem dX5_pack_122 : decode cX5_pack 122 = .ok (.iconst 1, 1) := by decide +kernel
theorem dX5_pack_123 : decode cX5_pack 123 = .ok (.goto 4, 3) := by decide +kernel
theorem dX5_pack_126 : decode cX5_pack 126 = .ok (.iconst 0, 1) := by decide +kernel
theorem dX5_pack_127 : decode cX5_pack 127 = .ok (.iadd, 1) := by decide +kernel
theorem dX5_pack_128 : decode cX5_pack 128 = .ok (.istore_n 2, 1) := by decide +kernel
theorem dX5_pack_129 : decode cX5_pack 129 = .ok (.aload_n 0, 1) := by decide +kernel
theorem dX5_pack_130 : decode cX5_pack 130 = .ok (.getfield 50, 3) := by decide +kernel
theorem dX5_pack_133 : decode cX5_pack 133 = .ok (.iload_n 3, 1) := by decide +kernel
theorem dX5_pack_134 : decode cX5_pack 134 = .ok (.iload_n 1, 1) := by decide +kernel
theorem dX5_pack_135 : decode cX5_pack 135 = .ok (.iconst (-1), 1) := by decide +kernel
theorem dX5_pack_136 : decode cX5_pack 136 = .ok (.if_icmp .ne 12, 3) := by decide +kernel
theorem dX5_pack_139 : decode cX5_pack 139 = .ok (.aload_n 0, 1) := by decide +kernel
theorem dX5_pack_140 : decode cX5_pack 140 = .ok (.getfield 50, 3) := by decide +kernel
theorem dX5_pack_143 : decode cX5_pack 143 = .ok (.iload_n 3, 1) := by decide +kernel
theorem dX5_pack_144 : decode cX5_pack 144 = .ok (.iaload, 1) := by decide +kernel
theorem dX5_pack_145 : decode cX5_pack 145 = .ok (.goto 9, 3) := by decide +kernel
theorem dX5_pack_148 : decode cX5_pack 148 = .ok (.aload_n 0, 1) := by decide +kernel
theorem dX5_pack_149 : decode cX5_pack 149 = .ok (.getfield 56, 3) := by decide +kernel
theorem dX5_pack_152 : decode cX5_pack 152 = .ok (.iload_n 3, 1) := by decide +kernel
theorem dX5_pack_153 : decode cX5_pack 153 = .ok (.iaload, 1) := by decide +kernel
theorem dX5_pack_154 : decode cX5_pack 154 = .ok (.iastore, 1) := by decide +kernel
theorem dX5_pack_155 : decode cX5_pack 155 = .ok (.aload_n 0, 1) := by decide +kernel
theorem dX5_pack_156 : decode cX5_pack 156 = .ok (.getfield 53, 3) := by decide +kernel
theorem dX5_pack_159 : decode cX5_pack 159 = .ok (.iload_n 3, 1) := by decide +kernel
theorem dX5_pack_160 : decode cX5_pack 160 = .ok (.iload_n 1, 1) := by decide +kernel
theorem dX5_pack_161 : decode cX5_pack 161 = .ok (.iconst (-1), 1) := by decide +kernel
theorem dX5_pack_162 : decode cX5_pack 162 = .ok (.if_icmp .ne 12, 3) := by decide +kernel
theorem dX5_pack_165 : decode cX5_pack 165 = .ok (.aload_n 0, 1) := by decide +kernel
theorem dX5_pack_166 : decode cX5_pack 166 = .ok (.getfield 53, 3) := by decide +kernel
theorem dX5_pack_169 : decode cX5_pack 169 = .ok (.iload_n 3, 1) := by decide +kernel
theorem dX5_pack_170 : decode cX5_pack 170 = .ok (.iaload, 1) := by decide +kernel
theorem dX5_pack_171 : decode cX5_pack 171 = .ok (.goto 9, 3) := by decide +kernel
theorem dX5_pack_174 : decode cX5_pack 174 = .ok (.aload_n 0, 1) := by decide +kernel
theorem dX5_pack_175 : decode cX5_pack 175 = .ok (.getfield 59, 3) := by decide +kernel
theorem dX5_pack_178 : decode cX5_pack 178 = .ok (.iload_n 3, 1) := by decide +kernel
theorem dX5_pack_179 : decode cX5_pack 179 = .ok (.iaload, 1) := by decide +kernel
theorem dX5_pack_180 : decode cX5_pack 180 = .ok (.iastore, 1) := by decide +kernel
theorem dX5_pack_181 : decode cX5_pack 181 = .ok (.iinc 3 1, 3) := by decide +kernel
theorem dX5_pack_184 : decode cX5_pack 184 = .ok (.goto (-101), 3) := by decide +kernel
theorem dX5_pack_187 : decode cX5_pack 187 = .ok (.iload_n 1, 1) := by decide +kernel
theorem dX5_pack_188 : decode cX5_pack 188 = .ok (.iconst (-1), 1) := by decide +kernel
theorem dX5_pack_189 : decode cX5_pack 189 = .ok (.if_icmp .ne 7, 3) := by decide +kernel
theorem dX5_pack_192 : decode cX5_pack 192 = .ok (.iload_n 2, 1) := by decide +kernel
theorem dX5_pack_193 : decode cX5_pack 193 = .ok (.goto 4, 3) := by decide +kernel
theorem dX5_pack_196 : decode cX5_pack 196 = .ok (.iconst (-1), 1) := by decide +kernel
theorem dX5_pack_197 : decode cX5_pack 197 = .ok (.ireturn, 1) := by decide +kernel
theorem dX5_machines_0 : decode cX5_machines 0 = .ok (.aload_n 0, 1) := by decide +kernel
theorem dX5_machines_1 : decode cX5_machines 1 = .ok (.iconst 0, 1) := by decide +kernel
theorem dX5_machines_2 : decode cX5_machines 2 = .ok (.putfield 62, 3) := by decide +kernel
theorem dX5_machines_5 : decode cX5_machines 5 = .ok (.aload_n 0, 1) := by decide +kernel
theorem dX5_machines_6 : decode cX5_machines 6 = .ok (.getfield 73, 3) := by decide +kernel
theorem dX5_machines_9 : decode cX5_machines 9 = .ok (.ireturn, 1) := by decide +kernel
theorem dX5_rackOf_0 : decode cX5_rackOf 0 = .ok (.aload_n 0, 1) := by decide +kernel
theorem dX5_rackOf_1 : decode cX5_rackOf 1 = .ok (.iload_n 1, 1) := by decide +kernel
theorem dX5_rackOf_2 : decode cX5_rackOf 2 = .ok (.invokevirtual 124, 3) := by decide +kernel
theorem dX5_rackOf_5 : decode cX5_rackOf 5 = .ok (.istore_n 2, 1) := by decide +kernel
theorem dX5_rackOf_6 : decode cX5_rackOf 6 = .ok (.aload_n 0, 1) := by decide +kernel
theorem dX5_rackOf_7 : decode cX5_rackOf 7 = .ok (.iload_n 2, 1) := by decide +kernel
theorem dX5_rackOf_8 : decode cX5_rackOf 8 = .ok (.iconst (-1), 1) := by decide +kernel
theorem dX5_rackOf_9 : decode cX5_rackOf 9 = .ok (.if_icmp .ne 7, 3) := by decide +kernel
theorem dX5_rackOf_12 : decode cX5_rackOf 12 = .ok (.iconst 1, 1) := by decide +kernel
theorem dX5_rackOf_13 : decode cX5_rackOf 13 = .ok (.goto 4, 3) := by decide +kernel
theorem dX5_rackOf_16 : decode cX5_rackOf 16 = .ok (.iconst 0, 1) := by decide +kernel
theorem dX5_rackOf_17 : decode cX5_rackOf 17 = .ok (.invokevirtual 84, 3) := by decide +kernel
theorem dX5_rackOf_20 : decode cX5_rackOf 20 = .ok (.ifCond .eq 12, 3) := by decide +kernel
theorem dX5_rackOf_23 : decode cX5_rackOf 23 = .ok (.aload_n 0, 1) := by decide +kernel
theorem dX5_rackOf_24 : decode cX5_rackOf 24 = .ok (.getfield 50, 3) := by decide +kernel
theorem dX5_rackOf_27 : decode cX5_rackOf 27 = .ok (.iload_n 2, 1) := by decide +kernel
theorem dX5_rackOf_28 : decode cX5_rackOf 28 = .ok (.iaload, 1) := by decide +kernel
theorem dX5_rackOf_29 : decode cX5_rackOf 29 = .ok (.goto 4, 3) := by decide +kernel
theorem dX5_rackOf_32 : decode cX5_rackOf 32 = .ok (.iconst 0, 1) := by decide +kernel
theorem dX5_rackOf_33 : decode cX5_rackOf 33 = .ok (.ireturn, 1) := by decide +kernel
theorem dX5_slotOf_0 : decode cX5_slotOf 0 = .ok (.aload_n 0, 1) := by decide +kernel
theorem dX5_slotOf_1 : decode cX5_slotOf 1 = .ok (.iload_n 1, 1) := by decide +kernel
theorem dX5_slotOf_2 : decode cX5_slotOf 2 = .ok (.invokevirtual 124, 3) := by decide +kernel
theorem dX5_slotOf_5 : decode cX5_slotOf 5 = .ok (.istore_n 2, 1) := by decide +kernel
theorem dX5_slotOf_6 : decode cX5_slotOf 6 = .ok (.aload_n 0, 1) := by decide +kernel
theorem dX5_slotOf_7 : decode cX5_slotOf 7 = .ok (.iload_n 2, 1) := by decide +kernel
theorem dX5_slotOf_8 : decode cX5_slotOf 8 = .ok (.iconst (-1), 1) := by decide +kernel
theorem dX5_slotOf_9 : decode cX5_slotOf 9 = .ok (.if_icmp .ne 7, 3) := by decide +kernel
theorem dX5_slotOf_12 : decode cX5_slotOf 12 = .ok (.iconst 1, 1) := by decide +kernel
theorem dX5_slotOf_13 : decode cX5_slotOf 13 = .ok (.goto 4, 3) := by decide +kernel
theorem dX5_slotOf_16 : decode cX5_slotOf 16 = .ok (.iconst 0, 1) := by decide +kernel
theorem dX5_slotOf_17 : decode cX5_slotOf 17 = .ok (.invokevirtual 84, 3) := by decide +kernel
theorem dX5_slotOf_20 : decode cX5_slotOf 20 = .ok (.ifCond .eq 12, 3) := by decide +kernel
theorem dX5_slotOf_23 : decode cX5_slotOf 23 = .ok (.aload_n 0, 1) := by decide +kernel
theorem dX5_slotOf_24 : decode cX5_slotOf 24 = .ok (.getfield 53, 3) := by decide +kernel
theorem dX5_slotOf_27 : decode cX5_slotOf 27 = .ok (.iload_n 2, 1) := by decide +kernel
theorem dX5_slotOf_28 : decode cX5_slotOf 28 = .ok (.iaload, 1) := by decide +kernel
theorem dX5_slotOf_29 : decode cX5_slotOf 29 = .ok (.goto 4, 3) := by decide +kernel
theorem dX5_slotOf_32 : decode cX5_slotOf 32 = .ok (.iconst 0, 1) := by decide +kernel
theorem dX5_slotOf_33 : decode cX5_slotOf 33 = .ok (.ireturn, 1) := by decide +kernel
theorem dX5_isDark_0 : decode cX5_isDark 0 = .ok (.aload_n 0, 1) := by decide +kernel
theorem dX5_isDark_1 : decode cX5_isDark 1 = .ok (.iload_n 1, 1) := by decide +kernel
theorem dX5_isDark_2 : decode cX5_isDark 2 = .ok (.invokevirtual 124, 3) := by decide +kernel
theorem dX5_isDark_5 : decode cX5_isDark 5 = .ok (.istore_n 2, 1) := by decide +kernel
theorem dX5_isDark_6 : decode cX5_isDark 6 = .ok (.aload_n 0, 1) := by decide +kernel
theorem dX5_isDark_7 : decode cX5_isDark 7 = .ok (.iload_n 2, 1) := by decide +kernel
theorem dX5_isDark_8 : decode cX5_isDark 8 = .ok (.iconst (-1), 1) := by decide +kernel
theorem dX5_isDark_9 : decode cX5_isDark 9 = .ok (.if_icmp .ne 7, 3) := by decide +kernel
theorem dX5_isDark_12 : decode cX5_isDark 12 = .ok (.iconst 1, 1) := by decide +kernel
theorem dX5_isDark_13 : decode cX5_isDark 13 = .ok (.goto 4, 3) := by decide +kernel
theorem dX5_isDark_16 : decode cX5_isDark 16 = .ok (.iconst 0, 1) := by decide +kernel
theorem dX5_isDark_17 : decode cX5_isDark 17 = .ok (.invokevirtual 84, 3) := by decide +kernel
theorem dX5_isDark_20 : decode cX5_isDark 20 = .ok (.ifCond .eq 15, 3) := by decide +kernel
theorem dX5_isDark_23 : decode cX5_isDark 23 = .ok (.aload_n 0, 1) := by decide +kernel
theorem dX5_isDark_24 : decode cX5_isDark 24 = .ok (.iload_n 2, 1) := by decide +kernel
theorem dX5_isDark_25 : decode cX5_isDark 25 = .ok (.invokevirtual 98, 3) := by decide +kernel
theorem dX5_isDark_28 : decode cX5_isDark 28 = .ok (.ifCond .eq 7, 3) := by decide +kernel
theorem dX5_isDark_31 : decode cX5_isDark 31 = .ok (.iconst 1, 1) := by decide +kernel
theorem dX5_isDark_32 : decode cX5_isDark 32 = .ok (.goto 4, 3) := by decide +kernel
theorem dX5_isDark_35 : decode cX5_isDark 35 = .ok (.iconst 0, 1) := by decide +kernel
theorem dX5_isDark_36 : decode cX5_isDark 36 = .ok (.ireturn, 1) := by decide +kernel
theorem dX5_machineAt_0 : decode cX5_machineAt 0 = .ok (.aload_n 0, 1) := by decide +kernel
theorem dX5_machineAt_1 : decode cX5_machineAt 1 = .ok (.iload_n 1, 1) := by decide +kernel
theorem dX5_machineAt_2 : decode cX5_machineAt 2 = .ok (.invokevirtual 134, 3) := by decide +kernel
theorem dX5_machineAt_5 : decode cX5_machineAt 5 = .ok (.ifCond .eq 23, 3) := by decide +kernel
theorem dX5_machineAt_8 : decode cX5_machineAt 8 = .ok (.iload_n 2, 1) := by decide +kernel
theorem dX5_machineAt_9 : decode cX5_machineAt 9 = .ok (.iconst 0, 1) := by decide +kernel
theorem dX5_machineAt_10 : decode cX5_machineAt 10 = .ok (.aload_n 0, 1) := by decide +kernel
theorem dX5_machineAt_11 : decode cX5_machineAt 11 = .ok (.getfield 13, 3) := by decide +kernel
theorem dX5_machineAt_14 : decode cX5_machineAt 14 = .ok (.iload_n 1, 1) := by decide +kernel
theorem dX5_machineAt_15 : decode cX5_machineAt 15 = .ok (.iaload, 1) := by decide +kernel
theorem dX5_machineAt_16 : decode cX5_machineAt 16 = .ok (.iconst 1, 1) := by decide +kernel
theorem dX5_machineAt_17 : decode cX5_machineAt 17 = .ok (.isub, 1) := by decide +kernel
theorem dX5_machineAt_18 : decode cX5_machineAt 18 = .ok (.invokestatic 69, 3) := by decide +kernel
theorem dX5_machineAt_21 : decode cX5_machineAt 21 = .ok (.ifCond .eq 7, 3) := by decide +kernel
theorem dX5_machineAt_24 : decode cX5_machineAt 24 = .ok (.iconst 1, 1) := by decide +kernel
theorem dX5_machineAt_25 : decode cX5_machineAt 25 = .ok (.goto 4, 3) := by decide +kernel
theorem dX5_machineAt_28 : decode cX5_machineAt 28 = .ok (.iconst 0, 1) := by decide +kernel
theorem dX5_machineAt_29 : decode cX5_machineAt 29 = .ok (.istore_n 3, 1) := by decide +kernel
theorem dX5_machineAt_30 : decode cX5_machineAt 30 = .ok (.iload_n 3, 1) := by decide +kernel
theorem dX5_machineAt_31 : decode cX5_machineAt 31 = .ok (.ifCond .eq 12, 3) := by decide +kernel
theorem dX5_machineAt_34 : decode cX5_machineAt 34 = .ok (.aload_n 0, 1) := by decide +kernel
theorem dX5_machineAt_35 : decode cX5_machineAt 35 = .ok (.iload_n 1, 1) := by decide +kernel
theorem dX5_machineAt_36 : decode cX5_machineAt 36 = .ok (.iload_n 2, 1) := by decide +kernel
theorem dX5_machineAt_37 : decode cX5_machineAt 37 = .ok (.invokevirtual 101, 3) := by decide +kernel
theorem dX5_machineAt_40 : decode cX5_machineAt 40 = .ok (.goto 4, 3) := by decide +kernel
theorem dX5_machineAt_43 : decode cX5_machineAt 43 = .ok (.iconst (-1), 1) := by decide +kernel
theorem dX5_machineAt_44 : decode cX5_machineAt 44 = .ok (.istore 4, 2) := by decide +kernel
theorem dX5_machineAt_46 : decode cX5_machineAt 46 = .ok (.aload_n 0, 1) := by decide +kernel
theorem dX5_machineAt_47 : decode cX5_machineAt 47 = .ok (.iload_n 3, 1) := by decide +kernel
theorem dX5_machineAt_48 : decode cX5_machineAt 48 = .ok (.ifCond .eq 7, 3) := by decide +kernel
theorem dX5_machineAt_51 : decode cX5_machineAt 51 = .ok (.iconst 0, 1) := by decide +kernel
theorem dX5_machineAt_52 : decode cX5_machineAt 52 = .ok (.goto 4, 3) := by decide +kernel
theorem dX5_machineAt_55 : decode cX5_machineAt 55 = .ok (.iconst 1, 1) := by decide +kernel
theorem dX5_machineAt_56 : decode cX5_machineAt 56 = .ok (.invokevirtual 84, 3) := by decide +kernel
theorem dX5_machineAt_59 : decode cX5_machineAt 59 = .ok (.ifCond .ne 7, 3) := by decide +kernel
theorem dX5_machineAt_62 : decode cX5_machineAt 62 = .ok (.iconst 0, 1) := by decide +kernel
theorem dX5_machineAt_63 : decode cX5_machineAt 63 = .ok (.goto 20, 3) := by decide +kernel
theorem dX5_machineAt_66 : decode cX5_machineAt 66 = .ok (.iload 4, 2) := by decide +kernel
theorem dX5_machineAt_68 : decode cX5_machineAt 68 = .ok (.iconst (-1), 1) := by decide +kernel
theorem dX5_machineAt_69 : decode cX5_machineAt 69 = .ok (.if_icmp .ne 7, 3) := by decide +kernel
theorem dX5_machineAt_72 : decode cX5_machineAt 72 = .ok (.iconst (-1), 1) := by decide +kernel
theorem dX5_machineAt_73 : decode cX5_machineAt 73 = .ok (.goto 10, 3) := by decide +kernel
theorem dX5_machineAt_76 : decode cX5_machineAt 76 = .ok (.aload_n 0, 1) := by decide +kernel
theorem dX5_machineAt_77 : decode cX5_machineAt 77 = .ok (.getfield 35, 3) := by decide +kernel
theorem dX5_machineAt_80 : decode cX5_machineAt 80 = .ok (.iload 4, 2) := by decide +kernel
theorem dX5_machineAt_82 : decode cX5_machineAt 82 = .ok (.iaload, 1) := by decide +kernel
theorem dX5_machineAt_83 : decode cX5_machineAt 83 = .ok (.ireturn, 1) := by decide +kernel
theorem dX5_way_0 : decode cX5_way 0 = .ok (.bipush 20, 2) := by decide +kernel
theorem dX5_way_2 : decode cX5_way 2 = .ok (.aload_n 0, 1) := by decide +kernel
theorem dX5_way_3 : decode cX5_way 3 = .ok (.getfield 50, 3) := by decide +kernel
theorem dX5_way_6 : decode cX5_way 6 = .ok (.iload_n 1, 1) := by decide +kernel
theorem dX5_way_7 : decode cX5_way 7 = .ok (.iaload, 1) := by decide +kernel
theorem dX5_way_8 : decode cX5_way 8 = .ok (.imul, 1) := by decide +kernel
theorem dX5_way_9 : decode cX5_way 9 = .ok (.aload_n 0, 1) := by decide +kernel
theorem dX5_way_10 : decode cX5_way 10 = .ok (.getfield 53, 3) := by decide +kernel
theorem dX5_way_13 : decode cX5_way 13 = .ok (.iload_n 1, 1) := by decide +kernel
theorem dX5_way_14 : decode cX5_way 14 = .ok (.iaload, 1) := by decide +kernel
theorem dX5_way_15 : decode cX5_way 15 = .ok (.iadd, 1) := by decide +kernel
theorem dX5_way_16 : decode cX5_way 16 = .ok (.ireturn, 1) := by decide +kernel
theorem dX5_next_0 : decode cX5_next 0 = .ok (.iload_n 1, 1) := by decide +kernel
theorem dX5_next_1 : decode cX5_next 1 = .ok (.iconst (-1), 1) := by decide +kernel
theorem dX5_next_2 : decode cX5_next 2 = .ok (.if_icmp .ne 7, 3) := by decide +kernel
theorem dX5_next_5 : decode cX5_next 5 = .ok (.iconst (-1), 1) := by decide +kernel
theorem dX5_next_6 : decode cX5_next 6 = .ok (.goto 8, 3) := by decide +kernel
theorem dX5_next_9 : decode cX5_next 9 = .ok (.aload_n 0, 1) := by decide +kernel
theorem dX5_next_10 : decode cX5_next 10 = .ok (.iload_n 1, 1) := by decide +kernel
theorem dX5_next_11 : decode cX5_next 11 = .ok (.invokevirtual 124, 3) := by decide +kernel
theorem dX5_next_14 : decode cX5_next 14 = .ok (.istore_n 2, 1) := by decide +kernel
theorem dX5_next_15 : decode cX5_next 15 = .ok (.aload_n 0, 1) := by decide +kernel
theorem dX5_next_16 : decode cX5_next 16 = .ok (.iload_n 1, 1) := by decide +kernel
theorem dX5_next_17 : decode cX5_next 17 = .ok (.iconst (-1), 1) := by decide +kernel
theorem dX5_next_18 : decode cX5_next 18 = .ok (.if_icmp .eq 12, 3) := by decide +kernel
theorem dX5_next_21 : decode cX5_next 21 = .ok (.iload_n 2, 1) := by decide +kernel
theorem dX5_next_22 : decode cX5_next 22 = .ok (.iconst (-1), 1) := by decide +kernel
theorem dX5_next_23 : decode cX5_next 23 = .ok (.if_icmp .ne 7, 3) := by decide +kernel
theorem dX5_next_26 : decode cX5_next 26 = .ok (.iconst 1, 1) := by decide +kernel
theorem dX5_next_27 : decode cX5_next 27 = .ok (.goto 4, 3) := by decide +kernel
theorem dX5_next_30 : decode cX5_next 30 = .ok (.iconst 0, 1) := by decide +kernel
theorem dX5_next_31 : decode cX5_next 31 = .ok (.invokevirtual 84, 3) := by decide +kernel
theorem dX5_next_34 : decode cX5_next 34 = .ok (.ifCond .ne 5, 3) := by decide +kernel
theorem dX5_next_37 : decode cX5_next 37 = .ok (.iconst 0, 1) := by decide +kernel
theorem dX5_next_38 : decode cX5_next 38 = .ok (.ireturn, 1) := by decide +kernel
theorem dX5_next_39 : decode cX5_next 39 = .ok (.iload_n 2, 1) := by decide +kernel
theorem dX5_next_40 : decode cX5_next 40 = .ok (.iconst (-1), 1) := by decide +kernel
theorem dX5_next_41 : decode cX5_next 41 = .ok (.if_icmp .ne 7, 3) := by decide +kernel
theorem dX5_next_44 : decode cX5_next 44 = .ok (.iconst (-1), 1) := by decide +kernel
theorem dX5_next_45 : decode cX5_next 45 = .ok (.goto 8, 3) := by decide +kernel
theorem dX5_next_48 : decode cX5_next 48 = .ok (.aload_n 0, 1) := by decide +kernel
theorem dX5_next_49 : decode cX5_next 49 = .ok (.iload_n 2, 1) := by decide +kernel
theorem dX5_next_50 : decode cX5_next 50 = .ok (.invokevirtual 137, 3) := by decide +kernel
theorem dX5_next_53 : decode cX5_next 53 = .ok (.istore_n 3, 1) := by decide +kernel
theorem dX5_next_54 : decode cX5_next 54 = .ok (.iconst (-1), 1) := by decide +kernel
theorem dX5_next_55 : decode cX5_next 55 = .ok (.istore 4, 2) := by decide +kernel
theorem dX5_next_57 : decode cX5_next 57 = .ok (.iconst 0, 1) := by decide +kernel
theorem dX5_next_58 : decode cX5_next 58 = .ok (.istore 5, 2) := by decide +kernel
theorem dX5_next_60 : decode cX5_next 60 = .ok (.iload 5, 2) := by decide +kernel
theorem dX5_next_62 : decode cX5_next 62 = .ok (.aload_n 0, 1) := by decide +kernel
theorem dX5_next_63 : decode cX5_next 63 = .ok (.getfield 73, 3) := by decide +kernel
theorem dX5_next_66 : decode cX5_next 66 = .ok (.if_icmp .ge 49, 3) := by decide +kernel
theorem dX5_next_69 : decode cX5_next 69 = .ok (.aload_n 0, 1) := by decide +kernel
theorem dX5_next_70 : decode cX5_next 70 = .ok (.iload 5, 2) := by decide +kernel
theorem dX5_next_72 : decode cX5_next 72 = .ok (.invokevirtual 137, 3) := by decide +kernel
theorem dX5_next_75 : decode cX5_next 75 = .ok (.iload_n 3, 1) := by decide +kernel
theorem dX5_next_76 : decode cX5_next 76 = .ok (.if_icmp .le 29, 3) := by decide +kernel
theorem dX5_next_79 : decode cX5_next 79 = .ok (.iload 4, 2) := by decide +kernel
theorem dX5_next_81 : decode cX5_next 81 = .ok (.iconst (-1), 1) := by decide +kernel
theorem dX5_next_82 : decode cX5_next 82 = .ok (.if_icmp .eq 18, 3) := by decide +kernel
theorem dX5_next_85 : decode cX5_next 85 = .ok (.aload_n 0, 1) := by decide +kernel
theorem dX5_next_86 : decode cX5_next 86 = .ok (.iload 5, 2) := by decide +kernel
theorem dX5_next_88 : decode cX5_next 88 = .ok (.invokevirtual 137, 3) := by decide +kernel
theorem dX5_next_91 : decode cX5_next 91 = .ok (.aload_n 0, 1) := by decide +kernel
theorem dX5_next_92 : decode cX5_next 92 = .ok (.iload 4, 2) := by decide +kernel
theorem dX5_next_94 : decode cX5_next 94 = .ok (.invokevirtual 137, 3) := by decide +kernel
theorem dX5_next_97 : decode cX5_next 97 = .ok (.if_icmp .ge 8, 3) := by decide +kernel
theorem dX5_next_100 : decode cX5_next 100 = .ok (.iload 5, 2) := by decide +kernel
theorem dX5_next_102 : decode cX5_next 102 = .ok (.goto 5, 3) := by decide +kernel
theorem dX5_next_105 : decode cX5_next 105 = .ok (.iload 4, 2) := by decide +kernel
theorem dX5_next_107 : decode cX5_next 107 = .ok (.istore 4, 2) := by decide +kernel
theorem dX5_next_109 : decode cX5_next 109 = .ok (.iinc 5 1, 3) := by decide +kernel
theorem dX5_next_112 : decode cX5_next 112 = .ok (.goto (-52), 3) := by decide +kernel
theorem dX5_next_115 : decode cX5_next 115 = .ok (.iload 4, 2) := by decide +kernel
theorem dX5_next_117 : decode cX5_next 117 = .ok (.iconst (-1), 1) := by decide +kernel
theorem dX5_next_118 : decode cX5_next 118 = .ok (.if_icmp .ne 7, 3) := by decide +kernel
theorem dX5_next_121 : decode cX5_next 121 = .ok (.iconst (-1), 1) := by decide +kernel
theorem dX5_next_122 : decode cX5_next 122 = .ok (.goto 10, 3) := by decide +kernel
theorem dX5_next_125 : decode cX5_next 125 = .ok (.aload_n 0, 1) := by decide +kernel
theorem dX5_next_126 : decode cX5_next 126 = .ok (.getfield 35, 3) := by decide +kernel
theorem dX5_next_129 : decode cX5_next 129 = .ok (.iload 4, 2) := by decide +kernel
theorem dX5_next_131 : decode cX5_next 131 = .ok (.iaload, 1) := by decide +kernel
theorem dX5_next_132 : decode cX5_next 132 = .ok (.ireturn, 1) := by decide +kernel
theorem dX5_takes_0 : decode cX5_takes 0 = .ok (.aload_n 0, 1) := by decide +kernel
theorem dX5_takes_1 : decode cX5_takes 1 = .ok (.getfield 31, 3) := by decide +kernel
theorem dX5_takes_4 : decode cX5_takes 4 = .ok (.iload_n 2, 1) := by decide +kernel
theorem dX5_takes_5 : decode cX5_takes 5 = .ok (.baload, 1) := by decide +kernel
theorem dX5_takes_6 : decode cX5_takes 6 = .ok (.ifCond .ne 16, 3) := by decide +kernel
theorem dX5_takes_9 : decode cX5_takes 9 = .ok (.aload_n 0, 1) := by decide +kernel
theorem dX5_takes_10 : decode cX5_takes 10 = .ok (.getfield 47, 3) := by decide +kernel
theorem dX5_takes_13 : decode cX5_takes 13 = .ok (.iload_n 1, 1) := by decide +kernel
theorem dX5_takes_14 : decode cX5_takes 14 = .ok (.iaload, 1) := by decide +kernel
theorem dX5_takes_15 : decode cX5_takes 15 = .ok (.iload_n 2, 1) := by decide +kernel
theorem dX5_takes_16 : decode cX5_takes 16 = .ok (.invokestatic 76, 3) := by decide +kernel
theorem dX5_takes_19 : decode cX5_takes 19 = .ok (.ifCond .ne 5, 3) := by decide +kernel
theorem dX5_takes_22 : decode cX5_takes 22 = .ok (.iconst 0, 1) := by decide +kernel
theorem dX5_takes_23 : decode cX5_takes 23 = .ok (.ireturn, 1) := by decide +kernel
theorem dX5_takes_24 : decode cX5_takes 24 = .ok (.aload_n 0, 1) := by decide +kernel
theorem dX5_takes_25 : decode cX5_takes 25 = .ok (.getfield 47, 3) := by decide +kernel
theorem dX5_takes_28 : decode cX5_takes 28 = .ok (.iload_n 1, 1) := by decide +kernel
theorem dX5_takes_29 : decode cX5_takes 29 = .ok (.iaload, 1) := by decide +kernel
theorem dX5_takes_30 : decode cX5_takes 30 = .ok (.iconst 2, 1) := by decide +kernel
theorem dX5_takes_31 : decode cX5_takes 31 = .ok (.if_icmp .ne 18, 3) := by decide +kernel
theorem dX5_takes_34 : decode cX5_takes 34 = .ok (.aload_n 0, 1) := by decide +kernel
theorem dX5_takes_35 : decode cX5_takes 35 = .ok (.getfield 31, 3) := by decide +kernel
theorem dX5_takes_38 : decode cX5_takes 38 = .ok (.iconst 1, 1) := by decide +kernel
theorem dX5_takes_39 : decode cX5_takes 39 = .ok (.iload_n 2, 1) := by decide +kernel
theorem dX5_takes_40 : decode cX5_takes 40 = .ok (.isub, 1) := by decide +kernel
theorem dX5_takes_41 : decode cX5_takes 41 = .ok (.baload, 1) := by decide +kernel
theorem dX5_takes_42 : decode cX5_takes 42 = .ok (.ifCond .ne 7, 3) := by decide +kernel
theorem dX5_takes_45 : decode cX5_takes 45 = .ok (.iconst 1, 1) := by decide +kernel
theorem dX5_takes_46 : decode cX5_takes 46 = .ok (.goto 4, 3) := by decide +kernel
theorem dX5_takes_49 : decode cX5_takes 49 = .ok (.iconst 0, 1) := by decide +kernel
theorem dX5_takes_50 : decode cX5_takes 50 = .ok (.istore_n 3, 1) := by decide +kernel
theorem dX5_takes_51 : decode cX5_takes 51 = .ok (.iload_n 3, 1) := by decide +kernel
theorem dX5_takes_52 : decode cX5_takes 52 = .ok (.ifCond .ne 12, 3) := by decide +kernel
theorem dX5_takes_55 : decode cX5_takes 55 = .ok (.aload_n 0, 1) := by decide +kernel
theorem dX5_takes_56 : decode cX5_takes 56 = .ok (.getfield 41, 3) := by decide +kernel
theorem dX5_takes_59 : decode cX5_takes 59 = .ok (.iload_n 1, 1) := by decide +kernel
theorem dX5_takes_60 : decode cX5_takes 60 = .ok (.iaload, 1) := by decide +kernel
theorem dX5_takes_61 : decode cX5_takes 61 = .ok (.goto 28, 3) := by decide +kernel
theorem dX5_takes_64 : decode cX5_takes 64 = .ok (.iload_n 2, 1) := by decide +kernel
theorem dX5_takes_65 : decode cX5_takes 65 = .ok (.ifCond .ne 16, 3) := by decide +kernel
theorem dX5_takes_68 : decode cX5_takes 68 = .ok (.aload_n 0, 1) := by decide +kernel
theorem dX5_takes_69 : decode cX5_takes 69 = .ok (.getfield 41, 3) := by decide +kernel
theorem dX5_takes_72 : decode cX5_takes 72 = .ok (.iload_n 1, 1) := by decide +kernel
theorem dX5_takes_73 : decode cX5_takes 73 = .ok (.iaload, 1) := by decide +kernel
theorem dX5_takes_74 : decode cX5_takes 74 = .ok (.iconst 1, 1) := by decide +kernel
theorem dX5_takes_75 : decode cX5_takes 75 = .ok (.iadd, 1) := by decide +kernel
theorem dX5_takes_76 : decode cX5_takes 76 = .ok (.iconst 2, 1) := by decide +kernel
theorem dX5_takes_77 : decode cX5_takes 77 = .ok (.idiv, 1) := by decide +kernel
theorem dX5_takes_78 : decode cX5_takes 78 = .ok (.goto 11, 3) := by decide +kernel
theorem dX5_takes_81 : decode cX5_takes 81 = .ok (.aload_n 0, 1) := by decide +kernel
theorem dX5_takes_82 : decode cX5_takes 82 = .ok (.getfield 41, 3) := by decide +kernel
theorem dX5_takes_85 : decode cX5_takes 85 = .ok (.iload_n 1, 1) := by decide +kernel
theorem dX5_takes_86 : decode cX5_takes 86 = .ok (.iaload, 1) := by decide +kernel
theorem dX5_takes_87 : decode cX5_takes 87 = .ok (.iconst 2, 1) := by decide +kernel
theorem dX5_takes_88 : decode cX5_takes 88 = .ok (.idiv, 1) := by decide +kernel
theorem dX5_takes_89 : decode cX5_takes 89 = .ok (.ireturn, 1) := by decide +kernel
theorem dX5_powerOf_0 : decode cX5_powerOf 0 = .ok (.aload_n 0, 1) := by decide +kernel
theorem dX5_powerOf_1 : decode cX5_powerOf 1 = .ok (.aload_n 0, 1) := by decide +kernel
theorem dX5_powerOf_2 : decode cX5_powerOf 2 = .ok (.iload_n 1, 1) := by decide +kernel
theorem dX5_powerOf_3 : decode cX5_powerOf 3 = .ok (.invokevirtual 134, 3) := by decide +kernel
theorem dX5_powerOf_6 : decode cX5_powerOf 6 = .ok (.ifCond .ne 7, 3) := by decide +kernel
theorem dX5_powerOf_9 : decode cX5_powerOf 9 = .ok (.iconst 1, 1) := by decide +kernel
theorem dX5_powerOf_10 : decode cX5_powerOf 10 = .ok (.goto 17, 3) := by decide +kernel
theorem dX5_powerOf_13 : decode cX5_powerOf 13 = .ok (.iload_n 2, 1) := by decide +kernel
theorem dX5_powerOf_14 : decode cX5_powerOf 14 = .ok (.iconst 0, 1) := by decide +kernel
theorem dX5_powerOf_15 : decode cX5_powerOf 15 = .ok (.iconst 1, 1) := by decide +kernel
theorem dX5_powerOf_16 : decode cX5_powerOf 16 = .ok (.invokestatic 69, 3) := by decide +kernel
theorem dX5_powerOf_19 : decode cX5_powerOf 19 = .ok (.ifCond .ne 7, 3) := by decide +kernel
theorem dX5_powerOf_22 : decode cX5_powerOf 22 = .ok (.iconst 2, 1) := by decide +kernel
theorem dX5_powerOf_23 : decode cX5_powerOf 23 = .ok (.goto 4, 3) := by decide +kernel
theorem dX5_powerOf_26 : decode cX5_powerOf 26 = .ok (.iconst 0, 1) := by decide +kernel
theorem dX5_powerOf_27 : decode cX5_powerOf 27 = .ok (.invokevirtual 84, 3) := by decide +kernel
theorem dX5_powerOf_30 : decode cX5_powerOf 30 = .ok (.ifCond .ne 5, 3) := by decide +kernel
theorem dX5_powerOf_33 : decode cX5_powerOf 33 = .ok (.iconst 0, 1) := by decide +kernel
theorem dX5_powerOf_34 : decode cX5_powerOf 34 = .ok (.ireturn, 1) := by decide +kernel
theorem dX5_powerOf_35 : decode cX5_powerOf 35 = .ok (.iconst 0, 1) := by decide +kernel
theorem dX5_powerOf_36 : decode cX5_powerOf 36 = .ok (.istore_n 3, 1) := by decide +kernel
theorem dX5_powerOf_37 : decode cX5_powerOf 37 = .ok (.iconst 0, 1) := by decide +kernel
theorem dX5_powerOf_38 : decode cX5_powerOf 38 = .ok (.istore 4, 2) := by decide +kernel
theorem dX5_powerOf_40 : decode cX5_powerOf 40 = .ok (.iload 4, 2) := by decide +kernel
theorem dX5_powerOf_42 : decode cX5_powerOf 42 = .ok (.aload_n 0, 1) := by decide +kernel
theorem dX5_powerOf_43 : decode cX5_powerOf 43 = .ok (.getfield 73, 3) := by decide +kernel
theorem dX5_powerOf_46 : decode cX5_powerOf 46 = .ok (.if_icmp .ge 34, 3) := by decide +kernel
theorem dX5_powerOf_49 : decode cX5_powerOf 49 = .ok (.iload_n 3, 1) := by decide +kernel
theorem dX5_powerOf_50 : decode cX5_powerOf 50 = .ok (.aload_n 0, 1) := by decide +kernel
theorem dX5_powerOf_51 : decode cX5_powerOf 51 = .ok (.getfield 50, 3) := by decide +kernel
theorem dX5_powerOf_54 : decode cX5_powerOf 54 = .ok (.iload 4, 2) := by decide +kernel
theorem dX5_powerOf_56 : decode cX5_powerOf 56 = .ok (.iaload, 1) := by decide +kernel
theorem dX5_powerOf_57 : decode cX5_powerOf 57 = .ok (.iload_n 1, 1) := by decide +kernel
theorem dX5_powerOf_58 : decode cX5_powerOf 58 = .ok (.if_icmp .ne 13, 3) := by decide +kernel
theorem dX5_powerOf_61 : decode cX5_powerOf 61 = .ok (.aload_n 0, 1) := by decide +kernel
theorem dX5_powerOf_62 : decode cX5_powerOf 62 = .ok (.iload 4, 2) := by decide +kernel
theorem dX5_powerOf_64 : decode cX5_powerOf 64 = .ok (.iload_n 2, 1) := by decide +kernel
theorem dX5_powerOf_65 : decode cX5_powerOf 65 = .ok (.invokevirtual 140, 3) := by decide +kernel
theorem dX5_powerOf_68 : decode cX5_powerOf 68 = .ok (.goto 4, 3) := by decide +kernel
theorem dX5_powerOf_71 : decode cX5_powerOf 71 = .ok (.iconst 0, 1) := by decide +kernel
theorem dX5_powerOf_72 : decode cX5_powerOf 72 = .ok (.iadd, 1) := by decide +kernel
theorem dX5_powerOf_73 : decode cX5_powerOf 73 = .ok (.istore_n 3, 1) := by decide +kernel
theorem dX5_powerOf_74 : decode cX5_powerOf 74 = .ok (.iinc 4 1, 3) := by decide +kernel
theorem dX5_powerOf_77 : decode cX5_powerOf 77 = .ok (.goto (-37), 3) := by decide +kernel
theorem dX5_powerOf_80 : decode cX5_powerOf 80 = .ok (.iload_n 3, 1) := by decide +kernel
theorem dX5_powerOf_81 : decode cX5_powerOf 81 = .ok (.ireturn, 1) := by decide +kernel
theorem dX5_worstOf_0 : decode cX5_worstOf 0 = .ok (.aload_n 0, 1) := by decide +kernel
theorem dX5_worstOf_1 : decode cX5_worstOf 1 = .ok (.aload_n 0, 1) := by decide +kernel
theorem dX5_worstOf_2 : decode cX5_worstOf 2 = .ok (.iload_n 1, 1) := by decide +kernel
theorem dX5_worstOf_3 : decode cX5_worstOf 3 = .ok (.invokevirtual 134, 3) := by decide +kernel
theorem dX5_worstOf_6 : decode cX5_worstOf 6 = .ok (.ifCond .ne 7, 3) := by decide +kernel
theorem dX5_worstOf_9 : decode cX5_worstOf 9 = .ok (.iconst 1, 1) := by decide +kernel
theorem dX5_worstOf_10 : decode cX5_worstOf 10 = .ok (.goto 17, 3) := by decide +kernel
theorem dX5_worstOf_13 : decode cX5_worstOf 13 = .ok (.iload_n 2, 1) := by decide +kernel
theorem dX5_worstOf_14 : decode cX5_worstOf 14 = .ok (.iconst 0, 1) := by decide +kernel
theorem dX5_worstOf_15 : decode cX5_worstOf 15 = .ok (.iconst 1, 1) := by decide +kernel
theorem dX5_worstOf_16 : decode cX5_worstOf 16 = .ok (.invokestatic 69, 3) := by decide +kernel
theorem dX5_worstOf_19 : decode cX5_worstOf 19 = .ok (.ifCond .ne 7, 3) := by decide +kernel
theorem dX5_worstOf_22 : decode cX5_worstOf 22 = .ok (.iconst 2, 1) := by decide +kernel
theorem dX5_worstOf_23 : decode cX5_worstOf 23 = .ok (.goto 4, 3) := by decide +kernel
theorem dX5_worstOf_26 : decode cX5_worstOf 26 = .ok (.iconst 0, 1) := by decide +kernel
theorem dX5_worstOf_27 : decode cX5_worstOf 27 = .ok (.invokevirtual 84, 3) := by decide +kernel
theorem dX5_worstOf_30 : decode cX5_worstOf 30 = .ok (.ifCond .eq 12, 3) := by decide +kernel
theorem dX5_worstOf_33 : decode cX5_worstOf 33 = .ok (.aload_n 0, 1) := by decide +kernel
theorem dX5_worstOf_34 : decode cX5_worstOf 34 = .ok (.iload_n 1, 1) := by decide +kernel
theorem dX5_worstOf_35 : decode cX5_worstOf 35 = .ok (.iload_n 2, 1) := by decide +kernel
theorem dX5_worstOf_36 : decode cX5_worstOf 36 = .ok (.invokevirtual 94, 3) := by decide +kernel
theorem dX5_worstOf_39 : decode cX5_worstOf 39 = .ok (.goto 4, 3) := by decide +kernel
theorem dX5_worstOf_42 : decode cX5_worstOf 42 = .ok (.iconst 0, 1) := by decide +kernel
theorem dX5_worstOf_43 : decode cX5_worstOf 43 = .ok (.ireturn, 1) := by decide +kernel
theorem dX5_weightOf_0 : decode cX5_weightOf 0 = .ok (.aload_n 0, 1) := by decide +kernel
theorem dX5_weightOf_1 : decode cX5_weightOf 1 = .ok (.aload_n 0, 1) := by decide +kernel
theorem dX5_weightOf_2 : decode cX5_weightOf 2 = .ok (.iload_n 1, 1) := by decide +kernel
theorem dX5_weightOf_3 : decode cX5_weightOf 3 = .ok (.invokevirtual 134, 3) := by decide +kernel
theorem dX5_weightOf_6 : decode cX5_weightOf 6 = .ok (.ifCond .eq 7, 3) := by decide +kernel
theorem dX5_weightOf_9 : decode cX5_weightOf 9 = .ok (.iconst 0, 1) := by decide +kernel
theorem dX5_weightOf_10 : decode cX5_weightOf 10 = .ok (.goto 4, 3) := by decide +kernel
theorem dX5_weightOf_13 : decode cX5_weightOf 13 = .ok (.iconst 1, 1) := by decide +kernel
theorem dX5_weightOf_14 : decode cX5_weightOf 14 = .ok (.invokevirtual 84, 3) := by decide +kernel
theorem dX5_weightOf_17 : decode cX5_weightOf 17 = .ok (.ifCond .eq 11, 3) := by decide +kernel
theorem dX5_weightOf_20 : decode cX5_weightOf 20 = .ok (.aload_n 0, 1) := by decide +kernel
theorem dX5_weightOf_21 : decode cX5_weightOf 21 = .ok (.iload_n 1, 1) := by decide +kernel
theorem dX5_weightOf_22 : decode cX5_weightOf 22 = .ok (.invokevirtual 80, 3) := by decide +kernel
theorem dX5_weightOf_25 : decode cX5_weightOf 25 = .ok (.goto 4, 3) := by decide +kernel
theorem dX5_weightOf_28 : decode cX5_weightOf 28 = .ok (.iconst 0, 1) := by decide +kernel
theorem dX5_weightOf_29 : decode cX5_weightOf 29 = .ok (.ireturn, 1) := by decide +kernel
theorem dX5_heatOf_0 : decode cX5_heatOf 0 = .ok (.aload_n 0, 1) := by decide +kernel
theorem dX5_heatOf_1 : decode cX5_heatOf 1 = .ok (.iload_n 1, 1) := by decide +kernel
theorem dX5_heatOf_2 : decode cX5_heatOf 2 = .ok (.iconst 0, 1) := by decide +kernel
theorem dX5_heatOf_3 : decode cX5_heatOf 3 = .ok (.iconst 3, 1) := by decide +kernel
theorem dX5_heatOf_4 : decode cX5_heatOf 4 = .ok (.invokestatic 69, 3) := by decide +kernel
theorem dX5_heatOf_7 : decode cX5_heatOf 7 = .ok (.ifCond .eq 7, 3) := by decide +kernel
theorem dX5_heatOf_10 : decode cX5_heatOf 10 = .ok (.iconst 0, 1) := by decide +kernel
theorem dX5_heatOf_11 : decode cX5_heatOf 11 = .ok (.goto 4, 3) := by decide +kernel
theorem dX5_heatOf_14 : decode cX5_heatOf 14 = .ok (.iconst 1, 1) := by decide +kernel
theorem dX5_heatOf_15 : decode cX5_heatOf 15 = .ok (.invokevirtual 84, 3) := by decide +kernel
theorem dX5_heatOf_18 : decode cX5_heatOf 18 = .ok (.ifCond .ne 5, 3) := by decide +kernel
theorem dX5_heatOf_21 : decode cX5_heatOf 21 = .ok (.iconst 0, 1) := by decide +kernel
theorem dX5_heatOf_22 : decode cX5_heatOf 22 = .ok (.ireturn, 1) := by decide +kernel
theorem dX5_heatOf_23 : decode cX5_heatOf 23 = .ok (.iconst 0, 1) := by decide +kernel
theorem dX5_heatOf_24 : decode cX5_heatOf 24 = .ok (.istore_n 2, 1) := by decide +kernel
theorem dX5_heatOf_25 : decode cX5_heatOf 25 = .ok (.iconst 0, 1) := by decide +kernel
theorem dX5_heatOf_26 : decode cX5_heatOf 26 = .ok (.istore_n 3, 1) := by decide +kernel
theorem dX5_heatOf_27 : decode cX5_heatOf 27 = .ok (.iload_n 3, 1) := by decide +kernel
theorem dX5_heatOf_28 : decode cX5_heatOf 28 = .ok (.aload_n 0, 1) := by decide +kernel
theorem dX5_heatOf_29 : decode cX5_heatOf 29 = .ok (.getfield 73, 3) := by decide +kernel
theorem dX5_heatOf_32 : decode cX5_heatOf 32 = .ok (.if_icmp .ge 45, 3) := by decide +kernel
theorem dX5_heatOf_35 : decode cX5_heatOf 35 = .ok (.iload_n 2, 1) := by decide +kernel
theorem dX5_heatOf_36 : decode cX5_heatOf 36 = .ok (.aload_n 0, 1) := by decide +kernel
theorem dX5_heatOf_37 : decode cX5_heatOf 37 = .ok (.getfield 7, 3) := by decide +kernel
theorem dX5_heatOf_40 : decode cX5_heatOf 40 = .ok (.aload_n 0, 1) := by decide +kernel
theorem dX5_heatOf_41 : decode cX5_heatOf 41 = .ok (.getfield 50, 3) := by decide +kernel
theorem dX5_heatOf_44 : decode cX5_heatOf 44 = .ok (.iload_n 3, 1) := by decide +kernel
theorem dX5_heatOf_45 : decode cX5_heatOf 45 = .ok (.iaload, 1) := by decide +kernel
theorem dX5_heatOf_46 : decode cX5_heatOf 46 = .ok (.iaload, 1) := by decide +kernel
theorem dX5_heatOf_47 : decode cX5_heatOf 47 = .ok (.iload_n 1, 1) := by decide +kernel
theorem dX5_heatOf_48 : decode cX5_heatOf 48 = .ok (.if_icmp .ne 20, 3) := by decide +kernel
theorem dX5_heatOf_51 : decode cX5_heatOf 51 = .ok (.aload_n 0, 1) := by decide +kernel
theorem dX5_heatOf_52 : decode cX5_heatOf 52 = .ok (.iload_n 3, 1) := by decide +kernel
theorem dX5_heatOf_53 : decode cX5_heatOf 53 = .ok (.invokevirtual 98, 3) := by decide +kernel
theorem dX5_heatOf_56 : decode cX5_heatOf 56 = .ok (.ifCond .ne 12, 3) := by decide +kernel
theorem dX5_heatOf_59 : decode cX5_heatOf 59 = .ok (.aload_n 0, 1) := by decide +kernel
theorem dX5_heatOf_60 : decode cX5_heatOf 60 = .ok (.getfield 41, 3) := by decide +kernel
theorem dX5_heatOf_63 : decode cX5_heatOf 63 = .ok (.iload_n 3, 1) := by decide +kernel
theorem dX5_heatOf_64 : decode cX5_heatOf 64 = .ok (.iaload, 1) := by decide +kernel
theorem dX5_heatOf_65 : decode cX5_heatOf 65 = .ok (.goto 4, 3) := by decide +kernel
theorem dX5_heatOf_68 : decode cX5_heatOf 68 = .ok (.iconst 0, 1) := by decide +kernel
theorem dX5_heatOf_69 : decode cX5_heatOf 69 = .ok (.iadd, 1) := by decide +kernel
theorem dX5_heatOf_70 : decode cX5_heatOf 70 = .ok (.istore_n 2, 1) := by decide +kernel
theorem dX5_heatOf_71 : decode cX5_heatOf 71 = .ok (.iinc 3 1, 3) := by decide +kernel
theorem dX5_heatOf_74 : decode cX5_heatOf 74 = .ok (.goto (-47), 3) := by decide +kernel
theorem dX5_heatOf_77 : decode cX5_heatOf 77 = .ok (.iload_n 2, 1) := by decide +kernel
theorem dX5_heatOf_78 : decode cX5_heatOf 78 = .ok (.ireturn, 1) := by decide +kernel
theorem dX5_gap_0 : decode cX5_gap 0 = .ok (.aload_n 0, 1) := by decide +kernel
theorem dX5_gap_1 : decode cX5_gap 1 = .ok (.aload_n 0, 1) := by decide +kernel
theorem dX5_gap_2 : decode cX5_gap 2 = .ok (.iload_n 1, 1) := by decide +kernel
theorem dX5_gap_3 : decode cX5_gap 3 = .ok (.invokevirtual 134, 3) := by decide +kernel
theorem dX5_gap_6 : decode cX5_gap 6 = .ok (.ifCond .eq 7, 3) := by decide +kernel
theorem dX5_gap_9 : decode cX5_gap 9 = .ok (.iconst 0, 1) := by decide +kernel
theorem dX5_gap_10 : decode cX5_gap 10 = .ok (.goto 4, 3) := by decide +kernel
theorem dX5_gap_13 : decode cX5_gap 13 = .ok (.iconst 1, 1) := by decide +kernel
theorem dX5_gap_14 : decode cX5_gap 14 = .ok (.invokevirtual 84, 3) := by decide +kernel
theorem dX5_gap_17 : decode cX5_gap 17 = .ok (.ifCond .ne 5, 3) := by decide +kernel
theorem dX5_gap_20 : decode cX5_gap 20 = .ok (.iconst 0, 1) := by decide +kernel
theorem dX5_gap_21 : decode cX5_gap 21 = .ok (.ireturn, 1) := by decide +kernel
theorem dX5_gap_22 : decode cX5_gap 22 = .ok (.iconst 0, 1) := by decide +kernel
theorem dX5_gap_23 : decode cX5_gap 23 = .ok (.istore_n 2, 1) := by decide +kernel
theorem dX5_gap_24 : decode cX5_gap 24 = .ok (.iconst 0, 1) := by decide +kernel
theorem dX5_gap_25 : decode cX5_gap 25 = .ok (.istore_n 3, 1) := by decide +kernel
theorem dX5_gap_26 : decode cX5_gap 26 = .ok (.iconst 0, 1) := by decide +kernel
theorem dX5_gap_27 : decode cX5_gap 27 = .ok (.istore 4, 2) := by decide +kernel
theorem dX5_gap_29 : decode cX5_gap 29 = .ok (.iload 4, 2) := by decide +kernel
theorem dX5_gap_31 : decode cX5_gap 31 = .ok (.aload_n 0, 1) := by decide +kernel
theorem dX5_gap_32 : decode cX5_gap 32 = .ok (.getfield 13, 3) := by decide +kernel
theorem dX5_gap_35 : decode cX5_gap 35 = .ok (.iload_n 1, 1) := by decide +kernel
theorem dX5_gap_36 : decode cX5_gap 36 = .ok (.iaload, 1) := by decide +kernel
theorem dX5_gap_37 : decode cX5_gap 37 = .ok (.if_icmp .ge 39, 3) := by decide +kernel
theorem dX5_gap_40 : decode cX5_gap 40 = .ok (.aload_n 0, 1) := by decide +kernel
theorem dX5_gap_41 : decode cX5_gap 41 = .ok (.iload_n 1, 1) := by decide +kernel
theorem dX5_gap_42 : decode cX5_gap 42 = .ok (.iload 4, 2) := by decide +kernel
theorem dX5_gap_44 : decode cX5_gap 44 = .ok (.invokevirtual 101, 3) := by decide +kernel
theorem dX5_gap_47 : decode cX5_gap 47 = .ok (.iconst (-1), 1) := by decide +kernel
theorem dX5_gap_48 : decode cX5_gap 48 = .ok (.if_icmp .ne 9, 3) := by decide +kernel
theorem dX5_gap_51 : decode cX5_gap 51 = .ok (.iload_n 3, 1) := by decide +kernel
theorem dX5_gap_52 : decode cX5_gap 52 = .ok (.iconst 1, 1) := by decide +kernel
theorem dX5_gap_53 : decode cX5_gap 53 = .ok (.iadd, 1) := by decide +kernel
theorem dX5_gap_54 : decode cX5_gap 54 = .ok (.goto 4, 3) := by decide +kernel
theorem dX5_gap_57 : decode cX5_gap 57 = .ok (.iconst 0, 1) := by decide +kernel
theorem dX5_gap_58 : decode cX5_gap 58 = .ok (.istore_n 3, 1) := by decide +kernel
theorem dX5_gap_59 : decode cX5_gap 59 = .ok (.iload_n 3, 1) := by decide +kernel
theorem dX5_gap_60 : decode cX5_gap 60 = .ok (.iload_n 2, 1) := by decide +kernel
theorem dX5_gap_61 : decode cX5_gap 61 = .ok (.if_icmp .le 7, 3) := by decide +kernel
theorem dX5_gap_64 : decode cX5_gap 64 = .ok (.iload_n 3, 1) := by decide +kernel
theorem dX5_gap_65 : decode cX5_gap 65 = .ok (.goto 4, 3) := by decide +kernel
theorem dX5_gap_68 : decode cX5_gap 68 = .ok (.iload_n 2, 1) := by decide +kernel
theorem dX5_gap_69 : decode cX5_gap 69 = .ok (.istore_n 2, 1) := by decide +kernel
theorem dX5_gap_70 : decode cX5_gap 70 = .ok (.iinc 4 1, 3) := by decide +kernel
theorem dX5_gap_73 : decode cX5_gap 73 = .ok (.goto (-44), 3) := by decide +kernel
theorem dX5_gap_76 : decode cX5_gap 76 = .ok (.iload_n 2, 1) := by decide +kernel
theorem dX5_gap_77 : decode cX5_gap 77 = .ok (.ireturn, 1) := by decide +kernel
theorem dX5_racksFor_0 : decode cX5_racksFor 0 = .ok (.aload_n 0, 1) := by decide +kernel
theorem dX5_racksFor_1 : decode cX5_racksFor 1 = .ok (.iload_n 1, 1) := by decide +kernel
theorem dX5_racksFor_2 : decode cX5_racksFor 2 = .ok (.iload_n 2, 1) := by decide +kernel
theorem dX5_racksFor_3 : decode cX5_racksFor 3 = .ok (.iload_n 3, 1) := by decide +kernel
theorem dX5_racksFor_4 : decode cX5_racksFor 4 = .ok (.iload 4, 2) := by decide +kernel
theorem dX5_racksFor_6 : decode cX5_racksFor 6 = .ok (.invokestatic 115, 3) := by decide +kernel
theorem dX5_racksFor_9 : decode cX5_racksFor 9 = .ok (.ifCond .eq 7, 3) := by decide +kernel
theorem dX5_racksFor_12 : decode cX5_racksFor 12 = .ok (.iconst 0, 1) := by decide +kernel
theorem dX5_racksFor_13 : decode cX5_racksFor 13 = .ok (.goto 4, 3) := by decide +kernel
theorem dX5_racksFor_16 : decode cX5_racksFor 16 = .ok (.iconst 1, 1) := by decide +kernel
theorem dX5_racksFor_17 : decode cX5_racksFor 17 = .ok (.invokevirtual 84, 3) := by decide +kernel
theorem dX5_racksFor_20 : decode cX5_racksFor 20 = .ok (.ifCond .ne 5, 3) := by decide +kernel
theorem dX5_racksFor_23 : decode cX5_racksFor 23 = .ok (.iconst 0, 1) := by decide +kernel
theorem dX5_racksFor_24 : decode cX5_racksFor 24 = .ok (.ireturn, 1) := by decide +kernel
theorem dX5_racksFor_25 : decode cX5_racksFor 25 = .ok (.iconst 0, 1) := by decide +kernel
theorem dX5_racksFor_26 : decode cX5_racksFor 26 = .ok (.istore 5, 2) := by decide +kernel
theorem dX5_racksFor_28 : decode cX5_racksFor 28 = .ok (.iconst 0, 1) := by decide +kernel
theorem dX5_racksFor_29 : decode cX5_racksFor 29 = .ok (.istore 6, 2) := by decide +kernel
theorem dX5_racksFor_31 : decode cX5_racksFor 31 = .ok (.iload 6, 2) := by decide +kernel
theorem dX5_racksFor_33 : decode cX5_racksFor 33 = .ok (.aload_n 0, 1) := by decide +kernel
theorem dX5_racksFor_34 : decode cX5_racksFor 34 = .ok (.getfield 66, 3) := by decide +kernel
theorem dX5_racksFor_37 : decode cX5_racksFor 37 = .ok (.if_icmp .ge 37, 3) := by decide +kernel
theorem dX5_racksFor_40 : decode cX5_racksFor 40 = .ok (.iload 5, 2) := by decide +kernel
theorem dX5_racksFor_42 : decode cX5_racksFor 42 = .ok (.aload_n 0, 1) := by decide +kernel
theorem dX5_racksFor_43 : decode cX5_racksFor 43 = .ok (.iload 6, 2) := by decide +kernel
theorem dX5_racksFor_45 : decode cX5_racksFor 45 = .ok (.iload_n 1, 1) := by decide +kernel
theorem dX5_racksFor_46 : decode cX5_racksFor 46 = .ok (.iload_n 2, 1) := by decide +kernel
theorem dX5_racksFor_47 : decode cX5_racksFor 47 = .ok (.iload_n 3, 1) := by decide +kernel
theorem dX5_racksFor_48 : decode cX5_racksFor 48 = .ok (.iload 4, 2) := by decide +kernel
theorem dX5_racksFor_50 : decode cX5_racksFor 50 = .ok (.invokevirtual 111, 3) := by decide +kernel
theorem dX5_racksFor_53 : decode cX5_racksFor 53 = .ok (.iconst (-1), 1) := by decide +kernel
theorem dX5_racksFor_54 : decode cX5_racksFor 54 = .ok (.if_icmp .eq 10, 3) := by decide +kernel
theorem dX5_racksFor_57 : decode cX5_racksFor 57 = .ok (.iconst 1, 1) := by decide +kernel
theorem dX5_racksFor_58 : decode cX5_racksFor 58 = .ok (.iload 6, 2) := by decide +kernel
theorem dX5_racksFor_60 : decode cX5_racksFor 60 = .ok (.ishl, 1) := by decide +kernel
theorem dX5_racksFor_61 : decode cX5_racksFor 61 = .ok (.goto 4, 3) := by decide +kernel
theorem dX5_racksFor_64 : decode cX5_racksFor 64 = .ok (.iconst 0, 1) := by decide +kernel
theorem dX5_racksFor_65 : decode cX5_racksFor 65 = .ok (.iadd, 1) := by decide +kernel
theorem dX5_racksFor_66 : decode cX5_racksFor 66 = .ok (.istore 5, 2) := by decide +kernel
theorem dX5_racksFor_68 : decode cX5_racksFor 68 = .ok (.iinc 6 1, 3) := by decide +kernel
theorem dX5_racksFor_71 : decode cX5_racksFor 71 = .ok (.goto (-40), 3) := by decide +kernel
theorem dX5_racksFor_74 : decode cX5_racksFor 74 = .ok (.iload 5, 2) := by decide +kernel
theorem dX5_racksFor_76 : decode cX5_racksFor 76 = .ok (.ireturn, 1) := by decide +kernel
theorem dX5_within_0 : decode cX5_within 0 = .ok (.iload_n 2, 1) := by decide +kernel
theorem dX5_within_1 : decode cX5_within 1 = .ok (.ifCond .eq 10, 3) := by decide +kernel
theorem dX5_within_4 : decode cX5_within 4 = .ok (.iload_n 0, 1) := by decide +kernel
theorem dX5_within_5 : decode cX5_within 5 = .ok (.iload_n 2, 1) := by decide +kernel
theorem dX5_within_6 : decode cX5_within 6 = .ok (.imul, 1) := by decide +kernel
theorem dX5_within_7 : decode cX5_within 7 = .ok (.iload_n 1, 1) := by decide +kernel
theorem dX5_within_8 : decode cX5_within 8 = .ok (.if_icmp .gt 7, 3) := by decide +kernel
theorem dX5_within_11 : decode cX5_within 11 = .ok (.iload_n 0, 1) := by decide +kernel
theorem dX5_within_12 : decode cX5_within 12 = .ok (.goto 6, 3) := by decide +kernel
theorem dX5_within_15 : decode cX5_within 15 = .ok (.iload_n 1, 1) := by decide +kernel
theorem dX5_within_16 : decode cX5_within 16 = .ok (.iload_n 2, 1) := by decide +kernel
theorem dX5_within_17 : decode cX5_within 17 = .ok (.idiv, 1) := by decide +kernel
theorem dX5_within_18 : decode cX5_within 18 = .ok (.ireturn, 1) := by decide +kernel
theorem dX5_roomIn_0 : decode cX5_roomIn 0 = .ok (.iconst 0, 1) := by decide +kernel
theorem dX5_roomIn_1 : decode cX5_roomIn 1 = .ok (.istore 6, 2) := by decide +kernel
theorem dX5_roomIn_3 : decode cX5_roomIn 3 = .ok (.iconst 0, 1) := by decide +kernel
theorem dX5_roomIn_4 : decode cX5_roomIn 4 = .ok (.istore 7, 2) := by decide +kernel
theorem dX5_roomIn_6 : decode cX5_roomIn 6 = .ok (.iconst 0, 1) := by decide +kernel
theorem dX5_roomIn_7 : decode cX5_roomIn 7 = .ok (.istore 8, 2) := by decide +kernel
theorem dX5_roomIn_9 : decode cX5_roomIn 9 = .ok (.iload 8, 2) := by decide +kernel
theorem dX5_roomIn_11 : decode cX5_roomIn 11 = .ok (.aload_n 0, 1) := by decide +kernel
theorem dX5_roomIn_12 : decode cX5_roomIn 12 = .ok (.getfield 13, 3) := by decide +kernel
theorem dX5_roomIn_15 : decode cX5_roomIn 15 = .ok (.iload_n 1, 1) := by decide +kernel
theorem dX5_roomIn_16 : decode cX5_roomIn 16 = .ok (.iaload, 1) := by decide +kernel
theorem dX5_roomIn_17 : decode cX5_roomIn 17 = .ok (.if_icmp .ge 42, 3) := by decide +kernel
theorem dX5_roomIn_20 : decode cX5_roomIn 20 = .ok (.aload_n 0, 1) := by decide +kernel
theorem dX5_roomIn_21 : decode cX5_roomIn 21 = .ok (.iload_n 1, 1) := by decide +kernel
theorem dX5_roomIn_22 : decode cX5_roomIn 22 = .ok (.iload 8, 2) := by decide +kernel
theorem dX5_roomIn_24 : decode cX5_roomIn 24 = .ok (.invokevirtual 101, 3) := by decide +kernel
theorem dX5_roomIn_27 : decode cX5_roomIn 27 = .ok (.iconst (-1), 1) := by decide +kernel
theorem dX5_roomIn_28 : decode cX5_roomIn 28 = .ok (.if_icmp .ne 10, 3) := by decide +kernel
theorem dX5_roomIn_31 : decode cX5_roomIn 31 = .ok (.iload 7, 2) := by decide +kernel
theorem dX5_roomIn_33 : decode cX5_roomIn 33 = .ok (.iconst 1, 1) := by decide +kernel
theorem dX5_roomIn_34 : decode cX5_roomIn 34 = .ok (.iadd, 1) := by decide +kernel
theorem dX5_roomIn_35 : decode cX5_roomIn 35 = .ok (.goto 4, 3) := by decide +kernel
theorem dX5_roomIn_38 : decode cX5_roomIn 38 = .ok (.iconst 0, 1) := by decide +kernel
theorem dX5_roomIn_39 : decode cX5_roomIn 39 = .ok (.istore 7, 2) := by decide +kernel
theorem dX5_roomIn_41 : decode cX5_roomIn 41 = .ok (.iload 7, 2) := by decide +kernel
theorem dX5_roomIn_43 : decode cX5_roomIn 43 = .ok (.iload_n 2, 1) := by decide +kernel
theorem dX5_roomIn_44 : decode cX5_roomIn 44 = .ok (.if_icmp .ne 9, 3) := by decide +kernel
theorem dX5_roomIn_47 : decode cX5_roomIn 47 = .ok (.iinc 6 1, 3) := by decide +kernel
theorem dX5_roomIn_50 : decode cX5_roomIn 50 = .ok (.iconst 0, 1) := by decide +kernel
theorem dX5_roomIn_51 : decode cX5_roomIn 51 = .ok (.istore 7, 2) := by decide +kernel
theorem dX5_roomIn_53 : decode cX5_roomIn 53 = .ok (.iinc 8 1, 3) := by decide +kernel
theorem dX5_roomIn_56 : decode cX5_roomIn 56 = .ok (.goto (-47), 3) := by decide +kernel
theorem dX5_roomIn_59 : decode cX5_roomIn 59 = .ok (.iload 6, 2) := by decide +kernel
theorem dX5_roomIn_61 : decode cX5_roomIn 61 = .ok (.aload_n 0, 1) := by decide +kernel
theorem dX5_roomIn_62 : decode cX5_roomIn 62 = .ok (.getfield 16, 3) := by decide +kernel
theorem dX5_roomIn_65 : decode cX5_roomIn 65 = .ok (.iload_n 1, 1) := by decide +kernel
theorem dX5_roomIn_66 : decode cX5_roomIn 66 = .ok (.iaload, 1) := by decide +kernel
theorem dX5_roomIn_67 : decode cX5_roomIn 67 = .ok (.aload_n 0, 1) := by decide +kernel
theorem dX5_roomIn_68 : decode cX5_roomIn 68 = .ok (.iload_n 1, 1) := by decide +kernel
theorem dX5_roomIn_69 : decode cX5_roomIn 69 = .ok (.invokevirtual 80, 3) := by decide +kernel
theorem dX5_roomIn_72 : decode cX5_roomIn 72 = .ok (.isub, 1) := by decide +kernel
theorem dX5_roomIn_73 : decode cX5_roomIn 73 = .ok (.iload 4, 2) := by decide +kernel
theorem dX5_roomIn_75 : decode cX5_roomIn 75 = .ok (.invokestatic 143, 3) := by decide +kernel
theorem dX5_roomIn_78 : decode cX5_roomIn 78 = .ok (.istore 6, 2) := by decide +kernel
theorem dX5_roomIn_80 : decode cX5_roomIn 80 = .ok (.iconst 0, 1) := by decide +kernel
theorem dX5_roomIn_81 : decode cX5_roomIn 81 = .ok (.istore 8, 2) := by decide +kernel
theorem dX5_roomIn_83 : decode cX5_roomIn 83 = .ok (.iload 8, 2) := by decide +kernel
theorem dX5_roomIn_85 : decode cX5_roomIn 85 = .ok (.iconst 2, 1) := by decide +kernel
theorem dX5_roomIn_86 : decode cX5_roomIn 86 = .ok (.if_icmp .ge 46, 3) := by decide +kernel
theorem dX5_roomIn_89 : decode cX5_roomIn 89 = .ok (.iload 5, 2) := by decide +kernel
theorem dX5_roomIn_91 : decode cX5_roomIn 91 = .ok (.iload 8, 2) := by decide +kernel
theorem dX5_roomIn_93 : decode cX5_roomIn 93 = .ok (.invokestatic 76, 3) := by decide +kernel
theorem dX5_roomIn_96 : decode cX5_roomIn 96 = .ok (.ifCond .eq 26, 3) := by decide +kernel
theorem dX5_roomIn_99 : decode cX5_roomIn 99 = .ok (.iload 6, 2) := by decide +kernel
theorem dX5_roomIn_101 : decode cX5_roomIn 101 = .ok (.aload_n 0, 1) := by decide +kernel
theorem dX5_roomIn_102 : decode cX5_roomIn 102 = .ok (.getfield 19, 3) := by decide +kernel
theorem dX5_roomIn_105 : decode cX5_roomIn 105 = .ok (.iload_n 1, 1) := by decide +kernel
theorem dX5_roomIn_106 : decode cX5_roomIn 106 = .ok (.iaload, 1) := by decide +kernel
theorem dX5_roomIn_107 : decode cX5_roomIn 107 = .ok (.aload_n 0, 1) := by decide +kernel
theorem dX5_roomIn_108 : decode cX5_roomIn 108 = .ok (.iload_n 1, 1) := by decide +kernel
theorem dX5_roomIn_109 : decode cX5_roomIn 109 = .ok (.iload 8, 2) := by decide +kernel
theorem dX5_roomIn_111 : decode cX5_roomIn 111 = .ok (.invokevirtual 94, 3) := by decide +kernel
theorem dX5_roomIn_114 : decode cX5_roomIn 114 = .ok (.isub, 1) := by decide +kernel
theorem dX5_roomIn_115 : decode cX5_roomIn 115 = .ok (.iload_n 3, 1) := by decide +kernel
theorem dX5_roomIn_116 : decode cX5_roomIn 116 = .ok (.invokestatic 143, 3) := by decide +kernel
theorem dX5_roomIn_119 : decode cX5_roomIn 119 = .ok (.goto 5, 3) := by decide +kernel
theorem dX5_roomIn_122 : decode cX5_roomIn 122 = .ok (.iload 6, 2) := by decide +kernel
theorem dX5_roomIn_124 : decode cX5_roomIn 124 = .ok (.istore 6, 2) := by decide +kernel
theorem dX5_roomIn_126 : decode cX5_roomIn 126 = .ok (.iinc 8 1, 3) := by decide +kernel
theorem dX5_roomIn_129 : decode cX5_roomIn 129 = .ok (.goto (-46), 3) := by decide +kernel
theorem dX5_roomIn_132 : decode cX5_roomIn 132 = .ok (.iload 6, 2) := by decide +kernel
theorem dX5_roomIn_134 : decode cX5_roomIn 134 = .ok (.ireturn, 1) := by decide +kernel
theorem dX5_roomByCounting_0 : decode cX5_roomByCounting 0 = .ok (.aload_n 0, 1) := by decide +kernel
theorem dX5_roomByCounting_1 : decode cX5_roomByCounting 1 = .ok (.iload_n 1, 1) := by decide +kernel
theorem dX5_roomByCounting_2 : decode cX5_roomByCounting 2 = .ok (.iload_n 2, 1) := by decide +kernel
theorem dX5_roomByCounting_3 : decode cX5_roomByCounting 3 = .ok (.iload_n 3, 1) := by decide +kernel
theorem dX5_roomByCounting_4 : decode cX5_roomByCounting 4 = .ok (.iload 4, 2) := by decide +kernel
theorem dX5_roomByCounting_6 : decode cX5_roomByCounting 6 = .ok (.invokestatic 115, 3) := by decide +kernel
theorem dX5_roomByCounting_9 : decode cX5_roomByCounting 9 = .ok (.ifCond .eq 7, 3) := by decide +kernel
theorem dX5_roomByCounting_12 : decode cX5_roomByCounting 12 = .ok (.iconst 0, 1) := by decide +kernel
theorem dX5_roomByCounting_13 : decode cX5_roomByCounting 13 = .ok (.goto 4, 3) := by decide +kernel
theorem dX5_roomByCounting_16 : decode cX5_roomByCounting 16 = .ok (.iconst 1, 1) := by decide +kernel
theorem dX5_roomByCounting_17 : decode cX5_roomByCounting 17 = .ok (.invokevirtual 84, 3) := by decide +kernel
theorem dX5_roomByCounting_20 : decode cX5_roomByCounting 20 = .ok (.ifCond .ne 5, 3) := by decide +kernel
theorem dX5_roomByCounting_23 : decode cX5_roomByCounting 23 = .ok (.iconst 0, 1) := by decide +kernel
theorem dX5_roomByCounting_24 : decode cX5_roomByCounting 24 = .ok (.ireturn, 1) := by decide +kernel
theorem dX5_roomByCounting_25 : decode cX5_roomByCounting 25 = .ok (.iconst 0, 1) := by decide +kernel
theorem dX5_roomByCounting_26 : decode cX5_roomByCounting 26 = .ok (.istore 5, 2) := by decide +kernel
theorem dX5_roomByCounting_28 : decode cX5_roomByCounting 28 = .ok (.iconst 0, 1) := by decide +kernel
theorem dX5_roomByCounting_29 : decode cX5_roomByCounting 29 = .ok (.istore 6, 2) := by decide +kernel
theorem dX5_roomByCounting_31 : decode cX5_roomByCounting 31 = .ok (.iload 6, 2) := by decide +kernel
theorem dX5_roomByCounting_33 : decode cX5_roomByCounting 33 = .ok (.iconst 4, 1) := by decide +kernel
theorem dX5_roomByCounting_34 : decode cX5_roomByCounting 34 = .ok (.if_icmp .ge 109, 3) := by decide +kernel
theorem dX5_roomByCounting_37 : decode cX5_roomByCounting 37 = .ok (.iconst 0, 1) := by decide +kernel
theorem dX5_roomByCounting_38 : decode cX5_roomByCounting 38 = .ok (.istore 7, 2) := by decide +kernel
theorem dX5_roomByCounting_40 : decode cX5_roomByCounting 40 = .ok (.iconst 0, 1) := by decide +kernel
theorem dX5_roomByCounting_41 : decode cX5_roomByCounting 41 = .ok (.istore 8, 2) := by decide +kernel
theorem dX5_roomByCounting_43 : decode cX5_roomByCounting 43 = .ok (.iload 8, 2) := by decide +kernel
theorem dX5_roomByCounting_45 : decode cX5_roomByCounting 45 = .ok (.aload_n 0, 1) := by decide +kernel
theorem dX5_roomByCounting_46 : decode cX5_roomByCounting 46 = .ok (.getfield 66, 3) := by decide +kernel
theorem dX5_roomByCounting_49 : decode cX5_roomByCounting 49 = .ok (.if_icmp .ge 41, 3) := by decide +kernel
theorem dX5_roomByCounting_52 : decode cX5_roomByCounting 52 = .ok (.iload 7, 2) := by decide +kernel
theorem dX5_roomByCounting_54 : decode cX5_roomByCounting 54 = .ok (.aload_n 0, 1) := by decide +kernel
theorem dX5_roomByCounting_55 : decode cX5_roomByCounting 55 = .ok (.getfield 7, 3) := by decide +kernel
theorem dX5_roomByCounting_58 : decode cX5_roomByCounting 58 = .ok (.iload 8, 2) := by decide +kernel
theorem dX5_roomByCounting_60 : decode cX5_roomByCounting 60 = .ok (.iaload, 1) := by decide +kernel
theorem dX5_roomByCounting_61 : decode cX5_roomByCounting 61 = .ok (.iload 6, 2) := by decide +kernel
theorem dX5_roomByCounting_63 : decode cX5_roomByCounting 63 = .ok (.if_icmp .ne 17, 3) := by decide +kernel
theorem dX5_roomByCounting_66 : decode cX5_roomByCounting 66 = .ok (.aload_n 0, 1) := by decide +kernel
theorem dX5_roomByCounting_67 : decode cX5_roomByCounting 67 = .ok (.iload 8, 2) := by decide +kernel
theorem dX5_roomByCounting_69 : decode cX5_roomByCounting 69 = .ok (.iload_n 1, 1) := by decide +kernel
theorem dX5_roomByCounting_70 : decode cX5_roomByCounting 70 = .ok (.iload_n 2, 1) := by decide +kernel
theorem dX5_roomByCounting_71 : decode cX5_roomByCounting 71 = .ok (.iload_n 3, 1) := by decide +kernel
theorem dX5_roomByCounting_72 : decode cX5_roomByCounting 72 = .ok (.iload 4, 2) := by decide +kernel
theorem dX5_roomByCounting_74 : decode cX5_roomByCounting 74 = .ok (.invokevirtual 147, 3) := by decide +kernel
theorem dX5_roomByCounting_77 : decode cX5_roomByCounting 77 = .ok (.goto 4, 3) := by decide +kernel
theorem dX5_roomByCounting_80 : decode cX5_roomByCounting 80 = .ok (.iconst 0, 1) := by decide +kernel
theorem dX5_roomByCounting_81 : decode cX5_roomByCounting 81 = .ok (.iadd, 1) := by decide +kernel
theorem dX5_roomByCounting_82 : decode cX5_roomByCounting 82 = .ok (.istore 7, 2) := by decide +kernel
theorem dX5_roomByCounting_84 : decode cX5_roomByCounting 84 = .ok (.iinc 8 1, 3) := by decide +kernel
theorem dX5_roomByCounting_87 : decode cX5_roomByCounting 87 = .ok (.goto (-44), 3) := by decide +kernel
theorem dX5_roomByCounting_90 : decode cX5_roomByCounting 90 = .ok (.iload 7, 2) := by decide +kernel
theorem dX5_roomByCounting_92 : decode cX5_roomByCounting 92 = .ok (.aload_n 0, 1) := by decide +kernel
theorem dX5_roomByCounting_93 : decode cX5_roomByCounting 93 = .ok (.getfield 25, 3) := by decide +kernel
theorem dX5_roomByCounting_96 : decode cX5_roomByCounting 96 = .ok (.iload 6, 2) := by decide +kernel
theorem dX5_roomByCounting_98 : decode cX5_roomByCounting 98 = .ok (.iaload, 1) := by decide +kernel
theorem dX5_roomByCounting_99 : decode cX5_roomByCounting 99 = .ok (.aload_n 0, 1) := by decide +kernel
theorem dX5_roomByCounting_100 : decode cX5_roomByCounting 100 = .ok (.iload 6, 2) := by decide +kernel
theorem dX5_roomByCounting_102 : decode cX5_roomByCounting 102 = .ok (.invokevirtual 91, 3) := by decide +kernel
theorem dX5_roomByCounting_105 : decode cX5_roomByCounting 105 = .ok (.isub, 1) := by decide +kernel
theorem dX5_roomByCounting_106 : decode cX5_roomByCounting 106 = .ok (.iload_n 3, 1) := by decide +kernel
theorem dX5_roomByCounting_107 : decode cX5_roomByCounting 107 = .ok (.invokestatic 143, 3) := by decide +kernel
theorem dX5_roomByCounting_110 : decode cX5_roomByCounting 110 = .ok (.istore 7, 2) := by decide +kernel
theorem dX5_roomByCounting_112 : decode cX5_roomByCounting 112 = .ok (.iload 5, 2) := by decide +kernel
theorem dX5_roomByCounting_114 : decode cX5_roomByCounting 114 = .ok (.iload 7, 2) := by decide +kernel
theorem dX5_roomByCounting_116 : decode cX5_roomByCounting 116 = .ok (.aload_n 0, 1) := by decide +kernel
theorem dX5_roomByCounting_117 : decode cX5_roomByCounting 117 = .ok (.getfield 22, 3) := by decide +kernel
theorem dX5_roomByCounting_120 : decode cX5_roomByCounting 120 = .ok (.iload 6, 2) := by decide +kernel
theorem dX5_roomByCounting_122 : decode cX5_roomByCounting 122 = .ok (.iaload, 1) := by decide +kernel
theorem dX5_roomByCounting_123 : decode cX5_roomByCounting 123 = .ok (.aload_n 0, 1) := by decide +kernel
theorem dX5_roomByCounting_124 : decode cX5_roomByCounting 124 = .ok (.iload 6, 2) := by decide +kernel
theorem dX5_roomByCounting_126 : decode cX5_roomByCounting 126 = .ok (.invokevirtual 88, 3) := by decide +kernel
theorem dX5_roomByCounting_129 : decode cX5_roomByCounting 129 = .ok (.isub, 1) := by decide +kernel
theorem dX5_roomByCounting_130 : decode cX5_roomByCounting 130 = .ok (.iload_n 2, 1) := by decide +kernel
theorem dX5_roomByCounting_131 : decode cX5_roomByCounting 131 = .ok (.invokestatic 143, 3) := by decide +kernel
theorem dX5_roomByCounting_134 : decode cX5_roomByCounting 134 = .ok (.iadd, 1) := by decide +kernel
theorem dX5_roomByCounting_135 : decode cX5_roomByCounting 135 = .ok (.istore 5, 2) := by decide +kernel
theorem dX5_roomByCounting_137 : decode cX5_roomByCounting 137 = .ok (.iinc 6 1, 3) := by decide +kernel
theorem dX5_roomByCounting_140 : decode cX5_roomByCounting 140 = .ok (.goto (-109), 3) := by decide +kernel
theorem dX5_roomByCounting_143 : decode cX5_roomByCounting 143 = .ok (.iconst 0, 1) := by decide +kernel
theorem dX5_roomByCounting_144 : decode cX5_roomByCounting 144 = .ok (.istore 6, 2) := by decide +kernel
theorem dX5_roomByCounting_146 : decode cX5_roomByCounting 146 = .ok (.iload 6, 2) := by decide +kernel
theorem dX5_roomByCounting_148 : decode cX5_roomByCounting 148 = .ok (.iconst 2, 1) := by decide +kernel
theorem dX5_roomByCounting_149 : decode cX5_roomByCounting 149 = .ok (.if_icmp .ge 47, 3) := by decide +kernel
theorem dX5_roomByCounting_152 : decode cX5_roomByCounting 152 = .ok (.iload 4, 2) := by decide +kernel
theorem dX5_roomByCounting_154 : decode cX5_roomByCounting 154 = .ok (.iload 6, 2) := by decide +kernel
theorem dX5_roomByCounting_156 : decode cX5_roomByCounting 156 = .ok (.invokestatic 76, 3) := by decide +kernel
theorem dX5_roomByCounting_159 : decode cX5_roomByCounting 159 = .ok (.ifCond .eq 27, 3) := by decide +kernel
theorem dX5_roomByCounting_162 : decode cX5_roomByCounting 162 = .ok (.iload 5, 2) := by decide +kernel
theorem dX5_roomByCounting_164 : decode cX5_roomByCounting 164 = .ok (.aload_n 0, 1) := by decide +kernel
theorem dX5_roomByCounting_165 : decode cX5_roomByCounting 165 = .ok (.getfield 28, 3) := by decide +kernel
theorem dX5_roomByCounting_168 : decode cX5_roomByCounting 168 = .ok (.iload 6, 2) := by decide +kernel
theorem dX5_roomByCounting_170 : decode cX5_roomByCounting 170 = .ok (.iaload, 1) := by decide +kernel
theorem dX5_roomByCounting_171 : decode cX5_roomByCounting 171 = .ok (.aload_n 0, 1) := by decide +kernel
theorem dX5_roomByCounting_172 : decode cX5_roomByCounting 172 = .ok (.iconst (-1), 1) := by decide +kernel
theorem dX5_roomByCounting_173 : decode cX5_roomByCounting 173 = .ok (.iload 6, 2) := by decide +kernel
theorem dX5_roomByCounting_175 : decode cX5_roomByCounting 175 = .ok (.invokevirtual 94, 3) := by decide +kernel
theorem dX5_roomByCounting_178 : decode cX5_roomByCounting 178 = .ok (.isub, 1) := by decide +kernel
theorem dX5_roomByCounting_179 : decode cX5_roomByCounting 179 = .ok (.iload_n 2, 1) := by decide +kernel
theorem dX5_roomByCounting_180 : decode cX5_roomByCounting 180 = .ok (.invokestatic 143, 3) := by decide +kernel
theorem dX5_roomByCounting_183 : decode cX5_roomByCounting 183 = .ok (.goto 5, 3) := by decide +kernel
theorem dX5_roomByCounting_186 : decode cX5_roomByCounting 186 = .ok (.iload 5, 2) := by decide +kernel
theorem dX5_roomByCounting_188 : decode cX5_roomByCounting 188 = .ok (.istore 5, 2) := by decide +kernel
theorem dX5_roomByCounting_190 : decode cX5_roomByCounting 190 = .ok (.iinc 6 1, 3) := by decide +kernel
theorem dX5_roomByCounting_193 : decode cX5_roomByCounting 193 = .ok (.goto (-47), 3) := by decide +kernel
theorem dX5_roomByCounting_196 : decode cX5_roomByCounting 196 = .ok (.iload 5, 2) := by decide +kernel
theorem dX5_roomByCounting_198 : decode cX5_roomByCounting 198 = .ok (.ireturn, 1) := by decide +kernel
theorem dX5_roomFor_0 : decode cX5_roomFor 0 = .ok (.aload_n 0, 1) := by decide +kernel
theorem dX5_roomFor_1 : decode cX5_roomFor 1 = .ok (.iload_n 1, 1) := by decide +kernel
theorem dX5_roomFor_2 : decode cX5_roomFor 2 = .ok (.iload_n 2, 1) := by decide +kernel
theorem dX5_roomFor_3 : decode cX5_roomFor 3 = .ok (.iload_n 3, 1) := by decide +kernel
theorem dX5_roomFor_4 : decode cX5_roomFor 4 = .ok (.iload 4, 2) := by decide +kernel
theorem dX5_roomFor_6 : decode cX5_roomFor 6 = .ok (.invokevirtual 150, 3) := by decide +kernel
theorem dX5_roomFor_9 : decode cX5_roomFor 9 = .ok (.ireturn, 1) := by decide +kernel
