theorem dX5_init_0 : decode cX5_init 0 = .ok (.aload_n 0, 1) := by decide +kernel
theorem dX5_init_1 : decode cX5_init 1 = .ok (.invokespecial 1, 3) := by decide +kernel
theorem dX5_init_4 : decode cX5_init 4 = .ok (.aload_n 0, 1) := by decide +kernel
theorem dX5_init_5 : decode cX5_init 5 = .ok (.bipush 6, 2) := by decide +kernel
theorem dX5_init_7 : decode cX5_init 7 = .ok (.newarray .int, 2) := by decide +kernel
theorem dX5_init_9 : decode cX5_init 9 = .ok (.putfield 7, 3) := by decide +kernel
theorem dX5_init_12 : decode cX5_init 12 = .ok (.aload_n 0, 1) := by decide +kernel
theorem dX5_init_13 : decode cX5_init 13 = .ok (.sipush 240, 3) := by decide +kernel
theorem dX5_init_16 : decode cX5_init 16 = .ok (.newarray .int, 2) := by decide +kernel
theorem dX5_init_18 : decode cX5_init 18 = .ok (.putfield 13, 3) := by decide +kernel
theorem dX5_init_21 : decode cX5_init 21 = .ok (.aload_n 0, 1) := by decide +kernel
theorem dX5_init_22 : decode cX5_init 22 = .ok (.iconst 4, 1) := by decide +kernel
theorem dX5_init_23 : decode cX5_init 23 = .ok (.newarray .int, 2) := by decide +kernel
theorem dX5_init_25 : decode cX5_init 25 = .ok (.putfield 16, 3) := by decide +kernel
theorem dX5_init_28 : decode cX5_init 28 = .ok (.aload_n 0, 1) := by decide +kernel
theorem dX5_init_29 : decode cX5_init 29 = .ok (.sipush 240, 3) := by decide +kernel
theorem dX5_init_32 : decode cX5_init 32 = .ok (.newarray .int, 2) := by decide +kernel
theorem dX5_init_34 : decode cX5_init 34 = .ok (.putfield 19, 3) := by decide +kernel
theorem dX5_init_37 : decode cX5_init 37 = .ok (.aload_n 0, 1) := by decide +kernel
theorem dX5_init_38 : decode cX5_init 38 = .ok (.bipush 40, 2) := by decide +kernel
theorem dX5_init_40 : decode cX5_init 40 = .ok (.newarray .int, 2) := by decide +kernel
theorem dX5_init_42 : decode cX5_init 42 = .ok (.putfield 22, 3) := by decide +kernel
theorem dX5_init_45 : decode cX5_init 45 = .ok (.aload_n 0, 1) := by decide +kernel
theorem dX5_init_46 : decode cX5_init 46 = .ok (.bipush 35, 2) := by decide +kernel
theorem dX5_init_48 : decode cX5_init 48 = .ok (.newarray .int, 2) := by decide +kernel
theorem dX5_init_50 : decode cX5_init 50 = .ok (.putfield 25, 3) := by decide +kernel
theorem dX5_init_53 : decode cX5_init 53 = .ok (.aload_n 0, 1) := by decide +kernel
theorem dX5_init_54 : decode cX5_init 54 = .ok (.bipush 35, 2) := by decide +kernel
theorem dX5_init_56 : decode cX5_init 56 = .ok (.newarray .int, 2) := by decide +kernel
theorem dX5_init_58 : decode cX5_init 58 = .ok (.putfield 28, 3) := by decide +kernel
theorem dX5_init_61 : decode cX5_init 61 = .ok (.aload_n 0, 1) := by decide +kernel
theorem dX5_init_62 : decode cX5_init 62 = .ok (.bipush 35, 2) := by decide +kernel
theorem dX5_init_64 : decode cX5_init 64 = .ok (.newarray .int, 2) := by decide +kernel
theorem dX5_init_66 : decode cX5_init 66 = .ok (.putfield 31, 3) := by decide +kernel
theorem dX5_init_69 : decode cX5_init 69 = .ok (.aload_n 0, 1) := by decide +kernel
theorem dX5_init_70 : decode cX5_init 70 = .ok (.sipush 1400, 3) := by decide +kernel
theorem dX5_init_73 : decode cX5_init 73 = .ok (.newarray .int, 2) := by decide +kernel
theorem dX5_init_75 : decode cX5_init 75 = .ok (.putfield 34, 3) := by decide +kernel
theorem dX5_init_78 : decode cX5_init 78 = .ok (.aload_n 0, 1) := by decide +kernel
theorem dX5_init_79 : decode cX5_init 79 = .ok (.bipush 105, 2) := by decide +kernel
theorem dX5_init_81 : decode cX5_init 81 = .ok (.newarray .int, 2) := by decide +kernel
theorem dX5_init_83 : decode cX5_init 83 = .ok (.putfield 37, 3) := by decide +kernel
theorem dX5_init_86 : decode cX5_init 86 = .ok (.aload_n 0, 1) := by decide +kernel
theorem dX5_init_87 : decode cX5_init 87 = .ok (.sipush 4200, 3) := by decide +kernel
theorem dX5_init_90 : decode cX5_init 90 = .ok (.newarray .int, 2) := by decide +kernel
theorem dX5_init_92 : decode cX5_init 92 = .ok (.putfield 40, 3) := by decide +kernel
theorem dX5_init_95 : decode cX5_init 95 = .ok (.aload_n 0, 1) := by decide +kernel
theorem dX5_init_96 : decode cX5_init 96 = .ok (.iconst 3, 1) := by decide +kernel
theorem dX5_init_97 : decode cX5_init 97 = .ok (.newarray .int, 2) := by decide +kernel
theorem dX5_init_99 : decode cX5_init 99 = .ok (.putfield 43, 3) := by decide +kernel
theorem dX5_init_102 : decode cX5_init 102 = .ok (.aload_n 0, 1) := by decide +kernel
theorem dX5_init_103 : decode cX5_init 103 = .ok (.bipush 6, 2) := by decide +kernel
theorem dX5_init_105 : decode cX5_init 105 = .ok (.newarray .int, 2) := by decide +kernel
theorem dX5_init_107 : decode cX5_init 107 = .ok (.putfield 46, 3) := by decide +kernel
theorem dX5_init_110 : decode cX5_init 110 = .ok (.aload_n 0, 1) := by decide +kernel
theorem dX5_init_111 : decode cX5_init 111 = .ok (.lconst 1, 1) := by decide +kernel
theorem dX5_init_112 : decode cX5_init 112 = .ok (.putfield 49, 3) := by decide +kernel
theorem dX5_init_115 : decode cX5_init 115 = .ok (.aload_n 0, 1) := by decide +kernel
theorem dX5_init_116 : decode cX5_init 116 = .ok (.sipush 2401, 3) := by decide +kernel
theorem dX5_init_119 : decode cX5_init 119 = .ok (.newarray .int, 2) := by decide +kernel
theorem dX5_init_121 : decode cX5_init 121 = .ok (.putfield 53, 3) := by decide +kernel
theorem dX5_init_124 : decode cX5_init 124 = .ok (.iconst 0, 1) := by decide +kernel
theorem dX5_init_125 : decode cX5_init 125 = .ok (.istore_n 1, 1) := by decide +kernel
theorem dX5_init_126 : decode cX5_init 126 = .ok (.iload_n 1, 1) := by decide +kernel
theorem dX5_init_127 : decode cX5_init 127 = .ok (.bipush 6, 2) := by decide +kernel
theorem dX5_init_129 : decode cX5_init 129 = .ok (.if_icmp .ge 17, 3) := by decide +kernel
theorem dX5_init_132 : decode cX5_init 132 = .ok (.aload_n 0, 1) := by decide +kernel
theorem dX5_init_133 : decode cX5_init 133 = .ok (.getfield 7, 3) := by decide +kernel
theorem dX5_init_136 : decode cX5_init 136 = .ok (.iload_n 1, 1) := by decide +kernel
theorem dX5_init_137 : decode cX5_init 137 = .ok (.bipush (-9), 2) := by decide +kernel
theorem dX5_init_139 : decode cX5_init 139 = .ok (.iastore, 1) := by decide +kernel
theorem dX5_init_140 : decode cX5_init 140 = .ok (.iinc 1 1, 3) := by decide +kernel
theorem dX5_init_143 : decode cX5_init 143 = .ok (.goto (-17), 3) := by decide +kernel
theorem dX5_init_146 : decode cX5_init 146 = .ok (.iconst 0, 1) := by decide +kernel
theorem dX5_init_147 : decode cX5_init 147 = .ok (.istore_n 1, 1) := by decide +kernel
theorem dX5_init_148 : decode cX5_init 148 = .ok (.iload_n 1, 1) := by decide +kernel
theorem dX5_init_149 : decode cX5_init 149 = .ok (.iconst 4, 1) := by decide +kernel
theorem dX5_init_150 : decode cX5_init 150 = .ok (.if_icmp .ge 17, 3) := by decide +kernel
theorem dX5_init_153 : decode cX5_init 153 = .ok (.aload_n 0, 1) := by decide +kernel
theorem dX5_init_154 : decode cX5_init 154 = .ok (.getfield 16, 3) := by decide +kernel
theorem dX5_init_157 : decode cX5_init 157 = .ok (.iload_n 1, 1) := by decide +kernel
theorem dX5_init_158 : decode cX5_init 158 = .ok (.bipush (-9), 2) := by decide +kernel
theorem dX5_init_160 : decode cX5_init 160 = .ok (.iastore, 1) := by decide +kernel
theorem dX5_init_161 : decode cX5_init 161 = .ok (.iinc 1 1, 3) := by decide +kernel
theorem dX5_init_164 : decode cX5_init 164 = .ok (.goto (-16), 3) := by decide +kernel
theorem dX5_init_167 : decode cX5_init 167 = .ok (.iconst 0, 1) := by decide +kernel
theorem dX5_init_168 : decode cX5_init 168 = .ok (.istore_n 1, 1) := by decide +kernel
theorem dX5_init_169 : decode cX5_init 169 = .ok (.iload_n 1, 1) := by decide +kernel
theorem dX5_init_170 : decode cX5_init 170 = .ok (.iconst 3, 1) := by decide +kernel
theorem dX5_init_171 : decode cX5_init 171 = .ok (.if_icmp .ge 17, 3) := by decide +kernel
theorem dX5_init_174 : decode cX5_init 174 = .ok (.aload_n 0, 1) := by decide +kernel
theorem dX5_init_175 : decode cX5_init 175 = .ok (.getfield 43, 3) := by decide +kernel
theorem dX5_init_178 : decode cX5_init 178 = .ok (.iload_n 1, 1) := by decide +kernel
theorem dX5_init_179 : decode cX5_init 179 = .ok (.bipush (-9), 2) := by decide +kernel
theorem dX5_init_181 : decode cX5_init 181 = .ok (.iastore, 1) := by decide +kernel
theorem dX5_init_182 : decode cX5_init 182 = .ok (.iinc 1 1, 3) := by decide +kernel
theorem dX5_init_185 : decode cX5_init 185 = .ok (.goto (-16), 3) := by decide +kernel
theorem dX5_init_188 : decode cX5_init 188 = .ok (.return_, 1) := by decide +kernel
theorem dX5_in0_0 : decode cX5_in0 0 = .ok (.iload_n 0, 1) := by decide +kernel
theorem dX5_in0_1 : decode cX5_in0 1 = .ok (.iload_n 1, 1) := by decide +kernel
theorem dX5_in0_2 : decode cX5_in0 2 = .ok (.if_icmp .lt 12, 3) := by decide +kernel
theorem dX5_in0_5 : decode cX5_in0 5 = .ok (.iload_n 0, 1) := by decide +kernel
theorem dX5_in0_6 : decode cX5_in0 6 = .ok (.iload_n 2, 1) := by decide +kernel
theorem dX5_in0_7 : decode cX5_in0 7 = .ok (.if_icmp .gt 7, 3) := by decide +kernel
theorem dX5_in0_10 : decode cX5_in0 10 = .ok (.iconst 1, 1) := by decide +kernel
theorem dX5_in0_11 : decode cX5_in0 11 = .ok (.goto 4, 3) := by decide +kernel
theorem dX5_in0_14 : decode cX5_in0 14 = .ok (.iconst 0, 1) := by decide +kernel
theorem dX5_in0_15 : decode cX5_in0 15 = .ok (.ireturn, 1) := by decide +kernel
theorem dX5_has_0 : decode cX5_has 0 = .ok (.iload_n 0, 1) := by decide +kernel
theorem dX5_has_1 : decode cX5_has 1 = .ok (.iload_n 1, 1) := by decide +kernel
theorem dX5_has_2 : decode cX5_has 2 = .ok (.ishr, 1) := by decide +kernel
theorem dX5_has_3 : decode cX5_has 3 = .ok (.iconst 1, 1) := by decide +kernel
theorem dX5_has_4 : decode cX5_has 4 = .ok (.iand, 1) := by decide +kernel
theorem dX5_has_5 : decode cX5_has 5 = .ok (.iconst 1, 1) := by decide +kernel
theorem dX5_has_6 : decode cX5_has 6 = .ok (.if_icmp .ne 7, 3) := by decide +kernel
theorem dX5_has_9 : decode cX5_has 9 = .ok (.iconst 1, 1) := by decide +kernel
theorem dX5_has_10 : decode cX5_has 10 = .ok (.goto 4, 3) := by decide +kernel
theorem dX5_has_13 : decode cX5_has 13 = .ok (.iconst 0, 1) := by decide +kernel
theorem dX5_has_14 : decode cX5_has 14 = .ok (.ireturn, 1) := by decide +kernel
theorem dX5_ones_0 : decode cX5_ones 0 = .ok (.iconst 0, 1) := by decide +kernel
theorem dX5_ones_1 : decode cX5_ones 1 = .ok (.istore_n 1, 1) := by decide +kernel
theorem dX5_ones_2 : decode cX5_ones 2 = .ok (.iconst 0, 1) := by decide +kernel
theorem dX5_ones_3 : decode cX5_ones 3 = .ok (.istore_n 2, 1) := by decide +kernel
theorem dX5_ones_4 : decode cX5_ones 4 = .ok (.iload_n 2, 1) := by decide +kernel
theorem dX5_ones_5 : decode cX5_ones 5 = .ok (.bipush 16, 2) := by decide +kernel
theorem dX5_ones_7 : decode cX5_ones 7 = .ok (.if_icmp .ge 17, 3) := by decide +kernel
theorem dX5_ones_10 : decode cX5_ones 10 = .ok (.iload_n 1, 1) := by decide +kernel
theorem dX5_ones_11 : decode cX5_ones 11 = .ok (.iload_n 0, 1) := by decide +kernel
theorem dX5_ones_12 : decode cX5_ones 12 = .ok (.iload_n 2, 1) := by decide +kernel
theorem dX5_ones_13 : decode cX5_ones 13 = .ok (.ishr, 1) := by decide +kernel
theorem dX5_ones_14 : decode cX5_ones 14 = .ok (.iconst 1, 1) := by decide +kernel
theorem dX5_ones_15 : decode cX5_ones 15 = .ok (.iand, 1) := by decide +kernel
theorem dX5_ones_16 : decode cX5_ones 16 = .ok (.iadd, 1) := by decide +kernel
theorem dX5_ones_17 : decode cX5_ones 17 = .ok (.istore_n 1, 1) := by decide +kernel
theorem dX5_ones_18 : decode cX5_ones 18 = .ok (.iinc 2 1, 3) := by decide +kernel
theorem dX5_ones_21 : decode cX5_ones 21 = .ok (.goto (-17), 3) := by decide +kernel
theorem dX5_ones_24 : decode cX5_ones 24 = .ok (.iload_n 1, 1) := by decide +kernel
theorem dX5_ones_25 : decode cX5_ones 25 = .ok (.ireturn, 1) := by decide +kernel
theorem dX5_found0_0 : decode cX5_found0 0 = .ok (.aload_n 0, 1) := by decide +kernel
theorem dX5_found0_1 : decode cX5_found0 1 = .ok (.iload_n 1, 1) := by decide +kernel
theorem dX5_found0_2 : decode cX5_found0 2 = .ok (.putfield 56, 3) := by decide +kernel
theorem dX5_found0_5 : decode cX5_found0 5 = .ok (.aload_n 0, 1) := by decide +kernel
theorem dX5_found0_6 : decode cX5_found0 6 = .ok (.getfield 46, 3) := by decide +kernel
theorem dX5_found0_9 : decode cX5_found0 9 = .ok (.iload_n 1, 1) := by decide +kernel
theorem dX5_found0_10 : decode cX5_found0 10 = .ok (.dup2, 1) := by decide +kernel
theorem dX5_found0_11 : decode cX5_found0 11 = .ok (.iaload, 1) := by decide +kernel
theorem dX5_found0_12 : decode cX5_found0 12 = .ok (.iconst 1, 1) := by decide +kernel
theorem dX5_found0_13 : decode cX5_found0 13 = .ok (.iadd, 1) := by decide +kernel
theorem dX5_found0_14 : decode cX5_found0 14 = .ok (.iastore, 1) := by decide +kernel
theorem dX5_found0_15 : decode cX5_found0 15 = .ok (.bipush (-3), 2) := by decide +kernel
theorem dX5_found0_17 : decode cX5_found0 17 = .ok (.ireturn, 1) := by decide +kernel
theorem dX5_tells_0 : decode cX5_tells 0 = .ok (.aload_n 0, 1) := by decide +kernel
theorem dX5_tells_1 : decode cX5_tells 1 = .ok (.iload_n 1, 1) := by decide +kernel
theorem dX5_tells_2 : decode cX5_tells 2 = .ok (.putfield 60, 3) := by decide +kernel
theorem dX5_tells_5 : decode cX5_tells 5 = .ok (.iconst 1, 1) := by decide +kernel
theorem dX5_tells_6 : decode cX5_tells 6 = .ok (.ireturn, 1) := by decide +kernel
theorem dX5_isRow_0 : decode cX5_isRow 0 = .ok (.iload_n 0, 1) := by decide +kernel
theorem dX5_isRow_1 : decode cX5_isRow 1 = .ok (.iconst 0, 1) := by decide +kernel
theorem dX5_isRow_2 : decode cX5_isRow 2 = .ok (.iconst 5, 1) := by decide +kernel
theorem dX5_isRow_3 : decode cX5_isRow 3 = .ok (.invokestatic 63, 3) := by decide +kernel
theorem dX5_isRow_6 : decode cX5_isRow 6 = .ok (.ireturn, 1) := by decide +kernel
theorem dX5_isText_0 : decode cX5_isText 0 = .ok (.iload_n 0, 1) := by decide +kernel
theorem dX5_isText_1 : decode cX5_isText 1 = .ok (.iconst 0, 1) := by decide +kernel
theorem dX5_isText_2 : decode cX5_isText 2 = .ok (.iconst 3, 1) := by decide +kernel
theorem dX5_isText_3 : decode cX5_isText 3 = .ok (.invokestatic 63, 3) := by decide +kernel
theorem dX5_isText_6 : decode cX5_isText 6 = .ok (.ireturn, 1) := by decide +kernel
theorem dX5_row_0 : decode cX5_row 0 = .ok (.iload_n 1, 1) := by decide +kernel
theorem dX5_row_1 : decode cX5_row 1 = .ok (.invokestatic 67, 3) := by decide +kernel
theorem dX5_row_4 : decode cX5_row 4 = .ok (.ifCond .eq 9, 3) := by decide +kernel
theorem dX5_row_7 : decode cX5_row 7 = .ok (.iload_n 2, 1) := by decide +kernel
theorem dX5_row_8 : decode cX5_row 8 = .ok (.bipush 40, 2) := by decide +kernel
theorem dX5_row_10 : decode cX5_row 10 = .ok (.if_icmp .le 5, 3) := by decide +kernel
theorem dX5_row_13 : decode cX5_row 13 = .ok (.iconst (-1), 1) := by decide +kernel
theorem dX5_row_14 : decode cX5_row 14 = .ok (.ireturn, 1) := by decide +kernel
theorem dX5_row_15 : decode cX5_row 15 = .ok (.iload_n 2, 1) := by decide +kernel
theorem dX5_row_16 : decode cX5_row 16 = .ok (.ifCond .ge 9, 3) := by decide +kernel
theorem dX5_row_19 : decode cX5_row 19 = .ok (.aload_n 0, 1) := by decide +kernel
theorem dX5_row_20 : decode cX5_row 20 = .ok (.iconst 5, 1) := by decide +kernel
theorem dX5_row_21 : decode cX5_row 21 = .ok (.invokevirtual 71, 3) := by decide +kernel
theorem dX5_row_24 : decode cX5_row 24 = .ok (.ireturn, 1) := by decide +kernel
theorem dX5_row_25 : decode cX5_row 25 = .ok (.aload_n 0, 1) := by decide +kernel
theorem dX5_row_26 : decode cX5_row 26 = .ok (.getfield 7, 3) := by decide +kernel
theorem dX5_row_29 : decode cX5_row 29 = .ok (.iload_n 1, 1) := by decide +kernel
theorem dX5_row_30 : decode cX5_row 30 = .ok (.iload_n 2, 1) := by decide +kernel
theorem dX5_row_31 : decode cX5_row 31 = .ok (.iastore, 1) := by decide +kernel
theorem dX5_row_32 : decode cX5_row 32 = .ok (.iconst 0, 1) := by decide +kernel
theorem dX5_row_33 : decode cX5_row 33 = .ok (.istore_n 3, 1) := by decide +kernel
theorem dX5_row_34 : decode cX5_row 34 = .ok (.iload_n 3, 1) := by decide +kernel
theorem dX5_row_35 : decode cX5_row 35 = .ok (.bipush 40, 2) := by decide +kernel
theorem dX5_row_37 : decode cX5_row 37 = .ok (.if_icmp .ge 21, 3) := by decide +kernel
theorem dX5_row_40 : decode cX5_row 40 = .ok (.aload_n 0, 1) := by decide +kernel
theorem dX5_row_41 : decode cX5_row 41 = .ok (.getfield 13, 3) := by decide +kernel
theorem dX5_row_44 : decode cX5_row 44 = .ok (.bipush 40, 2) := by decide +kernel
theorem dX5_row_46 : decode cX5_row 46 = .ok (.iload_n 1, 1) := by decide +kernel
theorem dX5_row_47 : decode cX5_row 47 = .ok (.imul, 1) := by decide +kernel
theorem dX5_row_48 : decode cX5_row 48 = .ok (.iload_n 3, 1) := by decide +kernel
theorem dX5_row_49 : decode cX5_row 49 = .ok (.iadd, 1) := by decide +kernel
theorem dX5_row_50 : decode cX5_row 50 = .ok (.iconst 0, 1) := by decide +kernel
theorem dX5_row_51 : decode cX5_row 51 = .ok (.iastore, 1) := by decide +kernel
theorem dX5_row_52 : decode cX5_row 52 = .ok (.iinc 3 1, 3) := by decide +kernel
theorem dX5_row_55 : decode cX5_row 55 = .ok (.goto (-21), 3) := by decide +kernel
theorem dX5_row_58 : decode cX5_row 58 = .ok (.iload_n 2, 1) := by decide +kernel
theorem dX5_row_59 : decode cX5_row 59 = .ok (.ireturn, 1) := by decide +kernel
theorem dX5_lay_0 : decode cX5_lay 0 = .ok (.iload_n 1, 1) := by decide +kernel
theorem dX5_lay_1 : decode cX5_lay 1 = .ok (.invokestatic 67, 3) := by decide +kernel
theorem dX5_lay_4 : decode cX5_lay 4 = .ok (.ifCond .ne 5, 3) := by decide +kernel
theorem dX5_lay_7 : decode cX5_lay 7 = .ok (.iconst (-1), 1) := by decide +kernel
theorem dX5_lay_8 : decode cX5_lay 8 = .ok (.ireturn, 1) := by decide +kernel
theorem dX5_lay_9 : decode cX5_lay 9 = .ok (.aload_n 0, 1) := by decide +kernel
theorem dX5_lay_10 : decode cX5_lay 10 = .ok (.getfield 7, 3) := by decide +kernel
theorem dX5_lay_13 : decode cX5_lay 13 = .ok (.iload_n 1, 1) := by decide +kernel
theorem dX5_lay_14 : decode cX5_lay 14 = .ok (.iaload, 1) := by decide +kernel
theorem dX5_lay_15 : decode cX5_lay 15 = .ok (.bipush (-9), 2) := by decide +kernel
theorem dX5_lay_17 : decode cX5_lay 17 = .ok (.if_icmp .ne 9, 3) := by decide +kernel
theorem dX5_lay_20 : decode cX5_lay 20 = .ok (.aload_n 0, 1) := by decide +kernel
theorem dX5_lay_21 : decode cX5_lay 21 = .ok (.iconst 1, 1) := by decide +kernel
theorem dX5_lay_22 : decode cX5_lay 22 = .ok (.invokevirtual 71, 3) := by decide +kernel
theorem dX5_lay_25 : decode cX5_lay 25 = .ok (.ireturn, 1) := by decide +kernel
theorem dX5_lay_26 : decode cX5_lay 26 = .ok (.iload_n 2, 1) := by decide +kernel
theorem dX5_lay_27 : decode cX5_lay 27 = .ok (.iconst 0, 1) := by decide +kernel
theorem dX5_lay_28 : decode cX5_lay 28 = .ok (.aload_n 0, 1) := by decide +kernel
theorem dX5_lay_29 : decode cX5_lay 29 = .ok (.getfield 7, 3) := by decide +kernel
theorem dX5_lay_32 : decode cX5_lay 32 = .ok (.iload_n 1, 1) := by decide +kernel
theorem dX5_lay_33 : decode cX5_lay 33 = .ok (.iaload, 1) := by decide +kernel
theorem dX5_lay_34 : decode cX5_lay 34 = .ok (.iconst 1, 1) := by decide +kernel
theorem dX5_lay_35 : decode cX5_lay 35 = .ok (.isub, 1) := by decide +kernel
theorem dX5_lay_36 : decode cX5_lay 36 = .ok (.invokestatic 63, 3) := by decide +kernel
theorem dX5_lay_39 : decode cX5_lay 39 = .ok (.ifCond .ne 9, 3) := by decide +kernel
theorem dX5_lay_42 : decode cX5_lay 42 = .ok (.aload_n 0, 1) := by decide +kernel
theorem dX5_lay_43 : decode cX5_lay 43 = .ok (.iconst 2, 1) := by decide +kernel
theorem dX5_lay_44 : decode cX5_lay 44 = .ok (.invokevirtual 71, 3) := by decide +kernel
theorem dX5_lay_47 : decode cX5_lay 47 = .ok (.ireturn, 1) := by decide +kernel
theorem dX5_lay_48 : decode cX5_lay 48 = .ok (.aload_n 0, 1) := by decide +kernel
theorem dX5_lay_49 : decode cX5_lay 49 = .ok (.getfield 13, 3) := by decide +kernel
theorem dX5_lay_52 : decode cX5_lay 52 = .ok (.bipush 40, 2) := by decide +kernel
theorem dX5_lay_54 : decode cX5_lay 54 = .ok (.iload_n 1, 1) := by decide +kernel
theorem dX5_lay_55 : decode cX5_lay 55 = .ok (.imul, 1) := by decide +kernel
theorem dX5_lay_56 : decode cX5_lay 56 = .ok (.iload_n 2, 1) := by decide +kernel
theorem dX5_lay_57 : decode cX5_lay 57 = .ok (.iadd, 1) := by decide +kernel
theorem dX5_lay_58 : decode cX5_lay 58 = .ok (.iaload, 1) := by decide +kernel
theorem dX5_lay_59 : decode cX5_lay 59 = .ok (.istore 4, 2) := by decide +kernel
theorem dX5_lay_61 : decode cX5_lay 61 = .ok (.aload_n 0, 1) := by decide +kernel
theorem dX5_lay_62 : decode cX5_lay 62 = .ok (.getfield 13, 3) := by decide +kernel
theorem dX5_lay_65 : decode cX5_lay 65 = .ok (.bipush 40, 2) := by decide +kernel
theorem dX5_lay_67 : decode cX5_lay 67 = .ok (.iload_n 1, 1) := by decide +kernel
theorem dX5_lay_68 : decode cX5_lay 68 = .ok (.imul, 1) := by decide +kernel
theorem dX5_lay_69 : decode cX5_lay 69 = .ok (.iload_n 2, 1) := by decide +kernel
theorem dX5_lay_70 : decode cX5_lay 70 = .ok (.iadd, 1) := by decide +kernel
theorem dX5_lay_71 : decode cX5_lay 71 = .ok (.iload_n 3, 1) := by decide +kernel
theorem dX5_lay_72 : decode cX5_lay 72 = .ok (.iastore, 1) := by decide +kernel
theorem dX5_lay_73 : decode cX5_lay 73 = .ok (.aload_n 0, 1) := by decide +kernel
theorem dX5_lay_74 : decode cX5_lay 74 = .ok (.iload 4, 2) := by decide +kernel
theorem dX5_lay_76 : decode cX5_lay 76 = .ok (.invokevirtual 75, 3) := by decide +kernel
theorem dX5_lay_79 : decode cX5_lay 79 = .ok (.ireturn, 1) := by decide +kernel
theorem dX5_at_0 : decode cX5_at 0 = .ok (.iload_n 1, 1) := by decide +kernel
theorem dX5_at_1 : decode cX5_at 1 = .ok (.invokestatic 67, 3) := by decide +kernel
theorem dX5_at_4 : decode cX5_at 4 = .ok (.ifCond .ne 5, 3) := by decide +kernel
theorem dX5_at_7 : decode cX5_at 7 = .ok (.iconst (-1), 1) := by decide +kernel
theorem dX5_at_8 : decode cX5_at 8 = .ok (.ireturn, 1) := by decide +kernel
theorem dX5_at_9 : decode cX5_at 9 = .ok (.aload_n 0, 1) := by decide +kernel
theorem dX5_at_10 : decode cX5_at 10 = .ok (.getfield 7, 3) := by decide +kernel
theorem dX5_at_13 : decode cX5_at 13 = .ok (.iload_n 1, 1) := by decide +kernel
theorem dX5_at_14 : decode cX5_at 14 = .ok (.iaload, 1) := by decide +kernel
theorem dX5_at_15 : decode cX5_at 15 = .ok (.bipush (-9), 2) := by decide +kernel
theorem dX5_at_17 : decode cX5_at 17 = .ok (.if_icmp .ne 9, 3) := by decide +kernel
theorem dX5_at_20 : decode cX5_at 20 = .ok (.aload_n 0, 1) := by decide +kernel
theorem dX5_at_21 : decode cX5_at 21 = .ok (.iconst 1, 1) := by decide +kernel
theorem dX5_at_22 : decode cX5_at 22 = .ok (.invokevirtual 71, 3) := by decide +kernel
theorem dX5_at_25 : decode cX5_at 25 = .ok (.ireturn, 1) := by decide +kernel
theorem dX5_at_26 : decode cX5_at 26 = .ok (.iload_n 2, 1) := by decide +kernel
theorem dX5_at_27 : decode cX5_at 27 = .ok (.iconst 0, 1) := by decide +kernel
theorem dX5_at_28 : decode cX5_at 28 = .ok (.aload_n 0, 1) := by decide +kernel
theorem dX5_at_29 : decode cX5_at 29 = .ok (.getfield 7, 3) := by decide +kernel
theorem dX5_at_32 : decode cX5_at 32 = .ok (.iload_n 1, 1) := by decide +kernel
theorem dX5_at_33 : decode cX5_at 33 = .ok (.iaload, 1) := by decide +kernel
theorem dX5_at_34 : decode cX5_at 34 = .ok (.iconst 1, 1) := by decide +kernel
theorem dX5_at_35 : decode cX5_at 35 = .ok (.isub, 1) := by decide +kernel
theorem dX5_at_36 : decode cX5_at 36 = .ok (.invokestatic 63, 3) := by decide +kernel
theorem dX5_at_39 : decode cX5_at 39 = .ok (.ifCond .ne 9, 3) := by decide +kernel
theorem dX5_at_42 : decode cX5_at 42 = .ok (.aload_n 0, 1) := by decide +kernel
theorem dX5_at_43 : decode cX5_at 43 = .ok (.iconst 2, 1) := by decide +kernel
theorem dX5_at_44 : decode cX5_at 44 = .ok (.invokevirtual 71, 3) := by decide +kernel
theorem dX5_at_47 : decode cX5_at 47 = .ok (.ireturn, 1) := by decide +kernel
theorem dX5_at_48 : decode cX5_at 48 = .ok (.aload_n 0, 1) := by decide +kernel
theorem dX5_at_49 : decode cX5_at 49 = .ok (.aload_n 0, 1) := by decide +kernel
theorem dX5_at_50 : decode cX5_at 50 = .ok (.getfield 13, 3) := by decide +kernel
theorem dX5_at_53 : decode cX5_at 53 = .ok (.bipush 40, 2) := by decide +kernel
theorem dX5_at_55 : decode cX5_at 55 = .ok (.iload_n 1, 1) := by decide +kernel
theorem dX5_at_56 : decode cX5_at 56 = .ok (.imul, 1) := by decide +kernel
theorem dX5_at_57 : decode cX5_at 57 = .ok (.iload_n 2, 1) := by decide +kernel
theorem dX5_at_58 : decode cX5_at 58 = .ok (.iadd, 1) := by decide +kernel
theorem dX5_at_59 : decode cX5_at 59 = .ok (.iaload, 1) := by decide +kernel
theorem dX5_at_60 : decode cX5_at 60 = .ok (.invokevirtual 75, 3) := by decide +kernel
theorem dX5_at_63 : decode cX5_at 63 = .ok (.ireturn, 1) := by decide +kernel
theorem dX5_tear_0 : decode cX5_tear 0 = .ok (.iload_n 1, 1) := by decide +kernel
theorem dX5_tear_1 : decode cX5_tear 1 = .ok (.invokestatic 67, 3) := by decide +kernel
theorem dX5_tear_4 : decode cX5_tear 4 = .ok (.ifCond .ne 5, 3) := by decide +kernel
theorem dX5_tear_7 : decode cX5_tear 7 = .ok (.iconst (-1), 1) := by decide +kernel
theorem dX5_tear_8 : decode cX5_tear 8 = .ok (.ireturn, 1) := by decide +kernel
theorem dX5_tear_9 : decode cX5_tear 9 = .ok (.aload_n 0, 1) := by decide +kernel
theorem dX5_tear_10 : decode cX5_tear 10 = .ok (.getfield 7, 3) := by decide +kernel
theorem dX5_tear_13 : decode cX5_tear 13 = .ok (.iload_n 1, 1) := by decide +kernel
theorem dX5_tear_14 : decode cX5_tear 14 = .ok (.iaload, 1) := by decide +kernel
theorem dX5_tear_15 : decode cX5_tear 15 = .ok (.bipush (-9), 2) := by decide +kernel
theorem dX5_tear_17 : decode cX5_tear 17 = .ok (.if_icmp .ne 9, 3) := by decide +kernel
theorem dX5_tear_20 : decode cX5_tear 20 = .ok (.aload_n 0, 1) := by decide +kernel
theorem dX5_tear_21 : decode cX5_tear 21 = .ok (.iconst 1, 1) := by decide +kernel
theorem dX5_tear_22 : decode cX5_tear 22 = .ok (.invokevirtual 71, 3) := by decide +kernel
theorem dX5_tear_25 : decode cX5_tear 25 = .ok (.ireturn, 1) := by decide +kernel
theorem dX5_tear_26 : decode cX5_tear 26 = .ok (.aload_n 0, 1) := by decide +kernel
theorem dX5_tear_27 : decode cX5_tear 27 = .ok (.getfield 7, 3) := by decide +kernel
theorem dX5_tear_30 : decode cX5_tear 30 = .ok (.iload_n 1, 1) := by decide +kernel
theorem dX5_tear_31 : decode cX5_tear 31 = .ok (.bipush (-9), 2) := by decide +kernel
theorem dX5_tear_33 : decode cX5_tear 33 = .ok (.iastore, 1) := by decide +kernel
theorem dX5_tear_34 : decode cX5_tear 34 = .ok (.iconst 1, 1) := by decide +kernel
theorem dX5_tear_35 : decode cX5_tear 35 = .ok (.ireturn, 1) := by decide +kernel
theorem dX5_hasPart_0 : decode cX5_hasPart 0 = .ok (.iload_n 2, 1) := by decide +kernel
theorem dX5_hasPart_1 : decode cX5_hasPart 1 = .ok (.iconst 0, 1) := by decide +kernel
theorem dX5_hasPart_2 : decode cX5_hasPart 2 = .ok (.aload_n 0, 1) := by decide +kernel
theorem dX5_hasPart_3 : decode cX5_hasPart 3 = .ok (.getfield 7, 3) := by decide +kernel
theorem dX5_hasPart_6 : decode cX5_hasPart 6 = .ok (.iload_n 1, 1) := by decide +kernel
theorem dX5_hasPart_7 : decode cX5_hasPart 7 = .ok (.iaload, 1) := by decide +kernel
theorem dX5_hasPart_8 : decode cX5_hasPart 8 = .ok (.invokestatic 63, 3) := by decide +kernel
theorem dX5_hasPart_11 : decode cX5_hasPart 11 = .ok (.ifCond .eq 19, 3) := by decide +kernel
theorem dX5_hasPart_14 : decode cX5_hasPart 14 = .ok (.iload_n 3, 1) := by decide +kernel
theorem dX5_hasPart_15 : decode cX5_hasPart 15 = .ok (.aload_n 0, 1) := by decide +kernel
theorem dX5_hasPart_16 : decode cX5_hasPart 16 = .ok (.getfield 7, 3) := by decide +kernel
theorem dX5_hasPart_19 : decode cX5_hasPart 19 = .ok (.iload_n 1, 1) := by decide +kernel
theorem dX5_hasPart_20 : decode cX5_hasPart 20 = .ok (.iaload, 1) := by decide +kernel
theorem dX5_hasPart_21 : decode cX5_hasPart 21 = .ok (.iload_n 2, 1) := by decide +kernel
theorem dX5_hasPart_22 : decode cX5_hasPart 22 = .ok (.isub, 1) := by decide +kernel
theorem dX5_hasPart_23 : decode cX5_hasPart 23 = .ok (.if_icmp .gt 7, 3) := by decide +kernel
theorem dX5_hasPart_26 : decode cX5_hasPart 26 = .ok (.iconst 1, 1) := by decide +kernel
theorem dX5_hasPart_27 : decode cX5_hasPart 27 = .ok (.goto 4, 3) := by decide +kernel
theorem dX5_hasPart_30 : decode cX5_hasPart 30 = .ok (.iconst 0, 1) := by decide +kernel
theorem dX5_hasPart_31 : decode cX5_hasPart 31 = .ok (.ireturn, 1) := by decide +kernel
theorem dX5_copy_0 : decode cX5_copy 0 = .ok (.iload_n 1, 1) := by decide +kernel
theorem dX5_copy_1 : decode cX5_copy 1 = .ok (.invokestatic 67, 3) := by decide +kernel
theorem dX5_copy_4 : decode cX5_copy 4 = .ok (.ifCond .eq 10, 3) := by decide +kernel
theorem dX5_copy_7 : decode cX5_copy 7 = .ok (.iload_n 3, 1) := by decide +kernel
theorem dX5_copy_8 : decode cX5_copy 8 = .ok (.invokestatic 67, 3) := by decide +kernel
theorem dX5_copy_11 : decode cX5_copy 11 = .ok (.ifCond .ne 5, 3) := by decide +kernel
theorem dX5_copy_14 : decode cX5_copy 14 = .ok (.iconst (-1), 1) := by decide +kernel
theorem dX5_copy_15 : decode cX5_copy 15 = .ok (.ireturn, 1) := by decide +kernel
theorem dX5_copy_16 : decode cX5_copy 16 = .ok (.iload 5, 2) := by decide +kernel
theorem dX5_copy_18 : decode cX5_copy 18 = .ok (.ifCond .ge 9, 3) := by decide +kernel
theorem dX5_copy_21 : decode cX5_copy 21 = .ok (.aload_n 0, 1) := by decide +kernel
theorem dX5_copy_22 : decode cX5_copy 22 = .ok (.iconst 5, 1) := by decide +kernel
theorem dX5_copy_23 : decode cX5_copy 23 = .ok (.invokevirtual 71, 3) := by decide +kernel
theorem dX5_copy_26 : decode cX5_copy 26 = .ok (.ireturn, 1) := by decide +kernel
theorem dX5_copy_27 : decode cX5_copy 27 = .ok (.aload_n 0, 1) := by decide +kernel
theorem dX5_copy_28 : decode cX5_copy 28 = .ok (.getfield 7, 3) := by decide +kernel
theorem dX5_copy_31 : decode cX5_copy 31 = .ok (.iload_n 1, 1) := by decide +kernel
theorem dX5_copy_32 : decode cX5_copy 32 = .ok (.iaload, 1) := by decide +kernel
theorem dX5_copy_33 : decode cX5_copy 33 = .ok (.bipush (-9), 2) := by decide +kernel
theorem dX5_copy_35 : decode cX5_copy 35 = .ok (.if_icmp .eq 14, 3) := by decide +kernel
theorem dX5_copy_38 : decode cX5_copy 38 = .ok (.aload_n 0, 1) := by decide +kernel
theorem dX5_copy_39 : decode cX5_copy 39 = .ok (.getfield 7, 3) := by decide +kernel
theorem dX5_copy_42 : decode cX5_copy 42 = .ok (.iload_n 3, 1) := by decide +kernel
theorem dX5_copy_43 : decode cX5_copy 43 = .ok (.iaload, 1) := by decide +kernel
theorem dX5_copy_44 : decode cX5_copy 44 = .ok (.bipush (-9), 2) := by decide +kernel
theorem dX5_copy_46 : decode cX5_copy 46 = .ok (.if_icmp .ne 9, 3) := by decide +kernel
theorem dX5_copy_49 : decode cX5_copy 49 = .ok (.aload_n 0, 1) := by decide +kernel
theorem dX5_copy_50 : decode cX5_copy 50 = .ok (.iconst 1, 1) := by decide +kernel
theorem dX5_copy_51 : decode cX5_copy 51 = .ok (.invokevirtual 71, 3) := by decide +kernel
theorem dX5_copy_54 : decode cX5_copy 54 = .ok (.ireturn, 1) := by decide +kernel
theorem dX5_copy_55 : decode cX5_copy 55 = .ok (.aload_n 0, 1) := by decide +kernel
theorem dX5_copy_56 : decode cX5_copy 56 = .ok (.iload_n 1, 1) := by decide +kernel
theorem dX5_copy_57 : decode cX5_copy 57 = .ok (.iload_n 2, 1) := by decide +kernel
theorem dX5_copy_58 : decode cX5_copy 58 = .ok (.iload 5, 2) := by decide +kernel
theorem dX5_copy_60 : decode cX5_copy 60 = .ok (.invokevirtual 78, 3) := by decide +kernel
theorem dX5_copy_63 : decode cX5_copy 63 = .ok (.ifCond .eq 15, 3) := by decide +kernel
theorem dX5_copy_66 : decode cX5_copy 66 = .ok (.aload_n 0, 1) := by decide +kernel
theorem dX5_copy_67 : decode cX5_copy 67 = .ok (.iload_n 3, 1) := by decide +kernel
theorem dX5_copy_68 : decode cX5_copy 68 = .ok (.iload 4, 2) := by decide +kernel
theorem dX5_copy_70 : decode cX5_copy 70 = .ok (.iload 5, 2) := by decide +kernel
theorem dX5_copy_72 : decode cX5_copy 72 = .ok (.invokevirtual 78, 3) := by decide +kernel
theorem dX5_copy_75 : decode cX5_copy 75 = .ok (.ifCond .ne 9, 3) := by decide +kernel
theorem dX5_copy_78 : decode cX5_copy 78 = .ok (.aload_n 0, 1) := by decide +kernel
theorem dX5_copy_79 : decode cX5_copy 79 = .ok (.iconst 2, 1) := by decide +kernel
theorem dX5_copy_80 : decode cX5_copy 80 = .ok (.invokevirtual 71, 3) := by decide +kernel
theorem dX5_copy_83 : decode cX5_copy 83 = .ok (.ireturn, 1) := by decide +kernel
theorem dX5_copy_84 : decode cX5_copy 84 = .ok (.iconst 0, 1) := by decide +kernel
theorem dX5_copy_85 : decode cX5_copy 85 = .ok (.istore 6, 2) := by decide +kernel
theorem dX5_copy_87 : decode cX5_copy 87 = .ok (.iload 6, 2) := by decide +kernel
theorem dX5_copy_89 : decode cX5_copy 89 = .ok (.iload 5, 2) := by decide +kernel
theorem dX5_copy_91 : decode cX5_copy 91 = .ok (.if_icmp .ge 30, 3) := by decide +kernel
theorem dX5_copy_94 : decode cX5_copy 94 = .ok (.aload_n 0, 1) := by decide +kernel
theorem dX5_copy_95 : decode cX5_copy 95 = .ok (.getfield 22, 3) := by decide +kernel
theorem dX5_copy_98 : decode cX5_copy 98 = .ok (.iload 6, 2) := by decide +kernel
theorem dX5_copy_100 : decode cX5_copy 100 = .ok (.aload_n 0, 1) := by decide +kernel
theorem dX5_copy_101 : decode cX5_copy 101 = .ok (.getfield 13, 3) := by decide +kernel
theorem dX5_copy_104 : decode cX5_copy 104 = .ok (.bipush 40, 2) := by decide +kernel
theorem dX5_copy_106 : decode cX5_copy 106 = .ok (.iload_n 1, 1) := by decide +kernel
theorem dX5_copy_107 : decode cX5_copy 107 = .ok (.imul, 1) := by decide +kernel
theorem dX5_copy_108 : decode cX5_copy 108 = .ok (.iload_n 2, 1) := by decide +kernel
theorem dX5_copy_109 : decode cX5_copy 109 = .ok (.iadd, 1) := by decide +kernel
theorem dX5_copy_110 : decode cX5_copy 110 = .ok (.iload 6, 2) := by decide +kernel
theorem dX5_copy_112 : decode cX5_copy 112 = .ok (.iadd, 1) := by decide +kernel
theorem dX5_copy_113 : decode cX5_copy 113 = .ok (.iaload, 1) := by decide +kernel
theorem dX5_copy_114 : decode cX5_copy 114 = .ok (.iastore, 1) := by decide +kernel
theorem dX5_copy_115 : decode cX5_copy 115 = .ok (.iinc 6 1, 3) := by decide +kernel
theorem dX5_copy_118 : decode cX5_copy 118 = .ok (.goto (-31), 3) := by decide +kernel
theorem dX5_copy_121 : decode cX5_copy 121 = .ok (.iconst 0, 1) := by decide +kernel
theorem dX5_copy_122 : decode cX5_copy 122 = .ok (.istore 6, 2) := by decide +kernel
theorem dX5_copy_124 : decode cX5_copy 124 = .ok (.iload 6, 2) := by decide +kernel
theorem dX5_copy_126 : decode cX5_copy 126 = .ok (.iload 5, 2) := by decide +kernel
theorem dX5_copy_128 : decode cX5_copy 128 = .ok (.if_icmp .ge 31, 3) := by decide +kernel
theorem dX5_copy_131 : decode cX5_copy 131 = .ok (.aload_n 0, 1) := by decide +kernel
theorem dX5_copy_132 : decode cX5_copy 132 = .ok (.getfield 13, 3) := by decide +kernel
theorem dX5_copy_135 : decode cX5_copy 135 = .ok (.bipush 40, 2) := by decide +kernel
theorem dX5_copy_137 : decode cX5_copy 137 = .ok (.iload_n 3, 1) := by decide +kernel
theorem dX5_copy_138 : decode cX5_copy 138 = .ok (.imul, 1) := by decide +kernel
theorem dX5_copy_139 : decode cX5_copy 139 = .ok (.iload 4, 2) := by decide +kernel
theorem dX5_copy_141 : decode cX5_copy 141 = .ok (.iadd, 1) := by decide +kernel
theorem dX5_copy_142 : decode cX5_copy 142 = .ok (.iload 6, 2) := by decide +kernel
theorem dX5_copy_144 : decode cX5_copy 144 = .ok (.iadd, 1) := by decide +kernel
theorem dX5_copy_145 : decode cX5_copy 145 = .ok (.aload_n 0, 1) := by decide +kernel
theorem dX5_copy_146 : decode cX5_copy 146 = .ok (.getfield 22, 3) := by decide +kernel
theorem dX5_copy_149 : decode cX5_copy 149 = .ok (.iload 6, 2) := by decide +kernel
theorem dX5_copy_151 : decode cX5_copy 151 = .ok (.iaload, 1) := by decide +kernel
theorem dX5_copy_152 : decode cX5_copy 152 = .ok (.iastore, 1) := by decide +kernel
theorem dX5_copy_153 : decode cX5_copy 153 = .ok (.iinc 6 1, 3) := by decide +kernel
theorem dX5_copy_156 : decode cX5_copy 156 = .ok (.goto (-32), 3) := by decide +kernel
theorem dX5_copy_159 : decode cX5_copy 159 = .ok (.iconst 1, 1) := by decide +kernel
theorem dX5_copy_160 : decode cX5_copy 160 = .ok (.ireturn, 1) := by decide +kernel
theorem dX5_mean_0 : decode cX5_mean 0 = .ok (.iload_n 1, 1) := by decide +kernel
theorem dX5_mean_1 : decode cX5_mean 1 = .ok (.invokestatic 67, 3) := by decide +kernel
theorem dX5_mean_4 : decode cX5_mean 4 = .ok (.ifCond .ne 5, 3) := by decide +kernel
theorem dX5_mean_7 : decode cX5_mean 7 = .ok (.iconst (-1), 1) := by decide +kernel
theorem dX5_mean_8 : decode cX5_mean 8 = .ok (.ireturn, 1) := by decide +kernel
theorem dX5_mean_9 : decode cX5_mean 9 = .ok (.aload_n 0, 1) := by decide +kernel
theorem dX5_mean_10 : decode cX5_mean 10 = .ok (.getfield 7, 3) := by decide +kernel
theorem dX5_mean_13 : decode cX5_mean 13 = .ok (.iload_n 1, 1) := by decide +kernel
theorem dX5_mean_14 : decode cX5_mean 14 = .ok (.iaload, 1) := by decide +kernel
theorem dX5_mean_15 : decode cX5_mean 15 = .ok (.bipush (-9), 2) := by decide +kernel
theorem dX5_mean_17 : decode cX5_mean 17 = .ok (.if_icmp .ne 9, 3) := by decide +kernel
theorem dX5_mean_20 : decode cX5_mean 20 = .ok (.aload_n 0, 1) := by decide +kernel
theorem dX5_mean_21 : decode cX5_mean 21 = .ok (.iconst 1, 1) := by decide +kernel
theorem dX5_mean_22 : decode cX5_mean 22 = .ok (.invokevirtual 71, 3) := by decide +kernel
theorem dX5_mean_25 : decode cX5_mean 25 = .ok (.ireturn, 1) := by decide +kernel
theorem dX5_mean_26 : decode cX5_mean 26 = .ok (.aload_n 0, 1) := by decide +kernel
theorem dX5_mean_27 : decode cX5_mean 27 = .ok (.getfield 7, 3) := by decide +kernel
theorem dX5_mean_30 : decode cX5_mean 30 = .ok (.iload_n 1, 1) := by decide +kernel
theorem dX5_mean_31 : decode cX5_mean 31 = .ok (.iaload, 1) := by decide +kernel
theorem dX5_mean_32 : decode cX5_mean 32 = .ok (.ifCond .ne 9, 3) := by decide +kernel
theorem dX5_mean_35 : decode cX5_mean 35 = .ok (.aload_n 0, 1) := by decide +kernel
theorem dX5_mean_36 : decode cX5_mean 36 = .ok (.iconst 4, 1) := by decide +kernel
theorem dX5_mean_37 : decode cX5_mean 37 = .ok (.invokevirtual 71, 3) := by decide +kernel
theorem dX5_mean_40 : decode cX5_mean 40 = .ok (.ireturn, 1) := by decide +kernel
theorem dX5_mean_41 : decode cX5_mean 41 = .ok (.lconst 0, 1) := by decide +kernel
theorem dX5_mean_42 : decode cX5_mean 42 = .ok (.lstore_n 2, 1) := by decide +kernel
theorem dX5_mean_43 : decode cX5_mean 43 = .ok (.iconst 0, 1) := by decide +kernel
theorem dX5_mean_44 : decode cX5_mean 44 = .ok (.istore 4, 2) := by decide +kernel
theorem dX5_mean_46 : decode cX5_mean 46 = .ok (.iload 4, 2) := by decide +kernel
theorem dX5_mean_48 : decode cX5_mean 48 = .ok (.aload_n 0, 1) := by decide +kernel
theorem dX5_mean_49 : decode cX5_mean 49 = .ok (.getfield 7, 3) := by decide +kernel
theorem dX5_mean_52 : decode cX5_mean 52 = .ok (.iload_n 1, 1) := by decide +kernel
theorem dX5_mean_53 : decode cX5_mean 53 = .ok (.iaload, 1) := by decide +kernel
theorem dX5_mean_54 : decode cX5_mean 54 = .ok (.if_icmp .ge 25, 3) := by decide +kernel
theorem dX5_mean_57 : decode cX5_mean 57 = .ok (.lload_n 2, 1) := by decide +kernel
theorem dX5_mean_58 : decode cX5_mean 58 = .ok (.aload_n 0, 1) := by decide +kernel
theorem dX5_mean_59 : decode cX5_mean 59 = .ok (.getfield 13, 3) := by decide +kernel
theorem dX5_mean_62 : decode cX5_mean 62 = .ok (.bipush 40, 2) := by decide +kernel
theorem dX5_mean_64 : decode cX5_mean 64 = .ok (.iload_n 1, 1) := by decide +kernel
theorem dX5_mean_65 : decode cX5_mean 65 = .ok (.imul, 1) := by decide +kernel
theorem dX5_mean_66 : decode cX5_mean 66 = .ok (.iload 4, 2) := by decide +kernel
theorem dX5_mean_68 : decode cX5_mean 68 = .ok (.iadd, 1) := by decide +kernel
theorem dX5_mean_69 : decode cX5_mean 69 = .ok (.iaload, 1) := by decide +kernel
theorem dX5_mean_70 : decode cX5_mean 70 = .ok (.i2l, 1) := by decide +kernel
theorem dX5_mean_71 : decode cX5_mean 71 = .ok (.ladd, 1) := by decide +kernel
theorem dX5_mean_72 : decode cX5_mean 72 = .ok (.lstore_n 2, 1) := by decide +kernel
theorem dX5_mean_73 : decode cX5_mean 73 = .ok (.iinc 4 1, 3) := by decide +kernel
theorem dX5_mean_76 : decode cX5_mean 76 = .ok (.goto (-30), 3) := by decide +kernel
theorem dX5_mean_79 : decode cX5_mean 79 = .ok (.aload_n 0, 1) := by decide +kernel
theorem dX5_mean_80 : decode cX5_mean 80 = .ok (.lload_n 2, 1) := by decide +kernel
theorem dX5_mean_81 : decode cX5_mean 81 = .ok (.aload_n 0, 1) := by decide +kernel
theorem dX5_mean_82 : decode cX5_mean 82 = .ok (.getfield 7, 3) := by decide +kernel
theorem dX5_mean_85 : decode cX5_mean 85 = .ok (.iload_n 1, 1) := by decide +kernel
theorem dX5_mean_86 : decode cX5_mean 86 = .ok (.iaload, 1) := by decide +kernel
theorem dX5_mean_87 : decode cX5_mean 87 = .ok (.i2l, 1) := by decide +kernel
theorem dX5_mean_88 : decode cX5_mean 88 = .ok (.ldiv, 1) := by decide +kernel
theorem dX5_mean_89 : decode cX5_mean 89 = .ok (.l2i, 1) := by decide +kernel
theorem dX5_mean_90 : decode cX5_mean 90 = .ok (.invokevirtual 75, 3) := by decide +kernel
theorem dX5_mean_93 : decode cX5_mean 93 = .ok (.ireturn, 1) := by decide +kernel
theorem dX5_text_0 : decode cX5_text 0 = .ok (.iload_n 1, 1) := by decide +kernel
theorem dX5_text_1 : decode cX5_text 1 = .ok (.invokestatic 81, 3) := by decide +kernel
theorem dX5_text_4 : decode cX5_text 4 = .ok (.ifCond .eq 9, 3) := by decide +kernel
theorem dX5_text_7 : decode cX5_text 7 = .ok (.iload_n 2, 1) := by decide +kernel
theorem dX5_text_8 : decode cX5_text 8 = .ok (.bipush 60, 2) := by decide +kernel
theorem dX5_text_10 : decode cX5_text 10 = .ok (.if_icmp .le 5, 3) := by decide +kernel
theorem dX5_text_13 : decode cX5_text 13 = .ok (.iconst (-1), 1) := by decide +kernel
theorem dX5_text_14 : decode cX5_text 14 = .ok (.ireturn, 1) := by decide +kernel
theorem dX5_text_15 : decode cX5_text 15 = .ok (.iload_n 2, 1) := by decide +kernel
theorem dX5_text_16 : decode cX5_text 16 = .ok (.ifCond .ge 9, 3) := by decide +kernel
theorem dX5_text_19 : decode cX5_text 19 = .ok (.aload_n 0, 1) := by decide +kernel
theorem dX5_text_20 : decode cX5_text 20 = .ok (.iconst 5, 1) := by decide +kernel
theorem dX5_text_21 : decode cX5_text 21 = .ok (.invokevirtual 71, 3) := by decide +kernel
theorem dX5_text_24 : decode cX5_text 24 = .ok (.ireturn, 1) := by decide +kernel
theorem dX5_text_25 : decode cX5_text 25 = .ok (.aload_n 0, 1) := by decide +kernel
theorem dX5_text_26 : decode cX5_text 26 = .ok (.getfield 16, 3) := by decide +kernel
theorem dX5_text_29 : decode cX5_text 29 = .ok (.iload_n 1, 1) := by decide +kernel
theorem dX5_text_30 : decode cX5_text 30 = .ok (.iload_n 2, 1) := by decide +kernel
theorem dX5_text_31 : decode cX5_text 31 = .ok (.iastore, 1) := by decide +kernel
theorem dX5_text_32 : decode cX5_text 32 = .ok (.iconst 0, 1) := by decide +kernel
theorem dX5_text_33 : decode cX5_text 33 = .ok (.istore_n 3, 1) := by decide +kernel
theorem dX5_text_34 : decode cX5_text 34 = .ok (.iload_n 3, 1) := by decide +kernel
theorem dX5_text_35 : decode cX5_text 35 = .ok (.bipush 60, 2) := by decide +kernel
theorem dX5_text_37 : decode cX5_text 37 = .ok (.if_icmp .ge 22, 3) := by decide +kernel
theorem dX5_text_40 : decode cX5_text 40 = .ok (.aload_n 0, 1) := by decide +kernel
theorem dX5_text_41 : decode cX5_text 41 = .ok (.getfield 19, 3) := by decide +kernel
theorem dX5_text_44 : decode cX5_text 44 = .ok (.bipush 60, 2) := by decide +kernel
theorem dX5_text_46 : decode cX5_text 46 = .ok (.iload_n 1, 1) := by decide +kernel
theorem dX5_text_47 : decode cX5_text 47 = .ok (.imul, 1) := by decide +kernel
theorem dX5_text_48 : decode cX5_text 48 = .ok (.iload_n 3, 1) := by decide +kernel
theorem dX5_text_49 : decode cX5_text 49 = .ok (.iadd, 1) := by decide +kernel
theorem dX5_text_50 : decode cX5_text 50 = .ok (.bipush 32, 2) := by decide +kernel
theorem dX5_text_52 : decode cX5_text 52 = .ok (.iastore, 1) := by decide +kernel
theorem dX5_text_53 : decode cX5_text 53 = .ok (.iinc 3 1, 3) := by decide +kernel
theorem dX5_text_56 : decode cX5_text 56 = .ok (.goto (-22), 3) := by decide +kernel
theorem dX5_text_59 : decode cX5_text 59 = .ok (.iload_n 2, 1) := by decide +kernel
theorem dX5_text_60 : decode cX5_text 60 = .ok (.ireturn, 1) := by decide +kernel
theorem dX5_put_0 : decode cX5_put 0 = .ok (.iload_n 1, 1) := by decide +kernel
theorem dX5_put_1 : decode cX5_put 1 = .ok (.invokestatic 81, 3) := by decide +kernel
theorem dX5_put_4 : decode cX5_put 4 = .ok (.ifCond .ne 5, 3) := by decide +kernel
theorem dX5_put_7 : decode cX5_put 7 = .ok (.iconst (-1), 1) := by decide +kernel
theorem dX5_put_8 : decode cX5_put 8 = .ok (.ireturn, 1) := by decide +kernel
theorem dX5_put_9 : decode cX5_put 9 = .ok (.aload_n 0, 1) := by decide +kernel
theorem dX5_put_10 : decode cX5_put 10 = .ok (.getfield 16, 3) := by decide +kernel
theorem dX5_put_13 : decode cX5_put 13 = .ok (.iload_n 1, 1) := by decide +kernel
theorem dX5_put_14 : decode cX5_put 14 = .ok (.iaload, 1) := by decide +kernel
theorem dX5_put_15 : decode cX5_put 15 = .ok (.bipush (-9), 2) := by decide +kernel
theorem dX5_put_17 : decode cX5_put 17 = .ok (.if_icmp .ne 9, 3) := by decide +kernel
theorem dX5_put_20 : decode cX5_put 20 = .ok (.aload_n 0, 1) := by decide +kernel
theorem dX5_put_21 : decode cX5_put 21 = .ok (.iconst 1, 1) := by decide +kernel
theorem dX5_put_22 : decode cX5_put 22 = .ok (.invokevirtual 71, 3) := by decide +kernel
theorem dX5_put_25 : decode cX5_put 25 = .ok (.ireturn, 1) := by decide +kernel
theorem dX5_put_26 : decode cX5_put 26 = .ok (.iload_n 2, 1) := by decide +kernel
theorem dX5_put_27 : decode cX5_put 27 = .ok (.iconst 0, 1) := by decide +kernel
theorem dX5_put_28 : decode cX5_put 28 = .ok (.aload_n 0, 1) := by decide +kernel
theorem dX5_put_29 : decode cX5_put 29 = .ok (.getfield 16, 3) := by decide +kernel
theorem dX5_put_32 : decode cX5_put 32 = .ok (.iload_n 1, 1) := by decide +kernel
theorem dX5_put_33 : decode cX5_put 33 = .ok (.iaload, 1) := by decide +kernel
theorem dX5_put_34 : decode cX5_put 34 = .ok (.iconst 1, 1) := by decide +kernel
theorem dX5_put_35 : decode cX5_put 35 = .ok (.isub, 1) := by decide +kernel
theorem dX5_put_36 : decode cX5_put 36 = .ok (.invokestatic 63, 3) := by decide +kernel
theorem dX5_put_39 : decode cX5_put 39 = .ok (.ifCond .ne 9, 3) := by decide +kernel
theorem dX5_put_42 : decode cX5_put 42 = .ok (.aload_n 0, 1) := by decide +kernel
theorem dX5_put_43 : decode cX5_put 43 = .ok (.iconst 2, 1) := by decide +kernel
theorem dX5_put_44 : decode cX5_put 44 = .ok (.invokevirtual 71, 3) := by decide +kernel
theorem dX5_put_47 : decode cX5_put 47 = .ok (.ireturn, 1) := by decide +kernel
theorem dX5_put_48 : decode cX5_put 48 = .ok (.aload_n 0, 1) := by decide +kernel
theorem dX5_put_49 : decode cX5_put 49 = .ok (.getfield 19, 3) := by decide +kernel
theorem dX5_put_52 : decode cX5_put 52 = .ok (.bipush 60, 2) := by decide +kernel
theorem dX5_put_54 : decode cX5_put 54 = .ok (.iload_n 1, 1) := by decide +kernel
theorem dX5_put_55 : decode cX5_put 55 = .ok (.imul, 1) := by decide +kernel
theorem dX5_put_56 : decode cX5_put 56 = .ok (.iload_n 2, 1) := by decide +kernel
theorem dX5_put_57 : decode cX5_put 57 = .ok (.iadd, 1) := by decide +kernel
theorem dX5_put_58 : decode cX5_put 58 = .ok (.iaload, 1) := by decide +kernel
theorem dX5_put_59 : decode cX5_put 59 = .ok (.istore 4, 2) := by decide +kernel
theorem dX5_put_61 : decode cX5_put 61 = .ok (.iload_n 3, 1) := by decide +kernel
theorem dX5_put_62 : decode cX5_put 62 = .ok (.sipush 255, 3) := by decide +kernel
theorem dX5_put_65 : decode cX5_put 65 = .ok (.iand, 1) := by decide +kernel
theorem dX5_put_66 : decode cX5_put 66 = .ok (.istore 5, 2) := by decide +kernel
theorem dX5_put_68 : decode cX5_put 68 = .ok (.aload_n 0, 1) := by decide +kernel
theorem dX5_put_69 : decode cX5_put 69 = .ok (.getfield 19, 3) := by decide +kernel
theorem dX5_put_72 : decode cX5_put 72 = .ok (.bipush 60, 2) := by decide +kernel
theorem dX5_put_74 : decode cX5_put 74 = .ok (.iload_n 1, 1) := by decide +kernel
theorem dX5_put_75 : decode cX5_put 75 = .ok (.imul, 1) := by decide +kernel
theorem dX5_put_76 : decode cX5_put 76 = .ok (.iload_n 2, 1) := by decide +kernel
theorem dX5_put_77 : decode cX5_put 77 = .ok (.iadd, 1) := by decide +kernel
theorem dX5_put_78 : decode cX5_put 78 = .ok (.iload 5, 2) := by decide +kernel
theorem dX5_put_80 : decode cX5_put 80 = .ok (.bipush 127, 2) := by decide +kernel
theorem dX5_put_82 : decode cX5_put 82 = .ok (.if_icmp .le 12, 3) := by decide +kernel
theorem dX5_put_85 : decode cX5_put 85 = .ok (.iload 5, 2) := by decide +kernel
theorem dX5_put_87 : decode cX5_put 87 = .ok (.sipush 256, 3) := by decide +kernel
theorem dX5_put_90 : decode cX5_put 90 = .ok (.isub, 1) := by decide +kernel
theorem dX5_put_91 : decode cX5_put 91 = .ok (.goto 5, 3) := by decide +kernel
theorem dX5_put_94 : decode cX5_put 94 = .ok (.iload 5, 2) := by decide +kernel
theorem dX5_put_96 : decode cX5_put 96 = .ok (.iastore, 1) := by decide +kernel
theorem dX5_put_97 : decode cX5_put 97 = .ok (.iload 4, 2) := by decide +kernel
theorem dX5_put_99 : decode cX5_put 99 = .ok (.sipush 1000, 3) := by decide +kernel
theorem dX5_put_102 : decode cX5_put 102 = .ok (.iadd, 1) := by decide +kernel
theorem dX5_put_103 : decode cX5_put 103 = .ok (.ireturn, 1) := by decide +kernel
theorem dX5_look_0 : decode cX5_look 0 = .ok (.aload_n 0, 1) := by decide +kernel
theorem dX5_look_1 : decode cX5_look 1 = .ok (.getfield 84, 3) := by decide +kernel
theorem dX5_look_4 : decode cX5_look 4 = .ok (.aload_n 0, 1) := by decide +kernel
theorem dX5_look_5 : decode cX5_look 5 = .ok (.getfield 16, 3) := by decide +kernel
theorem dX5_look_8 : decode cX5_look 8 = .ok (.iload_n 1, 1) := by decide +kernel
theorem dX5_look_9 : decode cX5_look 9 = .ok (.iaload, 1) := by decide +kernel
theorem dX5_look_10 : decode cX5_look 10 = .ok (.if_icmp .ge 20, 3) := by decide +kernel
theorem dX5_look_13 : decode cX5_look 13 = .ok (.aload_n 0, 1) := by decide +kernel
theorem dX5_look_14 : decode cX5_look 14 = .ok (.getfield 19, 3) := by decide +kernel
theorem dX5_look_17 : decode cX5_look 17 = .ok (.bipush 60, 2) := by decide +kernel
theorem dX5_look_19 : decode cX5_look 19 = .ok (.iload_n 1, 1) := by decide +kernel
theorem dX5_look_20 : decode cX5_look 20 = .ok (.imul, 1) := by decide +kernel
theorem dX5_look_21 : decode cX5_look 21 = .ok (.aload_n 0, 1) := by decide +kernel
theorem dX5_look_22 : decode cX5_look 22 = .ok (.getfield 84, 3) := by decide +kernel
theorem dX5_look_25 : decode cX5_look 25 = .ok (.iadd, 1) := by decide +kernel
theorem dX5_look_26 : decode cX5_look 26 = .ok (.iaload, 1) := by decide +kernel
theorem dX5_look_27 : decode cX5_look 27 = .ok (.goto 6, 3) := by decide +kernel
theorem dX5_look_30 : decode cX5_look 30 = .ok (.sipush (-1000), 3) := by decide +kernel
theorem dX5_look_33 : decode cX5_look 33 = .ok (.ireturn, 1) := by decide +kernel
theorem dX5_blanks_0 : decode cX5_blanks 0 = .ok (.aload_n 0, 1) := by decide +kernel
theorem dX5_blanks_1 : decode cX5_blanks 1 = .ok (.getfield 87, 3) := by decide +kernel
theorem dX5_blanks_4 : decode cX5_blanks 4 = .ok (.bipush (-9), 2) := by decide +kernel
theorem dX5_blanks_6 : decode cX5_blanks 6 = .ok (.if_icmp .ne 26, 3) := by decide +kernel
theorem dX5_blanks_9 : decode cX5_blanks 9 = .ok (.aload_n 0, 1) := by decide +kernel
theorem dX5_blanks_10 : decode cX5_blanks 10 = .ok (.iload_n 1, 1) := by decide +kernel
theorem dX5_blanks_11 : decode cX5_blanks 11 = .ok (.invokevirtual 90, 3) := by decide +kernel
theorem dX5_blanks_14 : decode cX5_blanks 14 = .ok (.bipush 32, 2) := by decide +kernel
theorem dX5_blanks_16 : decode cX5_blanks 16 = .ok (.if_icmp .ne 16, 3) := by decide +kernel
theorem dX5_blanks_19 : decode cX5_blanks 19 = .ok (.aload_n 0, 1) := by decide +kernel
theorem dX5_blanks_20 : decode cX5_blanks 20 = .ok (.dup, 1) := by decide +kernel
theorem dX5_blanks_21 : decode cX5_blanks 21 = .ok (.getfield 84, 3) := by decide +kernel
theorem dX5_blanks_24 : decode cX5_blanks 24 = .ok (.iconst 1, 1) := by decide +kernel
theorem dX5_blanks_25 : decode cX5_blanks 25 = .ok (.iadd, 1) := by decide +kernel
theorem dX5_blanks_26 : decode cX5_blanks 26 = .ok (.putfield 84, 3) := by decide +kernel
theorem dX5_blanks_29 : decode cX5_blanks 29 = .ok (.goto (-29), 3) := by decide +kernel
theorem dX5_blanks_32 : decode cX5_blanks 32 = .ok (.return_, 1) := by decide +kernel
theorem dX5_fails_0 : decode cX5_fails 0 = .ok (.aload_n 0, 1) := by decide +kernel
theorem dX5_fails_1 : decode cX5_fails 1 = .ok (.aload_n 0, 1) := by decide +kernel
theorem dX5_fails_2 : decode cX5_fails 2 = .ok (.getfield 87, 3) := by decide +kernel
theorem dX5_fails_5 : decode cX5_fails 5 = .ok (.bipush (-9), 2) := by decide +kernel
theorem dX5_fails_7 : decode cX5_fails 7 = .ok (.if_icmp .ne 7, 3) := by decide +kernel
theorem dX5_fails_10 : decode cX5_fails 10 = .ok (.iload_n 1, 1) := by decide +kernel
theorem dX5_fails_11 : decode cX5_fails 11 = .ok (.goto 7, 3) := by decide +kernel
theorem dX5_fails_14 : decode cX5_fails 14 = .ok (.aload_n 0, 1) := by decide +kernel
theorem dX5_fails_15 : decode cX5_fails 15 = .ok (.getfield 87, 3) := by decide +kernel
theorem dX5_fails_18 : decode cX5_fails 18 = .ok (.putfield 87, 3) := by decide +kernel
theorem dX5_fails_21 : decode cX5_fails 21 = .ok (.return_, 1) := by decide +kernel
theorem dX5_letter_0 : decode cX5_letter 0 = .ok (.aload_n 0, 1) := by decide +kernel
theorem dX5_letter_1 : decode cX5_letter 1 = .ok (.getfield 87, 3) := by decide +kernel
theorem dX5_letter_4 : decode cX5_letter 4 = .ok (.bipush (-9), 2) := by decide +kernel
theorem dX5_letter_6 : decode cX5_letter 6 = .ok (.if_icmp .ne 20, 3) := by decide +kernel
theorem dX5_letter_9 : decode cX5_letter 9 = .ok (.aload_n 0, 1) := by decide +kernel
theorem dX5_letter_10 : decode cX5_letter 10 = .ok (.iload_n 1, 1) := by decide +kernel
theorem dX5_letter_11 : decode cX5_letter 11 = .ok (.invokevirtual 90, 3) := by decide +kernel
theorem dX5_letter_14 : decode cX5_letter 14 = .ok (.iload_n 2, 1) := by decide +kernel
theorem dX5_letter_15 : decode cX5_letter 15 = .ok (.if_icmp .eq 11, 3) := by decide +kernel
theorem dX5_letter_18 : decode cX5_letter 18 = .ok (.aload_n 0, 1) := by decide +kernel
theorem dX5_letter_19 : decode cX5_letter 19 = .ok (.aload_n 0, 1) := by decide +kernel
theorem dX5_letter_20 : decode cX5_letter 20 = .ok (.getfield 84, 3) := by decide +kernel
theorem dX5_letter_23 : decode cX5_letter 23 = .ok (.invokevirtual 93, 3) := by decide +kernel
theorem dX5_letter_26 : decode cX5_letter 26 = .ok (.aload_n 0, 1) := by decide +kernel
theorem dX5_letter_27 : decode cX5_letter 27 = .ok (.dup, 1) := by decide +kernel
theorem dX5_letter_28 : decode cX5_letter 28 = .ok (.getfield 84, 3) := by decide +kernel
theorem dX5_letter_31 : decode cX5_letter 31 = .ok (.iconst 1, 1) := by decide +kernel
theorem dX5_letter_32 : decode cX5_letter 32 = .ok (.iadd, 1) := by decide +kernel
theorem dX5_letter_33 : decode cX5_letter 33 = .ok (.putfield 84, 3) := by decide +kernel
theorem dX5_letter_36 : decode cX5_letter 36 = .ok (.return_, 1) := by decide +kernel
theorem dX5_figure_0 : decode cX5_figure 0 = .ok (.aload_n 0, 1) := by decide +kernel
theorem dX5_figure_1 : decode cX5_figure 1 = .ok (.iload_n 1, 1) := by decide +kernel
theorem dX5_figure_2 : decode cX5_figure 2 = .ok (.invokevirtual 90, 3) := by decide +kernel
theorem dX5_figure_5 : decode cX5_figure 5 = .ok (.bipush 48, 2) := by decide +kernel
theorem dX5_figure_7 : decode cX5_figure 7 = .ok (.isub, 1) := by decide +kernel
theorem dX5_figure_8 : decode cX5_figure 8 = .ok (.istore 4, 2) := by decide +kernel
theorem dX5_figure_10 : decode cX5_figure 10 = .ok (.iload 4, 2) := by decide +kernel
theorem dX5_figure_12 : decode cX5_figure 12 = .ok (.iload_n 2, 1) := by decide +kernel
theorem dX5_figure_13 : decode cX5_figure 13 = .ok (.iload_n 3, 1) := by decide +kernel
theorem dX5_figure_14 : decode cX5_figure 14 = .ok (.invokestatic 63, 3) := by decide +kernel
theorem dX5_figure_17 : decode cX5_figure 17 = .ok (.ifCond .ne 11, 3) := by decide +kernel
theorem dX5_figure_20 : decode cX5_figure 20 = .ok (.aload_n 0, 1) := by decide +kernel
theorem dX5_figure_21 : decode cX5_figure 21 = .ok (.aload_n 0, 1) := by decide +kernel
theorem dX5_figure_22 : decode cX5_figure 22 = .ok (.getfield 84, 3) := by decide +kernel
theorem dX5_figure_25 : decode cX5_figure 25 = .ok (.invokevirtual 93, 3) := by decide +kernel
theorem dX5_figure_28 : decode cX5_figure 28 = .ok (.aload_n 0, 1) := by decide +kernel
theorem dX5_figure_29 : decode cX5_figure 29 = .ok (.dup, 1) := by decide +kernel
theorem dX5_figure_30 : decode cX5_figure 30 = .ok (.getfield 84, 3) := by decide +kernel
theorem dX5_figure_33 : decode cX5_figure 33 = .ok (.iconst 1, 1) := by decide +kernel
theorem dX5_figure_34 : decode cX5_figure 34 = .ok (.iadd, 1) := by decide +kernel
theorem dX5_figure_35 : decode cX5_figure 35 = .ok (.putfield 84, 3) := by decide +kernel
theorem dX5_figure_38 : decode cX5_figure 38 = .ok (.aload_n 0, 1) := by decide +kernel
theorem dX5_figure_39 : decode cX5_figure 39 = .ok (.getfield 87, 3) := by decide +kernel
theorem dX5_figure_42 : decode cX5_figure 42 = .ok (.bipush (-9), 2) := by decide +kernel
theorem dX5_figure_44 : decode cX5_figure 44 = .ok (.if_icmp .ne 8, 3) := by decide +kernel
theorem dX5_figure_47 : decode cX5_figure 47 = .ok (.iload 4, 2) := by decide +kernel
theorem dX5_figure_49 : decode cX5_figure 49 = .ok (.goto 4, 3) := by decide +kernel
theorem dX5_figure_52 : decode cX5_figure 52 = .ok (.iconst 0, 1) := by decide +kernel
theorem dX5_figure_53 : decode cX5_figure 53 = .ok (.ireturn, 1) := by decide +kernel
theorem dX5_place_0 : decode cX5_place 0 = .ok (.aload_n 0, 1) := by decide +kernel
theorem dX5_place_1 : decode cX5_place 1 = .ok (.getfield 84, 3) := by decide +kernel
theorem dX5_place_4 : decode cX5_place 4 = .ok (.istore_n 2, 1) := by decide +kernel
theorem dX5_place_5 : decode cX5_place 5 = .ok (.bipush 10, 2) := by decide +kernel
theorem dX5_place_7 : decode cX5_place 7 = .ok (.aload_n 0, 1) := by decide +kernel
theorem dX5_place_8 : decode cX5_place 8 = .ok (.iload_n 1, 1) := by decide +kernel
theorem dX5_place_9 : decode cX5_place 9 = .ok (.iconst 0, 1) := by decide +kernel
theorem dX5_place_10 : decode cX5_place 10 = .ok (.bipush 9, 2) := by decide +kernel
theorem dX5_place_12 : decode cX5_place 12 = .ok (.invokevirtual 97, 3) := by decide +kernel
theorem dX5_place_15 : decode cX5_place 15 = .ok (.imul, 1) := by decide +kernel
theorem dX5_place_16 : decode cX5_place 16 = .ok (.istore_n 3, 1) := by decide +kernel
theorem dX5_place_17 : decode cX5_place 17 = .ok (.iload_n 3, 1) := by decide +kernel
theorem dX5_place_18 : decode cX5_place 18 = .ok (.aload_n 0, 1) := by decide +kernel
theorem dX5_place_19 : decode cX5_place 19 = .ok (.iload_n 1, 1) := by decide +kernel
theorem dX5_place_20 : decode cX5_place 20 = .ok (.iconst 0, 1) := by decide +kernel
theorem dX5_place_21 : decode cX5_place 21 = .ok (.bipush 9, 2) := by decide +kernel
theorem dX5_place_23 : decode cX5_place 23 = .ok (.invokevirtual 97, 3) := by decide +kernel
theorem dX5_place_26 : decode cX5_place 26 = .ok (.iadd, 1) := by decide +kernel
theorem dX5_place_27 : decode cX5_place 27 = .ok (.istore_n 3, 1) := by decide +kernel
theorem dX5_place_28 : decode cX5_place 28 = .ok (.aload_n 0, 1) := by decide +kernel
theorem dX5_place_29 : decode cX5_place 29 = .ok (.getfield 87, 3) := by decide +kernel
theorem dX5_place_32 : decode cX5_place 32 = .ok (.bipush (-9), 2) := by decide +kernel
theorem dX5_place_34 : decode cX5_place 34 = .ok (.if_icmp .ne 14, 3) := by decide +kernel
theorem dX5_place_37 : decode cX5_place 37 = .ok (.iload_n 3, 1) := by decide +kernel
theorem dX5_place_38 : decode cX5_place 38 = .ok (.bipush 15, 2) := by decide +kernel
theorem dX5_place_40 : decode cX5_place 40 = .ok (.if_icmp .le 8, 3) := by decide +kernel
theorem dX5_place_43 : decode cX5_place 43 = .ok (.aload_n 0, 1) := by decide +kernel
theorem dX5_place_44 : decode cX5_place 44 = .ok (.iload_n 2, 1) := by decide +kernel
theorem dX5_place_45 : decode cX5_place 45 = .ok (.invokevirtual 93, 3) := by decide +kernel
theorem dX5_place_48 : decode cX5_place 48 = .ok (.iload_n 3, 1) := by decide +kernel
theorem dX5_place_49 : decode cX5_place 49 = .ok (.ireturn, 1) := by decide +kernel
theorem dX5_kindOf_0 : decode cX5_kindOf 0 = .ok (.iload_n 0, 1) := by decide +kernel
theorem dX5_kindOf_1 : decode cX5_kindOf 1 = .ok (.bipush 112, 2) := by decide +kernel
theorem dX5_kindOf_3 : decode cX5_kindOf 3 = .ok (.if_icmp .ne 7, 3) := by decide +kernel
theorem dX5_kindOf_6 : decode cX5_kindOf 6 = .ok (.iconst 0, 1) := by decide +kernel
theorem dX5_kindOf_7 : decode cX5_kindOf 7 = .ok (.goto 55, 3) := by decide +kernel
theorem dX5_kindOf_10 : decode cX5_kindOf 10 = .ok (.iload_n 0, 1) := by decide +kernel
theorem dX5_kindOf_11 : decode cX5_kindOf 11 = .ok (.bipush 116, 2) := by decide +kernel
theorem dX5_kindOf_13 : decode cX5_kindOf 13 = .ok (.if_icmp .ne 7, 3) := by decide +kernel
theorem dX5_kindOf_16 : decode cX5_kindOf 16 = .ok (.iconst 1, 1) := by decide +kernel
theorem dX5_kindOf_17 : decode cX5_kindOf 17 = .ok (.goto 45, 3) := by decide +kernel
theorem dX5_kindOf_20 : decode cX5_kindOf 20 = .ok (.iload_n 0, 1) := by decide +kernel
theorem dX5_kindOf_21 : decode cX5_kindOf 21 = .ok (.bipush 108, 2) := by decide +kernel
theorem dX5_kindOf_23 : decode cX5_kindOf 23 = .ok (.if_icmp .ne 7, 3) := by decide +kernel
theorem dX5_kindOf_26 : decode cX5_kindOf 26 = .ok (.iconst 2, 1) := by decide +kernel
theorem dX5_kindOf_27 : decode cX5_kindOf 27 = .ok (.goto 35, 3) := by decide +kernel
theorem dX5_kindOf_30 : decode cX5_kindOf 30 = .ok (.iload_n 0, 1) := by decide +kernel
theorem dX5_kindOf_31 : decode cX5_kindOf 31 = .ok (.bipush 99, 2) := by decide +kernel
theorem dX5_kindOf_33 : decode cX5_kindOf 33 = .ok (.if_icmp .ne 7, 3) := by decide +kernel
theorem dX5_kindOf_36 : decode cX5_kindOf 36 = .ok (.iconst 3, 1) := by decide +kernel
theorem dX5_kindOf_37 : decode cX5_kindOf 37 = .ok (.goto 25, 3) := by decide +kernel
theorem dX5_kindOf_40 : decode cX5_kindOf 40 = .ok (.iload_n 0, 1) := by decide +kernel
theorem dX5_kindOf_41 : decode cX5_kindOf 41 = .ok (.bipush 104, 2) := by decide +kernel
theorem dX5_kindOf_43 : decode cX5_kindOf 43 = .ok (.if_icmp .ne 7, 3) := by decide +kernel
theorem dX5_kindOf_46 : decode cX5_kindOf 46 = .ok (.iconst 4, 1) := by decide +kernel
theorem dX5_kindOf_47 : decode cX5_kindOf 47 = .ok (.goto 15, 3) := by decide +kernel
theorem dX5_kindOf_50 : decode cX5_kindOf 50 = .ok (.iload_n 0, 1) := by decide +kernel
theorem dX5_kindOf_51 : decode cX5_kindOf 51 = .ok (.bipush 105, 2) := by decide +kernel
theorem dX5_kindOf_53 : decode cX5_kindOf 53 = .ok (.if_icmp .ne 7, 3) := by decide +kernel
theorem dX5_kindOf_56 : decode cX5_kindOf 56 = .ok (.iconst 5, 1) := by decide +kernel
theorem dX5_kindOf_57 : decode cX5_kindOf 57 = .ok (.goto 5, 3) := by decide +kernel
theorem dX5_kindOf_60 : decode cX5_kindOf 60 = .ok (.bipush (-9), 2) := by decide +kernel
theorem dX5_kindOf_62 : decode cX5_kindOf 62 = .ok (.ireturn, 1) := by decide +kernel
theorem dX5_readsPeel_0 : decode cX5_readsPeel 0 = .ok (.aload_n 0, 1) := by decide +kernel
theorem dX5_readsPeel_1 : decode cX5_readsPeel 1 = .ok (.iload_n 1, 1) := by decide +kernel
theorem dX5_readsPeel_2 : decode cX5_readsPeel 2 = .ok (.invokevirtual 90, 3) := by decide +kernel
theorem dX5_readsPeel_5 : decode cX5_readsPeel 5 = .ok (.invokestatic 101, 3) := by decide +kernel
theorem dX5_readsPeel_8 : decode cX5_readsPeel 8 = .ok (.istore_n 2, 1) := by decide +kernel
theorem dX5_readsPeel_9 : decode cX5_readsPeel 9 = .ok (.iconst 5, 1) := by decide +kernel
theorem dX5_readsPeel_10 : decode cX5_readsPeel 10 = .ok (.iconst 5, 1) := by decide +kernel
theorem dX5_readsPeel_11 : decode cX5_readsPeel 11 = .ok (.aload_n 0, 1) := by decide +kernel
theorem dX5_readsPeel_12 : decode cX5_readsPeel 12 = .ok (.getfield 28, 3) := by decide +kernel
theorem dX5_readsPeel_15 : decode cX5_readsPeel 15 = .ok (.iconst 1, 1) := by decide +kernel
theorem dX5_readsPeel_16 : decode cX5_readsPeel 16 = .ok (.iaload, 1) := by decide +kernel
theorem dX5_readsPeel_17 : decode cX5_readsPeel 17 = .ok (.bipush 6, 2) := by decide +kernel
theorem dX5_readsPeel_19 : decode cX5_readsPeel 19 = .ok (.if_icmp .ge 12, 3) := by decide +kernel
theorem dX5_readsPeel_22 : decode cX5_readsPeel 22 = .ok (.aload_n 0, 1) := by decide +kernel
theorem dX5_readsPeel_23 : decode cX5_readsPeel 23 = .ok (.getfield 28, 3) := by decide +kernel
theorem dX5_readsPeel_26 : decode cX5_readsPeel 26 = .ok (.iconst 1, 1) := by decide +kernel
theorem dX5_readsPeel_27 : decode cX5_readsPeel 27 = .ok (.iaload, 1) := by decide +kernel
theorem dX5_readsPeel_28 : decode cX5_readsPeel 28 = .ok (.goto 4, 3) := by decide +kernel
theorem dX5_readsPeel_31 : decode cX5_readsPeel 31 = .ok (.iconst 0, 1) := by decide +kernel
theorem dX5_readsPeel_32 : decode cX5_readsPeel 32 = .ok (.imul, 1) := by decide +kernel
theorem dX5_readsPeel_33 : decode cX5_readsPeel 33 = .ok (.iadd, 1) := by decide +kernel
theorem dX5_readsPeel_34 : decode cX5_readsPeel 34 = .ok (.istore_n 3, 1) := by decide +kernel
theorem dX5_readsPeel_35 : decode cX5_readsPeel 35 = .ok (.iload_n 2, 1) := by decide +kernel
theorem dX5_readsPeel_36 : decode cX5_readsPeel 36 = .ok (.bipush (-9), 2) := by decide +kernel
theorem dX5_readsPeel_38 : decode cX5_readsPeel 38 = .ok (.if_icmp .eq 14, 3) := by decide +kernel
theorem dX5_readsPeel_41 : decode cX5_readsPeel 41 = .ok (.aload_n 0, 1) := by decide +kernel
theorem dX5_readsPeel_42 : decode cX5_readsPeel 42 = .ok (.getfield 28, 3) := by decide +kernel
theorem dX5_readsPeel_45 : decode cX5_readsPeel 45 = .ok (.iconst 1, 1) := by decide +kernel
theorem dX5_readsPeel_46 : decode cX5_readsPeel 46 = .ok (.iaload, 1) := by decide +kernel
theorem dX5_readsPeel_47 : decode cX5_readsPeel 47 = .ok (.bipush 6, 2) := by decide +kernel
theorem dX5_readsPeel_49 : decode cX5_readsPeel 49 = .ok (.if_icmp .ne 11, 3) := by decide +kernel
theorem dX5_readsPeel_52 : decode cX5_readsPeel 52 = .ok (.aload_n 0, 1) := by decide +kernel
theorem dX5_readsPeel_53 : decode cX5_readsPeel 53 = .ok (.aload_n 0, 1) := by decide +kernel
theorem dX5_readsPeel_54 : decode cX5_readsPeel 54 = .ok (.getfield 84, 3) := by decide +kernel
theorem dX5_readsPeel_57 : decode cX5_readsPeel 57 = .ok (.invokevirtual 93, 3) := by decide +kernel
theorem dX5_readsPeel_60 : decode cX5_readsPeel 60 = .ok (.aload_n 0, 1) := by decide +kernel
theorem dX5_readsPeel_61 : decode cX5_readsPeel 61 = .ok (.dup, 1) := by decide +kernel
theorem dX5_readsPeel_62 : decode cX5_readsPeel 62 = .ok (.getfield 84, 3) := by decide +kernel
theorem dX5_readsPeel_65 : decode cX5_readsPeel 65 = .ok (.iconst 1, 1) := by decide +kernel
theorem dX5_readsPeel_66 : decode cX5_readsPeel 66 = .ok (.iadd, 1) := by decide +kernel
theorem dX5_readsPeel_67 : decode cX5_readsPeel 67 = .ok (.putfield 84, 3) := by decide +kernel
theorem dX5_readsPeel_70 : decode cX5_readsPeel 70 = .ok (.aload_n 0, 1) := by decide +kernel
theorem dX5_readsPeel_71 : decode cX5_readsPeel 71 = .ok (.iload_n 1, 1) := by decide +kernel
theorem dX5_readsPeel_72 : decode cX5_readsPeel 72 = .ok (.invokevirtual 104, 3) := by decide +kernel
theorem dX5_readsPeel_75 : decode cX5_readsPeel 75 = .ok (.istore 4, 2) := by decide +kernel
theorem dX5_readsPeel_77 : decode cX5_readsPeel 77 = .ok (.aload_n 0, 1) := by decide +kernel
theorem dX5_readsPeel_78 : decode cX5_readsPeel 78 = .ok (.iload_n 1, 1) := by decide +kernel
theorem dX5_readsPeel_79 : decode cX5_readsPeel 79 = .ok (.iconst 1, 1) := by decide +kernel
theorem dX5_readsPeel_80 : decode cX5_readsPeel 80 = .ok (.iconst 4, 1) := by decide +kernel
theorem dX5_readsPeel_81 : decode cX5_readsPeel 81 = .ok (.invokevirtual 97, 3) := by decide +kernel
theorem dX5_readsPeel_84 : decode cX5_readsPeel 84 = .ok (.istore 5, 2) := by decide +kernel
theorem dX5_readsPeel_86 : decode cX5_readsPeel 86 = .ok (.aload_n 0, 1) := by decide +kernel
theorem dX5_readsPeel_87 : decode cX5_readsPeel 87 = .ok (.iload_n 1, 1) := by decide +kernel
theorem dX5_readsPeel_88 : decode cX5_readsPeel 88 = .ok (.iconst 0, 1) := by decide +kernel
theorem dX5_readsPeel_89 : decode cX5_readsPeel 89 = .ok (.iconst 1, 1) := by decide +kernel
theorem dX5_readsPeel_90 : decode cX5_readsPeel 90 = .ok (.invokevirtual 97, 3) := by decide +kernel
theorem dX5_readsPeel_93 : decode cX5_readsPeel 93 = .ok (.istore 6, 2) := by decide +kernel
theorem dX5_readsPeel_95 : decode cX5_readsPeel 95 = .ok (.aload_n 0, 1) := by decide +kernel
theorem dX5_readsPeel_96 : decode cX5_readsPeel 96 = .ok (.getfield 87, 3) := by decide +kernel
theorem dX5_readsPeel_99 : decode cX5_readsPeel 99 = .ok (.bipush (-9), 2) := by decide +kernel
theorem dX5_readsPeel_101 : decode cX5_readsPeel 101 = .ok (.if_icmp .ne 50, 3) := by decide +kernel
theorem dX5_readsPeel_104 : decode cX5_readsPeel 104 = .ok (.aload_n 0, 1) := by decide +kernel
theorem dX5_readsPeel_105 : decode cX5_readsPeel 105 = .ok (.getfield 28, 3) := by decide +kernel
theorem dX5_readsPeel_108 : decode cX5_readsPeel 108 = .ok (.iload_n 3, 1) := by decide +kernel
theorem dX5_readsPeel_109 : decode cX5_readsPeel 109 = .ok (.iload_n 2, 1) := by decide +kernel
theorem dX5_readsPeel_110 : decode cX5_readsPeel 110 = .ok (.iastore, 1) := by decide +kernel
theorem dX5_readsPeel_111 : decode cX5_readsPeel 111 = .ok (.aload_n 0, 1) := by decide +kernel
theorem dX5_readsPeel_112 : decode cX5_readsPeel 112 = .ok (.getfield 28, 3) := by decide +kernel
theorem dX5_readsPeel_115 : decode cX5_readsPeel 115 = .ok (.iload_n 3, 1) := by decide +kernel
theorem dX5_readsPeel_116 : decode cX5_readsPeel 116 = .ok (.iconst 1, 1) := by decide +kernel
theorem dX5_readsPeel_117 : decode cX5_readsPeel 117 = .ok (.iadd, 1) := by decide +kernel
theorem dX5_readsPeel_118 : decode cX5_readsPeel 118 = .ok (.iload 4, 2) := by decide +kernel
theorem dX5_readsPeel_120 : decode cX5_readsPeel 120 = .ok (.iastore, 1) := by decide +kernel
theorem dX5_readsPeel_121 : decode cX5_readsPeel 121 = .ok (.aload_n 0, 1) := by decide +kernel
theorem dX5_readsPeel_122 : decode cX5_readsPeel 122 = .ok (.getfield 28, 3) := by decide +kernel
theorem dX5_readsPeel_125 : decode cX5_readsPeel 125 = .ok (.iload_n 3, 1) := by decide +kernel
theorem dX5_readsPeel_126 : decode cX5_readsPeel 126 = .ok (.iconst 2, 1) := by decide +kernel
theorem dX5_readsPeel_127 : decode cX5_readsPeel 127 = .ok (.iadd, 1) := by decide +kernel
theorem dX5_readsPeel_128 : decode cX5_readsPeel 128 = .ok (.iload 5, 2) := by decide +kernel
theorem dX5_readsPeel_130 : decode cX5_readsPeel 130 = .ok (.iastore, 1) := by decide +kernel
theorem dX5_readsPeel_131 : decode cX5_readsPeel 131 = .ok (.aload_n 0, 1) := by decide +kernel
theorem dX5_readsPeel_132 : decode cX5_readsPeel 132 = .ok (.getfield 28, 3) := by decide +kernel
theorem dX5_readsPeel_135 : decode cX5_readsPeel 135 = .ok (.iload_n 3, 1) := by decide +kernel
theorem dX5_readsPeel_136 : decode cX5_readsPeel 136 = .ok (.iconst 3, 1) := by decide +kernel
theorem dX5_readsPeel_137 : decode cX5_readsPeel 137 = .ok (.iadd, 1) := by decide +kernel
theorem dX5_readsPeel_138 : decode cX5_readsPeel 138 = .ok (.iload 6, 2) := by decide +kernel
theorem dX5_readsPeel_140 : decode cX5_readsPeel 140 = .ok (.iastore, 1) := by decide +kernel
theorem dX5_readsPeel_141 : decode cX5_readsPeel 141 = .ok (.aload_n 0, 1) := by decide +kernel
theorem dX5_readsPeel_142 : decode cX5_readsPeel 142 = .ok (.getfield 28, 3) := by decide +kernel
theorem dX5_readsPeel_145 : decode cX5_readsPeel 145 = .ok (.iconst 1, 1) := by decide +kernel
theorem dX5_readsPeel_146 : decode cX5_readsPeel 146 = .ok (.dup2, 1) := by decide +kernel
theorem dX5_readsPeel_147 : decode cX5_readsPeel 147 = .ok (.iaload, 1) := by decide +kernel
theorem dX5_readsPeel_148 : decode cX5_readsPeel 148 = .ok (.iconst 1, 1) := by decide +kernel
theorem dX5_readsPeel_149 : decode cX5_readsPeel 149 = .ok (.iadd, 1) := by decide +kernel
theorem dX5_readsPeel_150 : decode cX5_readsPeel 150 = .ok (.iastore, 1) := by decide +kernel
theorem dX5_readsPeel_151 : decode cX5_readsPeel 151 = .ok (.return_, 1) := by decide +kernel
theorem dX5_reads0_0 : decode cX5_reads0 0 = .ok (.iconst 0, 1) := by decide +kernel
theorem dX5_reads0_1 : decode cX5_reads0 1 = .ok (.istore_n 2, 1) := by decide +kernel
theorem dX5_reads0_2 : decode cX5_reads0 2 = .ok (.iload_n 2, 1) := by decide +kernel
theorem dX5_reads0_3 : decode cX5_reads0 3 = .ok (.bipush 35, 2) := by decide +kernel
theorem dX5_reads0_5 : decode cX5_reads0 5 = .ok (.if_icmp .ge 16, 3) := by decide +kernel
theorem dX5_reads0_8 : decode cX5_reads0 8 = .ok (.aload_n 0, 1) := by decide +kernel
theorem dX5_reads0_9 : decode cX5_reads0 9 = .ok (.getfield 28, 3) := by decide +kernel
theorem dX5_reads0_12 : decode cX5_reads0 12 = .ok (.iload_n 2, 1) := by decide +kernel
theorem dX5_reads0_13 : decode cX5_reads0 13 = .ok (.iconst 0, 1) := by decide +kernel
theorem dX5_reads0_14 : decode cX5_reads0 14 = .ok (.iastore, 1) := by decide +kernel
theorem dX5_reads0_15 : decode cX5_reads0 15 = .ok (.iinc 2 1, 3) := by decide +kernel
theorem dX5_reads0_18 : decode cX5_reads0 18 = .ok (.goto (-16), 3) := by decide +kernel
theorem dX5_reads0_21 : decode cX5_reads0 21 = .ok (.aload_n 0, 1) := by decide +kernel
theorem dX5_reads0_22 : decode cX5_reads0 22 = .ok (.iconst 0, 1) := by decide +kernel
theorem dX5_reads0_23 : decode cX5_reads0 23 = .ok (.putfield 84, 3) := by decide +kernel
theorem dX5_reads0_26 : decode cX5_reads0 26 = .ok (.aload_n 0, 1) := by decide +kernel
theorem dX5_reads0_27 : decode cX5_reads0 27 = .ok (.bipush (-9), 2) := by decide +kernel
theorem dX5_reads0_29 : decode cX5_reads0 29 = .ok (.putfield 87, 3) := by decide +kernel
theorem dX5_reads0_32 : decode cX5_reads0 32 = .ok (.aload_n 0, 1) := by decide +kernel
theorem dX5_reads0_33 : decode cX5_reads0 33 = .ok (.iload_n 1, 1) := by decide +kernel
theorem dX5_reads0_34 : decode cX5_reads0 34 = .ok (.invokevirtual 107, 3) := by decide +kernel
theorem dX5_reads0_37 : decode cX5_reads0 37 = .ok (.aload_n 0, 1) := by decide +kernel
theorem dX5_reads0_38 : decode cX5_reads0 38 = .ok (.iload_n 1, 1) := by decide +kernel
theorem dX5_reads0_39 : decode cX5_reads0 39 = .ok (.bipush 110, 2) := by decide +kernel
theorem dX5_reads0_41 : decode cX5_reads0 41 = .ok (.invokevirtual 110, 3) := by decide +kernel
theorem dX5_reads0_44 : decode cX5_reads0 44 = .ok (.aload_n 0, 1) := by decide +kernel
theorem dX5_reads0_45 : decode cX5_reads0 45 = .ok (.getfield 28, 3) := by decide +kernel
theorem dX5_reads0_48 : decode cX5_reads0 48 = .ok (.iconst 0, 1) := by decide +kernel
theorem dX5_reads0_49 : decode cX5_reads0 49 = .ok (.aload_n 0, 1) := by decide +kernel
theorem dX5_reads0_50 : decode cX5_reads0 50 = .ok (.iload_n 1, 1) := by decide +kernel
theorem dX5_reads0_51 : decode cX5_reads0 51 = .ok (.iconst 1, 1) := by decide +kernel
theorem dX5_reads0_52 : decode cX5_reads0 52 = .ok (.iconst 4, 1) := by decide +kernel
theorem dX5_reads0_53 : decode cX5_reads0 53 = .ok (.invokevirtual 97, 3) := by decide +kernel
theorem dX5_reads0_56 : decode cX5_reads0 56 = .ok (.iastore, 1) := by decide +kernel
theorem dX5_reads0_57 : decode cX5_reads0 57 = .ok (.aload_n 0, 1) := by decide +kernel
theorem dX5_reads0_58 : decode cX5_reads0 58 = .ok (.iload_n 1, 1) := by decide +kernel
theorem dX5_reads0_59 : decode cX5_reads0 59 = .ok (.invokevirtual 107, 3) := by decide +kernel
theorem dX5_reads0_62 : decode cX5_reads0 62 = .ok (.aload_n 0, 1) := by decide +kernel
theorem dX5_reads0_63 : decode cX5_reads0 63 = .ok (.getfield 87, 3) := by decide +kernel
theorem dX5_reads0_66 : decode cX5_reads0 66 = .ok (.bipush (-9), 2) := by decide +kernel
theorem dX5_reads0_68 : decode cX5_reads0 68 = .ok (.if_icmp .ne 27, 3) := by decide +kernel
theorem dX5_reads0_71 : decode cX5_reads0 71 = .ok (.aload_n 0, 1) := by decide +kernel
theorem dX5_reads0_72 : decode cX5_reads0 72 = .ok (.iload_n 1, 1) := by decide +kernel
theorem dX5_reads0_73 : decode cX5_reads0 73 = .ok (.invokevirtual 90, 3) := by decide +kernel
theorem dX5_reads0_76 : decode cX5_reads0 76 = .ok (.sipush (-1000), 3) := by decide +kernel
theorem dX5_reads0_79 : decode cX5_reads0 79 = .ok (.if_icmp .eq 16, 3) := by decide +kernel
theorem dX5_reads0_82 : decode cX5_reads0 82 = .ok (.aload_n 0, 1) := by decide +kernel
theorem dX5_reads0_83 : decode cX5_reads0 83 = .ok (.iload_n 1, 1) := by decide +kernel
theorem dX5_reads0_84 : decode cX5_reads0 84 = .ok (.invokevirtual 114, 3) := by decide +kernel
theorem dX5_reads0_87 : decode cX5_reads0 87 = .ok (.aload_n 0, 1) := by decide +kernel
theorem dX5_reads0_88 : decode cX5_reads0 88 = .ok (.iload_n 1, 1) := by decide +kernel
theorem dX5_reads0_89 : decode cX5_reads0 89 = .ok (.invokevirtual 107, 3) := by decide +kernel
theorem dX5_reads0_92 : decode cX5_reads0 92 = .ok (.goto (-30), 3) := by decide +kernel
theorem dX5_reads0_95 : decode cX5_reads0 95 = .ok (.aload_n 0, 1) := by decide +kernel
theorem dX5_reads0_96 : decode cX5_reads0 96 = .ok (.getfield 87, 3) := by decide +kernel
theorem dX5_reads0_99 : decode cX5_reads0 99 = .ok (.bipush (-9), 2) := by decide +kernel
theorem dX5_reads0_101 : decode cX5_reads0 101 = .ok (.if_icmp .ne 22, 3) := by decide +kernel
theorem dX5_reads0_104 : decode cX5_reads0 104 = .ok (.aload_n 0, 1) := by decide +kernel
theorem dX5_reads0_105 : decode cX5_reads0 105 = .ok (.getfield 28, 3) := by decide +kernel
theorem dX5_reads0_108 : decode cX5_reads0 108 = .ok (.iconst 1, 1) := by decide +kernel
theorem dX5_reads0_109 : decode cX5_reads0 109 = .ok (.iaload, 1) := by decide +kernel
theorem dX5_reads0_110 : decode cX5_reads0 110 = .ok (.ifCond .ne 13, 3) := by decide +kernel
theorem dX5_reads0_113 : decode cX5_reads0 113 = .ok (.aload_n 0, 1) := by decide +kernel
theorem dX5_reads0_114 : decode cX5_reads0 114 = .ok (.aload_n 0, 1) := by decide +kernel
theorem dX5_reads0_115 : decode cX5_reads0 115 = .ok (.getfield 16, 3) := by decide +kernel
theorem dX5_reads0_118 : decode cX5_reads0 118 = .ok (.iload_n 1, 1) := by decide +kernel
theorem dX5_reads0_119 : decode cX5_reads0 119 = .ok (.iaload, 1) := by decide +kernel
theorem dX5_reads0_120 : decode cX5_reads0 120 = .ok (.invokevirtual 93, 3) := by decide +kernel
theorem dX5_reads0_123 : decode cX5_reads0 123 = .ok (.aload_n 0, 1) := by decide +kernel
theorem dX5_reads0_124 : decode cX5_reads0 124 = .ok (.getfield 87, 3) := by decide +kernel
theorem dX5_reads0_127 : decode cX5_reads0 127 = .ok (.ireturn, 1) := by decide +kernel
theorem dX5_fault_0 : decode cX5_fault 0 = .ok (.iload_n 1, 1) := by decide +kernel
theorem dX5_fault_1 : decode cX5_fault 1 = .ok (.invokestatic 81, 3) := by decide +kernel
theorem dX5_fault_4 : decode cX5_fault 4 = .ok (.ifCond .ne 5, 3) := by decide +kernel
theorem dX5_fault_7 : decode cX5_fault 7 = .ok (.iconst (-1), 1) := by decide +kernel
theorem dX5_fault_8 : decode cX5_fault 8 = .ok (.ireturn, 1) := by decide +kernel
theorem dX5_fault_9 : decode cX5_fault 9 = .ok (.aload_n 0, 1) := by decide +kernel
theorem dX5_fault_10 : decode cX5_fault 10 = .ok (.getfield 16, 3) := by decide +kernel
theorem dX5_fault_13 : decode cX5_fault 13 = .ok (.iload_n 1, 1) := by decide +kernel
theorem dX5_fault_14 : decode cX5_fault 14 = .ok (.iaload, 1) := by decide +kernel
theorem dX5_fault_15 : decode cX5_fault 15 = .ok (.bipush (-9), 2) := by decide +kernel
theorem dX5_fault_17 : decode cX5_fault 17 = .ok (.if_icmp .ne 11, 3) := by decide +kernel
theorem dX5_fault_20 : decode cX5_fault 20 = .ok (.aload_n 0, 1) := by decide +kernel
theorem dX5_fault_21 : decode cX5_fault 21 = .ok (.iconst 1, 1) := by decide +kernel
theorem dX5_fault_22 : decode cX5_fault 22 = .ok (.invokevirtual 71, 3) := by decide +kernel
theorem dX5_fault_25 : decode cX5_fault 25 = .ok (.goto 8, 3) := by decide +kernel
theorem dX5_fault_28 : decode cX5_fault 28 = .ok (.aload_n 0, 1) := by decide +kernel
theorem dX5_fault_29 : decode cX5_fault 29 = .ok (.iload_n 1, 1) := by decide +kernel
theorem dX5_fault_30 : decode cX5_fault 30 = .ok (.invokevirtual 117, 3) := by decide +kernel
theorem dX5_fault_33 : decode cX5_fault 33 = .ok (.ireturn, 1) := by decide +kernel
theorem dX5_copies_0 : decode cX5_copies 0 = .ok (.iconst 0, 1) := by decide +kernel
theorem dX5_copies_1 : decode cX5_copies 1 = .ok (.istore 5, 2) := by decide +kernel
theorem dX5_copies_3 : decode cX5_copies 3 = .ok (.iload 5, 2) := by decide +kernel
theorem dX5_copies_5 : decode cX5_copies 5 = .ok (.iload 4, 2) := by decide +kernel
theorem dX5_copies_7 : decode cX5_copies 7 = .ok (.if_icmp .ge 21, 3) := by decide +kernel
theorem dX5_copies_10 : decode cX5_copies 10 = .ok (.aload_n 2, 1) := by decide +kernel
theorem dX5_copies_11 : decode cX5_copies 11 = .ok (.iload_n 3, 1) := by decide +kernel
theorem dX5_copies_12 : decode cX5_copies 12 = .ok (.iload 5, 2) := by decide +kernel
theorem dX5_copies_14 : decode cX5_copies 14 = .ok (.iadd, 1) := by decide +kernel
theorem dX5_copies_15 : decode cX5_copies 15 = .ok (.aload_n 0, 1) := by decide +kernel
theorem dX5_copies_16 : decode cX5_copies 16 = .ok (.iload_n 1, 1) := by decide +kernel
theorem dX5_copies_17 : decode cX5_copies 17 = .ok (.iload 5, 2) := by decide +kernel
theorem dX5_copies_19 : decode cX5_copies 19 = .ok (.iadd, 1) := by decide +kernel
theorem dX5_copies_20 : decode cX5_copies 20 = .ok (.iaload, 1) := by decide +kernel
theorem dX5_copies_21 : decode cX5_copies 21 = .ok (.iastore, 1) := by decide +kernel
theorem dX5_copies_22 : decode cX5_copies 22 = .ok (.iinc 5 1, 3) := by decide +kernel
theorem dX5_copies_25 : decode cX5_copies 25 = .ok (.goto (-22), 3) := by decide +kernel
theorem dX5_copies_28 : decode cX5_copies 28 = .ok (.return_, 1) := by decide +kernel
theorem dX5_slice_0 : decode cX5_slice 0 = .ok (.iload_n 1, 1) := by decide +kernel
theorem dX5_slice_1 : decode cX5_slice 1 = .ok (.invokestatic 81, 3) := by decide +kernel
theorem dX5_slice_4 : decode cX5_slice 4 = .ok (.ifCond .ne 5, 3) := by decide +kernel
theorem dX5_slice_7 : decode cX5_slice 7 = .ok (.iconst (-1), 1) := by decide +kernel
theorem dX5_slice_8 : decode cX5_slice 8 = .ok (.ireturn, 1) := by decide +kernel
theorem dX5_slice_9 : decode cX5_slice 9 = .ok (.aload_n 0, 1) := by decide +kernel
theorem dX5_slice_10 : decode cX5_slice 10 = .ok (.getfield 16, 3) := by decide +kernel
theorem dX5_slice_13 : decode cX5_slice 13 = .ok (.iload_n 1, 1) := by decide +kernel
theorem dX5_slice_14 : decode cX5_slice 14 = .ok (.iaload, 1) := by decide +kernel
theorem dX5_slice_15 : decode cX5_slice 15 = .ok (.bipush (-9), 2) := by decide +kernel
theorem dX5_slice_17 : decode cX5_slice 17 = .ok (.if_icmp .ne 9, 3) := by decide +kernel
theorem dX5_slice_20 : decode cX5_slice 20 = .ok (.aload_n 0, 1) := by decide +kernel
theorem dX5_slice_21 : decode cX5_slice 21 = .ok (.iconst 1, 1) := by decide +kernel
theorem dX5_slice_22 : decode cX5_slice 22 = .ok (.invokevirtual 71, 3) := by decide +kernel
theorem dX5_slice_25 : decode cX5_slice 25 = .ok (.ireturn, 1) := by decide +kernel
theorem dX5_slice_26 : decode cX5_slice 26 = .ok (.aload_n 0, 1) := by decide +kernel
theorem dX5_slice_27 : decode cX5_slice 27 = .ok (.iload_n 1, 1) := by decide +kernel
theorem dX5_slice_28 : decode cX5_slice 28 = .ok (.invokevirtual 117, 3) := by decide +kernel
theorem dX5_slice_31 : decode cX5_slice 31 = .ok (.bipush (-9), 2) := by decide +kernel
theorem dX5_slice_33 : decode cX5_slice 33 = .ok (.if_icmp .eq 6, 3) := by decide +kernel
theorem dX5_slice_36 : decode cX5_slice 36 = .ok (.bipush (-4), 2) := by decide +kernel
theorem dX5_slice_38 : decode cX5_slice 38 = .ok (.ireturn, 1) := by decide +kernel
theorem dX5_slice_39 : decode cX5_slice 39 = .ok (.aload_n 0, 1) := by decide +kernel
theorem dX5_slice_40 : decode cX5_slice 40 = .ok (.getfield 28, 3) := by decide +kernel
theorem dX5_slice_43 : decode cX5_slice 43 = .ok (.iconst 0, 1) := by decide +kernel
theorem dX5_slice_44 : decode cX5_slice 44 = .ok (.aload_n 0, 1) := by decide +kernel
theorem dX5_slice_45 : decode cX5_slice 45 = .ok (.getfield 25, 3) := by decide +kernel
theorem dX5_slice_48 : decode cX5_slice 48 = .ok (.iconst 0, 1) := by decide +kernel
theorem dX5_slice_49 : decode cX5_slice 49 = .ok (.bipush 35, 2) := by decide +kernel
theorem dX5_slice_51 : decode cX5_slice 51 = .ok (.invokestatic 120, 3) := by decide +kernel
theorem dX5_slice_54 : decode cX5_slice 54 = .ok (.aload_n 0, 1) := by decide +kernel
theorem dX5_slice_55 : decode cX5_slice 55 = .ok (.iconst 0, 1) := by decide +kernel
theorem dX5_slice_56 : decode cX5_slice 56 = .ok (.putfield 124, 3) := by decide +kernel
theorem dX5_slice_59 : decode cX5_slice 59 = .ok (.iconst 0, 1) := by decide +kernel
theorem dX5_slice_60 : decode cX5_slice 60 = .ok (.istore_n 2, 1) := by decide +kernel
theorem dX5_slice_61 : decode cX5_slice 61 = .ok (.iload_n 2, 1) := by decide +kernel
theorem dX5_slice_62 : decode cX5_slice 62 = .ok (.iconst 3, 1) := by decide +kernel
theorem dX5_slice_63 : decode cX5_slice 63 = .ok (.if_icmp .ge 17, 3) := by decide +kernel
theorem dX5_slice_66 : decode cX5_slice 66 = .ok (.aload_n 0, 1) := by decide +kernel
theorem dX5_slice_67 : decode cX5_slice 67 = .ok (.getfield 43, 3) := by decide +kernel
theorem dX5_slice_70 : decode cX5_slice 70 = .ok (.iload_n 2, 1) := by decide +kernel
theorem dX5_slice_71 : decode cX5_slice 71 = .ok (.bipush (-9), 2) := by decide +kernel
theorem dX5_slice_73 : decode cX5_slice 73 = .ok (.iastore, 1) := by decide +kernel
theorem dX5_slice_74 : decode cX5_slice 74 = .ok (.iinc 2 1, 3) := by decide +kernel
theorem dX5_slice_77 : decode cX5_slice 77 = .ok (.goto (-16), 3) := by decide +kernel
theorem dX5_slice_80 : decode cX5_slice 80 = .ok (.aload_n 0, 1) := by decide +kernel
theorem dX5_slice_81 : decode cX5_slice 81 = .ok (.getfield 25, 3) := by decide +kernel
theorem dX5_slice_84 : decode cX5_slice 84 = .ok (.iconst 1, 1) := by decide +kernel
theorem dX5_slice_85 : decode cX5_slice 85 = .ok (.iaload, 1) := by decide +kernel
theorem dX5_slice_86 : decode cX5_slice 86 = .ok (.ireturn, 1) := by decide +kernel
theorem dX5_isPeel_0 : decode cX5_isPeel 0 = .ok (.iload_n 1, 1) := by decide +kernel
theorem dX5_isPeel_1 : decode cX5_isPeel 1 = .ok (.iconst 0, 1) := by decide +kernel
theorem dX5_isPeel_2 : decode cX5_isPeel 2 = .ok (.aload_n 0, 1) := by decide +kernel
theorem dX5_isPeel_3 : decode cX5_isPeel 3 = .ok (.getfield 25, 3) := by decide +kernel
theorem dX5_isPeel_6 : decode cX5_isPeel 6 = .ok (.iconst 1, 1) := by decide +kernel
theorem dX5_isPeel_7 : decode cX5_isPeel 7 = .ok (.iaload, 1) := by decide +kernel
theorem dX5_isPeel_8 : decode cX5_isPeel 8 = .ok (.iconst 1, 1) := by decide +kernel
theorem dX5_isPeel_9 : decode cX5_isPeel 9 = .ok (.isub, 1) := by decide +kernel
theorem dX5_isPeel_10 : decode cX5_isPeel 10 = .ok (.invokestatic 63, 3) := by decide +kernel
theorem dX5_isPeel_13 : decode cX5_isPeel 13 = .ok (.ireturn, 1) := by decide +kernel
theorem dX5_isAny_0 : decode cX5_isAny 0 = .ok (.aload_n 0, 1) := by decide +kernel
theorem dX5_isAny_1 : decode cX5_isAny 1 = .ok (.getfield 25, 3) := by decide +kernel
theorem dX5_isAny_4 : decode cX5_isAny 4 = .ok (.iconst 1, 1) := by decide +kernel
theorem dX5_isAny_5 : decode cX5_isAny 5 = .ok (.iaload, 1) := by decide +kernel
theorem dX5_isAny_6 : decode cX5_isAny 6 = .ok (.ifCond .le 7, 3) := by decide +kernel
theorem dX5_isAny_9 : decode cX5_isAny 9 = .ok (.iconst 1, 1) := by decide +kernel
theorem dX5_isAny_10 : decode cX5_isAny 10 = .ok (.goto 4, 3) := by decide +kernel
theorem dX5_isAny_13 : decode cX5_isAny 13 = .ok (.iconst 0, 1) := by decide +kernel
theorem dX5_isAny_14 : decode cX5_isAny 14 = .ok (.ireturn, 1) := by decide +kernel
theorem dX5_bitOf_0 : decode cX5_bitOf 0 = .ok (.iload_n 0, 1) := by decide +kernel
theorem dX5_bitOf_1 : decode cX5_bitOf 1 = .ok (.iconst 4, 1) := by decide +kernel
theorem dX5_bitOf_2 : decode cX5_bitOf 2 = .ok (.idiv, 1) := by decide +kernel
theorem dX5_bitOf_3 : decode cX5_bitOf 3 = .ok (.iload_n 1, 1) := by decide +kernel
theorem dX5_bitOf_4 : decode cX5_bitOf 4 = .ok (.iconst 1, 1) := by decide +kernel
theorem dX5_bitOf_5 : decode cX5_bitOf 5 = .ok (.if_icmp .ne 7, 3) := by decide +kernel
theorem dX5_bitOf_8 : decode cX5_bitOf 8 = .ok (.iload_n 2, 1) := by decide +kernel
theorem dX5_bitOf_9 : decode cX5_bitOf 9 = .ok (.goto 4, 3) := by decide +kernel
theorem dX5_bitOf_12 : decode cX5_bitOf 12 = .ok (.iconst 0, 1) := by decide +kernel
theorem dX5_bitOf_13 : decode cX5_bitOf 13 = .ok (.iadd, 1) := by decide +kernel
theorem dX5_bitOf_14 : decode cX5_bitOf 14 = .ok (.istore_n 3, 1) := by decide +kernel
theorem dX5_bitOf_15 : decode cX5_bitOf 15 = .ok (.iload_n 0, 1) := by decide +kernel
theorem dX5_bitOf_16 : decode cX5_bitOf 16 = .ok (.iconst 4, 1) := by decide +kernel
theorem dX5_bitOf_17 : decode cX5_bitOf 17 = .ok (.irem, 1) := by decide +kernel
theorem dX5_bitOf_18 : decode cX5_bitOf 18 = .ok (.iload_n 1, 1) := by decide +kernel
theorem dX5_bitOf_19 : decode cX5_bitOf 19 = .ok (.iconst 1, 1) := by decide +kernel
theorem dX5_bitOf_20 : decode cX5_bitOf 20 = .ok (.if_icmp .ne 7, 3) := by decide +kernel
theorem dX5_bitOf_23 : decode cX5_bitOf 23 = .ok (.iconst 0, 1) := by decide +kernel
theorem dX5_bitOf_24 : decode cX5_bitOf 24 = .ok (.goto 4, 3) := by decide +kernel
theorem dX5_bitOf_27 : decode cX5_bitOf 27 = .ok (.iload_n 2, 1) := by decide +kernel
theorem dX5_bitOf_28 : decode cX5_bitOf 28 = .ok (.iadd, 1) := by decide +kernel
theorem dX5_bitOf_29 : decode cX5_bitOf 29 = .ok (.istore 4, 2) := by decide +kernel
theorem dX5_bitOf_31 : decode cX5_bitOf 31 = .ok (.iload_n 3, 1) := by decide +kernel
theorem dX5_bitOf_32 : decode cX5_bitOf 32 = .ok (.iconst 3, 1) := by decide +kernel
theorem dX5_bitOf_33 : decode cX5_bitOf 33 = .ok (.if_icmp .gt 9, 3) := by decide +kernel
theorem dX5_bitOf_36 : decode cX5_bitOf 36 = .ok (.iload 4, 2) := by decide +kernel
theorem dX5_bitOf_38 : decode cX5_bitOf 38 = .ok (.iconst 3, 1) := by decide +kernel
theorem dX5_bitOf_39 : decode cX5_bitOf 39 = .ok (.if_icmp .le 7, 3) := by decide +kernel
theorem dX5_bitOf_42 : decode cX5_bitOf 42 = .ok (.iconst 0, 1) := by decide +kernel
theorem dX5_bitOf_43 : decode cX5_bitOf 43 = .ok (.goto 11, 3) := by decide +kernel
theorem dX5_bitOf_46 : decode cX5_bitOf 46 = .ok (.iconst 1, 1) := by decide +kernel
theorem dX5_bitOf_47 : decode cX5_bitOf 47 = .ok (.iconst 4, 1) := by decide +kernel
theorem dX5_bitOf_48 : decode cX5_bitOf 48 = .ok (.iload_n 3, 1) := by decide +kernel
theorem dX5_bitOf_49 : decode cX5_bitOf 49 = .ok (.imul, 1) := by decide +kernel
theorem dX5_bitOf_50 : decode cX5_bitOf 50 = .ok (.iload 4, 2) := by decide +kernel
theorem dX5_bitOf_52 : decode cX5_bitOf 52 = .ok (.iadd, 1) := by decide +kernel
theorem dX5_bitOf_53 : decode cX5_bitOf 53 = .ok (.ishl, 1) := by decide +kernel
theorem dX5_bitOf_54 : decode cX5_bitOf 54 = .ok (.ireturn, 1) := by decide +kernel
theorem dX5_plainly_0 : decode cX5_plainly 0 = .ok (.iconst 0, 1) := by decide +kernel
theorem dX5_plainly_1 : decode cX5_plainly 1 = .ok (.istore_n 3, 1) := by decide +kernel
theorem dX5_plainly_2 : decode cX5_plainly 2 = .ok (.iconst 0, 1) := by decide +kernel
theorem dX5_plainly_3 : decode cX5_plainly 3 = .ok (.istore 4, 2) := by decide +kernel
theorem dX5_plainly_5 : decode cX5_plainly 5 = .ok (.iload 4, 2) := by decide +kernel
theorem dX5_plainly_7 : decode cX5_plainly 7 = .ok (.iload_n 1, 1) := by decide +kernel
theorem dX5_plainly_8 : decode cX5_plainly 8 = .ok (.if_icmp .ge 19, 3) := by decide +kernel
theorem dX5_plainly_11 : decode cX5_plainly 11 = .ok (.iload_n 3, 1) := by decide +kernel
theorem dX5_plainly_12 : decode cX5_plainly 12 = .ok (.iload_n 0, 1) := by decide +kernel
theorem dX5_plainly_13 : decode cX5_plainly 13 = .ok (.iload_n 2, 1) := by decide +kernel
theorem dX5_plainly_14 : decode cX5_plainly 14 = .ok (.iload 4, 2) := by decide +kernel
theorem dX5_plainly_16 : decode cX5_plainly 16 = .ok (.invokestatic 127, 3) := by decide +kernel
theorem dX5_plainly_19 : decode cX5_plainly 19 = .ok (.ior, 1) := by decide +kernel
theorem dX5_plainly_20 : decode cX5_plainly 20 = .ok (.istore_n 3, 1) := by decide +kernel
theorem dX5_plainly_21 : decode cX5_plainly 21 = .ok (.iinc 4 1, 3) := by decide +kernel
theorem dX5_plainly_24 : decode cX5_plainly 24 = .ok (.goto (-19), 3) := by decide +kernel
theorem dX5_plainly_27 : decode cX5_plainly 27 = .ok (.iload_n 3, 1) := by decide +kernel
theorem dX5_plainly_28 : decode cX5_plainly 28 = .ok (.ireturn, 1) := by decide +kernel
theorem dX5_thinly_0 : decode cX5_thinly 0 = .ok (.iload_n 0, 1) := by decide +kernel
theorem dX5_thinly_1 : decode cX5_thinly 1 = .ok (.iload_n 2, 1) := by decide +kernel
theorem dX5_thinly_2 : decode cX5_thinly 2 = .ok (.iconst 0, 1) := by decide +kernel
theorem dX5_thinly_3 : decode cX5_thinly 3 = .ok (.invokestatic 127, 3) := by decide +kernel
theorem dX5_thinly_6 : decode cX5_thinly 6 = .ok (.iload_n 1, 1) := by decide +kernel
theorem dX5_thinly_7 : decode cX5_thinly 7 = .ok (.iconst 2, 1) := by decide +kernel
theorem dX5_thinly_8 : decode cX5_thinly 8 = .ok (.if_icmp .le 12, 3) := by decide +kernel
theorem dX5_thinly_11 : decode cX5_thinly 11 = .ok (.iload_n 0, 1) := by decide +kernel
theorem dX5_thinly_12 : decode cX5_thinly 12 = .ok (.iload_n 2, 1) := by decide +kernel
theorem dX5_thinly_13 : decode cX5_thinly 13 = .ok (.iconst 2, 1) := by decide +kernel
theorem dX5_thinly_14 : decode cX5_thinly 14 = .ok (.invokestatic 127, 3) := by decide +kernel
theorem dX5_thinly_17 : decode cX5_thinly 17 = .ok (.goto 4, 3) := by decide +kernel
theorem dX5_thinly_20 : decode cX5_thinly 20 = .ok (.iconst 0, 1) := by decide +kernel
theorem dX5_thinly_21 : decode cX5_thinly 21 = .ok (.ior, 1) := by decide +kernel
theorem dX5_thinly_22 : decode cX5_thinly 22 = .ok (.ireturn, 1) := by decide +kernel
theorem dX5_coversOf_0 : decode cX5_coversOf 0 = .ok (.iload_n 0, 1) := by decide +kernel
theorem dX5_coversOf_1 : decode cX5_coversOf 1 = .ok (.tableswitch 124 1 5 #[35, 42, 88, 104, 120], 35) := by decide +kernel
theorem dX5_coversOf_36 : decode cX5_coversOf 36 = .ok (.iload_n 1, 1) := by decide +kernel
theorem dX5_coversOf_37 : decode cX5_coversOf 37 = .ok (.iload_n 2, 1) := by decide +kernel
theorem dX5_coversOf_38 : decode cX5_coversOf 38 = .ok (.iload_n 3, 1) := by decide +kernel
theorem dX5_coversOf_39 : decode cX5_coversOf 39 = .ok (.invokestatic 130, 3) := by decide +kernel
theorem dX5_coversOf_42 : decode cX5_coversOf 42 = .ok (.ireturn, 1) := by decide +kernel
theorem dX5_coversOf_43 : decode cX5_coversOf 43 = .ok (.iload_n 1, 1) := by decide +kernel
theorem dX5_coversOf_44 : decode cX5_coversOf 44 = .ok (.iconst 0, 1) := by decide +kernel
theorem dX5_coversOf_45 : decode cX5_coversOf 45 = .ok (.iconst 1, 1) := by decide +kernel
theorem dX5_coversOf_46 : decode cX5_coversOf 46 = .ok (.invokestatic 127, 3) := by decide +kernel
theorem dX5_coversOf_49 : decode cX5_coversOf 49 = .ok (.istore 4, 2) := by decide +kernel
theorem dX5_coversOf_51 : decode cX5_coversOf 51 = .ok (.iload_n 1, 1) := by decide +kernel
theorem dX5_coversOf_52 : decode cX5_coversOf 52 = .ok (.iconst 1, 1) := by decide +kernel
theorem dX5_coversOf_53 : decode cX5_coversOf 53 = .ok (.iconst 1, 1) := by decide +kernel
theorem dX5_coversOf_54 : decode cX5_coversOf 54 = .ok (.invokestatic 127, 3) := by decide +kernel
theorem dX5_coversOf_57 : decode cX5_coversOf 57 = .ok (.istore 5, 2) := by decide +kernel
theorem dX5_coversOf_59 : decode cX5_coversOf 59 = .ok (.iconst 1, 1) := by decide +kernel
theorem dX5_coversOf_60 : decode cX5_coversOf 60 = .ok (.iload_n 1, 1) := by decide +kernel
theorem dX5_coversOf_61 : decode cX5_coversOf 61 = .ok (.ishl, 1) := by decide +kernel
theorem dX5_coversOf_62 : decode cX5_coversOf 62 = .ok (.iload 4, 2) := by decide +kernel
theorem dX5_coversOf_64 : decode cX5_coversOf 64 = .ok (.ior, 1) := by decide +kernel
theorem dX5_coversOf_65 : decode cX5_coversOf 65 = .ok (.iload 5, 2) := by decide +kernel
theorem dX5_coversOf_67 : decode cX5_coversOf 67 = .ok (.ior, 1) := by decide +kernel
theorem dX5_coversOf_68 : decode cX5_coversOf 68 = .ok (.iload 4, 2) := by decide +kernel
theorem dX5_coversOf_70 : decode cX5_coversOf 70 = .ok (.ifCond .eq 16, 3) := by decide +kernel
theorem dX5_coversOf_73 : decode cX5_coversOf 73 = .ok (.iload 5, 2) := by decide +kernel
theorem dX5_coversOf_75 : decode cX5_coversOf 75 = .ok (.ifCond .eq 11, 3) := by decide +kernel
theorem dX5_coversOf_78 : decode cX5_coversOf 78 = .ok (.iconst 1, 1) := by decide +kernel
theorem dX5_coversOf_79 : decode cX5_coversOf 79 = .ok (.iload_n 1, 1) := by decide +kernel
theorem dX5_coversOf_80 : decode cX5_coversOf 80 = .ok (.iconst 5, 1) := by decide +kernel
theorem dX5_coversOf_81 : decode cX5_coversOf 81 = .ok (.iadd, 1) := by decide +kernel
theorem dX5_coversOf_82 : decode cX5_coversOf 82 = .ok (.ishl, 1) := by decide +kernel
theorem dX5_coversOf_83 : decode cX5_coversOf 83 = .ok (.goto 4, 3) := by decide +kernel
theorem dX5_coversOf_86 : decode cX5_coversOf 86 = .ok (.iconst 0, 1) := by decide +kernel
theorem dX5_coversOf_87 : decode cX5_coversOf 87 = .ok (.ior, 1) := by decide +kernel
theorem dX5_coversOf_88 : decode cX5_coversOf 88 = .ok (.ireturn, 1) := by decide +kernel
theorem dX5_coversOf_89 : decode cX5_coversOf 89 = .ok (.iload_n 1, 1) := by decide +kernel
theorem dX5_coversOf_90 : decode cX5_coversOf 90 = .ok (.iload_n 2, 1) := by decide +kernel
theorem dX5_coversOf_91 : decode cX5_coversOf 91 = .ok (.iload_n 3, 1) := by decide +kernel
theorem dX5_coversOf_92 : decode cX5_coversOf 92 = .ok (.invokestatic 133, 3) := by decide +kernel
theorem dX5_coversOf_95 : decode cX5_coversOf 95 = .ok (.iload_n 1, 1) := by decide +kernel
theorem dX5_coversOf_96 : decode cX5_coversOf 96 = .ok (.iconst 2, 1) := by decide +kernel
theorem dX5_coversOf_97 : decode cX5_coversOf 97 = .ok (.iconst 1, 1) := by decide +kernel
theorem dX5_coversOf_98 : decode cX5_coversOf 98 = .ok (.iload_n 3, 1) := by decide +kernel
theorem dX5_coversOf_99 : decode cX5_coversOf 99 = .ok (.isub, 1) := by decide +kernel
theorem dX5_coversOf_100 : decode cX5_coversOf 100 = .ok (.invokestatic 133, 3) := by decide +kernel
theorem dX5_coversOf_103 : decode cX5_coversOf 103 = .ok (.ior, 1) := by decide +kernel
theorem dX5_coversOf_104 : decode cX5_coversOf 104 = .ok (.ireturn, 1) := by decide +kernel
theorem dX5_coversOf_105 : decode cX5_coversOf 105 = .ok (.iload_n 1, 1) := by decide +kernel
theorem dX5_coversOf_106 : decode cX5_coversOf 106 = .ok (.iload_n 2, 1) := by decide +kernel
theorem dX5_coversOf_107 : decode cX5_coversOf 107 = .ok (.iload_n 3, 1) := by decide +kernel
theorem dX5_coversOf_108 : decode cX5_coversOf 108 = .ok (.invokestatic 130, 3) := by decide +kernel
theorem dX5_coversOf_111 : decode cX5_coversOf 111 = .ok (.iload_n 1, 1) := by decide +kernel
theorem dX5_coversOf_112 : decode cX5_coversOf 112 = .ok (.iload_n 2, 1) := by decide +kernel
theorem dX5_coversOf_113 : decode cX5_coversOf 113 = .ok (.iconst 1, 1) := by decide +kernel
theorem dX5_coversOf_114 : decode cX5_coversOf 114 = .ok (.iload_n 3, 1) := by decide +kernel
theorem dX5_coversOf_115 : decode cX5_coversOf 115 = .ok (.isub, 1) := by decide +kernel
theorem dX5_coversOf_116 : decode cX5_coversOf 116 = .ok (.invokestatic 130, 3) := by decide +kernel
theorem dX5_coversOf_119 : decode cX5_coversOf 119 = .ok (.ior, 1) := by decide +kernel
theorem dX5_coversOf_120 : decode cX5_coversOf 120 = .ok (.ireturn, 1) := by decide +kernel
theorem dX5_coversOf_121 : decode cX5_coversOf 121 = .ok (.iconst 1, 1) := by decide +kernel
theorem dX5_coversOf_122 : decode cX5_coversOf 122 = .ok (.iload_n 1, 1) := by decide +kernel
theorem dX5_coversOf_123 : decode cX5_coversOf 123 = .ok (.ishl, 1) := by decide +kernel
theorem dX5_coversOf_124 : decode cX5_coversOf 124 = .ok (.ireturn, 1) := by decide +kernel
theorem dX5_coversOf_125 : decode cX5_coversOf 125 = .ok (.iload_n 1, 1) := by decide +kernel
theorem dX5_coversOf_126 : decode cX5_coversOf 126 = .ok (.iload_n 2, 1) := by decide +kernel
theorem dX5_coversOf_127 : decode cX5_coversOf 127 = .ok (.iload_n 3, 1) := by decide +kernel
theorem dX5_coversOf_128 : decode cX5_coversOf 128 = .ok (.invokestatic 133, 3) := by decide +kernel
theorem dX5_coversOf_131 : decode cX5_coversOf 131 = .ok (.ireturn, 1) := by decide +kernel
theorem dX5_coverOf_0 : decode cX5_coverOf 0 = .ok (.iconst 5, 1) := by decide +kernel
theorem dX5_coverOf_1 : decode cX5_coverOf 1 = .ok (.iconst 5, 1) := by decide +kernel
theorem dX5_coverOf_2 : decode cX5_coverOf 2 = .ok (.iload_n 1, 1) := by decide +kernel
theorem dX5_coverOf_3 : decode cX5_coverOf 3 = .ok (.imul, 1) := by decide +kernel
theorem dX5_coverOf_4 : decode cX5_coverOf 4 = .ok (.iadd, 1) := by decide +kernel
theorem dX5_coverOf_5 : decode cX5_coverOf 5 = .ok (.istore_n 2, 1) := by decide +kernel
theorem dX5_coverOf_6 : decode cX5_coverOf 6 = .ok (.aload_n 0, 1) := by decide +kernel
theorem dX5_coverOf_7 : decode cX5_coverOf 7 = .ok (.iload_n 2, 1) := by decide +kernel
theorem dX5_coverOf_8 : decode cX5_coverOf 8 = .ok (.iaload, 1) := by decide +kernel
theorem dX5_coverOf_9 : decode cX5_coverOf 9 = .ok (.aload_n 0, 1) := by decide +kernel
theorem dX5_coverOf_10 : decode cX5_coverOf 10 = .ok (.iload_n 2, 1) := by decide +kernel
theorem dX5_coverOf_11 : decode cX5_coverOf 11 = .ok (.iconst 1, 1) := by decide +kernel
theorem dX5_coverOf_12 : decode cX5_coverOf 12 = .ok (.iadd, 1) := by decide +kernel
theorem dX5_coverOf_13 : decode cX5_coverOf 13 = .ok (.iaload, 1) := by decide +kernel
theorem dX5_coverOf_14 : decode cX5_coverOf 14 = .ok (.aload_n 0, 1) := by decide +kernel
theorem dX5_coverOf_15 : decode cX5_coverOf 15 = .ok (.iload_n 2, 1) := by decide +kernel
theorem dX5_coverOf_16 : decode cX5_coverOf 16 = .ok (.iconst 2, 1) := by decide +kernel
theorem dX5_coverOf_17 : decode cX5_coverOf 17 = .ok (.iadd, 1) := by decide +kernel
theorem dX5_coverOf_18 : decode cX5_coverOf 18 = .ok (.iaload, 1) := by decide +kernel
theorem dX5_coverOf_19 : decode cX5_coverOf 19 = .ok (.aload_n 0, 1) := by decide +kernel
theorem dX5_coverOf_20 : decode cX5_coverOf 20 = .ok (.iload_n 2, 1) := by decide +kernel
theorem dX5_coverOf_21 : decode cX5_coverOf 21 = .ok (.iconst 3, 1) := by decide +kernel
theorem dX5_coverOf_22 : decode cX5_coverOf 22 = .ok (.iadd, 1) := by decide +kernel
theorem dX5_coverOf_23 : decode cX5_coverOf 23 = .ok (.iaload, 1) := by decide +kernel
theorem dX5_coverOf_24 : decode cX5_coverOf 24 = .ok (.invokestatic 136, 3) := by decide +kernel
theorem dX5_coverOf_27 : decode cX5_coverOf 27 = .ok (.ireturn, 1) := by decide +kernel
theorem dX5_coveredBut_0 : decode cX5_coveredBut 0 = .ok (.iconst 0, 1) := by decide +kernel
theorem dX5_coveredBut_1 : decode cX5_coveredBut 1 = .ok (.istore_n 2, 1) := by decide +kernel
theorem dX5_coveredBut_2 : decode cX5_coveredBut 2 = .ok (.iconst 0, 1) := by decide +kernel
theorem dX5_coveredBut_3 : decode cX5_coveredBut 3 = .ok (.istore_n 3, 1) := by decide +kernel
theorem dX5_coveredBut_4 : decode cX5_coveredBut 4 = .ok (.iload_n 3, 1) := by decide +kernel
theorem dX5_coveredBut_5 : decode cX5_coveredBut 5 = .ok (.aload_n 0, 1) := by decide +kernel
theorem dX5_coveredBut_6 : decode cX5_coveredBut 6 = .ok (.iconst 1, 1) := by decide +kernel
theorem dX5_coveredBut_7 : decode cX5_coveredBut 7 = .ok (.iaload, 1) := by decide +kernel
theorem dX5_coveredBut_8 : decode cX5_coveredBut 8 = .ok (.if_icmp .ge 42, 3) := by decide +kernel
theorem dX5_coveredBut_11 : decode cX5_coveredBut 11 = .ok (.iload_n 2, 1) := by decide +kernel
theorem dX5_coveredBut_12 : decode cX5_coveredBut 12 = .ok (.aload_n 0, 1) := by decide +kernel
theorem dX5_coveredBut_13 : decode cX5_coveredBut 13 = .ok (.iconst 5, 1) := by decide +kernel
theorem dX5_coveredBut_14 : decode cX5_coveredBut 14 = .ok (.iconst 5, 1) := by decide +kernel
theorem dX5_coveredBut_15 : decode cX5_coveredBut 15 = .ok (.iload_n 3, 1) := by decide +kernel
theorem dX5_coveredBut_16 : decode cX5_coveredBut 16 = .ok (.imul, 1) := by decide +kernel
theorem dX5_coveredBut_17 : decode cX5_coveredBut 17 = .ok (.iadd, 1) := by decide +kernel
theorem dX5_coveredBut_18 : decode cX5_coveredBut 18 = .ok (.iconst 4, 1) := by decide +kernel
theorem dX5_coveredBut_19 : decode cX5_coveredBut 19 = .ok (.iadd, 1) := by decide +kernel
theorem dX5_coveredBut_20 : decode cX5_coveredBut 20 = .ok (.iaload, 1) := by decide +kernel
theorem dX5_coveredBut_21 : decode cX5_coveredBut 21 = .ok (.iconst 1, 1) := by decide +kernel
theorem dX5_coveredBut_22 : decode cX5_coveredBut 22 = .ok (.if_icmp .eq 11, 3) := by decide +kernel
theorem dX5_coveredBut_25 : decode cX5_coveredBut 25 = .ok (.iload_n 1, 1) := by decide +kernel
theorem dX5_coveredBut_26 : decode cX5_coveredBut 26 = .ok (.iload_n 3, 1) := by decide +kernel
theorem dX5_coveredBut_27 : decode cX5_coveredBut 27 = .ok (.invokestatic 140, 3) := by decide +kernel
theorem dX5_coveredBut_30 : decode cX5_coveredBut 30 = .ok (.ifCond .eq 7, 3) := by decide +kernel
theorem dX5_coveredBut_33 : decode cX5_coveredBut 33 = .ok (.iconst 0, 1) := by decide +kernel
theorem dX5_coveredBut_34 : decode cX5_coveredBut 34 = .ok (.goto 8, 3) := by decide +kernel
theorem dX5_coveredBut_37 : decode cX5_coveredBut 37 = .ok (.aload_n 0, 1) := by decide +kernel
theorem dX5_coveredBut_38 : decode cX5_coveredBut 38 = .ok (.iload_n 3, 1) := by decide +kernel
theorem dX5_coveredBut_39 : decode cX5_coveredBut 39 = .ok (.invokestatic 144, 3) := by decide +kernel
theorem dX5_coveredBut_42 : decode cX5_coveredBut 42 = .ok (.ior, 1) := by decide +kernel
theorem dX5_coveredBut_43 : decode cX5_coveredBut 43 = .ok (.istore_n 2, 1) := by decide +kernel
theorem dX5_coveredBut_44 : decode cX5_coveredBut 44 = .ok (.iinc 3 1, 3) := by decide +kernel
theorem dX5_coveredBut_47 : decode cX5_coveredBut 47 = .ok (.goto (-43), 3) := by decide +kernel
theorem dX5_coveredBut_50 : decode cX5_coveredBut 50 = .ok (.iload_n 2, 1) := by decide +kernel
theorem dX5_coveredBut_51 : decode cX5_coveredBut 51 = .ok (.aload_n 0, 1) := by decide +kernel
theorem dX5_coveredBut_52 : decode cX5_coveredBut 52 = .ok (.iconst 4, 1) := by decide +kernel
theorem dX5_coveredBut_53 : decode cX5_coveredBut 53 = .ok (.iaload, 1) := by decide +kernel
theorem dX5_coveredBut_54 : decode cX5_coveredBut 54 = .ok (.iconst (-1), 1) := by decide +kernel
theorem dX5_coveredBut_55 : decode cX5_coveredBut 55 = .ok (.ixor, 1) := by decide +kernel
theorem dX5_coveredBut_56 : decode cX5_coveredBut 56 = .ok (.iand, 1) := by decide +kernel
theorem dX5_coveredBut_57 : decode cX5_coveredBut 57 = .ok (.ireturn, 1) := by decide +kernel
theorem dX5_lineOf_0 : decode cX5_lineOf 0 = .ok (.iload_n 0, 1) := by decide +kernel
theorem dX5_lineOf_1 : decode cX5_lineOf 1 = .ok (.iconst 4, 1) := by decide +kernel
theorem dX5_lineOf_2 : decode cX5_lineOf 2 = .ok (.if_icmp .ge 12, 3) := by decide +kernel
theorem dX5_lineOf_5 : decode cX5_lineOf 5 = .ok (.bipush 15, 2) := by decide +kernel
theorem dX5_lineOf_7 : decode cX5_lineOf 7 = .ok (.iconst 4, 1) := by decide +kernel
theorem dX5_lineOf_8 : decode cX5_lineOf 8 = .ok (.iload_n 0, 1) := by decide +kernel
theorem dX5_lineOf_9 : decode cX5_lineOf 9 = .ok (.imul, 1) := by decide +kernel
theorem dX5_lineOf_10 : decode cX5_lineOf 10 = .ok (.ishl, 1) := by decide +kernel
theorem dX5_lineOf_11 : decode cX5_lineOf 11 = .ok (.goto 10, 3) := by decide +kernel
theorem dX5_lineOf_14 : decode cX5_lineOf 14 = .ok (.sipush 4369, 3) := by decide +kernel
theorem dX5_lineOf_17 : decode cX5_lineOf 17 = .ok (.iload_n 0, 1) := by decide +kernel
theorem dX5_lineOf_18 : decode cX5_lineOf 18 = .ok (.iconst 4, 1) := by decide +kernel
theorem dX5_lineOf_19 : decode cX5_lineOf 19 = .ok (.isub, 1) := by decide +kernel
theorem dX5_lineOf_20 : decode cX5_lineOf 20 = .ok (.ishl, 1) := by decide +kernel
theorem dX5_lineOf_21 : decode cX5_lineOf 21 = .ok (.ireturn, 1) := by decide +kernel
theorem dX5_linesOf_0 : decode cX5_linesOf 0 = .ok (.iconst 0, 1) := by decide +kernel
theorem dX5_linesOf_1 : decode cX5_linesOf 1 = .ok (.istore_n 2, 1) := by decide +kernel
theorem dX5_linesOf_2 : decode cX5_linesOf 2 = .ok (.iconst 0, 1) := by decide +kernel
theorem dX5_linesOf_3 : decode cX5_linesOf 3 = .ok (.istore_n 3, 1) := by decide +kernel
theorem dX5_linesOf_4 : decode cX5_linesOf 4 = .ok (.iload_n 3, 1) := by decide +kernel
theorem dX5_linesOf_5 : decode cX5_linesOf 5 = .ok (.bipush 8, 2) := by decide +kernel
theorem dX5_linesOf_7 : decode cX5_linesOf 7 = .ok (.if_icmp .ge 34, 3) := by decide +kernel
theorem dX5_linesOf_10 : decode cX5_linesOf 10 = .ok (.iload_n 2, 1) := by decide +kernel
theorem dX5_linesOf_11 : decode cX5_linesOf 11 = .ok (.iload_n 1, 1) := by decide +kernel
theorem dX5_linesOf_12 : decode cX5_linesOf 12 = .ok (.iload_n 3, 1) := by decide +kernel
theorem dX5_linesOf_13 : decode cX5_linesOf 13 = .ok (.invokestatic 148, 3) := by decide +kernel
theorem dX5_linesOf_16 : decode cX5_linesOf 16 = .ok (.iand, 1) := by decide +kernel
theorem dX5_linesOf_17 : decode cX5_linesOf 17 = .ok (.invokestatic 151, 3) := by decide +kernel
theorem dX5_linesOf_20 : decode cX5_linesOf 20 = .ok (.aload_n 0, 1) := by decide +kernel
theorem dX5_linesOf_21 : decode cX5_linesOf 21 = .ok (.iconst 0, 1) := by decide +kernel
theorem dX5_linesOf_22 : decode cX5_linesOf 22 = .ok (.iaload, 1) := by decide +kernel
theorem dX5_linesOf_23 : decode cX5_linesOf 23 = .ok (.if_icmp .lt 9, 3) := by decide +kernel
theorem dX5_linesOf_26 : decode cX5_linesOf 26 = .ok (.iconst 1, 1) := by decide +kernel
theorem dX5_linesOf_27 : decode cX5_linesOf 27 = .ok (.iload_n 3, 1) := by decide +kernel
theorem dX5_linesOf_28 : decode cX5_linesOf 28 = .ok (.ishl, 1) := by decide +kernel
theorem dX5_linesOf_29 : decode cX5_linesOf 29 = .ok (.goto 4, 3) := by decide +kernel
theorem dX5_linesOf_32 : decode cX5_linesOf 32 = .ok (.iconst 0, 1) := by decide +kernel
theorem dX5_linesOf_33 : decode cX5_linesOf 33 = .ok (.ior, 1) := by decide +kernel
theorem dX5_linesOf_34 : decode cX5_linesOf 34 = .ok (.istore_n 2, 1) := by decide +kernel
theorem dX5_linesOf_35 : decode cX5_linesOf 35 = .ok (.iinc 3 1, 3) := by decide +kernel
theorem dX5_linesOf_38 : decode cX5_linesOf 38 = .ok (.goto (-34), 3) := by decide +kernel
theorem dX5_linesOf_41 : decode cX5_linesOf 41 = .ok (.iload_n 2, 1) := by decide +kernel
theorem dX5_linesOf_42 : decode cX5_linesOf 42 = .ok (.ireturn, 1) := by decide +kernel
theorem dX5_linesIn_0 : decode cX5_linesIn 0 = .ok (.aload_n 0, 1) := by decide +kernel
theorem dX5_linesIn_1 : decode cX5_linesIn 1 = .ok (.aload_n 0, 1) := by decide +kernel
theorem dX5_linesIn_2 : decode cX5_linesIn 2 = .ok (.iconst 0, 1) := by decide +kernel
theorem dX5_linesIn_3 : decode cX5_linesIn 3 = .ok (.invokestatic 154, 3) := by decide +kernel
theorem dX5_linesIn_6 : decode cX5_linesIn 6 = .ok (.invokestatic 157, 3) := by decide +kernel
theorem dX5_linesIn_9 : decode cX5_linesIn 9 = .ok (.ireturn, 1) := by decide +kernel
theorem dX5_fallsTo_0 : decode cX5_fallsTo 0 = .ok (.iconst 5, 1) := by decide +kernel
theorem dX5_fallsTo_1 : decode cX5_fallsTo 1 = .ok (.iconst 5, 1) := by decide +kernel
theorem dX5_fallsTo_2 : decode cX5_fallsTo 2 = .ok (.iload_n 1, 1) := by decide +kernel
theorem dX5_fallsTo_3 : decode cX5_fallsTo 3 = .ok (.imul, 1) := by decide +kernel
theorem dX5_fallsTo_4 : decode cX5_fallsTo 4 = .ok (.iadd, 1) := by decide +kernel
theorem dX5_fallsTo_5 : decode cX5_fallsTo 5 = .ok (.istore_n 2, 1) := by decide +kernel
theorem dX5_fallsTo_6 : decode cX5_fallsTo 6 = .ok (.iconst 5, 1) := by decide +kernel
theorem dX5_fallsTo_7 : decode cX5_fallsTo 7 = .ok (.aload_n 0, 1) := by decide +kernel
theorem dX5_fallsTo_8 : decode cX5_fallsTo 8 = .ok (.iload_n 2, 1) := by decide +kernel
theorem dX5_fallsTo_9 : decode cX5_fallsTo 9 = .ok (.iconst 1, 1) := by decide +kernel
theorem dX5_fallsTo_10 : decode cX5_fallsTo 10 = .ok (.iadd, 1) := by decide +kernel
theorem dX5_fallsTo_11 : decode cX5_fallsTo 11 = .ok (.iaload, 1) := by decide +kernel
theorem dX5_fallsTo_12 : decode cX5_fallsTo 12 = .ok (.imul, 1) := by decide +kernel
theorem dX5_fallsTo_13 : decode cX5_fallsTo 13 = .ok (.aload_n 0, 1) := by decide +kernel
theorem dX5_fallsTo_14 : decode cX5_fallsTo 14 = .ok (.iload_n 2, 1) := by decide +kernel
theorem dX5_fallsTo_15 : decode cX5_fallsTo 15 = .ok (.iconst 2, 1) := by decide +kernel
theorem dX5_fallsTo_16 : decode cX5_fallsTo 16 = .ok (.iadd, 1) := by decide +kernel
theorem dX5_fallsTo_17 : decode cX5_fallsTo 17 = .ok (.iaload, 1) := by decide +kernel
theorem dX5_fallsTo_18 : decode cX5_fallsTo 18 = .ok (.iadd, 1) := by decide +kernel
theorem dX5_fallsTo_19 : decode cX5_fallsTo 19 = .ok (.aload_n 0, 1) := by decide +kernel
theorem dX5_fallsTo_20 : decode cX5_fallsTo 20 = .ok (.iconst 2, 1) := by decide +kernel
theorem dX5_fallsTo_21 : decode cX5_fallsTo 21 = .ok (.iaload, 1) := by decide +kernel
theorem dX5_fallsTo_22 : decode cX5_fallsTo 22 = .ok (.iadd, 1) := by decide +kernel
theorem dX5_fallsTo_23 : decode cX5_fallsTo 23 = .ok (.bipush 16, 2) := by decide +kernel
theorem dX5_fallsTo_25 : decode cX5_fallsTo 25 = .ok (.irem, 1) := by decide +kernel
theorem dX5_fallsTo_26 : decode cX5_fallsTo 26 = .ok (.ireturn, 1) := by decide +kernel
theorem dX5_passes_0 : decode cX5_passes 0 = .ok (.iconst 0, 1) := by decide +kernel
theorem dX5_passes_1 : decode cX5_passes 1 = .ok (.istore_n 1, 1) := by decide +kernel
theorem dX5_passes_2 : decode cX5_passes 2 = .ok (.iload_n 1, 1) := by decide +kernel
theorem dX5_passes_3 : decode cX5_passes 3 = .ok (.aload_n 0, 1) := by decide +kernel
theorem dX5_passes_4 : decode cX5_passes 4 = .ok (.iconst 1, 1) := by decide +kernel
theorem dX5_passes_5 : decode cX5_passes 5 = .ok (.iaload, 1) := by decide +kernel
theorem dX5_passes_6 : decode cX5_passes 6 = .ok (.if_icmp .ge 62, 3) := by decide +kernel
theorem dX5_passes_9 : decode cX5_passes 9 = .ok (.iconst 5, 1) := by decide +kernel
theorem dX5_passes_10 : decode cX5_passes 10 = .ok (.iconst 5, 1) := by decide +kernel
theorem dX5_passes_11 : decode cX5_passes 11 = .ok (.iload_n 1, 1) := by decide +kernel
theorem dX5_passes_12 : decode cX5_passes 12 = .ok (.imul, 1) := by decide +kernel
theorem dX5_passes_13 : decode cX5_passes 13 = .ok (.iadd, 1) := by decide +kernel
theorem dX5_passes_14 : decode cX5_passes 14 = .ok (.istore_n 2, 1) := by decide +kernel
theorem dX5_passes_15 : decode cX5_passes 15 = .ok (.aload_n 0, 1) := by decide +kernel
theorem dX5_passes_16 : decode cX5_passes 16 = .ok (.iload_n 2, 1) := by decide +kernel
theorem dX5_passes_17 : decode cX5_passes 17 = .ok (.iconst 4, 1) := by decide +kernel
theorem dX5_passes_18 : decode cX5_passes 18 = .ok (.iadd, 1) := by decide +kernel
theorem dX5_passes_19 : decode cX5_passes 19 = .ok (.iaload, 1) := by decide +kernel
theorem dX5_passes_20 : decode cX5_passes 20 = .ok (.ifCond .ne 42, 3) := by decide +kernel
theorem dX5_passes_23 : decode cX5_passes 23 = .ok (.aload_n 0, 1) := by decide +kernel
theorem dX5_passes_24 : decode cX5_passes 24 = .ok (.iload_n 2, 1) := by decide +kernel
theorem dX5_passes_25 : decode cX5_passes 25 = .ok (.iconst 1, 1) := by decide +kernel
theorem dX5_passes_26 : decode cX5_passes 26 = .ok (.iadd, 1) := by decide +kernel
theorem dX5_passes_27 : decode cX5_passes 27 = .ok (.aload_n 0, 1) := by decide +kernel
theorem dX5_passes_28 : decode cX5_passes 28 = .ok (.iload_n 1, 1) := by decide +kernel
theorem dX5_passes_29 : decode cX5_passes 29 = .ok (.invokestatic 160, 3) := by decide +kernel
theorem dX5_passes_32 : decode cX5_passes 32 = .ok (.iastore, 1) := by decide +kernel
theorem dX5_passes_33 : decode cX5_passes 33 = .ok (.aload_n 0, 1) := by decide +kernel
theorem dX5_passes_34 : decode cX5_passes 34 = .ok (.iload_n 2, 1) := by decide +kernel
theorem dX5_passes_35 : decode cX5_passes 35 = .ok (.iconst 3, 1) := by decide +kernel
theorem dX5_passes_36 : decode cX5_passes 36 = .ok (.iadd, 1) := by decide +kernel
theorem dX5_passes_37 : decode cX5_passes 37 = .ok (.aload_n 0, 1) := by decide +kernel
theorem dX5_passes_38 : decode cX5_passes 38 = .ok (.iconst 2, 1) := by decide +kernel
theorem dX5_passes_39 : decode cX5_passes 39 = .ok (.iaload, 1) := by decide +kernel
theorem dX5_passes_40 : decode cX5_passes 40 = .ok (.iconst 3, 1) := by decide +kernel
theorem dX5_passes_41 : decode cX5_passes 41 = .ok (.irem, 1) := by decide +kernel
theorem dX5_passes_42 : decode cX5_passes 42 = .ok (.iconst 2, 1) := by decide +kernel
theorem dX5_passes_43 : decode cX5_passes 43 = .ok (.if_icmp .ne 13, 3) := by decide +kernel
theorem dX5_passes_46 : decode cX5_passes 46 = .ok (.iconst 1, 1) := by decide +kernel
theorem dX5_passes_47 : decode cX5_passes 47 = .ok (.aload_n 0, 1) := by decide +kernel
theorem dX5_passes_48 : decode cX5_passes 48 = .ok (.iload_n 2, 1) := by decide +kernel
theorem dX5_passes_49 : decode cX5_passes 49 = .ok (.iconst 3, 1) := by decide +kernel
theorem dX5_passes_50 : decode cX5_passes 50 = .ok (.iadd, 1) := by decide +kernel
theorem dX5_passes_51 : decode cX5_passes 51 = .ok (.iaload, 1) := by decide +kernel
theorem dX5_passes_52 : decode cX5_passes 52 = .ok (.isub, 1) := by decide +kernel
theorem dX5_passes_53 : decode cX5_passes 53 = .ok (.goto 8, 3) := by decide +kernel
theorem dX5_passes_56 : decode cX5_passes 56 = .ok (.aload_n 0, 1) := by decide +kernel
theorem dX5_passes_57 : decode cX5_passes 57 = .ok (.iload_n 2, 1) := by decide +kernel
theorem dX5_passes_58 : decode cX5_passes 58 = .ok (.iconst 3, 1) := by decide +kernel
theorem dX5_passes_59 : decode cX5_passes 59 = .ok (.iadd, 1) := by decide +kernel
theorem dX5_passes_60 : decode cX5_passes 60 = .ok (.iaload, 1) := by decide +kernel
theorem dX5_passes_61 : decode cX5_passes 61 = .ok (.iastore, 1) := by decide +kernel
theorem dX5_passes_62 : decode cX5_passes 62 = .ok (.iinc 1 1, 3) := by decide +kernel
theorem dX5_passes_65 : decode cX5_passes 65 = .ok (.goto (-63), 3) := by decide +kernel
theorem dX5_passes_68 : decode cX5_passes 68 = .ok (.aload_n 0, 1) := by decide +kernel
theorem dX5_passes_69 : decode cX5_passes 69 = .ok (.invokestatic 163, 3) := by decide +kernel
theorem dX5_passes_72 : decode cX5_passes 72 = .ok (.istore_n 1, 1) := by decide +kernel
theorem dX5_passes_73 : decode cX5_passes 73 = .ok (.aload_n 0, 1) := by decide +kernel
theorem dX5_passes_74 : decode cX5_passes 74 = .ok (.iconst 3, 1) := by decide +kernel
theorem dX5_passes_75 : decode cX5_passes 75 = .ok (.dup2, 1) := by decide +kernel
theorem dX5_passes_76 : decode cX5_passes 76 = .ok (.iaload, 1) := by decide +kernel
theorem dX5_passes_77 : decode cX5_passes 77 = .ok (.iload_n 1, 1) := by decide +kernel
theorem dX5_passes_78 : decode cX5_passes 78 = .ok (.invokestatic 151, 3) := by decide +kernel
theorem dX5_passes_81 : decode cX5_passes 81 = .ok (.iadd, 1) := by decide +kernel
theorem dX5_passes_82 : decode cX5_passes 82 = .ok (.iastore, 1) := by decide +kernel
theorem dX5_passes_83 : decode cX5_passes 83 = .ok (.aload_n 0, 1) := by decide +kernel
theorem dX5_passes_84 : decode cX5_passes 84 = .ok (.iconst 2, 1) := by decide +kernel
theorem dX5_passes_85 : decode cX5_passes 85 = .ok (.dup2, 1) := by decide +kernel
theorem dX5_passes_86 : decode cX5_passes 86 = .ok (.iaload, 1) := by decide +kernel
theorem dX5_passes_87 : decode cX5_passes 87 = .ok (.iconst 1, 1) := by decide +kernel
theorem dX5_passes_88 : decode cX5_passes 88 = .ok (.iadd, 1) := by decide +kernel
theorem dX5_passes_89 : decode cX5_passes 89 = .ok (.iastore, 1) := by decide +kernel
theorem dX5_passes_90 : decode cX5_passes 90 = .ok (.iload_n 1, 1) := by decide +kernel
theorem dX5_passes_91 : decode cX5_passes 91 = .ok (.ireturn, 1) := by decide +kernel
theorem dX5_weightOf_0 : decode cX5_weightOf 0 = .ok (.iload_n 0, 1) := by decide +kernel
theorem dX5_weightOf_1 : decode cX5_weightOf 1 = .ok (.iconst 2, 1) := by decide +kernel
theorem dX5_weightOf_2 : decode cX5_weightOf 2 = .ok (.if_icmp .eq 8, 3) := by decide +kernel
theorem dX5_weightOf_5 : decode cX5_weightOf 5 = .ok (.iload_n 0, 1) := by decide +kernel
theorem dX5_weightOf_6 : decode cX5_weightOf 6 = .ok (.iconst 5, 1) := by decide +kernel
theorem dX5_weightOf_7 : decode cX5_weightOf 7 = .ok (.if_icmp .ne 7, 3) := by decide +kernel
theorem dX5_weightOf_10 : decode cX5_weightOf 10 = .ok (.iconst 3, 1) := by decide +kernel
theorem dX5_weightOf_11 : decode cX5_weightOf 11 = .ok (.goto 13, 3) := by decide +kernel
theorem dX5_weightOf_14 : decode cX5_weightOf 14 = .ok (.iload_n 0, 1) := by decide +kernel
theorem dX5_weightOf_15 : decode cX5_weightOf 15 = .ok (.iconst 3, 1) := by decide +kernel
theorem dX5_weightOf_16 : decode cX5_weightOf 16 = .ok (.if_icmp .ne 7, 3) := by decide +kernel
theorem dX5_weightOf_19 : decode cX5_weightOf 19 = .ok (.iconst 2, 1) := by decide +kernel
theorem dX5_weightOf_20 : decode cX5_weightOf 20 = .ok (.goto 4, 3) := by decide +kernel
theorem dX5_weightOf_23 : decode cX5_weightOf 23 = .ok (.iconst 1, 1) := by decide +kernel
theorem dX5_weightOf_24 : decode cX5_weightOf 24 = .ok (.ireturn, 1) := by decide +kernel
theorem dX5_lifted_0 : decode cX5_lifted 0 = .ok (.iconst 0, 1) := by decide +kernel
theorem dX5_lifted_1 : decode cX5_lifted 1 = .ok (.istore_n 1, 1) := by decide +kernel
theorem dX5_lifted_2 : decode cX5_lifted 2 = .ok (.iconst 0, 1) := by decide +kernel
theorem dX5_lifted_3 : decode cX5_lifted 3 = .ok (.istore_n 2, 1) := by decide +kernel
theorem dX5_lifted_4 : decode cX5_lifted 4 = .ok (.iload_n 2, 1) := by decide +kernel
theorem dX5_lifted_5 : decode cX5_lifted 5 = .ok (.aload_n 0, 1) := by decide +kernel
theorem dX5_lifted_6 : decode cX5_lifted 6 = .ok (.iconst 1, 1) := by decide +kernel
theorem dX5_lifted_7 : decode cX5_lifted 7 = .ok (.iaload, 1) := by decide +kernel
theorem dX5_lifted_8 : decode cX5_lifted 8 = .ok (.if_icmp .ge 23, 3) := by decide +kernel
theorem dX5_lifted_11 : decode cX5_lifted 11 = .ok (.iload_n 1, 1) := by decide +kernel
theorem dX5_lifted_12 : decode cX5_lifted 12 = .ok (.aload_n 0, 1) := by decide +kernel
theorem dX5_lifted_13 : decode cX5_lifted 13 = .ok (.iconst 5, 1) := by decide +kernel
theorem dX5_lifted_14 : decode cX5_lifted 14 = .ok (.iconst 5, 1) := by decide +kernel
theorem dX5_lifted_15 : decode cX5_lifted 15 = .ok (.iload_n 2, 1) := by decide +kernel
theorem dX5_lifted_16 : decode cX5_lifted 16 = .ok (.imul, 1) := by decide +kernel
theorem dX5_lifted_17 : decode cX5_lifted 17 = .ok (.iadd, 1) := by decide +kernel
theorem dX5_lifted_18 : decode cX5_lifted 18 = .ok (.iconst 4, 1) := by decide +kernel
theorem dX5_lifted_19 : decode cX5_lifted 19 = .ok (.iadd, 1) := by decide +kernel
theorem dX5_lifted_20 : decode cX5_lifted 20 = .ok (.iaload, 1) := by decide +kernel
theorem dX5_lifted_21 : decode cX5_lifted 21 = .ok (.iload_n 2, 1) := by decide +kernel
theorem dX5_lifted_22 : decode cX5_lifted 22 = .ok (.ishl, 1) := by decide +kernel
theorem dX5_lifted_23 : decode cX5_lifted 23 = .ok (.ior, 1) := by decide +kernel
theorem dX5_lifted_24 : decode cX5_lifted 24 = .ok (.istore_n 1, 1) := by decide +kernel
theorem dX5_lifted_25 : decode cX5_lifted 25 = .ok (.iinc 2 1, 3) := by decide +kernel
theorem dX5_lifted_28 : decode cX5_lifted 28 = .ok (.goto (-24), 3) := by decide +kernel
theorem dX5_lifted_31 : decode cX5_lifted 31 = .ok (.iload_n 1, 1) := by decide +kernel
theorem dX5_lifted_32 : decode cX5_lifted 32 = .ok (.ireturn, 1) := by decide +kernel
theorem dX5_tellsOf_0 : decode cX5_tellsOf 0 = .ok (.iconst 5, 1) := by decide +kernel
theorem dX5_tellsOf_1 : decode cX5_tellsOf 1 = .ok (.iconst 5, 1) := by decide +kernel
theorem dX5_tellsOf_2 : decode cX5_tellsOf 2 = .ok (.iload_n 1, 1) := by decide +kernel
theorem dX5_tellsOf_3 : decode cX5_tellsOf 3 = .ok (.imul, 1) := by decide +kernel
theorem dX5_tellsOf_4 : decode cX5_tellsOf 4 = .ok (.iadd, 1) := by decide +kernel
theorem dX5_tellsOf_5 : decode cX5_tellsOf 5 = .ok (.istore_n 3, 1) := by decide +kernel
theorem dX5_tellsOf_6 : decode cX5_tellsOf 6 = .ok (.iload_n 2, 1) := by decide +kernel
theorem dX5_tellsOf_7 : decode cX5_tellsOf 7 = .ok (.iconst 5, 1) := by decide +kernel
theorem dX5_tellsOf_8 : decode cX5_tellsOf 8 = .ok (.if_icmp .ne 14, 3) := by decide +kernel
theorem dX5_tellsOf_11 : decode cX5_tellsOf 11 = .ok (.aload_n 0, 1) := by decide +kernel
theorem dX5_tellsOf_12 : decode cX5_tellsOf 12 = .ok (.getfield 25, 3) := by decide +kernel
theorem dX5_tellsOf_15 : decode cX5_tellsOf 15 = .ok (.iload_n 1, 1) := by decide +kernel
theorem dX5_tellsOf_16 : decode cX5_tellsOf 16 = .ok (.invokestatic 144, 3) := by decide +kernel
theorem dX5_tellsOf_19 : decode cX5_tellsOf 19 = .ok (.goto 29, 3) := by decide +kernel
theorem dX5_tellsOf_22 : decode cX5_tellsOf 22 = .ok (.iload_n 2, 1) := by decide +kernel
theorem dX5_tellsOf_23 : decode cX5_tellsOf 23 = .ok (.bipush 6, 2) := by decide +kernel
theorem dX5_tellsOf_25 : decode cX5_tellsOf 25 = .ok (.if_icmp .ne 15, 3) := by decide +kernel
theorem dX5_tellsOf_28 : decode cX5_tellsOf 28 = .ok (.aload_n 0, 1) := by decide +kernel
theorem dX5_tellsOf_29 : decode cX5_tellsOf 29 = .ok (.getfield 25, 3) := by decide +kernel
theorem dX5_tellsOf_32 : decode cX5_tellsOf 32 = .ok (.iload_n 3, 1) := by decide +kernel
theorem dX5_tellsOf_33 : decode cX5_tellsOf 33 = .ok (.iaload, 1) := by decide +kernel
theorem dX5_tellsOf_34 : decode cX5_tellsOf 34 = .ok (.invokestatic 167, 3) := by decide +kernel
theorem dX5_tellsOf_37 : decode cX5_tellsOf 37 = .ok (.goto 11, 3) := by decide +kernel
theorem dX5_tellsOf_40 : decode cX5_tellsOf 40 = .ok (.aload_n 0, 1) := by decide +kernel
theorem dX5_tellsOf_41 : decode cX5_tellsOf 41 = .ok (.getfield 25, 3) := by decide +kernel
theorem dX5_tellsOf_44 : decode cX5_tellsOf 44 = .ok (.iload_n 3, 1) := by decide +kernel
theorem dX5_tellsOf_45 : decode cX5_tellsOf 45 = .ok (.iload_n 2, 1) := by decide +kernel
theorem dX5_tellsOf_46 : decode cX5_tellsOf 46 = .ok (.iadd, 1) := by decide +kernel
theorem dX5_tellsOf_47 : decode cX5_tellsOf 47 = .ok (.iaload, 1) := by decide +kernel
theorem dX5_tellsOf_48 : decode cX5_tellsOf 48 = .ok (.ireturn, 1) := by decide +kernel
theorem dX5_peel_0 : decode cX5_peel 0 = .ok (.aload_n 0, 1) := by decide +kernel
theorem dX5_peel_1 : decode cX5_peel 1 = .ok (.iload_n 1, 1) := by decide +kernel
theorem dX5_peel_2 : decode cX5_peel 2 = .ok (.invokevirtual 170, 3) := by decide +kernel
theorem dX5_peel_5 : decode cX5_peel 5 = .ok (.ifCond .eq 13, 3) := by decide +kernel
theorem dX5_peel_8 : decode cX5_peel 8 = .ok (.iload_n 2, 1) := by decide +kernel
theorem dX5_peel_9 : decode cX5_peel 9 = .ok (.iconst 0, 1) := by decide +kernel
theorem dX5_peel_10 : decode cX5_peel 10 = .ok (.bipush 6, 2) := by decide +kernel
theorem dX5_peel_12 : decode cX5_peel 12 = .ok (.invokestatic 63, 3) := by decide +kernel
theorem dX5_peel_15 : decode cX5_peel 15 = .ok (.ifCond .ne 5, 3) := by decide +kernel
theorem dX5_peel_18 : decode cX5_peel 18 = .ok (.iconst (-1), 1) := by decide +kernel
theorem dX5_peel_19 : decode cX5_peel 19 = .ok (.ireturn, 1) := by decide +kernel
theorem dX5_peel_20 : decode cX5_peel 20 = .ok (.aload_n 0, 1) := by decide +kernel
theorem dX5_peel_21 : decode cX5_peel 21 = .ok (.aload_n 0, 1) := by decide +kernel
theorem dX5_peel_22 : decode cX5_peel 22 = .ok (.iload_n 1, 1) := by decide +kernel
theorem dX5_peel_23 : decode cX5_peel 23 = .ok (.iload_n 2, 1) := by decide +kernel
theorem dX5_peel_24 : decode cX5_peel 24 = .ok (.invokevirtual 173, 3) := by decide +kernel
theorem dX5_peel_27 : decode cX5_peel 27 = .ok (.invokevirtual 75, 3) := by decide +kernel
theorem dX5_peel_30 : decode cX5_peel 30 = .ok (.ireturn, 1) := by decide +kernel
theorem dX5_isOf_0 : decode cX5_isOf 0 = .ok (.iload_n 0, 1) := by decide +kernel
theorem dX5_isOf_1 : decode cX5_isOf 1 = .ok (.iload_n 1, 1) := by decide +kernel
theorem dX5_isOf_2 : decode cX5_isOf 2 = .ok (.if_icmp .eq 23, 3) := by decide +kernel
theorem dX5_isOf_5 : decode cX5_isOf 5 = .ok (.iload_n 0, 1) := by decide +kernel
theorem dX5_isOf_6 : decode cX5_isOf 6 = .ok (.iconst 4, 1) := by decide +kernel
theorem dX5_isOf_7 : decode cX5_isOf 7 = .ok (.if_icmp .ne 8, 3) := by decide +kernel
theorem dX5_isOf_10 : decode cX5_isOf 10 = .ok (.iload_n 1, 1) := by decide +kernel
theorem dX5_isOf_11 : decode cX5_isOf 11 = .ok (.iconst 1, 1) := by decide +kernel
theorem dX5_isOf_12 : decode cX5_isOf 12 = .ok (.if_icmp .eq 13, 3) := by decide +kernel
theorem dX5_isOf_15 : decode cX5_isOf 15 = .ok (.iload_n 0, 1) := by decide +kernel
theorem dX5_isOf_16 : decode cX5_isOf 16 = .ok (.iconst 5, 1) := by decide +kernel
theorem dX5_isOf_17 : decode cX5_isOf 17 = .ok (.if_icmp .ne 12, 3) := by decide +kernel
theorem dX5_isOf_20 : decode cX5_isOf 20 = .ok (.iload_n 1, 1) := by decide +kernel
theorem dX5_isOf_21 : decode cX5_isOf 21 = .ok (.iconst 2, 1) := by decide +kernel
theorem dX5_isOf_22 : decode cX5_isOf 22 = .ok (.if_icmp .ne 7, 3) := by decide +kernel
theorem dX5_isOf_25 : decode cX5_isOf 25 = .ok (.iconst 1, 1) := by decide +kernel
theorem dX5_isOf_26 : decode cX5_isOf 26 = .ok (.goto 4, 3) := by decide +kernel
theorem dX5_isOf_29 : decode cX5_isOf 29 = .ok (.iconst 0, 1) := by decide +kernel
theorem dX5_isOf_30 : decode cX5_isOf 30 = .ok (.ireturn, 1) := by decide +kernel
theorem dX5_inStead_0 : decode cX5_inStead 0 = .ok (.iconst 5, 1) := by decide +kernel
theorem dX5_inStead_1 : decode cX5_inStead 1 = .ok (.iconst 5, 1) := by decide +kernel
theorem dX5_inStead_2 : decode cX5_inStead 2 = .ok (.iload_n 1, 1) := by decide +kernel
theorem dX5_inStead_3 : decode cX5_inStead 3 = .ok (.imul, 1) := by decide +kernel
theorem dX5_inStead_4 : decode cX5_inStead 4 = .ok (.iadd, 1) := by decide +kernel
theorem dX5_inStead_5 : decode cX5_inStead 5 = .ok (.istore_n 3, 1) := by decide +kernel
theorem dX5_inStead_6 : decode cX5_inStead 6 = .ok (.iload_n 2, 1) := by decide +kernel
theorem dX5_inStead_7 : decode cX5_inStead 7 = .ok (.aload_n 0, 1) := by decide +kernel
theorem dX5_inStead_8 : decode cX5_inStead 8 = .ok (.getfield 25, 3) := by decide +kernel
theorem dX5_inStead_11 : decode cX5_inStead 11 = .ok (.iload_n 3, 1) := by decide +kernel
theorem dX5_inStead_12 : decode cX5_inStead 12 = .ok (.iconst 1, 1) := by decide +kernel
theorem dX5_inStead_13 : decode cX5_inStead 13 = .ok (.iadd, 1) := by decide +kernel
theorem dX5_inStead_14 : decode cX5_inStead 14 = .ok (.iaload, 1) := by decide +kernel
theorem dX5_inStead_15 : decode cX5_inStead 15 = .ok (.aload_n 0, 1) := by decide +kernel
theorem dX5_inStead_16 : decode cX5_inStead 16 = .ok (.getfield 25, 3) := by decide +kernel
theorem dX5_inStead_19 : decode cX5_inStead 19 = .ok (.iload_n 3, 1) := by decide +kernel
theorem dX5_inStead_20 : decode cX5_inStead 20 = .ok (.iconst 2, 1) := by decide +kernel
theorem dX5_inStead_21 : decode cX5_inStead 21 = .ok (.iadd, 1) := by decide +kernel
theorem dX5_inStead_22 : decode cX5_inStead 22 = .ok (.iaload, 1) := by decide +kernel
theorem dX5_inStead_23 : decode cX5_inStead 23 = .ok (.aload_n 0, 1) := by decide +kernel
theorem dX5_inStead_24 : decode cX5_inStead 24 = .ok (.getfield 25, 3) := by decide +kernel
theorem dX5_inStead_27 : decode cX5_inStead 27 = .ok (.iload_n 3, 1) := by decide +kernel
theorem dX5_inStead_28 : decode cX5_inStead 28 = .ok (.iconst 3, 1) := by decide +kernel
theorem dX5_inStead_29 : decode cX5_inStead 29 = .ok (.iadd, 1) := by decide +kernel
theorem dX5_inStead_30 : decode cX5_inStead 30 = .ok (.iaload, 1) := by decide +kernel
theorem dX5_inStead_31 : decode cX5_inStead 31 = .ok (.invokestatic 136, 3) := by decide +kernel
theorem dX5_inStead_34 : decode cX5_inStead 34 = .ok (.ireturn, 1) := by decide +kernel
theorem dX5_asHeavy_0 : decode cX5_asHeavy 0 = .ok (.iconst 0, 1) := by decide +kernel
theorem dX5_asHeavy_1 : decode cX5_asHeavy 1 = .ok (.istore_n 2, 1) := by decide +kernel
theorem dX5_asHeavy_2 : decode cX5_asHeavy 2 = .ok (.iconst 0, 1) := by decide +kernel
theorem dX5_asHeavy_3 : decode cX5_asHeavy 3 = .ok (.istore_n 3, 1) := by decide +kernel
theorem dX5_asHeavy_4 : decode cX5_asHeavy 4 = .ok (.iload_n 3, 1) := by decide +kernel
theorem dX5_asHeavy_5 : decode cX5_asHeavy 5 = .ok (.aload_n 0, 1) := by decide +kernel
theorem dX5_asHeavy_6 : decode cX5_asHeavy 6 = .ok (.getfield 25, 3) := by decide +kernel
theorem dX5_asHeavy_9 : decode cX5_asHeavy 9 = .ok (.iconst 1, 1) := by decide +kernel
theorem dX5_asHeavy_10 : decode cX5_asHeavy 10 = .ok (.iaload, 1) := by decide +kernel
theorem dX5_asHeavy_11 : decode cX5_asHeavy 11 = .ok (.if_icmp .ge 46, 3) := by decide +kernel
theorem dX5_asHeavy_14 : decode cX5_asHeavy 14 = .ok (.iload_n 2, 1) := by decide +kernel
theorem dX5_asHeavy_15 : decode cX5_asHeavy 15 = .ok (.aload_n 0, 1) := by decide +kernel
theorem dX5_asHeavy_16 : decode cX5_asHeavy 16 = .ok (.getfield 25, 3) := by decide +kernel
theorem dX5_asHeavy_19 : decode cX5_asHeavy 19 = .ok (.iconst 5, 1) := by decide +kernel
theorem dX5_asHeavy_20 : decode cX5_asHeavy 20 = .ok (.iconst 5, 1) := by decide +kernel
theorem dX5_asHeavy_21 : decode cX5_asHeavy 21 = .ok (.iload_n 3, 1) := by decide +kernel
theorem dX5_asHeavy_22 : decode cX5_asHeavy 22 = .ok (.imul, 1) := by decide +kernel
theorem dX5_asHeavy_23 : decode cX5_asHeavy 23 = .ok (.iadd, 1) := by decide +kernel
theorem dX5_asHeavy_24 : decode cX5_asHeavy 24 = .ok (.iaload, 1) := by decide +kernel
theorem dX5_asHeavy_25 : decode cX5_asHeavy 25 = .ok (.invokestatic 167, 3) := by decide +kernel
theorem dX5_asHeavy_28 : decode cX5_asHeavy 28 = .ok (.aload_n 0, 1) := by decide +kernel
theorem dX5_asHeavy_29 : decode cX5_asHeavy 29 = .ok (.getfield 25, 3) := by decide +kernel
theorem dX5_asHeavy_32 : decode cX5_asHeavy 32 = .ok (.iconst 5, 1) := by decide +kernel
theorem dX5_asHeavy_33 : decode cX5_asHeavy 33 = .ok (.iconst 5, 1) := by decide +kernel
theorem dX5_asHeavy_34 : decode cX5_asHeavy 34 = .ok (.iload_n 1, 1) := by decide +kernel
theorem dX5_asHeavy_35 : decode cX5_asHeavy 35 = .ok (.imul, 1) := by decide +kernel
theorem dX5_asHeavy_36 : decode cX5_asHeavy 36 = .ok (.iadd, 1) := by decide +kernel
theorem dX5_asHeavy_37 : decode cX5_asHeavy 37 = .ok (.iaload, 1) := by decide +kernel
theorem dX5_asHeavy_38 : decode cX5_asHeavy 38 = .ok (.invokestatic 167, 3) := by decide +kernel
theorem dX5_asHeavy_41 : decode cX5_asHeavy 41 = .ok (.if_icmp .ne 7, 3) := by decide +kernel
theorem dX5_asHeavy_44 : decode cX5_asHeavy 44 = .ok (.iconst 1, 1) := by decide +kernel
theorem dX5_asHeavy_45 : decode cX5_asHeavy 45 = .ok (.goto 4, 3) := by decide +kernel
theorem dX5_asHeavy_48 : decode cX5_asHeavy 48 = .ok (.iconst 0, 1) := by decide +kernel
theorem dX5_asHeavy_49 : decode cX5_asHeavy 49 = .ok (.iadd, 1) := by decide +kernel
theorem dX5_asHeavy_50 : decode cX5_asHeavy 50 = .ok (.istore_n 2, 1) := by decide +kernel
theorem dX5_asHeavy_51 : decode cX5_asHeavy 51 = .ok (.iinc 3 1, 3) := by decide +kernel
theorem dX5_asHeavy_54 : decode cX5_asHeavy 54 = .ok (.goto (-50), 3) := by decide +kernel
theorem dX5_asHeavy_57 : decode cX5_asHeavy 57 = .ok (.iload_n 2, 1) := by decide +kernel
theorem dX5_asHeavy_58 : decode cX5_asHeavy 58 = .ok (.ireturn, 1) := by decide +kernel
theorem dX5_mark_0 : decode cX5_mark 0 = .ok (.aload_n 0, 1) := by decide +kernel
theorem dX5_mark_1 : decode cX5_mark 1 = .ok (.iload_n 1, 1) := by decide +kernel
theorem dX5_mark_2 : decode cX5_mark 2 = .ok (.invokevirtual 170, 3) := by decide +kernel
theorem dX5_mark_5 : decode cX5_mark 5 = .ok (.ifCond .eq 12, 3) := by decide +kernel
theorem dX5_mark_8 : decode cX5_mark 8 = .ok (.iload_n 2, 1) := by decide +kernel
theorem dX5_mark_9 : decode cX5_mark 9 = .ok (.iconst 1, 1) := by decide +kernel
theorem dX5_mark_10 : decode cX5_mark 10 = .ok (.iconst 5, 1) := by decide +kernel
theorem dX5_mark_11 : decode cX5_mark 11 = .ok (.invokestatic 63, 3) := by decide +kernel
theorem dX5_mark_14 : decode cX5_mark 14 = .ok (.ifCond .ne 5, 3) := by decide +kernel
theorem dX5_mark_17 : decode cX5_mark 17 = .ok (.iconst (-1), 1) := by decide +kernel
theorem dX5_mark_18 : decode cX5_mark 18 = .ok (.ireturn, 1) := by decide +kernel
theorem dX5_mark_19 : decode cX5_mark 19 = .ok (.aload_n 0, 1) := by decide +kernel
theorem dX5_mark_20 : decode cX5_mark 20 = .ok (.getfield 25, 3) := by decide +kernel
theorem dX5_mark_23 : decode cX5_mark 23 = .ok (.iconst 5, 1) := by decide +kernel
theorem dX5_mark_24 : decode cX5_mark 24 = .ok (.iconst 5, 1) := by decide +kernel
theorem dX5_mark_25 : decode cX5_mark 25 = .ok (.iload_n 1, 1) := by decide +kernel
theorem dX5_mark_26 : decode cX5_mark 26 = .ok (.imul, 1) := by decide +kernel
theorem dX5_mark_27 : decode cX5_mark 27 = .ok (.iadd, 1) := by decide +kernel
theorem dX5_mark_28 : decode cX5_mark 28 = .ok (.iaload, 1) := by decide +kernel
theorem dX5_mark_29 : decode cX5_mark 29 = .ok (.iload_n 2, 1) := by decide +kernel
theorem dX5_mark_30 : decode cX5_mark 30 = .ok (.invokestatic 177, 3) := by decide +kernel
theorem dX5_mark_33 : decode cX5_mark 33 = .ok (.ifCond .ne 9, 3) := by decide +kernel
theorem dX5_mark_36 : decode cX5_mark 36 = .ok (.aload_n 0, 1) := by decide +kernel
theorem dX5_mark_37 : decode cX5_mark 37 = .ok (.iconst 3, 1) := by decide +kernel
theorem dX5_mark_38 : decode cX5_mark 38 = .ok (.invokevirtual 71, 3) := by decide +kernel
theorem dX5_mark_41 : decode cX5_mark 41 = .ok (.ireturn, 1) := by decide +kernel
theorem dX5_mark_42 : decode cX5_mark 42 = .ok (.aload_n 0, 1) := by decide +kernel
theorem dX5_mark_43 : decode cX5_mark 43 = .ok (.getfield 25, 3) := by decide +kernel
theorem dX5_mark_46 : decode cX5_mark 46 = .ok (.iload_n 1, 1) := by decide +kernel
theorem dX5_mark_47 : decode cX5_mark 47 = .ok (.invokestatic 144, 3) := by decide +kernel
theorem dX5_mark_50 : decode cX5_mark 50 = .ok (.istore_n 3, 1) := by decide +kernel
theorem dX5_mark_51 : decode cX5_mark 51 = .ok (.iload_n 2, 1) := by decide +kernel
theorem dX5_mark_52 : decode cX5_mark 52 = .ok (.tableswitch 80 1 4 #[32, 46, 52, 66], 32) := by decide +kernel
theorem dX5_mark_84 : decode cX5_mark 84 = .ok (.aload_n 0, 1) := by decide +kernel
theorem dX5_mark_85 : decode cX5_mark 85 = .ok (.iload_n 1, 1) := by decide +kernel
theorem dX5_mark_86 : decode cX5_mark 86 = .ok (.iconst 0, 1) := by decide +kernel
theorem dX5_mark_87 : decode cX5_mark 87 = .ok (.invokevirtual 180, 3) := by decide +kernel
theorem dX5_mark_90 : decode cX5_mark 90 = .ok (.iload_n 3, 1) := by decide +kernel
theorem dX5_mark_91 : decode cX5_mark 91 = .ok (.iconst (-1), 1) := by decide +kernel
theorem dX5_mark_92 : decode cX5_mark 92 = .ok (.ixor, 1) := by decide +kernel
theorem dX5_mark_93 : decode cX5_mark 93 = .ok (.iand, 1) := by decide +kernel
theorem dX5_mark_94 : decode cX5_mark 94 = .ok (.invokestatic 151, 3) := by decide +kernel
theorem dX5_mark_97 : decode cX5_mark 97 = .ok (.ireturn, 1) := by decide +kernel
theorem dX5_mark_98 : decode cX5_mark 98 = .ok (.aload_n 0, 1) := by decide +kernel
theorem dX5_mark_99 : decode cX5_mark 99 = .ok (.iload_n 1, 1) := by decide +kernel
theorem dX5_mark_100 : decode cX5_mark 100 = .ok (.invokevirtual 183, 3) := by decide +kernel
theorem dX5_mark_103 : decode cX5_mark 103 = .ok (.ireturn, 1) := by decide +kernel
theorem dX5_mark_104 : decode cX5_mark 104 = .ok (.iload_n 3, 1) := by decide +kernel
theorem dX5_mark_105 : decode cX5_mark 105 = .ok (.aload_n 0, 1) := by decide +kernel
theorem dX5_mark_106 : decode cX5_mark 106 = .ok (.iload_n 1, 1) := by decide +kernel
theorem dX5_mark_107 : decode cX5_mark 107 = .ok (.iconst 0, 1) := by decide +kernel
theorem dX5_mark_108 : decode cX5_mark 108 = .ok (.invokevirtual 180, 3) := by decide +kernel
theorem dX5_mark_111 : decode cX5_mark 111 = .ok (.iconst (-1), 1) := by decide +kernel
theorem dX5_mark_112 : decode cX5_mark 112 = .ok (.ixor, 1) := by decide +kernel
theorem dX5_mark_113 : decode cX5_mark 113 = .ok (.iand, 1) := by decide +kernel
theorem dX5_mark_114 : decode cX5_mark 114 = .ok (.invokestatic 151, 3) := by decide +kernel
theorem dX5_mark_117 : decode cX5_mark 117 = .ok (.ireturn, 1) := by decide +kernel
theorem dX5_mark_118 : decode cX5_mark 118 = .ok (.iload_n 3, 1) := by decide +kernel
theorem dX5_mark_119 : decode cX5_mark 119 = .ok (.aload_n 0, 1) := by decide +kernel
theorem dX5_mark_120 : decode cX5_mark 120 = .ok (.iload_n 1, 1) := by decide +kernel
theorem dX5_mark_121 : decode cX5_mark 121 = .ok (.iconst 1, 1) := by decide +kernel
theorem dX5_mark_122 : decode cX5_mark 122 = .ok (.invokevirtual 180, 3) := by decide +kernel
theorem dX5_mark_125 : decode cX5_mark 125 = .ok (.iconst (-1), 1) := by decide +kernel
theorem dX5_mark_126 : decode cX5_mark 126 = .ok (.ixor, 1) := by decide +kernel
theorem dX5_mark_127 : decode cX5_mark 127 = .ok (.iand, 1) := by decide +kernel
theorem dX5_mark_128 : decode cX5_mark 128 = .ok (.invokestatic 151, 3) := by decide +kernel
theorem dX5_mark_131 : decode cX5_mark 131 = .ok (.ireturn, 1) := by decide +kernel
theorem dX5_mark_132 : decode cX5_mark 132 = .ok (.aload_n 0, 1) := by decide +kernel
theorem dX5_mark_133 : decode cX5_mark 133 = .ok (.iload_n 1, 1) := by decide +kernel
theorem dX5_mark_134 : decode cX5_mark 134 = .ok (.iconst 2, 1) := by decide +kernel
theorem dX5_mark_135 : decode cX5_mark 135 = .ok (.invokevirtual 180, 3) := by decide +kernel
theorem dX5_mark_138 : decode cX5_mark 138 = .ok (.invokestatic 151, 3) := by decide +kernel
theorem dX5_mark_141 : decode cX5_mark 141 = .ok (.iconst 1, 1) := by decide +kernel
theorem dX5_mark_142 : decode cX5_mark 142 = .ok (.isub, 1) := by decide +kernel
theorem dX5_mark_143 : decode cX5_mark 143 = .ok (.ireturn, 1) := by decide +kernel
theorem dX5_notes_0 : decode cX5_notes 0 = .ok (.aload_n 0, 1) := by decide +kernel
theorem dX5_notes_1 : decode cX5_notes 1 = .ok (.getfield 25, 3) := by decide +kernel
theorem dX5_notes_4 : decode cX5_notes 4 = .ok (.iconst 0, 1) := by decide +kernel
theorem dX5_notes_5 : decode cX5_notes 5 = .ok (.aload_n 0, 1) := by decide +kernel
theorem dX5_notes_6 : decode cX5_notes 6 = .ok (.getfield 34, 3) := by decide +kernel
theorem dX5_notes_9 : decode cX5_notes 9 = .ok (.bipush 35, 2) := by decide +kernel
theorem dX5_notes_11 : decode cX5_notes 11 = .ok (.aload_n 0, 1) := by decide +kernel
theorem dX5_notes_12 : decode cX5_notes 12 = .ok (.getfield 124, 3) := by decide +kernel
theorem dX5_notes_15 : decode cX5_notes 15 = .ok (.imul, 1) := by decide +kernel
theorem dX5_notes_16 : decode cX5_notes 16 = .ok (.bipush 35, 2) := by decide +kernel
theorem dX5_notes_18 : decode cX5_notes 18 = .ok (.invokestatic 120, 3) := by decide +kernel
theorem dX5_notes_21 : decode cX5_notes 21 = .ok (.aload_n 0, 1) := by decide +kernel
theorem dX5_notes_22 : decode cX5_notes 22 = .ok (.dup, 1) := by decide +kernel
theorem dX5_notes_23 : decode cX5_notes 23 = .ok (.getfield 124, 3) := by decide +kernel
theorem dX5_notes_26 : decode cX5_notes 26 = .ok (.iconst 1, 1) := by decide +kernel
theorem dX5_notes_27 : decode cX5_notes 27 = .ok (.iadd, 1) := by decide +kernel
theorem dX5_notes_28 : decode cX5_notes 28 = .ok (.putfield 124, 3) := by decide +kernel
theorem dX5_notes_31 : decode cX5_notes 31 = .ok (.return_, 1) := by decide +kernel
theorem dX5_morning_0 : decode cX5_morning 0 = .ok (.aload_n 0, 1) := by decide +kernel
theorem dX5_morning_1 : decode cX5_morning 1 = .ok (.invokevirtual 186, 3) := by decide +kernel
theorem dX5_morning_4 : decode cX5_morning 4 = .ok (.ifCond .ne 6, 3) := by decide +kernel
theorem dX5_morning_7 : decode cX5_morning 7 = .ok (.bipush (-4), 2) := by decide +kernel
theorem dX5_morning_9 : decode cX5_morning 9 = .ok (.ireturn, 1) := by decide +kernel
theorem dX5_morning_10 : decode cX5_morning 10 = .ok (.aload_n 0, 1) := by decide +kernel
theorem dX5_morning_11 : decode cX5_morning 11 = .ok (.getfield 124, 3) := by decide +kernel
theorem dX5_morning_14 : decode cX5_morning 14 = .ok (.bipush 40, 2) := by decide +kernel
theorem dX5_morning_16 : decode cX5_morning 16 = .ok (.if_icmp .ne 6, 3) := by decide +kernel
theorem dX5_morning_19 : decode cX5_morning 19 = .ok (.bipush (-2), 2) := by decide +kernel
theorem dX5_morning_21 : decode cX5_morning 21 = .ok (.ireturn, 1) := by decide +kernel
theorem dX5_morning_22 : decode cX5_morning 22 = .ok (.aload_n 0, 1) := by decide +kernel
theorem dX5_morning_23 : decode cX5_morning 23 = .ok (.invokevirtual 190, 3) := by decide +kernel
theorem dX5_morning_26 : decode cX5_morning 26 = .ok (.aload_n 0, 1) := by decide +kernel
theorem dX5_morning_27 : decode cX5_morning 27 = .ok (.getfield 25, 3) := by decide +kernel
theorem dX5_morning_30 : decode cX5_morning 30 = .ok (.invokestatic 193, 3) := by decide +kernel
theorem dX5_morning_33 : decode cX5_morning 33 = .ok (.ireturn, 1) := by decide +kernel
theorem dX5_shift_0 : decode cX5_shift 0 = .ok (.aload_n 0, 1) := by decide +kernel
theorem dX5_shift_1 : decode cX5_shift 1 = .ok (.iload_n 1, 1) := by decide +kernel
theorem dX5_shift_2 : decode cX5_shift 2 = .ok (.invokevirtual 170, 3) := by decide +kernel
theorem dX5_shift_5 : decode cX5_shift 5 = .ok (.ifCond .eq 13, 3) := by decide +kernel
theorem dX5_shift_8 : decode cX5_shift 8 = .ok (.iload_n 2, 1) := by decide +kernel
theorem dX5_shift_9 : decode cX5_shift 9 = .ok (.iconst 0, 1) := by decide +kernel
theorem dX5_shift_10 : decode cX5_shift 10 = .ok (.bipush 15, 2) := by decide +kernel
theorem dX5_shift_12 : decode cX5_shift 12 = .ok (.invokestatic 63, 3) := by decide +kernel
theorem dX5_shift_15 : decode cX5_shift 15 = .ok (.ifCond .ne 5, 3) := by decide +kernel
theorem dX5_shift_18 : decode cX5_shift 18 = .ok (.iconst (-1), 1) := by decide +kernel
theorem dX5_shift_19 : decode cX5_shift 19 = .ok (.ireturn, 1) := by decide +kernel
theorem dX5_shift_20 : decode cX5_shift 20 = .ok (.aload_n 0, 1) := by decide +kernel
theorem dX5_shift_21 : decode cX5_shift 21 = .ok (.getfield 25, 3) := by decide +kernel
theorem dX5_shift_24 : decode cX5_shift 24 = .ok (.iconst 5, 1) := by decide +kernel
theorem dX5_shift_25 : decode cX5_shift 25 = .ok (.iconst 5, 1) := by decide +kernel
theorem dX5_shift_26 : decode cX5_shift 26 = .ok (.iload_n 1, 1) := by decide +kernel
theorem dX5_shift_27 : decode cX5_shift 27 = .ok (.imul, 1) := by decide +kernel
theorem dX5_shift_28 : decode cX5_shift 28 = .ok (.iadd, 1) := by decide +kernel
theorem dX5_shift_29 : decode cX5_shift 29 = .ok (.iconst 1, 1) := by decide +kernel
theorem dX5_shift_30 : decode cX5_shift 30 = .ok (.iadd, 1) := by decide +kernel
theorem dX5_shift_31 : decode cX5_shift 31 = .ok (.iaload, 1) := by decide +kernel
theorem dX5_shift_32 : decode cX5_shift 32 = .ok (.istore_n 3, 1) := by decide +kernel
theorem dX5_shift_33 : decode cX5_shift 33 = .ok (.iload_n 3, 1) := by decide +kernel
theorem dX5_shift_34 : decode cX5_shift 34 = .ok (.iload_n 2, 1) := by decide +kernel
theorem dX5_shift_35 : decode cX5_shift 35 = .ok (.if_icmp .ne 6, 3) := by decide +kernel
theorem dX5_shift_38 : decode cX5_shift 38 = .ok (.bipush (-4), 2) := by decide +kernel
theorem dX5_shift_40 : decode cX5_shift 40 = .ok (.ireturn, 1) := by decide +kernel
theorem dX5_shift_41 : decode cX5_shift 41 = .ok (.aload_n 0, 1) := by decide +kernel
theorem dX5_shift_42 : decode cX5_shift 42 = .ok (.getfield 124, 3) := by decide +kernel
theorem dX5_shift_45 : decode cX5_shift 45 = .ok (.bipush 40, 2) := by decide +kernel
theorem dX5_shift_47 : decode cX5_shift 47 = .ok (.if_icmp .ne 6, 3) := by decide +kernel
theorem dX5_shift_50 : decode cX5_shift 50 = .ok (.bipush (-2), 2) := by decide +kernel
theorem dX5_shift_52 : decode cX5_shift 52 = .ok (.ireturn, 1) := by decide +kernel
theorem dX5_shift_53 : decode cX5_shift 53 = .ok (.aload_n 0, 1) := by decide +kernel
theorem dX5_shift_54 : decode cX5_shift 54 = .ok (.invokevirtual 190, 3) := by decide +kernel
theorem dX5_shift_57 : decode cX5_shift 57 = .ok (.aload_n 0, 1) := by decide +kernel
theorem dX5_shift_58 : decode cX5_shift 58 = .ok (.getfield 25, 3) := by decide +kernel
theorem dX5_shift_61 : decode cX5_shift 61 = .ok (.iconst 5, 1) := by decide +kernel
theorem dX5_shift_62 : decode cX5_shift 62 = .ok (.iconst 5, 1) := by decide +kernel
theorem dX5_shift_63 : decode cX5_shift 63 = .ok (.iload_n 1, 1) := by decide +kernel
theorem dX5_shift_64 : decode cX5_shift 64 = .ok (.imul, 1) := by decide +kernel
theorem dX5_shift_65 : decode cX5_shift 65 = .ok (.iadd, 1) := by decide +kernel
theorem dX5_shift_66 : decode cX5_shift 66 = .ok (.iconst 1, 1) := by decide +kernel
theorem dX5_shift_67 : decode cX5_shift 67 = .ok (.iadd, 1) := by decide +kernel
theorem dX5_shift_68 : decode cX5_shift 68 = .ok (.iload_n 2, 1) := by decide +kernel
theorem dX5_shift_69 : decode cX5_shift 69 = .ok (.iastore, 1) := by decide +kernel
theorem dX5_shift_70 : decode cX5_shift 70 = .ok (.iload_n 3, 1) := by decide +kernel
theorem dX5_shift_71 : decode cX5_shift 71 = .ok (.ireturn, 1) := by decide +kernel
theorem dX5_changes_0 : decode cX5_changes 0 = .ok (.aload_n 0, 1) := by decide +kernel
theorem dX5_changes_1 : decode cX5_changes 1 = .ok (.invokevirtual 190, 3) := by decide +kernel
theorem dX5_changes_4 : decode cX5_changes 4 = .ok (.aload_n 0, 1) := by decide +kernel
theorem dX5_changes_5 : decode cX5_changes 5 = .ok (.getfield 25, 3) := by decide +kernel
theorem dX5_changes_8 : decode cX5_changes 8 = .ok (.iconst 5, 1) := by decide +kernel
theorem dX5_changes_9 : decode cX5_changes 9 = .ok (.iconst 5, 1) := by decide +kernel
theorem dX5_changes_10 : decode cX5_changes 10 = .ok (.iload_n 1, 1) := by decide +kernel
theorem dX5_changes_11 : decode cX5_changes 11 = .ok (.imul, 1) := by decide +kernel
theorem dX5_changes_12 : decode cX5_changes 12 = .ok (.iadd, 1) := by decide +kernel
theorem dX5_changes_13 : decode cX5_changes 13 = .ok (.iload_n 2, 1) := by decide +kernel
theorem dX5_changes_14 : decode cX5_changes 14 = .ok (.iadd, 1) := by decide +kernel
theorem dX5_changes_15 : decode cX5_changes 15 = .ok (.iconst 1, 1) := by decide +kernel
theorem dX5_changes_16 : decode cX5_changes 16 = .ok (.aload_n 0, 1) := by decide +kernel
theorem dX5_changes_17 : decode cX5_changes 17 = .ok (.getfield 25, 3) := by decide +kernel
theorem dX5_changes_20 : decode cX5_changes 20 = .ok (.iconst 5, 1) := by decide +kernel
theorem dX5_changes_21 : decode cX5_changes 21 = .ok (.iconst 5, 1) := by decide +kernel
theorem dX5_changes_22 : decode cX5_changes 22 = .ok (.iload_n 1, 1) := by decide +kernel
theorem dX5_changes_23 : decode cX5_changes 23 = .ok (.imul, 1) := by decide +kernel
theorem dX5_changes_24 : decode cX5_changes 24 = .ok (.iadd, 1) := by decide +kernel
theorem dX5_changes_25 : decode cX5_changes 25 = .ok (.iload_n 2, 1) := by decide +kernel
theorem dX5_changes_26 : decode cX5_changes 26 = .ok (.iadd, 1) := by decide +kernel
theorem dX5_changes_27 : decode cX5_changes 27 = .ok (.iaload, 1) := by decide +kernel
theorem dX5_changes_28 : decode cX5_changes 28 = .ok (.isub, 1) := by decide +kernel
theorem dX5_changes_29 : decode cX5_changes 29 = .ok (.iastore, 1) := by decide +kernel
theorem dX5_changes_30 : decode cX5_changes 30 = .ok (.aload_n 0, 1) := by decide +kernel
theorem dX5_changes_31 : decode cX5_changes 31 = .ok (.getfield 25, 3) := by decide +kernel
theorem dX5_changes_34 : decode cX5_changes 34 = .ok (.iconst 5, 1) := by decide +kernel
theorem dX5_changes_35 : decode cX5_changes 35 = .ok (.iconst 5, 1) := by decide +kernel
theorem dX5_changes_36 : decode cX5_changes 36 = .ok (.iload_n 1, 1) := by decide +kernel
theorem dX5_changes_37 : decode cX5_changes 37 = .ok (.imul, 1) := by decide +kernel
theorem dX5_changes_38 : decode cX5_changes 38 = .ok (.iadd, 1) := by decide +kernel
theorem dX5_changes_39 : decode cX5_changes 39 = .ok (.iload_n 2, 1) := by decide +kernel
theorem dX5_changes_40 : decode cX5_changes 40 = .ok (.iadd, 1) := by decide +kernel
theorem dX5_changes_41 : decode cX5_changes 41 = .ok (.iaload, 1) := by decide +kernel
theorem dX5_changes_42 : decode cX5_changes 42 = .ok (.ireturn, 1) := by decide +kernel
theorem dX5_turn_0 : decode cX5_turn 0 = .ok (.aload_n 0, 1) := by decide +kernel
theorem dX5_turn_1 : decode cX5_turn 1 = .ok (.iload_n 1, 1) := by decide +kernel
theorem dX5_turn_2 : decode cX5_turn 2 = .ok (.invokevirtual 170, 3) := by decide +kernel
theorem dX5_turn_5 : decode cX5_turn 5 = .ok (.ifCond .ne 5, 3) := by decide +kernel
theorem dX5_turn_8 : decode cX5_turn 8 = .ok (.iconst (-1), 1) := by decide +kernel
theorem dX5_turn_9 : decode cX5_turn 9 = .ok (.ireturn, 1) := by decide +kernel
theorem dX5_turn_10 : decode cX5_turn 10 = .ok (.aload_n 0, 1) := by decide +kernel
theorem dX5_turn_11 : decode cX5_turn 11 = .ok (.getfield 124, 3) := by decide +kernel
theorem dX5_turn_14 : decode cX5_turn 14 = .ok (.bipush 40, 2) := by decide +kernel
theorem dX5_turn_16 : decode cX5_turn 16 = .ok (.if_icmp .ne 8, 3) := by decide +kernel
theorem dX5_turn_19 : decode cX5_turn 19 = .ok (.bipush (-2), 2) := by decide +kernel
theorem dX5_turn_21 : decode cX5_turn 21 = .ok (.goto 9, 3) := by decide +kernel
theorem dX5_turn_24 : decode cX5_turn 24 = .ok (.aload_n 0, 1) := by decide +kernel
theorem dX5_turn_25 : decode cX5_turn 25 = .ok (.iload_n 1, 1) := by decide +kernel
theorem dX5_turn_26 : decode cX5_turn 26 = .ok (.iconst 3, 1) := by decide +kernel
theorem dX5_turn_27 : decode cX5_turn 27 = .ok (.invokevirtual 196, 3) := by decide +kernel
theorem dX5_turn_30 : decode cX5_turn 30 = .ok (.ireturn, 1) := by decide +kernel
theorem dX5_lift_0 : decode cX5_lift 0 = .ok (.aload_n 0, 1) := by decide +kernel
theorem dX5_lift_1 : decode cX5_lift 1 = .ok (.iload_n 1, 1) := by decide +kernel
theorem dX5_lift_2 : decode cX5_lift 2 = .ok (.invokevirtual 170, 3) := by decide +kernel
theorem dX5_lift_5 : decode cX5_lift 5 = .ok (.ifCond .ne 5, 3) := by decide +kernel
theorem dX5_lift_8 : decode cX5_lift 8 = .ok (.iconst (-1), 1) := by decide +kernel
theorem dX5_lift_9 : decode cX5_lift 9 = .ok (.ireturn, 1) := by decide +kernel
theorem dX5_lift_10 : decode cX5_lift 10 = .ok (.aload_n 0, 1) := by decide +kernel
theorem dX5_lift_11 : decode cX5_lift 11 = .ok (.getfield 124, 3) := by decide +kernel
theorem dX5_lift_14 : decode cX5_lift 14 = .ok (.bipush 40, 2) := by decide +kernel
theorem dX5_lift_16 : decode cX5_lift 16 = .ok (.if_icmp .ne 8, 3) := by decide +kernel
theorem dX5_lift_19 : decode cX5_lift 19 = .ok (.bipush (-2), 2) := by decide +kernel
theorem dX5_lift_21 : decode cX5_lift 21 = .ok (.goto 9, 3) := by decide +kernel
theorem dX5_lift_24 : decode cX5_lift 24 = .ok (.aload_n 0, 1) := by decide +kernel
theorem dX5_lift_25 : decode cX5_lift 25 = .ok (.iload_n 1, 1) := by decide +kernel
theorem dX5_lift_26 : decode cX5_lift 26 = .ok (.iconst 4, 1) := by decide +kernel
theorem dX5_lift_27 : decode cX5_lift 27 = .ok (.invokevirtual 196, 3) := by decide +kernel
theorem dX5_lift_30 : decode cX5_lift 30 = .ok (.ireturn, 1) := by decide +kernel
theorem dX5_mayLick_0 : decode cX5_mayLick 0 = .ok (.aload_n 0, 1) := by decide +kernel
theorem dX5_mayLick_1 : decode cX5_mayLick 1 = .ok (.getfield 25, 3) := by decide +kernel
theorem dX5_mayLick_4 : decode cX5_mayLick 4 = .ok (.iconst 4, 1) := by decide +kernel
theorem dX5_mayLick_5 : decode cX5_mayLick 5 = .ok (.iaload, 1) := by decide +kernel
theorem dX5_mayLick_6 : decode cX5_mayLick 6 = .ok (.iload_n 1, 1) := by decide +kernel
theorem dX5_mayLick_7 : decode cX5_mayLick 7 = .ok (.invokestatic 140, 3) := by decide +kernel
theorem dX5_mayLick_10 : decode cX5_mayLick 10 = .ok (.ifCond .ne 17, 3) := by decide +kernel
theorem dX5_mayLick_13 : decode cX5_mayLick 13 = .ok (.aload_n 0, 1) := by decide +kernel
theorem dX5_mayLick_14 : decode cX5_mayLick 14 = .ok (.getfield 25, 3) := by decide +kernel
theorem dX5_mayLick_17 : decode cX5_mayLick 17 = .ok (.iconst 4, 1) := by decide +kernel
theorem dX5_mayLick_18 : decode cX5_mayLick 18 = .ok (.iaload, 1) := by decide +kernel
theorem dX5_mayLick_19 : decode cX5_mayLick 19 = .ok (.invokestatic 151, 3) := by decide +kernel
theorem dX5_mayLick_22 : decode cX5_mayLick 22 = .ok (.bipush 8, 2) := by decide +kernel
theorem dX5_mayLick_24 : decode cX5_mayLick 24 = .ok (.if_icmp .ge 7, 3) := by decide +kernel
theorem dX5_mayLick_27 : decode cX5_mayLick 27 = .ok (.iconst 1, 1) := by decide +kernel
theorem dX5_mayLick_28 : decode cX5_mayLick 28 = .ok (.goto 4, 3) := by decide +kernel
theorem dX5_mayLick_31 : decode cX5_mayLick 31 = .ok (.iconst 0, 1) := by decide +kernel
theorem dX5_mayLick_32 : decode cX5_mayLick 32 = .ok (.ireturn, 1) := by decide +kernel
theorem dX5_lick_0 : decode cX5_lick 0 = .ok (.iload_n 1, 1) := by decide +kernel
theorem dX5_lick_1 : decode cX5_lick 1 = .ok (.iconst 0, 1) := by decide +kernel
theorem dX5_lick_2 : decode cX5_lick 2 = .ok (.bipush 15, 2) := by decide +kernel
theorem dX5_lick_4 : decode cX5_lick 4 = .ok (.invokestatic 63, 3) := by decide +kernel
theorem dX5_lick_7 : decode cX5_lick 7 = .ok (.ifCond .ne 5, 3) := by decide +kernel
theorem dX5_lick_10 : decode cX5_lick 10 = .ok (.iconst (-1), 1) := by decide +kernel
theorem dX5_lick_11 : decode cX5_lick 11 = .ok (.ireturn, 1) := by decide +kernel
theorem dX5_lick_12 : decode cX5_lick 12 = .ok (.aload_n 0, 1) := by decide +kernel
theorem dX5_lick_13 : decode cX5_lick 13 = .ok (.invokevirtual 186, 3) := by decide +kernel
theorem dX5_lick_16 : decode cX5_lick 16 = .ok (.ifCond .eq 11, 3) := by decide +kernel
theorem dX5_lick_19 : decode cX5_lick 19 = .ok (.aload_n 0, 1) := by decide +kernel
theorem dX5_lick_20 : decode cX5_lick 20 = .ok (.iload_n 1, 1) := by decide +kernel
theorem dX5_lick_21 : decode cX5_lick 21 = .ok (.invokevirtual 199, 3) := by decide +kernel
theorem dX5_lick_24 : decode cX5_lick 24 = .ok (.ifCond .ne 6, 3) := by decide +kernel
theorem dX5_lick_27 : decode cX5_lick 27 = .ok (.bipush (-4), 2) := by decide +kernel
theorem dX5_lick_29 : decode cX5_lick 29 = .ok (.ireturn, 1) := by decide +kernel
theorem dX5_lick_30 : decode cX5_lick 30 = .ok (.aload_n 0, 1) := by decide +kernel
theorem dX5_lick_31 : decode cX5_lick 31 = .ok (.getfield 124, 3) := by decide +kernel
theorem dX5_lick_34 : decode cX5_lick 34 = .ok (.bipush 40, 2) := by decide +kernel
theorem dX5_lick_36 : decode cX5_lick 36 = .ok (.if_icmp .ne 6, 3) := by decide +kernel
theorem dX5_lick_39 : decode cX5_lick 39 = .ok (.bipush (-2), 2) := by decide +kernel
theorem dX5_lick_41 : decode cX5_lick 41 = .ok (.ireturn, 1) := by decide +kernel
theorem dX5_lick_42 : decode cX5_lick 42 = .ok (.aload_n 0, 1) := by decide +kernel
theorem dX5_lick_43 : decode cX5_lick 43 = .ok (.invokevirtual 190, 3) := by decide +kernel
theorem dX5_lick_46 : decode cX5_lick 46 = .ok (.aload_n 0, 1) := by decide +kernel
theorem dX5_lick_47 : decode cX5_lick 47 = .ok (.getfield 25, 3) := by decide +kernel
theorem dX5_lick_50 : decode cX5_lick 50 = .ok (.iconst 4, 1) := by decide +kernel
theorem dX5_lick_51 : decode cX5_lick 51 = .ok (.dup2, 1) := by decide +kernel
theorem dX5_lick_52 : decode cX5_lick 52 = .ok (.iaload, 1) := by decide +kernel
theorem dX5_lick_53 : decode cX5_lick 53 = .ok (.iconst 1, 1) := by decide +kernel
theorem dX5_lick_54 : decode cX5_lick 54 = .ok (.iload_n 1, 1) := by decide +kernel
theorem dX5_lick_55 : decode cX5_lick 55 = .ok (.ishl, 1) := by decide +kernel
theorem dX5_lick_56 : decode cX5_lick 56 = .ok (.ixor, 1) := by decide +kernel
theorem dX5_lick_57 : decode cX5_lick 57 = .ok (.iastore, 1) := by decide +kernel
theorem dX5_lick_58 : decode cX5_lick 58 = .ok (.aload_n 0, 1) := by decide +kernel
theorem dX5_lick_59 : decode cX5_lick 59 = .ok (.getfield 25, 3) := by decide +kernel
theorem dX5_lick_62 : decode cX5_lick 62 = .ok (.iconst 4, 1) := by decide +kernel
theorem dX5_lick_63 : decode cX5_lick 63 = .ok (.iaload, 1) := by decide +kernel
theorem dX5_lick_64 : decode cX5_lick 64 = .ok (.iload_n 1, 1) := by decide +kernel
theorem dX5_lick_65 : decode cX5_lick 65 = .ok (.ishr, 1) := by decide +kernel
theorem dX5_lick_66 : decode cX5_lick 66 = .ok (.iconst 1, 1) := by decide +kernel
theorem dX5_lick_67 : decode cX5_lick 67 = .ok (.iand, 1) := by decide +kernel
theorem dX5_lick_68 : decode cX5_lick 68 = .ok (.ireturn, 1) := by decide +kernel
theorem dX5_undo_0 : decode cX5_undo 0 = .ok (.iload_n 1, 1) := by decide +kernel
theorem dX5_undo_1 : decode cX5_undo 1 = .ok (.iconst 0, 1) := by decide +kernel
theorem dX5_undo_2 : decode cX5_undo 2 = .ok (.aload_n 0, 1) := by decide +kernel
theorem dX5_undo_3 : decode cX5_undo 3 = .ok (.getfield 124, 3) := by decide +kernel
theorem dX5_undo_6 : decode cX5_undo 6 = .ok (.invokestatic 63, 3) := by decide +kernel
theorem dX5_undo_9 : decode cX5_undo 9 = .ok (.ifCond .ne 5, 3) := by decide +kernel
theorem dX5_undo_12 : decode cX5_undo 12 = .ok (.iconst (-1), 1) := by decide +kernel
theorem dX5_undo_13 : decode cX5_undo 13 = .ok (.ireturn, 1) := by decide +kernel
theorem dX5_undo_14 : decode cX5_undo 14 = .ok (.aload_n 0, 1) := by decide +kernel
theorem dX5_undo_15 : decode cX5_undo 15 = .ok (.getfield 124, 3) := by decide +kernel
theorem dX5_undo_18 : decode cX5_undo 18 = .ok (.iload_n 1, 1) := by decide +kernel
theorem dX5_undo_19 : decode cX5_undo 19 = .ok (.isub, 1) := by decide +kernel
theorem dX5_undo_20 : decode cX5_undo 20 = .ok (.istore_n 2, 1) := by decide +kernel
theorem dX5_undo_21 : decode cX5_undo 21 = .ok (.iload_n 2, 1) := by decide +kernel
theorem dX5_undo_22 : decode cX5_undo 22 = .ok (.ifCond .le 21, 3) := by decide +kernel
theorem dX5_undo_25 : decode cX5_undo 25 = .ok (.aload_n 0, 1) := by decide +kernel
theorem dX5_undo_26 : decode cX5_undo 26 = .ok (.getfield 34, 3) := by decide +kernel
theorem dX5_undo_29 : decode cX5_undo 29 = .ok (.bipush 35, 2) := by decide +kernel
theorem dX5_undo_31 : decode cX5_undo 31 = .ok (.iload_n 1, 1) := by decide +kernel
theorem dX5_undo_32 : decode cX5_undo 32 = .ok (.imul, 1) := by decide +kernel
theorem dX5_undo_33 : decode cX5_undo 33 = .ok (.aload_n 0, 1) := by decide +kernel
theorem dX5_undo_34 : decode cX5_undo 34 = .ok (.getfield 25, 3) := by decide +kernel
theorem dX5_undo_37 : decode cX5_undo 37 = .ok (.iconst 0, 1) := by decide +kernel
theorem dX5_undo_38 : decode cX5_undo 38 = .ok (.bipush 35, 2) := by decide +kernel
theorem dX5_undo_40 : decode cX5_undo 40 = .ok (.invokestatic 120, 3) := by decide +kernel
theorem dX5_undo_43 : decode cX5_undo 43 = .ok (.aload_n 0, 1) := by decide +kernel
theorem dX5_undo_44 : decode cX5_undo 44 = .ok (.iload_n 1, 1) := by decide +kernel
theorem dX5_undo_45 : decode cX5_undo 45 = .ok (.putfield 124, 3) := by decide +kernel
theorem dX5_undo_48 : decode cX5_undo 48 = .ok (.iload_n 2, 1) := by decide +kernel
theorem dX5_undo_49 : decode cX5_undo 49 = .ok (.ireturn, 1) := by decide +kernel
theorem dX5_keep_0 : decode cX5_keep 0 = .ok (.iload_n 1, 1) := by decide +kernel
theorem dX5_keep_1 : decode cX5_keep 1 = .ok (.iconst 0, 1) := by decide +kernel
theorem dX5_keep_2 : decode cX5_keep 2 = .ok (.iconst 2, 1) := by decide +kernel
theorem dX5_keep_3 : decode cX5_keep 3 = .ok (.invokestatic 63, 3) := by decide +kernel
theorem dX5_keep_6 : decode cX5_keep 6 = .ok (.ifCond .ne 5, 3) := by decide +kernel
theorem dX5_keep_9 : decode cX5_keep 9 = .ok (.iconst (-1), 1) := by decide +kernel
theorem dX5_keep_10 : decode cX5_keep 10 = .ok (.ireturn, 1) := by decide +kernel
theorem dX5_keep_11 : decode cX5_keep 11 = .ok (.aload_n 0, 1) := by decide +kernel
theorem dX5_keep_12 : decode cX5_keep 12 = .ok (.invokevirtual 186, 3) := by decide +kernel
theorem dX5_keep_15 : decode cX5_keep 15 = .ok (.ifCond .ne 6, 3) := by decide +kernel
theorem dX5_keep_18 : decode cX5_keep 18 = .ok (.bipush (-4), 2) := by decide +kernel
theorem dX5_keep_20 : decode cX5_keep 20 = .ok (.ireturn, 1) := by decide +kernel
theorem dX5_keep_21 : decode cX5_keep 21 = .ok (.aload_n 0, 1) := by decide +kernel
theorem dX5_keep_22 : decode cX5_keep 22 = .ok (.getfield 25, 3) := by decide +kernel
theorem dX5_keep_25 : decode cX5_keep 25 = .ok (.iconst 0, 1) := by decide +kernel
theorem dX5_keep_26 : decode cX5_keep 26 = .ok (.aload_n 0, 1) := by decide +kernel
theorem dX5_keep_27 : decode cX5_keep 27 = .ok (.getfield 37, 3) := by decide +kernel
theorem dX5_keep_30 : decode cX5_keep 30 = .ok (.bipush 35, 2) := by decide +kernel
theorem dX5_keep_32 : decode cX5_keep 32 = .ok (.iload_n 1, 1) := by decide +kernel
theorem dX5_keep_33 : decode cX5_keep 33 = .ok (.imul, 1) := by decide +kernel
theorem dX5_keep_34 : decode cX5_keep 34 = .ok (.bipush 35, 2) := by decide +kernel
theorem dX5_keep_36 : decode cX5_keep 36 = .ok (.invokestatic 120, 3) := by decide +kernel
theorem dX5_keep_39 : decode cX5_keep 39 = .ok (.aload_n 0, 1) := by decide +kernel
theorem dX5_keep_40 : decode cX5_keep 40 = .ok (.getfield 34, 3) := by decide +kernel
theorem dX5_keep_43 : decode cX5_keep 43 = .ok (.iconst 0, 1) := by decide +kernel
theorem dX5_keep_44 : decode cX5_keep 44 = .ok (.aload_n 0, 1) := by decide +kernel
theorem dX5_keep_45 : decode cX5_keep 45 = .ok (.getfield 40, 3) := by decide +kernel
theorem dX5_keep_48 : decode cX5_keep 48 = .ok (.sipush 1400, 3) := by decide +kernel
theorem dX5_keep_51 : decode cX5_keep 51 = .ok (.iload_n 1, 1) := by decide +kernel
theorem dX5_keep_52 : decode cX5_keep 52 = .ok (.imul, 1) := by decide +kernel
theorem dX5_keep_53 : decode cX5_keep 53 = .ok (.sipush 1400, 3) := by decide +kernel
theorem dX5_keep_56 : decode cX5_keep 56 = .ok (.invokestatic 120, 3) := by decide +kernel
theorem dX5_keep_59 : decode cX5_keep 59 = .ok (.aload_n 0, 1) := by decide +kernel
theorem dX5_keep_60 : decode cX5_keep 60 = .ok (.getfield 43, 3) := by decide +kernel
theorem dX5_keep_63 : decode cX5_keep 63 = .ok (.iload_n 1, 1) := by decide +kernel
theorem dX5_keep_64 : decode cX5_keep 64 = .ok (.aload_n 0, 1) := by decide +kernel
theorem dX5_keep_65 : decode cX5_keep 65 = .ok (.getfield 124, 3) := by decide +kernel
theorem dX5_keep_68 : decode cX5_keep 68 = .ok (.iastore, 1) := by decide +kernel
theorem dX5_keep_69 : decode cX5_keep 69 = .ok (.aload_n 0, 1) := by decide +kernel
theorem dX5_keep_70 : decode cX5_keep 70 = .ok (.getfield 124, 3) := by decide +kernel
theorem dX5_keep_73 : decode cX5_keep 73 = .ok (.ireturn, 1) := by decide +kernel
theorem dX5_on_0 : decode cX5_on 0 = .ok (.iload_n 1, 1) := by decide +kernel
theorem dX5_on_1 : decode cX5_on 1 = .ok (.iconst 0, 1) := by decide +kernel
theorem dX5_on_2 : decode cX5_on 2 = .ok (.iconst 2, 1) := by decide +kernel
theorem dX5_on_3 : decode cX5_on 3 = .ok (.invokestatic 63, 3) := by decide +kernel
theorem dX5_on_6 : decode cX5_on 6 = .ok (.ifCond .ne 5, 3) := by decide +kernel
theorem dX5_on_9 : decode cX5_on 9 = .ok (.iconst (-1), 1) := by decide +kernel
theorem dX5_on_10 : decode cX5_on 10 = .ok (.ireturn, 1) := by decide +kernel
theorem dX5_on_11 : decode cX5_on 11 = .ok (.aload_n 0, 1) := by decide +kernel
theorem dX5_on_12 : decode cX5_on 12 = .ok (.getfield 43, 3) := by decide +kernel
theorem dX5_on_15 : decode cX5_on 15 = .ok (.iload_n 1, 1) := by decide +kernel
theorem dX5_on_16 : decode cX5_on 16 = .ok (.iaload, 1) := by decide +kernel
theorem dX5_on_17 : decode cX5_on 17 = .ok (.bipush (-9), 2) := by decide +kernel
theorem dX5_on_19 : decode cX5_on 19 = .ok (.if_icmp .ne 9, 3) := by decide +kernel
theorem dX5_on_22 : decode cX5_on 22 = .ok (.aload_n 0, 1) := by decide +kernel
theorem dX5_on_23 : decode cX5_on 23 = .ok (.iconst 1, 1) := by decide +kernel
theorem dX5_on_24 : decode cX5_on 24 = .ok (.invokevirtual 71, 3) := by decide +kernel
theorem dX5_on_27 : decode cX5_on 27 = .ok (.ireturn, 1) := by decide +kernel
theorem dX5_on_28 : decode cX5_on 28 = .ok (.aload_n 0, 1) := by decide +kernel
theorem dX5_on_29 : decode cX5_on 29 = .ok (.getfield 37, 3) := by decide +kernel
theorem dX5_on_32 : decode cX5_on 32 = .ok (.bipush 35, 2) := by decide +kernel
