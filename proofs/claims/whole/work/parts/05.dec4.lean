theorem dX4_init_0 : decode cX4_init 0 = .ok (.aload_n 0, 1) := by decide +kernel
theorem dX4_init_1 : decode cX4_init 1 = .ok (.invokespecial 1, 3) := by decide +kernel
theorem dX4_init_4 : decode cX4_init 4 = .ok (.aload_n 0, 1) := by decide +kernel
theorem dX4_init_5 : decode cX4_init 5 = .ok (.new 7, 3) := by decide +kernel
theorem dX4_init_8 : decode cX4_init 8 = .ok (.dup, 1) := by decide +kernel
theorem dX4_init_9 : decode cX4_init 9 = .ok (.sipush 240, 3) := by decide +kernel
theorem dX4_init_12 : decode cX4_init 12 = .ok (.newarray .int, 2) := by decide +kernel
theorem dX4_init_14 : decode cX4_init 14 = .ok (.bipush 6, 2) := by decide +kernel
theorem dX4_init_16 : decode cX4_init 16 = .ok (.newarray .int, 2) := by decide +kernel
theorem dX4_init_18 : decode cX4_init 18 = .ok (.bipush 40, 2) := by decide +kernel
theorem dX4_init_20 : decode cX4_init 20 = .ok (.invokespecial 11, 3) := by decide +kernel
theorem dX4_init_23 : decode cX4_init 23 = .ok (.putfield 14, 3) := by decide +kernel
theorem dX4_init_26 : decode cX4_init 26 = .ok (.aload_n 0, 1) := by decide +kernel
theorem dX4_init_27 : decode cX4_init 27 = .ok (.new 7, 3) := by decide +kernel
theorem dX4_init_30 : decode cX4_init 30 = .ok (.dup, 1) := by decide +kernel
theorem dX4_init_31 : decode cX4_init 31 = .ok (.sipush 240, 3) := by decide +kernel
theorem dX4_init_34 : decode cX4_init 34 = .ok (.newarray .int, 2) := by decide +kernel
theorem dX4_init_36 : decode cX4_init 36 = .ok (.iconst 4, 1) := by decide +kernel
theorem dX4_init_37 : decode cX4_init 37 = .ok (.newarray .int, 2) := by decide +kernel
theorem dX4_init_39 : decode cX4_init 39 = .ok (.bipush 60, 2) := by decide +kernel
theorem dX4_init_41 : decode cX4_init 41 = .ok (.invokespecial 11, 3) := by decide +kernel
theorem dX4_init_44 : decode cX4_init 44 = .ok (.putfield 18, 3) := by decide +kernel
theorem dX4_init_47 : decode cX4_init 47 = .ok (.aload_n 0, 1) := by decide +kernel
theorem dX4_init_48 : decode cX4_init 48 = .ok (.new 7, 3) := by decide +kernel
theorem dX4_init_51 : decode cX4_init 51 = .ok (.dup, 1) := by decide +kernel
theorem dX4_init_52 : decode cX4_init 52 = .ok (.sipush 160, 3) := by decide +kernel
theorem dX4_init_55 : decode cX4_init 55 = .ok (.newarray .int, 2) := by decide +kernel
theorem dX4_init_57 : decode cX4_init 57 = .ok (.iconst 4, 1) := by decide +kernel
theorem dX4_init_58 : decode cX4_init 58 = .ok (.newarray .int, 2) := by decide +kernel
theorem dX4_init_60 : decode cX4_init 60 = .ok (.bipush 40, 2) := by decide +kernel
theorem dX4_init_62 : decode cX4_init 62 = .ok (.invokespecial 11, 3) := by decide +kernel
theorem dX4_init_65 : decode cX4_init 65 = .ok (.putfield 21, 3) := by decide +kernel
theorem dX4_init_68 : decode cX4_init 68 = .ok (.aload_n 0, 1) := by decide +kernel
theorem dX4_init_69 : decode cX4_init 69 = .ok (.getfield 21, 3) := by decide +kernel
theorem dX4_init_72 : decode cX4_init 72 = .ok (.iconst 3, 1) := by decide +kernel
theorem dX4_init_73 : decode cX4_init 73 = .ok (.iconst 0, 1) := by decide +kernel
theorem dX4_init_74 : decode cX4_init 74 = .ok (.iconst 0, 1) := by decide +kernel
theorem dX4_init_75 : decode cX4_init 75 = .ok (.invokevirtual 24, 3) := by decide +kernel
theorem dX4_init_78 : decode cX4_init 78 = .ok (.aload_n 0, 1) := by decide +kernel
theorem dX4_init_79 : decode cX4_init 79 = .ok (.new 28, 3) := by decide +kernel
theorem dX4_init_82 : decode cX4_init 82 = .ok (.dup, 1) := by decide +kernel
theorem dX4_init_83 : decode cX4_init 83 = .ok (.invokespecial 30, 3) := by decide +kernel
theorem dX4_init_86 : decode cX4_init 86 = .ok (.putfield 31, 3) := by decide +kernel
theorem dX4_init_89 : decode cX4_init 89 = .ok (.aload_n 0, 1) := by decide +kernel
theorem dX4_init_90 : decode cX4_init 90 = .ok (.new 28, 3) := by decide +kernel
theorem dX4_init_93 : decode cX4_init 93 = .ok (.dup, 1) := by decide +kernel
theorem dX4_init_94 : decode cX4_init 94 = .ok (.invokespecial 30, 3) := by decide +kernel
theorem dX4_init_97 : decode cX4_init 97 = .ok (.putfield 35, 3) := by decide +kernel
theorem dX4_init_100 : decode cX4_init 100 = .ok (.aload_n 0, 1) := by decide +kernel
theorem dX4_init_101 : decode cX4_init 101 = .ok (.new 28, 3) := by decide +kernel
theorem dX4_init_104 : decode cX4_init 104 = .ok (.dup, 1) := by decide +kernel
theorem dX4_init_105 : decode cX4_init 105 = .ok (.invokespecial 30, 3) := by decide +kernel
theorem dX4_init_108 : decode cX4_init 108 = .ok (.putfield 38, 3) := by decide +kernel
theorem dX4_init_111 : decode cX4_init 111 = .ok (.aload_n 0, 1) := by decide +kernel
theorem dX4_init_112 : decode cX4_init 112 = .ok (.new 41, 3) := by decide +kernel
theorem dX4_init_115 : decode cX4_init 115 = .ok (.dup, 1) := by decide +kernel
theorem dX4_init_116 : decode cX4_init 116 = .ok (.aload_n 0, 1) := by decide +kernel
theorem dX4_init_117 : decode cX4_init 117 = .ok (.getfield 18, 3) := by decide +kernel
theorem dX4_init_120 : decode cX4_init 120 = .ok (.aload_n 0, 1) := by decide +kernel
theorem dX4_init_121 : decode cX4_init 121 = .ok (.getfield 38, 3) := by decide +kernel
theorem dX4_init_124 : decode cX4_init 124 = .ok (.invokespecial 43, 3) := by decide +kernel
theorem dX4_init_127 : decode cX4_init 127 = .ok (.putfield 46, 3) := by decide +kernel
theorem dX4_init_130 : decode cX4_init 130 = .ok (.aload_n 0, 1) := by decide +kernel
theorem dX4_init_131 : decode cX4_init 131 = .ok (.new 50, 3) := by decide +kernel
theorem dX4_init_134 : decode cX4_init 134 = .ok (.dup, 1) := by decide +kernel
theorem dX4_init_135 : decode cX4_init 135 = .ok (.invokespecial 52, 3) := by decide +kernel
theorem dX4_init_138 : decode cX4_init 138 = .ok (.putfield 53, 3) := by decide +kernel
theorem dX4_init_141 : decode cX4_init 141 = .ok (.aload_n 0, 1) := by decide +kernel
theorem dX4_init_142 : decode cX4_init 142 = .ok (.bipush 96, 2) := by decide +kernel
theorem dX4_init_144 : decode cX4_init 144 = .ok (.newarray .int, 2) := by decide +kernel
theorem dX4_init_146 : decode cX4_init 146 = .ok (.putfield 57, 3) := by decide +kernel
theorem dX4_init_149 : decode cX4_init 149 = .ok (.aload_n 0, 1) := by decide +kernel
theorem dX4_init_150 : decode cX4_init 150 = .ok (.bipush 6, 2) := by decide +kernel
theorem dX4_init_152 : decode cX4_init 152 = .ok (.newarray .int, 2) := by decide +kernel
theorem dX4_init_154 : decode cX4_init 154 = .ok (.putfield 61, 3) := by decide +kernel
theorem dX4_init_157 : decode cX4_init 157 = .ok (.aload_n 0, 1) := by decide +kernel
theorem dX4_init_158 : decode cX4_init 158 = .ok (.lconst 1, 1) := by decide +kernel
theorem dX4_init_159 : decode cX4_init 159 = .ok (.putfield 64, 3) := by decide +kernel
theorem dX4_init_162 : decode cX4_init 162 = .ok (.return_, 1) := by decide +kernel
theorem dX4_row_0 : decode cX4_row 0 = .ok (.iload_n 1, 1) := by decide +kernel
theorem dX4_row_1 : decode cX4_row 1 = .ok (.invokestatic 68, 3) := by decide +kernel
theorem dX4_row_4 : decode cX4_row 4 = .ok (.ifCond .eq 9, 3) := by decide +kernel
theorem dX4_row_7 : decode cX4_row 7 = .ok (.iload_n 2, 1) := by decide +kernel
theorem dX4_row_8 : decode cX4_row 8 = .ok (.bipush 40, 2) := by decide +kernel
theorem dX4_row_10 : decode cX4_row 10 = .ok (.if_icmp .le 5, 3) := by decide +kernel
theorem dX4_row_13 : decode cX4_row 13 = .ok (.iconst (-1), 1) := by decide +kernel
theorem dX4_row_14 : decode cX4_row 14 = .ok (.ireturn, 1) := by decide +kernel
theorem dX4_row_15 : decode cX4_row 15 = .ok (.iload_n 2, 1) := by decide +kernel
theorem dX4_row_16 : decode cX4_row 16 = .ok (.ifCond .ge 9, 3) := by decide +kernel
theorem dX4_row_19 : decode cX4_row 19 = .ok (.aload_n 0, 1) := by decide +kernel
theorem dX4_row_20 : decode cX4_row 20 = .ok (.iconst 5, 1) := by decide +kernel
theorem dX4_row_21 : decode cX4_row 21 = .ok (.invokevirtual 72, 3) := by decide +kernel
theorem dX4_row_24 : decode cX4_row 24 = .ok (.ireturn, 1) := by decide +kernel
theorem dX4_row_25 : decode cX4_row 25 = .ok (.aload_n 0, 1) := by decide +kernel
theorem dX4_row_26 : decode cX4_row 26 = .ok (.getfield 14, 3) := by decide +kernel
theorem dX4_row_29 : decode cX4_row 29 = .ok (.iload_n 1, 1) := by decide +kernel
theorem dX4_row_30 : decode cX4_row 30 = .ok (.iload_n 2, 1) := by decide +kernel
theorem dX4_row_31 : decode cX4_row 31 = .ok (.iconst 0, 1) := by decide +kernel
theorem dX4_row_32 : decode cX4_row 32 = .ok (.invokevirtual 24, 3) := by decide +kernel
theorem dX4_row_35 : decode cX4_row 35 = .ok (.iload_n 2, 1) := by decide +kernel
theorem dX4_row_36 : decode cX4_row 36 = .ok (.ireturn, 1) := by decide +kernel
theorem dX4_lay_0 : decode cX4_lay 0 = .ok (.iload_n 1, 1) := by decide +kernel
theorem dX4_lay_1 : decode cX4_lay 1 = .ok (.invokestatic 68, 3) := by decide +kernel
theorem dX4_lay_4 : decode cX4_lay 4 = .ok (.ifCond .ne 5, 3) := by decide +kernel
theorem dX4_lay_7 : decode cX4_lay 7 = .ok (.iconst (-1), 1) := by decide +kernel
theorem dX4_lay_8 : decode cX4_lay 8 = .ok (.ireturn, 1) := by decide +kernel
theorem dX4_lay_9 : decode cX4_lay 9 = .ok (.aload_n 0, 1) := by decide +kernel
theorem dX4_lay_10 : decode cX4_lay 10 = .ok (.getfield 14, 3) := by decide +kernel
theorem dX4_lay_13 : decode cX4_lay 13 = .ok (.iload_n 1, 1) := by decide +kernel
theorem dX4_lay_14 : decode cX4_lay 14 = .ok (.invokevirtual 76, 3) := by decide +kernel
theorem dX4_lay_17 : decode cX4_lay 17 = .ok (.ifCond .eq 9, 3) := by decide +kernel
theorem dX4_lay_20 : decode cX4_lay 20 = .ok (.aload_n 0, 1) := by decide +kernel
theorem dX4_lay_21 : decode cX4_lay 21 = .ok (.iconst 1, 1) := by decide +kernel
theorem dX4_lay_22 : decode cX4_lay 22 = .ok (.invokevirtual 72, 3) := by decide +kernel
theorem dX4_lay_25 : decode cX4_lay 25 = .ok (.ireturn, 1) := by decide +kernel
theorem dX4_lay_26 : decode cX4_lay 26 = .ok (.aload_n 0, 1) := by decide +kernel
theorem dX4_lay_27 : decode cX4_lay 27 = .ok (.getfield 14, 3) := by decide +kernel
theorem dX4_lay_30 : decode cX4_lay 30 = .ok (.iload_n 1, 1) := by decide +kernel
theorem dX4_lay_31 : decode cX4_lay 31 = .ok (.iload_n 2, 1) := by decide +kernel
theorem dX4_lay_32 : decode cX4_lay 32 = .ok (.invokevirtual 79, 3) := by decide +kernel
theorem dX4_lay_35 : decode cX4_lay 35 = .ok (.ifCond .ne 9, 3) := by decide +kernel
theorem dX4_lay_38 : decode cX4_lay 38 = .ok (.aload_n 0, 1) := by decide +kernel
theorem dX4_lay_39 : decode cX4_lay 39 = .ok (.iconst 2, 1) := by decide +kernel
theorem dX4_lay_40 : decode cX4_lay 40 = .ok (.invokevirtual 72, 3) := by decide +kernel
theorem dX4_lay_43 : decode cX4_lay 43 = .ok (.ireturn, 1) := by decide +kernel
theorem dX4_lay_44 : decode cX4_lay 44 = .ok (.aload_n 0, 1) := by decide +kernel
theorem dX4_lay_45 : decode cX4_lay 45 = .ok (.getfield 14, 3) := by decide +kernel
theorem dX4_lay_48 : decode cX4_lay 48 = .ok (.iload_n 1, 1) := by decide +kernel
theorem dX4_lay_49 : decode cX4_lay 49 = .ok (.iload_n 2, 1) := by decide +kernel
theorem dX4_lay_50 : decode cX4_lay 50 = .ok (.invokevirtual 83, 3) := by decide +kernel
theorem dX4_lay_53 : decode cX4_lay 53 = .ok (.istore 4, 2) := by decide +kernel
theorem dX4_lay_55 : decode cX4_lay 55 = .ok (.aload_n 0, 1) := by decide +kernel
theorem dX4_lay_56 : decode cX4_lay 56 = .ok (.getfield 14, 3) := by decide +kernel
theorem dX4_lay_59 : decode cX4_lay 59 = .ok (.iload_n 1, 1) := by decide +kernel
theorem dX4_lay_60 : decode cX4_lay 60 = .ok (.iload_n 2, 1) := by decide +kernel
theorem dX4_lay_61 : decode cX4_lay 61 = .ok (.iload_n 3, 1) := by decide +kernel
theorem dX4_lay_62 : decode cX4_lay 62 = .ok (.invokevirtual 87, 3) := by decide +kernel
theorem dX4_lay_65 : decode cX4_lay 65 = .ok (.aload_n 0, 1) := by decide +kernel
theorem dX4_lay_66 : decode cX4_lay 66 = .ok (.iload 4, 2) := by decide +kernel
theorem dX4_lay_68 : decode cX4_lay 68 = .ok (.invokevirtual 90, 3) := by decide +kernel
theorem dX4_lay_71 : decode cX4_lay 71 = .ok (.ireturn, 1) := by decide +kernel
theorem dX4_at_0 : decode cX4_at 0 = .ok (.iload_n 1, 1) := by decide +kernel
theorem dX4_at_1 : decode cX4_at 1 = .ok (.invokestatic 68, 3) := by decide +kernel
theorem dX4_at_4 : decode cX4_at 4 = .ok (.ifCond .ne 5, 3) := by decide +kernel
theorem dX4_at_7 : decode cX4_at 7 = .ok (.iconst (-1), 1) := by decide +kernel
theorem dX4_at_8 : decode cX4_at 8 = .ok (.ireturn, 1) := by decide +kernel
theorem dX4_at_9 : decode cX4_at 9 = .ok (.aload_n 0, 1) := by decide +kernel
theorem dX4_at_10 : decode cX4_at 10 = .ok (.getfield 14, 3) := by decide +kernel
theorem dX4_at_13 : decode cX4_at 13 = .ok (.iload_n 1, 1) := by decide +kernel
theorem dX4_at_14 : decode cX4_at 14 = .ok (.invokevirtual 76, 3) := by decide +kernel
theorem dX4_at_17 : decode cX4_at 17 = .ok (.ifCond .eq 9, 3) := by decide +kernel
theorem dX4_at_20 : decode cX4_at 20 = .ok (.aload_n 0, 1) := by decide +kernel
theorem dX4_at_21 : decode cX4_at 21 = .ok (.iconst 1, 1) := by decide +kernel
theorem dX4_at_22 : decode cX4_at 22 = .ok (.invokevirtual 72, 3) := by decide +kernel
theorem dX4_at_25 : decode cX4_at 25 = .ok (.ireturn, 1) := by decide +kernel
theorem dX4_at_26 : decode cX4_at 26 = .ok (.aload_n 0, 1) := by decide +kernel
theorem dX4_at_27 : decode cX4_at 27 = .ok (.getfield 14, 3) := by decide +kernel
theorem dX4_at_30 : decode cX4_at 30 = .ok (.iload_n 1, 1) := by decide +kernel
theorem dX4_at_31 : decode cX4_at 31 = .ok (.iload_n 2, 1) := by decide +kernel
theorem dX4_at_32 : decode cX4_at 32 = .ok (.invokevirtual 79, 3) := by decide +kernel
theorem dX4_at_35 : decode cX4_at 35 = .ok (.ifCond .eq 19, 3) := by decide +kernel
theorem dX4_at_38 : decode cX4_at 38 = .ok (.aload_n 0, 1) := by decide +kernel
theorem dX4_at_39 : decode cX4_at 39 = .ok (.aload_n 0, 1) := by decide +kernel
theorem dX4_at_40 : decode cX4_at 40 = .ok (.getfield 14, 3) := by decide +kernel
theorem dX4_at_43 : decode cX4_at 43 = .ok (.iload_n 1, 1) := by decide +kernel
theorem dX4_at_44 : decode cX4_at 44 = .ok (.iload_n 2, 1) := by decide +kernel
theorem dX4_at_45 : decode cX4_at 45 = .ok (.invokevirtual 83, 3) := by decide +kernel
theorem dX4_at_48 : decode cX4_at 48 = .ok (.invokevirtual 90, 3) := by decide +kernel
theorem dX4_at_51 : decode cX4_at 51 = .ok (.goto 8, 3) := by decide +kernel
theorem dX4_at_54 : decode cX4_at 54 = .ok (.aload_n 0, 1) := by decide +kernel
theorem dX4_at_55 : decode cX4_at 55 = .ok (.iconst 2, 1) := by decide +kernel
theorem dX4_at_56 : decode cX4_at 56 = .ok (.invokevirtual 72, 3) := by decide +kernel
theorem dX4_at_59 : decode cX4_at 59 = .ok (.ireturn, 1) := by decide +kernel
theorem dX4_tear_0 : decode cX4_tear 0 = .ok (.iload_n 1, 1) := by decide +kernel
theorem dX4_tear_1 : decode cX4_tear 1 = .ok (.invokestatic 68, 3) := by decide +kernel
theorem dX4_tear_4 : decode cX4_tear 4 = .ok (.ifCond .ne 5, 3) := by decide +kernel
theorem dX4_tear_7 : decode cX4_tear 7 = .ok (.iconst (-1), 1) := by decide +kernel
theorem dX4_tear_8 : decode cX4_tear 8 = .ok (.ireturn, 1) := by decide +kernel
theorem dX4_tear_9 : decode cX4_tear 9 = .ok (.aload_n 0, 1) := by decide +kernel
theorem dX4_tear_10 : decode cX4_tear 10 = .ok (.getfield 14, 3) := by decide +kernel
theorem dX4_tear_13 : decode cX4_tear 13 = .ok (.iload_n 1, 1) := by decide +kernel
theorem dX4_tear_14 : decode cX4_tear 14 = .ok (.invokevirtual 76, 3) := by decide +kernel
theorem dX4_tear_17 : decode cX4_tear 17 = .ok (.ifCond .eq 9, 3) := by decide +kernel
theorem dX4_tear_20 : decode cX4_tear 20 = .ok (.aload_n 0, 1) := by decide +kernel
theorem dX4_tear_21 : decode cX4_tear 21 = .ok (.iconst 1, 1) := by decide +kernel
theorem dX4_tear_22 : decode cX4_tear 22 = .ok (.invokevirtual 72, 3) := by decide +kernel
theorem dX4_tear_25 : decode cX4_tear 25 = .ok (.ireturn, 1) := by decide +kernel
theorem dX4_tear_26 : decode cX4_tear 26 = .ok (.aload_n 0, 1) := by decide +kernel
theorem dX4_tear_27 : decode cX4_tear 27 = .ok (.getfield 14, 3) := by decide +kernel
theorem dX4_tear_30 : decode cX4_tear 30 = .ok (.iload_n 1, 1) := by decide +kernel
theorem dX4_tear_31 : decode cX4_tear 31 = .ok (.invokevirtual 93, 3) := by decide +kernel
theorem dX4_tear_34 : decode cX4_tear 34 = .ok (.iconst 1, 1) := by decide +kernel
theorem dX4_tear_35 : decode cX4_tear 35 = .ok (.ireturn, 1) := by decide +kernel
theorem dX4_copy_0 : decode cX4_copy 0 = .ok (.iload_n 1, 1) := by decide +kernel
theorem dX4_copy_1 : decode cX4_copy 1 = .ok (.invokestatic 68, 3) := by decide +kernel
theorem dX4_copy_4 : decode cX4_copy 4 = .ok (.ifCond .eq 10, 3) := by decide +kernel
theorem dX4_copy_7 : decode cX4_copy 7 = .ok (.iload_n 3, 1) := by decide +kernel
theorem dX4_copy_8 : decode cX4_copy 8 = .ok (.invokestatic 68, 3) := by decide +kernel
theorem dX4_copy_11 : decode cX4_copy 11 = .ok (.ifCond .ne 5, 3) := by decide +kernel
theorem dX4_copy_14 : decode cX4_copy 14 = .ok (.iconst (-1), 1) := by decide +kernel
theorem dX4_copy_15 : decode cX4_copy 15 = .ok (.ireturn, 1) := by decide +kernel
theorem dX4_copy_16 : decode cX4_copy 16 = .ok (.iload 5, 2) := by decide +kernel
theorem dX4_copy_18 : decode cX4_copy 18 = .ok (.ifCond .ge 9, 3) := by decide +kernel
theorem dX4_copy_21 : decode cX4_copy 21 = .ok (.aload_n 0, 1) := by decide +kernel
theorem dX4_copy_22 : decode cX4_copy 22 = .ok (.iconst 5, 1) := by decide +kernel
theorem dX4_copy_23 : decode cX4_copy 23 = .ok (.invokevirtual 72, 3) := by decide +kernel
theorem dX4_copy_26 : decode cX4_copy 26 = .ok (.ireturn, 1) := by decide +kernel
theorem dX4_copy_27 : decode cX4_copy 27 = .ok (.aload_n 0, 1) := by decide +kernel
theorem dX4_copy_28 : decode cX4_copy 28 = .ok (.getfield 14, 3) := by decide +kernel
theorem dX4_copy_31 : decode cX4_copy 31 = .ok (.iload_n 1, 1) := by decide +kernel
theorem dX4_copy_32 : decode cX4_copy 32 = .ok (.invokevirtual 76, 3) := by decide +kernel
theorem dX4_copy_35 : decode cX4_copy 35 = .ok (.ifCond .ne 14, 3) := by decide +kernel
theorem dX4_copy_38 : decode cX4_copy 38 = .ok (.aload_n 0, 1) := by decide +kernel
theorem dX4_copy_39 : decode cX4_copy 39 = .ok (.getfield 14, 3) := by decide +kernel
theorem dX4_copy_42 : decode cX4_copy 42 = .ok (.iload_n 3, 1) := by decide +kernel
theorem dX4_copy_43 : decode cX4_copy 43 = .ok (.invokevirtual 76, 3) := by decide +kernel
theorem dX4_copy_46 : decode cX4_copy 46 = .ok (.ifCond .eq 9, 3) := by decide +kernel
theorem dX4_copy_49 : decode cX4_copy 49 = .ok (.aload_n 0, 1) := by decide +kernel
theorem dX4_copy_50 : decode cX4_copy 50 = .ok (.iconst 1, 1) := by decide +kernel
theorem dX4_copy_51 : decode cX4_copy 51 = .ok (.invokevirtual 72, 3) := by decide +kernel
theorem dX4_copy_54 : decode cX4_copy 54 = .ok (.ireturn, 1) := by decide +kernel
theorem dX4_copy_55 : decode cX4_copy 55 = .ok (.aload_n 0, 1) := by decide +kernel
theorem dX4_copy_56 : decode cX4_copy 56 = .ok (.getfield 14, 3) := by decide +kernel
theorem dX4_copy_59 : decode cX4_copy 59 = .ok (.iload_n 1, 1) := by decide +kernel
theorem dX4_copy_60 : decode cX4_copy 60 = .ok (.iload_n 2, 1) := by decide +kernel
theorem dX4_copy_61 : decode cX4_copy 61 = .ok (.iload 5, 2) := by decide +kernel
theorem dX4_copy_63 : decode cX4_copy 63 = .ok (.invokevirtual 97, 3) := by decide +kernel
theorem dX4_copy_66 : decode cX4_copy 66 = .ok (.ifCond .eq 18, 3) := by decide +kernel
theorem dX4_copy_69 : decode cX4_copy 69 = .ok (.aload_n 0, 1) := by decide +kernel
theorem dX4_copy_70 : decode cX4_copy 70 = .ok (.getfield 14, 3) := by decide +kernel
theorem dX4_copy_73 : decode cX4_copy 73 = .ok (.iload_n 3, 1) := by decide +kernel
theorem dX4_copy_74 : decode cX4_copy 74 = .ok (.iload 4, 2) := by decide +kernel
theorem dX4_copy_76 : decode cX4_copy 76 = .ok (.iload 5, 2) := by decide +kernel
theorem dX4_copy_78 : decode cX4_copy 78 = .ok (.invokevirtual 97, 3) := by decide +kernel
theorem dX4_copy_81 : decode cX4_copy 81 = .ok (.ifCond .ne 9, 3) := by decide +kernel
theorem dX4_copy_84 : decode cX4_copy 84 = .ok (.aload_n 0, 1) := by decide +kernel
theorem dX4_copy_85 : decode cX4_copy 85 = .ok (.iconst 2, 1) := by decide +kernel
theorem dX4_copy_86 : decode cX4_copy 86 = .ok (.invokevirtual 72, 3) := by decide +kernel
theorem dX4_copy_89 : decode cX4_copy 89 = .ok (.ireturn, 1) := by decide +kernel
theorem dX4_copy_90 : decode cX4_copy 90 = .ok (.aload_n 0, 1) := by decide +kernel
theorem dX4_copy_91 : decode cX4_copy 91 = .ok (.getfield 14, 3) := by decide +kernel
theorem dX4_copy_94 : decode cX4_copy 94 = .ok (.iload_n 1, 1) := by decide +kernel
theorem dX4_copy_95 : decode cX4_copy 95 = .ok (.iload_n 2, 1) := by decide +kernel
theorem dX4_copy_96 : decode cX4_copy 96 = .ok (.iload_n 3, 1) := by decide +kernel
theorem dX4_copy_97 : decode cX4_copy 97 = .ok (.iload 4, 2) := by decide +kernel
theorem dX4_copy_99 : decode cX4_copy 99 = .ok (.iload 5, 2) := by decide +kernel
theorem dX4_copy_101 : decode cX4_copy 101 = .ok (.invokevirtual 101, 3) := by decide +kernel
theorem dX4_copy_104 : decode cX4_copy 104 = .ok (.iconst 1, 1) := by decide +kernel
theorem dX4_copy_105 : decode cX4_copy 105 = .ok (.ireturn, 1) := by decide +kernel
theorem dX4_mean_0 : decode cX4_mean 0 = .ok (.iload_n 1, 1) := by decide +kernel
theorem dX4_mean_1 : decode cX4_mean 1 = .ok (.invokestatic 68, 3) := by decide +kernel
theorem dX4_mean_4 : decode cX4_mean 4 = .ok (.ifCond .ne 5, 3) := by decide +kernel
theorem dX4_mean_7 : decode cX4_mean 7 = .ok (.iconst (-1), 1) := by decide +kernel
theorem dX4_mean_8 : decode cX4_mean 8 = .ok (.ireturn, 1) := by decide +kernel
theorem dX4_mean_9 : decode cX4_mean 9 = .ok (.aload_n 0, 1) := by decide +kernel
theorem dX4_mean_10 : decode cX4_mean 10 = .ok (.getfield 14, 3) := by decide +kernel
theorem dX4_mean_13 : decode cX4_mean 13 = .ok (.iload_n 1, 1) := by decide +kernel
theorem dX4_mean_14 : decode cX4_mean 14 = .ok (.invokevirtual 76, 3) := by decide +kernel
theorem dX4_mean_17 : decode cX4_mean 17 = .ok (.ifCond .eq 9, 3) := by decide +kernel
theorem dX4_mean_20 : decode cX4_mean 20 = .ok (.aload_n 0, 1) := by decide +kernel
theorem dX4_mean_21 : decode cX4_mean 21 = .ok (.iconst 1, 1) := by decide +kernel
theorem dX4_mean_22 : decode cX4_mean 22 = .ok (.invokevirtual 72, 3) := by decide +kernel
theorem dX4_mean_25 : decode cX4_mean 25 = .ok (.ireturn, 1) := by decide +kernel
theorem dX4_mean_26 : decode cX4_mean 26 = .ok (.aload_n 0, 1) := by decide +kernel
theorem dX4_mean_27 : decode cX4_mean 27 = .ok (.getfield 14, 3) := by decide +kernel
theorem dX4_mean_30 : decode cX4_mean 30 = .ok (.iload_n 1, 1) := by decide +kernel
theorem dX4_mean_31 : decode cX4_mean 31 = .ok (.invokevirtual 105, 3) := by decide +kernel
theorem dX4_mean_34 : decode cX4_mean 34 = .ok (.istore_n 2, 1) := by decide +kernel
theorem dX4_mean_35 : decode cX4_mean 35 = .ok (.iload_n 2, 1) := by decide +kernel
theorem dX4_mean_36 : decode cX4_mean 36 = .ok (.ifCond .ne 9, 3) := by decide +kernel
theorem dX4_mean_39 : decode cX4_mean 39 = .ok (.aload_n 0, 1) := by decide +kernel
theorem dX4_mean_40 : decode cX4_mean 40 = .ok (.iconst 4, 1) := by decide +kernel
theorem dX4_mean_41 : decode cX4_mean 41 = .ok (.invokevirtual 72, 3) := by decide +kernel
theorem dX4_mean_44 : decode cX4_mean 44 = .ok (.ireturn, 1) := by decide +kernel
theorem dX4_mean_45 : decode cX4_mean 45 = .ok (.lconst 0, 1) := by decide +kernel
theorem dX4_mean_46 : decode cX4_mean 46 = .ok (.lstore_n 3, 1) := by decide +kernel
theorem dX4_mean_47 : decode cX4_mean 47 = .ok (.iconst 0, 1) := by decide +kernel
theorem dX4_mean_48 : decode cX4_mean 48 = .ok (.istore 5, 2) := by decide +kernel
theorem dX4_mean_50 : decode cX4_mean 50 = .ok (.iload 5, 2) := by decide +kernel
theorem dX4_mean_52 : decode cX4_mean 52 = .ok (.iload_n 2, 1) := by decide +kernel
theorem dX4_mean_53 : decode cX4_mean 53 = .ok (.if_icmp .ge 23, 3) := by decide +kernel
theorem dX4_mean_56 : decode cX4_mean 56 = .ok (.lload_n 3, 1) := by decide +kernel
theorem dX4_mean_57 : decode cX4_mean 57 = .ok (.aload_n 0, 1) := by decide +kernel
theorem dX4_mean_58 : decode cX4_mean 58 = .ok (.getfield 14, 3) := by decide +kernel
theorem dX4_mean_61 : decode cX4_mean 61 = .ok (.iload_n 1, 1) := by decide +kernel
theorem dX4_mean_62 : decode cX4_mean 62 = .ok (.iload 5, 2) := by decide +kernel
theorem dX4_mean_64 : decode cX4_mean 64 = .ok (.invokevirtual 83, 3) := by decide +kernel
theorem dX4_mean_67 : decode cX4_mean 67 = .ok (.i2l, 1) := by decide +kernel
theorem dX4_mean_68 : decode cX4_mean 68 = .ok (.ladd, 1) := by decide +kernel
theorem dX4_mean_69 : decode cX4_mean 69 = .ok (.lstore_n 3, 1) := by decide +kernel
theorem dX4_mean_70 : decode cX4_mean 70 = .ok (.iinc 5 1, 3) := by decide +kernel
theorem dX4_mean_73 : decode cX4_mean 73 = .ok (.goto (-23), 3) := by decide +kernel
theorem dX4_mean_76 : decode cX4_mean 76 = .ok (.aload_n 0, 1) := by decide +kernel
theorem dX4_mean_77 : decode cX4_mean 77 = .ok (.lload_n 3, 1) := by decide +kernel
theorem dX4_mean_78 : decode cX4_mean 78 = .ok (.iload_n 2, 1) := by decide +kernel
theorem dX4_mean_79 : decode cX4_mean 79 = .ok (.i2l, 1) := by decide +kernel
theorem dX4_mean_80 : decode cX4_mean 80 = .ok (.ldiv, 1) := by decide +kernel
theorem dX4_mean_81 : decode cX4_mean 81 = .ok (.l2i, 1) := by decide +kernel
theorem dX4_mean_82 : decode cX4_mean 82 = .ok (.invokevirtual 90, 3) := by decide +kernel
theorem dX4_mean_85 : decode cX4_mean 85 = .ok (.ireturn, 1) := by decide +kernel
theorem dX4_text_0 : decode cX4_text 0 = .ok (.iload_n 1, 1) := by decide +kernel
theorem dX4_text_1 : decode cX4_text 1 = .ok (.invokestatic 108, 3) := by decide +kernel
theorem dX4_text_4 : decode cX4_text 4 = .ok (.ifCond .eq 9, 3) := by decide +kernel
theorem dX4_text_7 : decode cX4_text 7 = .ok (.iload_n 2, 1) := by decide +kernel
theorem dX4_text_8 : decode cX4_text 8 = .ok (.bipush 60, 2) := by decide +kernel
theorem dX4_text_10 : decode cX4_text 10 = .ok (.if_icmp .le 5, 3) := by decide +kernel
theorem dX4_text_13 : decode cX4_text 13 = .ok (.iconst (-1), 1) := by decide +kernel
theorem dX4_text_14 : decode cX4_text 14 = .ok (.ireturn, 1) := by decide +kernel
theorem dX4_text_15 : decode cX4_text 15 = .ok (.iload_n 2, 1) := by decide +kernel
theorem dX4_text_16 : decode cX4_text 16 = .ok (.ifCond .ge 9, 3) := by decide +kernel
theorem dX4_text_19 : decode cX4_text 19 = .ok (.aload_n 0, 1) := by decide +kernel
theorem dX4_text_20 : decode cX4_text 20 = .ok (.iconst 5, 1) := by decide +kernel
theorem dX4_text_21 : decode cX4_text 21 = .ok (.invokevirtual 72, 3) := by decide +kernel
theorem dX4_text_24 : decode cX4_text 24 = .ok (.ireturn, 1) := by decide +kernel
theorem dX4_text_25 : decode cX4_text 25 = .ok (.aload_n 0, 1) := by decide +kernel
theorem dX4_text_26 : decode cX4_text 26 = .ok (.getfield 18, 3) := by decide +kernel
theorem dX4_text_29 : decode cX4_text 29 = .ok (.iload_n 1, 1) := by decide +kernel
theorem dX4_text_30 : decode cX4_text 30 = .ok (.iload_n 2, 1) := by decide +kernel
theorem dX4_text_31 : decode cX4_text 31 = .ok (.bipush 32, 2) := by decide +kernel
theorem dX4_text_33 : decode cX4_text 33 = .ok (.invokevirtual 24, 3) := by decide +kernel
theorem dX4_text_36 : decode cX4_text 36 = .ok (.iload_n 2, 1) := by decide +kernel
theorem dX4_text_37 : decode cX4_text 37 = .ok (.ireturn, 1) := by decide +kernel
theorem dX4_put_0 : decode cX4_put 0 = .ok (.iload_n 1, 1) := by decide +kernel
theorem dX4_put_1 : decode cX4_put 1 = .ok (.invokestatic 108, 3) := by decide +kernel
theorem dX4_put_4 : decode cX4_put 4 = .ok (.ifCond .ne 5, 3) := by decide +kernel
theorem dX4_put_7 : decode cX4_put 7 = .ok (.iconst (-1), 1) := by decide +kernel
theorem dX4_put_8 : decode cX4_put 8 = .ok (.ireturn, 1) := by decide +kernel
theorem dX4_put_9 : decode cX4_put 9 = .ok (.aload_n 0, 1) := by decide +kernel
theorem dX4_put_10 : decode cX4_put 10 = .ok (.getfield 18, 3) := by decide +kernel
theorem dX4_put_13 : decode cX4_put 13 = .ok (.iload_n 1, 1) := by decide +kernel
theorem dX4_put_14 : decode cX4_put 14 = .ok (.invokevirtual 76, 3) := by decide +kernel
theorem dX4_put_17 : decode cX4_put 17 = .ok (.ifCond .eq 9, 3) := by decide +kernel
theorem dX4_put_20 : decode cX4_put 20 = .ok (.aload_n 0, 1) := by decide +kernel
theorem dX4_put_21 : decode cX4_put 21 = .ok (.iconst 1, 1) := by decide +kernel
theorem dX4_put_22 : decode cX4_put 22 = .ok (.invokevirtual 72, 3) := by decide +kernel
theorem dX4_put_25 : decode cX4_put 25 = .ok (.ireturn, 1) := by decide +kernel
theorem dX4_put_26 : decode cX4_put 26 = .ok (.aload_n 0, 1) := by decide +kernel
theorem dX4_put_27 : decode cX4_put 27 = .ok (.getfield 18, 3) := by decide +kernel
theorem dX4_put_30 : decode cX4_put 30 = .ok (.iload_n 1, 1) := by decide +kernel
theorem dX4_put_31 : decode cX4_put 31 = .ok (.iload_n 2, 1) := by decide +kernel
theorem dX4_put_32 : decode cX4_put 32 = .ok (.invokevirtual 79, 3) := by decide +kernel
theorem dX4_put_35 : decode cX4_put 35 = .ok (.ifCond .ne 9, 3) := by decide +kernel
theorem dX4_put_38 : decode cX4_put 38 = .ok (.aload_n 0, 1) := by decide +kernel
theorem dX4_put_39 : decode cX4_put 39 = .ok (.iconst 2, 1) := by decide +kernel
theorem dX4_put_40 : decode cX4_put 40 = .ok (.invokevirtual 72, 3) := by decide +kernel
theorem dX4_put_43 : decode cX4_put 43 = .ok (.ireturn, 1) := by decide +kernel
theorem dX4_put_44 : decode cX4_put 44 = .ok (.aload_n 0, 1) := by decide +kernel
theorem dX4_put_45 : decode cX4_put 45 = .ok (.getfield 18, 3) := by decide +kernel
theorem dX4_put_48 : decode cX4_put 48 = .ok (.iload_n 1, 1) := by decide +kernel
theorem dX4_put_49 : decode cX4_put 49 = .ok (.iload_n 2, 1) := by decide +kernel
theorem dX4_put_50 : decode cX4_put 50 = .ok (.invokevirtual 83, 3) := by decide +kernel
theorem dX4_put_53 : decode cX4_put 53 = .ok (.istore 4, 2) := by decide +kernel
theorem dX4_put_55 : decode cX4_put 55 = .ok (.aload_n 0, 1) := by decide +kernel
theorem dX4_put_56 : decode cX4_put 56 = .ok (.getfield 18, 3) := by decide +kernel
theorem dX4_put_59 : decode cX4_put 59 = .ok (.iload_n 1, 1) := by decide +kernel
theorem dX4_put_60 : decode cX4_put 60 = .ok (.iload_n 2, 1) := by decide +kernel
theorem dX4_put_61 : decode cX4_put 61 = .ok (.iload_n 3, 1) := by decide +kernel
theorem dX4_put_62 : decode cX4_put 62 = .ok (.i2b, 1) := by decide +kernel
theorem dX4_put_63 : decode cX4_put 63 = .ok (.invokevirtual 87, 3) := by decide +kernel
theorem dX4_put_66 : decode cX4_put 66 = .ok (.iload 4, 2) := by decide +kernel
theorem dX4_put_68 : decode cX4_put 68 = .ok (.sipush 1000, 3) := by decide +kernel
theorem dX4_put_71 : decode cX4_put 71 = .ok (.iadd, 1) := by decide +kernel
theorem dX4_put_72 : decode cX4_put 72 = .ok (.ireturn, 1) := by decide +kernel
theorem dX4_fault_0 : decode cX4_fault 0 = .ok (.iload_n 1, 1) := by decide +kernel
theorem dX4_fault_1 : decode cX4_fault 1 = .ok (.invokestatic 108, 3) := by decide +kernel
theorem dX4_fault_4 : decode cX4_fault 4 = .ok (.ifCond .ne 5, 3) := by decide +kernel
theorem dX4_fault_7 : decode cX4_fault 7 = .ok (.iconst (-1), 1) := by decide +kernel
theorem dX4_fault_8 : decode cX4_fault 8 = .ok (.ireturn, 1) := by decide +kernel
theorem dX4_fault_9 : decode cX4_fault 9 = .ok (.aload_n 0, 1) := by decide +kernel
theorem dX4_fault_10 : decode cX4_fault 10 = .ok (.getfield 18, 3) := by decide +kernel
theorem dX4_fault_13 : decode cX4_fault 13 = .ok (.iload_n 1, 1) := by decide +kernel
theorem dX4_fault_14 : decode cX4_fault 14 = .ok (.invokevirtual 76, 3) := by decide +kernel
theorem dX4_fault_17 : decode cX4_fault 17 = .ok (.ifCond .eq 11, 3) := by decide +kernel
theorem dX4_fault_20 : decode cX4_fault 20 = .ok (.aload_n 0, 1) := by decide +kernel
theorem dX4_fault_21 : decode cX4_fault 21 = .ok (.iconst 1, 1) := by decide +kernel
theorem dX4_fault_22 : decode cX4_fault 22 = .ok (.invokevirtual 72, 3) := by decide +kernel
theorem dX4_fault_25 : decode cX4_fault 25 = .ok (.goto 11, 3) := by decide +kernel
theorem dX4_fault_28 : decode cX4_fault 28 = .ok (.aload_n 0, 1) := by decide +kernel
theorem dX4_fault_29 : decode cX4_fault 29 = .ok (.getfield 46, 3) := by decide +kernel
theorem dX4_fault_32 : decode cX4_fault 32 = .ok (.iload_n 1, 1) := by decide +kernel
theorem dX4_fault_33 : decode cX4_fault 33 = .ok (.invokevirtual 111, 3) := by decide +kernel
theorem dX4_fault_36 : decode cX4_fault 36 = .ok (.ireturn, 1) := by decide +kernel
theorem dX4_slice_0 : decode cX4_slice 0 = .ok (.iload_n 1, 1) := by decide +kernel
theorem dX4_slice_1 : decode cX4_slice 1 = .ok (.invokestatic 108, 3) := by decide +kernel
theorem dX4_slice_4 : decode cX4_slice 4 = .ok (.ifCond .ne 5, 3) := by decide +kernel
theorem dX4_slice_7 : decode cX4_slice 7 = .ok (.iconst (-1), 1) := by decide +kernel
theorem dX4_slice_8 : decode cX4_slice 8 = .ok (.ireturn, 1) := by decide +kernel
theorem dX4_slice_9 : decode cX4_slice 9 = .ok (.aload_n 0, 1) := by decide +kernel
theorem dX4_slice_10 : decode cX4_slice 10 = .ok (.getfield 18, 3) := by decide +kernel
theorem dX4_slice_13 : decode cX4_slice 13 = .ok (.iload_n 1, 1) := by decide +kernel
theorem dX4_slice_14 : decode cX4_slice 14 = .ok (.invokevirtual 76, 3) := by decide +kernel
theorem dX4_slice_17 : decode cX4_slice 17 = .ok (.ifCond .eq 9, 3) := by decide +kernel
theorem dX4_slice_20 : decode cX4_slice 20 = .ok (.aload_n 0, 1) := by decide +kernel
theorem dX4_slice_21 : decode cX4_slice 21 = .ok (.iconst 1, 1) := by decide +kernel
theorem dX4_slice_22 : decode cX4_slice 22 = .ok (.invokevirtual 72, 3) := by decide +kernel
theorem dX4_slice_25 : decode cX4_slice 25 = .ok (.ireturn, 1) := by decide +kernel
theorem dX4_slice_26 : decode cX4_slice 26 = .ok (.aload_n 0, 1) := by decide +kernel
theorem dX4_slice_27 : decode cX4_slice 27 = .ok (.getfield 46, 3) := by decide +kernel
theorem dX4_slice_30 : decode cX4_slice 30 = .ok (.iload_n 1, 1) := by decide +kernel
theorem dX4_slice_31 : decode cX4_slice 31 = .ok (.invokevirtual 111, 3) := by decide +kernel
theorem dX4_slice_34 : decode cX4_slice 34 = .ok (.bipush (-9), 2) := by decide +kernel
theorem dX4_slice_36 : decode cX4_slice 36 = .ok (.if_icmp .eq 6, 3) := by decide +kernel
theorem dX4_slice_39 : decode cX4_slice 39 = .ok (.bipush (-4), 2) := by decide +kernel
theorem dX4_slice_41 : decode cX4_slice 41 = .ok (.ireturn, 1) := by decide +kernel
theorem dX4_slice_42 : decode cX4_slice 42 = .ok (.aload_n 0, 1) := by decide +kernel
theorem dX4_slice_43 : decode cX4_slice 43 = .ok (.getfield 31, 3) := by decide +kernel
theorem dX4_slice_46 : decode cX4_slice 46 = .ok (.aload_n 0, 1) := by decide +kernel
theorem dX4_slice_47 : decode cX4_slice 47 = .ok (.getfield 38, 3) := by decide +kernel
theorem dX4_slice_50 : decode cX4_slice 50 = .ok (.invokevirtual 114, 3) := by decide +kernel
theorem dX4_slice_53 : decode cX4_slice 53 = .ok (.aload_n 0, 1) := by decide +kernel
theorem dX4_slice_54 : decode cX4_slice 54 = .ok (.getfield 35, 3) := by decide +kernel
theorem dX4_slice_57 : decode cX4_slice 57 = .ok (.aload_n 0, 1) := by decide +kernel
theorem dX4_slice_58 : decode cX4_slice 58 = .ok (.getfield 31, 3) := by decide +kernel
theorem dX4_slice_61 : decode cX4_slice 61 = .ok (.invokevirtual 114, 3) := by decide +kernel
theorem dX4_slice_64 : decode cX4_slice 64 = .ok (.iconst 0, 1) := by decide +kernel
theorem dX4_slice_65 : decode cX4_slice 65 = .ok (.istore_n 2, 1) := by decide +kernel
theorem dX4_slice_66 : decode cX4_slice 66 = .ok (.iload_n 2, 1) := by decide +kernel
theorem dX4_slice_67 : decode cX4_slice 67 = .ok (.iconst 3, 1) := by decide +kernel
theorem dX4_slice_68 : decode cX4_slice 68 = .ok (.if_icmp .ge 17, 3) := by decide +kernel
theorem dX4_slice_71 : decode cX4_slice 71 = .ok (.aload_n 0, 1) := by decide +kernel
theorem dX4_slice_72 : decode cX4_slice 72 = .ok (.getfield 21, 3) := by decide +kernel
theorem dX4_slice_75 : decode cX4_slice 75 = .ok (.iload_n 2, 1) := by decide +kernel
theorem dX4_slice_76 : decode cX4_slice 76 = .ok (.invokevirtual 93, 3) := by decide +kernel
theorem dX4_slice_79 : decode cX4_slice 79 = .ok (.iinc 2 1, 3) := by decide +kernel
theorem dX4_slice_82 : decode cX4_slice 82 = .ok (.goto (-16), 3) := by decide +kernel
theorem dX4_slice_85 : decode cX4_slice 85 = .ok (.aload_n 0, 1) := by decide +kernel
theorem dX4_slice_86 : decode cX4_slice 86 = .ok (.getfield 21, 3) := by decide +kernel
theorem dX4_slice_89 : decode cX4_slice 89 = .ok (.iconst 3, 1) := by decide +kernel
theorem dX4_slice_90 : decode cX4_slice 90 = .ok (.iconst 0, 1) := by decide +kernel
theorem dX4_slice_91 : decode cX4_slice 91 = .ok (.iconst 0, 1) := by decide +kernel
theorem dX4_slice_92 : decode cX4_slice 92 = .ok (.invokevirtual 24, 3) := by decide +kernel
theorem dX4_slice_95 : decode cX4_slice 95 = .ok (.aload_n 0, 1) := by decide +kernel
theorem dX4_slice_96 : decode cX4_slice 96 = .ok (.getfield 35, 3) := by decide +kernel
theorem dX4_slice_99 : decode cX4_slice 99 = .ok (.getfield 118, 3) := by decide +kernel
theorem dX4_slice_102 : decode cX4_slice 102 = .ok (.ireturn, 1) := by decide +kernel
theorem dX4_peel_0 : decode cX4_peel 0 = .ok (.aload_n 0, 1) := by decide +kernel
theorem dX4_peel_1 : decode cX4_peel 1 = .ok (.getfield 35, 3) := by decide +kernel
theorem dX4_peel_4 : decode cX4_peel 4 = .ok (.iload_n 1, 1) := by decide +kernel
theorem dX4_peel_5 : decode cX4_peel 5 = .ok (.invokevirtual 122, 3) := by decide +kernel
theorem dX4_peel_8 : decode cX4_peel 8 = .ok (.ifCond .eq 12, 3) := by decide +kernel
theorem dX4_peel_11 : decode cX4_peel 11 = .ok (.iload_n 2, 1) := by decide +kernel
theorem dX4_peel_12 : decode cX4_peel 12 = .ok (.bipush 7, 2) := by decide +kernel
theorem dX4_peel_14 : decode cX4_peel 14 = .ok (.invokestatic 124, 3) := by decide +kernel
theorem dX4_peel_17 : decode cX4_peel 17 = .ok (.ifCond .ne 5, 3) := by decide +kernel
theorem dX4_peel_20 : decode cX4_peel 20 = .ok (.iconst (-1), 1) := by decide +kernel
theorem dX4_peel_21 : decode cX4_peel 21 = .ok (.ireturn, 1) := by decide +kernel
theorem dX4_peel_22 : decode cX4_peel 22 = .ok (.aload_n 0, 1) := by decide +kernel
theorem dX4_peel_23 : decode cX4_peel 23 = .ok (.aload_n 0, 1) := by decide +kernel
theorem dX4_peel_24 : decode cX4_peel 24 = .ok (.getfield 35, 3) := by decide +kernel
theorem dX4_peel_27 : decode cX4_peel 27 = .ok (.iload_n 1, 1) := by decide +kernel
theorem dX4_peel_28 : decode cX4_peel 28 = .ok (.iload_n 2, 1) := by decide +kernel
theorem dX4_peel_29 : decode cX4_peel 29 = .ok (.invokevirtual 127, 3) := by decide +kernel
theorem dX4_peel_32 : decode cX4_peel 32 = .ok (.invokevirtual 90, 3) := by decide +kernel
theorem dX4_peel_35 : decode cX4_peel 35 = .ok (.ireturn, 1) := by decide +kernel
theorem dX4_mark_0 : decode cX4_mark 0 = .ok (.aload_n 0, 1) := by decide +kernel
theorem dX4_mark_1 : decode cX4_mark 1 = .ok (.getfield 35, 3) := by decide +kernel
theorem dX4_mark_4 : decode cX4_mark 4 = .ok (.iload_n 1, 1) := by decide +kernel
theorem dX4_mark_5 : decode cX4_mark 5 = .ok (.invokevirtual 122, 3) := by decide +kernel
theorem dX4_mark_8 : decode cX4_mark 8 = .ok (.ifCond .eq 16, 3) := by decide +kernel
theorem dX4_mark_11 : decode cX4_mark 11 = .ok (.iload_n 2, 1) := by decide +kernel
theorem dX4_mark_12 : decode cX4_mark 12 = .ok (.ifCond .eq 12, 3) := by decide +kernel
theorem dX4_mark_15 : decode cX4_mark 15 = .ok (.iload_n 2, 1) := by decide +kernel
theorem dX4_mark_16 : decode cX4_mark 16 = .ok (.bipush 6, 2) := by decide +kernel
theorem dX4_mark_18 : decode cX4_mark 18 = .ok (.invokestatic 124, 3) := by decide +kernel
theorem dX4_mark_21 : decode cX4_mark 21 = .ok (.ifCond .ne 5, 3) := by decide +kernel
theorem dX4_mark_24 : decode cX4_mark 24 = .ok (.iconst (-1), 1) := by decide +kernel
theorem dX4_mark_25 : decode cX4_mark 25 = .ok (.ireturn, 1) := by decide +kernel
theorem dX4_mark_26 : decode cX4_mark 26 = .ok (.aload_n 0, 1) := by decide +kernel
theorem dX4_mark_27 : decode cX4_mark 27 = .ok (.getfield 35, 3) := by decide +kernel
theorem dX4_mark_30 : decode cX4_mark 30 = .ok (.iload_n 1, 1) := by decide +kernel
theorem dX4_mark_31 : decode cX4_mark 31 = .ok (.iload_n 2, 1) := by decide +kernel
theorem dX4_mark_32 : decode cX4_mark 32 = .ok (.invokevirtual 130, 3) := by decide +kernel
theorem dX4_mark_35 : decode cX4_mark 35 = .ok (.ifCond .eq 15, 3) := by decide +kernel
theorem dX4_mark_38 : decode cX4_mark 38 = .ok (.aload_n 0, 1) := by decide +kernel
theorem dX4_mark_39 : decode cX4_mark 39 = .ok (.getfield 35, 3) := by decide +kernel
theorem dX4_mark_42 : decode cX4_mark 42 = .ok (.iload_n 1, 1) := by decide +kernel
theorem dX4_mark_43 : decode cX4_mark 43 = .ok (.iload_n 2, 1) := by decide +kernel
theorem dX4_mark_44 : decode cX4_mark 44 = .ok (.invokevirtual 133, 3) := by decide +kernel
theorem dX4_mark_47 : decode cX4_mark 47 = .ok (.goto 8, 3) := by decide +kernel
theorem dX4_mark_50 : decode cX4_mark 50 = .ok (.aload_n 0, 1) := by decide +kernel
theorem dX4_mark_51 : decode cX4_mark 51 = .ok (.iconst 3, 1) := by decide +kernel
theorem dX4_mark_52 : decode cX4_mark 52 = .ok (.invokevirtual 72, 3) := by decide +kernel
theorem dX4_mark_55 : decode cX4_mark 55 = .ok (.ireturn, 1) := by decide +kernel
theorem dX4_morning_0 : decode cX4_morning 0 = .ok (.aload_n 0, 1) := by decide +kernel
theorem dX4_morning_1 : decode cX4_morning 1 = .ok (.getfield 35, 3) := by decide +kernel
theorem dX4_morning_4 : decode cX4_morning 4 = .ok (.getfield 118, 3) := by decide +kernel
theorem dX4_morning_7 : decode cX4_morning 7 = .ok (.ifCond .ne 6, 3) := by decide +kernel
theorem dX4_morning_10 : decode cX4_morning 10 = .ok (.bipush (-4), 2) := by decide +kernel
theorem dX4_morning_12 : decode cX4_morning 12 = .ok (.ireturn, 1) := by decide +kernel
theorem dX4_morning_13 : decode cX4_morning 13 = .ok (.aload_n 0, 1) := by decide +kernel
theorem dX4_morning_14 : decode cX4_morning 14 = .ok (.iconst 1, 1) := by decide +kernel
theorem dX4_morning_15 : decode cX4_morning 15 = .ok (.invokevirtual 136, 3) := by decide +kernel
theorem dX4_morning_18 : decode cX4_morning 18 = .ok (.ifCond .ne 6, 3) := by decide +kernel
theorem dX4_morning_21 : decode cX4_morning 21 = .ok (.bipush (-2), 2) := by decide +kernel
theorem dX4_morning_23 : decode cX4_morning 23 = .ok (.ireturn, 1) := by decide +kernel
theorem dX4_morning_24 : decode cX4_morning 24 = .ok (.aload_n 0, 1) := by decide +kernel
theorem dX4_morning_25 : decode cX4_morning 25 = .ok (.iconst 0, 1) := by decide +kernel
theorem dX4_morning_26 : decode cX4_morning 26 = .ok (.iconst 0, 1) := by decide +kernel
theorem dX4_morning_27 : decode cX4_morning 27 = .ok (.iconst 0, 1) := by decide +kernel
theorem dX4_morning_28 : decode cX4_morning 28 = .ok (.invokevirtual 139, 3) := by decide +kernel
theorem dX4_morning_31 : decode cX4_morning 31 = .ok (.aload_n 0, 1) := by decide +kernel
theorem dX4_morning_32 : decode cX4_morning 32 = .ok (.getfield 35, 3) := by decide +kernel
theorem dX4_morning_35 : decode cX4_morning 35 = .ok (.invokevirtual 142, 3) := by decide +kernel
theorem dX4_morning_38 : decode cX4_morning 38 = .ok (.ireturn, 1) := by decide +kernel
theorem dX4_shift_0 : decode cX4_shift 0 = .ok (.aload_n 0, 1) := by decide +kernel
theorem dX4_shift_1 : decode cX4_shift 1 = .ok (.getfield 35, 3) := by decide +kernel
theorem dX4_shift_4 : decode cX4_shift 4 = .ok (.iload_n 1, 1) := by decide +kernel
theorem dX4_shift_5 : decode cX4_shift 5 = .ok (.invokevirtual 122, 3) := by decide +kernel
theorem dX4_shift_8 : decode cX4_shift 8 = .ok (.ifCond .eq 12, 3) := by decide +kernel
theorem dX4_shift_11 : decode cX4_shift 11 = .ok (.iload_n 2, 1) := by decide +kernel
theorem dX4_shift_12 : decode cX4_shift 12 = .ok (.bipush 16, 2) := by decide +kernel
theorem dX4_shift_14 : decode cX4_shift 14 = .ok (.invokestatic 124, 3) := by decide +kernel
theorem dX4_shift_17 : decode cX4_shift 17 = .ok (.ifCond .ne 5, 3) := by decide +kernel
theorem dX4_shift_20 : decode cX4_shift 20 = .ok (.iconst (-1), 1) := by decide +kernel
theorem dX4_shift_21 : decode cX4_shift 21 = .ok (.ireturn, 1) := by decide +kernel
theorem dX4_shift_22 : decode cX4_shift 22 = .ok (.aload_n 0, 1) := by decide +kernel
theorem dX4_shift_23 : decode cX4_shift 23 = .ok (.getfield 35, 3) := by decide +kernel
theorem dX4_shift_26 : decode cX4_shift 26 = .ok (.iload_n 1, 1) := by decide +kernel
theorem dX4_shift_27 : decode cX4_shift 27 = .ok (.invokevirtual 146, 3) := by decide +kernel
theorem dX4_shift_30 : decode cX4_shift 30 = .ok (.istore_n 3, 1) := by decide +kernel
theorem dX4_shift_31 : decode cX4_shift 31 = .ok (.iload_n 3, 1) := by decide +kernel
theorem dX4_shift_32 : decode cX4_shift 32 = .ok (.iload_n 2, 1) := by decide +kernel
theorem dX4_shift_33 : decode cX4_shift 33 = .ok (.if_icmp .ne 6, 3) := by decide +kernel
theorem dX4_shift_36 : decode cX4_shift 36 = .ok (.bipush (-4), 2) := by decide +kernel
theorem dX4_shift_38 : decode cX4_shift 38 = .ok (.ireturn, 1) := by decide +kernel
theorem dX4_shift_39 : decode cX4_shift 39 = .ok (.aload_n 0, 1) := by decide +kernel
theorem dX4_shift_40 : decode cX4_shift 40 = .ok (.iconst 1, 1) := by decide +kernel
theorem dX4_shift_41 : decode cX4_shift 41 = .ok (.invokevirtual 136, 3) := by decide +kernel
theorem dX4_shift_44 : decode cX4_shift 44 = .ok (.ifCond .ne 6, 3) := by decide +kernel
theorem dX4_shift_47 : decode cX4_shift 47 = .ok (.bipush (-2), 2) := by decide +kernel
theorem dX4_shift_49 : decode cX4_shift 49 = .ok (.ireturn, 1) := by decide +kernel
theorem dX4_shift_50 : decode cX4_shift 50 = .ok (.aload_n 0, 1) := by decide +kernel
theorem dX4_shift_51 : decode cX4_shift 51 = .ok (.iconst 1, 1) := by decide +kernel
theorem dX4_shift_52 : decode cX4_shift 52 = .ok (.iload_n 1, 1) := by decide +kernel
theorem dX4_shift_53 : decode cX4_shift 53 = .ok (.iload_n 2, 1) := by decide +kernel
theorem dX4_shift_54 : decode cX4_shift 54 = .ok (.invokevirtual 139, 3) := by decide +kernel
theorem dX4_shift_57 : decode cX4_shift 57 = .ok (.iload_n 3, 1) := by decide +kernel
theorem dX4_shift_58 : decode cX4_shift 58 = .ok (.ireturn, 1) := by decide +kernel
theorem dX4_turn_0 : decode cX4_turn 0 = .ok (.aload_n 0, 1) := by decide +kernel
theorem dX4_turn_1 : decode cX4_turn 1 = .ok (.getfield 35, 3) := by decide +kernel
theorem dX4_turn_4 : decode cX4_turn 4 = .ok (.iload_n 1, 1) := by decide +kernel
theorem dX4_turn_5 : decode cX4_turn 5 = .ok (.invokevirtual 122, 3) := by decide +kernel
theorem dX4_turn_8 : decode cX4_turn 8 = .ok (.ifCond .ne 5, 3) := by decide +kernel
theorem dX4_turn_11 : decode cX4_turn 11 = .ok (.iconst (-1), 1) := by decide +kernel
theorem dX4_turn_12 : decode cX4_turn 12 = .ok (.ireturn, 1) := by decide +kernel
theorem dX4_turn_13 : decode cX4_turn 13 = .ok (.aload_n 0, 1) := by decide +kernel
theorem dX4_turn_14 : decode cX4_turn 14 = .ok (.iconst 1, 1) := by decide +kernel
theorem dX4_turn_15 : decode cX4_turn 15 = .ok (.invokevirtual 136, 3) := by decide +kernel
theorem dX4_turn_18 : decode cX4_turn 18 = .ok (.ifCond .ne 6, 3) := by decide +kernel
theorem dX4_turn_21 : decode cX4_turn 21 = .ok (.bipush (-2), 2) := by decide +kernel
theorem dX4_turn_23 : decode cX4_turn 23 = .ok (.ireturn, 1) := by decide +kernel
theorem dX4_turn_24 : decode cX4_turn 24 = .ok (.aload_n 0, 1) := by decide +kernel
theorem dX4_turn_25 : decode cX4_turn 25 = .ok (.iconst 2, 1) := by decide +kernel
theorem dX4_turn_26 : decode cX4_turn 26 = .ok (.iload_n 1, 1) := by decide +kernel
theorem dX4_turn_27 : decode cX4_turn 27 = .ok (.iconst 0, 1) := by decide +kernel
theorem dX4_turn_28 : decode cX4_turn 28 = .ok (.invokevirtual 139, 3) := by decide +kernel
theorem dX4_turn_31 : decode cX4_turn 31 = .ok (.aload_n 0, 1) := by decide +kernel
theorem dX4_turn_32 : decode cX4_turn 32 = .ok (.getfield 35, 3) := by decide +kernel
theorem dX4_turn_35 : decode cX4_turn 35 = .ok (.iload_n 1, 1) := by decide +kernel
theorem dX4_turn_36 : decode cX4_turn 36 = .ok (.invokevirtual 149, 3) := by decide +kernel
theorem dX4_turn_39 : decode cX4_turn 39 = .ok (.ireturn, 1) := by decide +kernel
theorem dX4_lift_0 : decode cX4_lift 0 = .ok (.aload_n 0, 1) := by decide +kernel
theorem dX4_lift_1 : decode cX4_lift 1 = .ok (.getfield 35, 3) := by decide +kernel
theorem dX4_lift_4 : decode cX4_lift 4 = .ok (.iload_n 1, 1) := by decide +kernel
theorem dX4_lift_5 : decode cX4_lift 5 = .ok (.invokevirtual 122, 3) := by decide +kernel
theorem dX4_lift_8 : decode cX4_lift 8 = .ok (.ifCond .ne 5, 3) := by decide +kernel
theorem dX4_lift_11 : decode cX4_lift 11 = .ok (.iconst (-1), 1) := by decide +kernel
theorem dX4_lift_12 : decode cX4_lift 12 = .ok (.ireturn, 1) := by decide +kernel
theorem dX4_lift_13 : decode cX4_lift 13 = .ok (.aload_n 0, 1) := by decide +kernel
theorem dX4_lift_14 : decode cX4_lift 14 = .ok (.iconst 1, 1) := by decide +kernel
theorem dX4_lift_15 : decode cX4_lift 15 = .ok (.invokevirtual 136, 3) := by decide +kernel
theorem dX4_lift_18 : decode cX4_lift 18 = .ok (.ifCond .ne 6, 3) := by decide +kernel
theorem dX4_lift_21 : decode cX4_lift 21 = .ok (.bipush (-2), 2) := by decide +kernel
theorem dX4_lift_23 : decode cX4_lift 23 = .ok (.ireturn, 1) := by decide +kernel
theorem dX4_lift_24 : decode cX4_lift 24 = .ok (.aload_n 0, 1) := by decide +kernel
theorem dX4_lift_25 : decode cX4_lift 25 = .ok (.iconst 3, 1) := by decide +kernel
theorem dX4_lift_26 : decode cX4_lift 26 = .ok (.iload_n 1, 1) := by decide +kernel
theorem dX4_lift_27 : decode cX4_lift 27 = .ok (.iconst 0, 1) := by decide +kernel
theorem dX4_lift_28 : decode cX4_lift 28 = .ok (.invokevirtual 139, 3) := by decide +kernel
theorem dX4_lift_31 : decode cX4_lift 31 = .ok (.aload_n 0, 1) := by decide +kernel
theorem dX4_lift_32 : decode cX4_lift 32 = .ok (.getfield 35, 3) := by decide +kernel
theorem dX4_lift_35 : decode cX4_lift 35 = .ok (.getfield 152, 3) := by decide +kernel
theorem dX4_lift_38 : decode cX4_lift 38 = .ok (.iload_n 1, 1) := by decide +kernel
theorem dX4_lift_39 : decode cX4_lift 39 = .ok (.invokestatic 155, 3) := by decide +kernel
theorem dX4_lift_42 : decode cX4_lift 42 = .ok (.ireturn, 1) := by decide +kernel
theorem dX4_lick_0 : decode cX4_lick 0 = .ok (.iload_n 1, 1) := by decide +kernel
theorem dX4_lick_1 : decode cX4_lick 1 = .ok (.bipush 16, 2) := by decide +kernel
theorem dX4_lick_3 : decode cX4_lick 3 = .ok (.invokestatic 124, 3) := by decide +kernel
theorem dX4_lick_6 : decode cX4_lick 6 = .ok (.ifCond .ne 5, 3) := by decide +kernel
theorem dX4_lick_9 : decode cX4_lick 9 = .ok (.iconst (-1), 1) := by decide +kernel
theorem dX4_lick_10 : decode cX4_lick 10 = .ok (.ireturn, 1) := by decide +kernel
theorem dX4_lick_11 : decode cX4_lick 11 = .ok (.aload_n 0, 1) := by decide +kernel
theorem dX4_lick_12 : decode cX4_lick 12 = .ok (.getfield 35, 3) := by decide +kernel
theorem dX4_lick_15 : decode cX4_lick 15 = .ok (.getfield 118, 3) := by decide +kernel
theorem dX4_lick_18 : decode cX4_lick 18 = .ok (.ifCond .eq 14, 3) := by decide +kernel
theorem dX4_lick_21 : decode cX4_lick 21 = .ok (.aload_n 0, 1) := by decide +kernel
theorem dX4_lick_22 : decode cX4_lick 22 = .ok (.getfield 35, 3) := by decide +kernel
theorem dX4_lick_25 : decode cX4_lick 25 = .ok (.iload_n 1, 1) := by decide +kernel
theorem dX4_lick_26 : decode cX4_lick 26 = .ok (.invokevirtual 158, 3) := by decide +kernel
theorem dX4_lick_29 : decode cX4_lick 29 = .ok (.ifCond .ne 6, 3) := by decide +kernel
theorem dX4_lick_32 : decode cX4_lick 32 = .ok (.bipush (-4), 2) := by decide +kernel
theorem dX4_lick_34 : decode cX4_lick 34 = .ok (.ireturn, 1) := by decide +kernel
theorem dX4_lick_35 : decode cX4_lick 35 = .ok (.aload_n 0, 1) := by decide +kernel
theorem dX4_lick_36 : decode cX4_lick 36 = .ok (.iconst 1, 1) := by decide +kernel
theorem dX4_lick_37 : decode cX4_lick 37 = .ok (.invokevirtual 136, 3) := by decide +kernel
theorem dX4_lick_40 : decode cX4_lick 40 = .ok (.ifCond .ne 6, 3) := by decide +kernel
theorem dX4_lick_43 : decode cX4_lick 43 = .ok (.bipush (-2), 2) := by decide +kernel
theorem dX4_lick_45 : decode cX4_lick 45 = .ok (.ireturn, 1) := by decide +kernel
theorem dX4_lick_46 : decode cX4_lick 46 = .ok (.aload_n 0, 1) := by decide +kernel
theorem dX4_lick_47 : decode cX4_lick 47 = .ok (.iconst 4, 1) := by decide +kernel
theorem dX4_lick_48 : decode cX4_lick 48 = .ok (.iconst 0, 1) := by decide +kernel
theorem dX4_lick_49 : decode cX4_lick 49 = .ok (.iload_n 1, 1) := by decide +kernel
theorem dX4_lick_50 : decode cX4_lick 50 = .ok (.invokevirtual 139, 3) := by decide +kernel
theorem dX4_lick_53 : decode cX4_lick 53 = .ok (.aload_n 0, 1) := by decide +kernel
theorem dX4_lick_54 : decode cX4_lick 54 = .ok (.getfield 35, 3) := by decide +kernel
theorem dX4_lick_57 : decode cX4_lick 57 = .ok (.getfield 161, 3) := by decide +kernel
theorem dX4_lick_60 : decode cX4_lick 60 = .ok (.iload_n 1, 1) := by decide +kernel
theorem dX4_lick_61 : decode cX4_lick 61 = .ok (.invokestatic 155, 3) := by decide +kernel
theorem dX4_lick_64 : decode cX4_lick 64 = .ok (.ireturn, 1) := by decide +kernel
theorem dX4_undo_0 : decode cX4_undo 0 = .ok (.aload_n 0, 1) := by decide +kernel
theorem dX4_undo_1 : decode cX4_undo 1 = .ok (.getfield 21, 3) := by decide +kernel
theorem dX4_undo_4 : decode cX4_undo 4 = .ok (.iconst 3, 1) := by decide +kernel
theorem dX4_undo_5 : decode cX4_undo 5 = .ok (.invokevirtual 105, 3) := by decide +kernel
theorem dX4_undo_8 : decode cX4_undo 8 = .ok (.iload_n 1, 1) := by decide +kernel
theorem dX4_undo_9 : decode cX4_undo 9 = .ok (.isub, 1) := by decide +kernel
theorem dX4_undo_10 : decode cX4_undo 10 = .ok (.istore_n 2, 1) := by decide +kernel
theorem dX4_undo_11 : decode cX4_undo 11 = .ok (.iload_n 1, 1) := by decide +kernel
theorem dX4_undo_12 : decode cX4_undo 12 = .ok (.ifCond .lt 7, 3) := by decide +kernel
theorem dX4_undo_15 : decode cX4_undo 15 = .ok (.iload_n 2, 1) := by decide +kernel
theorem dX4_undo_16 : decode cX4_undo 16 = .ok (.ifCond .ge 5, 3) := by decide +kernel
theorem dX4_undo_19 : decode cX4_undo 19 = .ok (.iconst (-1), 1) := by decide +kernel
theorem dX4_undo_20 : decode cX4_undo 20 = .ok (.ireturn, 1) := by decide +kernel
theorem dX4_undo_21 : decode cX4_undo 21 = .ok (.aload_n 0, 1) := by decide +kernel
theorem dX4_undo_22 : decode cX4_undo 22 = .ok (.getfield 21, 3) := by decide +kernel
theorem dX4_undo_25 : decode cX4_undo 25 = .ok (.iconst 3, 1) := by decide +kernel
theorem dX4_undo_26 : decode cX4_undo 26 = .ok (.iload_n 1, 1) := by decide +kernel
theorem dX4_undo_27 : decode cX4_undo 27 = .ok (.invokevirtual 164, 3) := by decide +kernel
theorem dX4_undo_30 : decode cX4_undo 30 = .ok (.aload_n 0, 1) := by decide +kernel
theorem dX4_undo_31 : decode cX4_undo 31 = .ok (.invokevirtual 168, 3) := by decide +kernel
theorem dX4_undo_34 : decode cX4_undo 34 = .ok (.iload_n 2, 1) := by decide +kernel
theorem dX4_undo_35 : decode cX4_undo 35 = .ok (.ireturn, 1) := by decide +kernel
theorem dX4_keep_0 : decode cX4_keep 0 = .ok (.iload_n 1, 1) := by decide +kernel
theorem dX4_keep_1 : decode cX4_keep 1 = .ok (.iconst 3, 1) := by decide +kernel
theorem dX4_keep_2 : decode cX4_keep 2 = .ok (.invokestatic 124, 3) := by decide +kernel
theorem dX4_keep_5 : decode cX4_keep 5 = .ok (.ifCond .ne 5, 3) := by decide +kernel
theorem dX4_keep_8 : decode cX4_keep 8 = .ok (.iconst (-1), 1) := by decide +kernel
theorem dX4_keep_9 : decode cX4_keep 9 = .ok (.ireturn, 1) := by decide +kernel
theorem dX4_keep_10 : decode cX4_keep 10 = .ok (.aload_n 0, 1) := by decide +kernel
theorem dX4_keep_11 : decode cX4_keep 11 = .ok (.getfield 35, 3) := by decide +kernel
theorem dX4_keep_14 : decode cX4_keep 14 = .ok (.getfield 118, 3) := by decide +kernel
theorem dX4_keep_17 : decode cX4_keep 17 = .ok (.ifCond .ne 6, 3) := by decide +kernel
theorem dX4_keep_20 : decode cX4_keep 20 = .ok (.bipush (-4), 2) := by decide +kernel
theorem dX4_keep_22 : decode cX4_keep 22 = .ok (.ireturn, 1) := by decide +kernel
theorem dX4_keep_23 : decode cX4_keep 23 = .ok (.aload_n 0, 1) := by decide +kernel
theorem dX4_keep_24 : decode cX4_keep 24 = .ok (.getfield 21, 3) := by decide +kernel
theorem dX4_keep_27 : decode cX4_keep 27 = .ok (.iconst 3, 1) := by decide +kernel
theorem dX4_keep_28 : decode cX4_keep 28 = .ok (.iload_n 1, 1) := by decide +kernel
theorem dX4_keep_29 : decode cX4_keep 29 = .ok (.invokevirtual 171, 3) := by decide +kernel
theorem dX4_keep_32 : decode cX4_keep 32 = .ok (.aload_n 0, 1) := by decide +kernel
theorem dX4_keep_33 : decode cX4_keep 33 = .ok (.getfield 21, 3) := by decide +kernel
theorem dX4_keep_36 : decode cX4_keep 36 = .ok (.iconst 3, 1) := by decide +kernel
theorem dX4_keep_37 : decode cX4_keep 37 = .ok (.invokevirtual 105, 3) := by decide +kernel
theorem dX4_keep_40 : decode cX4_keep 40 = .ok (.ireturn, 1) := by decide +kernel
theorem dX4_on_0 : decode cX4_on 0 = .ok (.iload_n 1, 1) := by decide +kernel
theorem dX4_on_1 : decode cX4_on 1 = .ok (.iconst 3, 1) := by decide +kernel
theorem dX4_on_2 : decode cX4_on 2 = .ok (.invokestatic 124, 3) := by decide +kernel
theorem dX4_on_5 : decode cX4_on 5 = .ok (.ifCond .ne 5, 3) := by decide +kernel
theorem dX4_on_8 : decode cX4_on 8 = .ok (.iconst (-1), 1) := by decide +kernel
theorem dX4_on_9 : decode cX4_on 9 = .ok (.ireturn, 1) := by decide +kernel
theorem dX4_on_10 : decode cX4_on 10 = .ok (.aload_n 0, 1) := by decide +kernel
theorem dX4_on_11 : decode cX4_on 11 = .ok (.getfield 21, 3) := by decide +kernel
theorem dX4_on_14 : decode cX4_on 14 = .ok (.iload_n 1, 1) := by decide +kernel
theorem dX4_on_15 : decode cX4_on 15 = .ok (.invokevirtual 76, 3) := by decide +kernel
theorem dX4_on_18 : decode cX4_on 18 = .ok (.ifCond .eq 9, 3) := by decide +kernel
theorem dX4_on_21 : decode cX4_on 21 = .ok (.aload_n 0, 1) := by decide +kernel
theorem dX4_on_22 : decode cX4_on 22 = .ok (.iconst 1, 1) := by decide +kernel
theorem dX4_on_23 : decode cX4_on 23 = .ok (.invokevirtual 72, 3) := by decide +kernel
theorem dX4_on_26 : decode cX4_on 26 = .ok (.ireturn, 1) := by decide +kernel
theorem dX4_on_27 : decode cX4_on 27 = .ok (.aload_n 0, 1) := by decide +kernel
theorem dX4_on_28 : decode cX4_on 28 = .ok (.getfield 21, 3) := by decide +kernel
theorem dX4_on_31 : decode cX4_on 31 = .ok (.iload_n 1, 1) := by decide +kernel
theorem dX4_on_32 : decode cX4_on 32 = .ok (.iconst 3, 1) := by decide +kernel
theorem dX4_on_33 : decode cX4_on 33 = .ok (.invokevirtual 171, 3) := by decide +kernel
theorem dX4_on_36 : decode cX4_on 36 = .ok (.aload_n 0, 1) := by decide +kernel
theorem dX4_on_37 : decode cX4_on 37 = .ok (.invokevirtual 168, 3) := by decide +kernel
theorem dX4_on_40 : decode cX4_on 40 = .ok (.aload_n 0, 1) := by decide +kernel
theorem dX4_on_41 : decode cX4_on 41 = .ok (.getfield 21, 3) := by decide +kernel
theorem dX4_on_44 : decode cX4_on 44 = .ok (.iconst 3, 1) := by decide +kernel
theorem dX4_on_45 : decode cX4_on 45 = .ok (.invokevirtual 105, 3) := by decide +kernel
theorem dX4_on_48 : decode cX4_on 48 = .ok (.ireturn, 1) := by decide +kernel
theorem dX4_covers_0 : decode cX4_covers 0 = .ok (.aload_n 0, 1) := by decide +kernel
theorem dX4_covers_1 : decode cX4_covers 1 = .ok (.getfield 35, 3) := by decide +kernel
theorem dX4_covers_4 : decode cX4_covers 4 = .ok (.iload_n 1, 1) := by decide +kernel
theorem dX4_covers_5 : decode cX4_covers 5 = .ok (.invokevirtual 122, 3) := by decide +kernel
theorem dX4_covers_8 : decode cX4_covers 8 = .ok (.ifCond .eq 20, 3) := by decide +kernel
theorem dX4_covers_11 : decode cX4_covers 11 = .ok (.iload_n 2, 1) := by decide +kernel
theorem dX4_covers_12 : decode cX4_covers 12 = .ok (.bipush 16, 2) := by decide +kernel
theorem dX4_covers_14 : decode cX4_covers 14 = .ok (.invokestatic 124, 3) := by decide +kernel
theorem dX4_covers_17 : decode cX4_covers 17 = .ok (.ifCond .eq 11, 3) := by decide +kernel
theorem dX4_covers_20 : decode cX4_covers 20 = .ok (.iload_n 3, 1) := by decide +kernel
theorem dX4_covers_21 : decode cX4_covers 21 = .ok (.iconst 2, 1) := by decide +kernel
theorem dX4_covers_22 : decode cX4_covers 22 = .ok (.invokestatic 124, 3) := by decide +kernel
theorem dX4_covers_25 : decode cX4_covers 25 = .ok (.ifCond .ne 5, 3) := by decide +kernel
theorem dX4_covers_28 : decode cX4_covers 28 = .ok (.iconst (-1), 1) := by decide +kernel
theorem dX4_covers_29 : decode cX4_covers 29 = .ok (.ireturn, 1) := by decide +kernel
theorem dX4_covers_30 : decode cX4_covers 30 = .ok (.aload_n 0, 1) := by decide +kernel
theorem dX4_covers_31 : decode cX4_covers 31 = .ok (.getfield 35, 3) := by decide +kernel
theorem dX4_covers_34 : decode cX4_covers 34 = .ok (.iload_n 1, 1) := by decide +kernel
theorem dX4_covers_35 : decode cX4_covers 35 = .ok (.iload_n 2, 1) := by decide +kernel
theorem dX4_covers_36 : decode cX4_covers 36 = .ok (.iload_n 3, 1) := by decide +kernel
theorem dX4_covers_37 : decode cX4_covers 37 = .ok (.invokevirtual 174, 3) := by decide +kernel
theorem dX4_covers_40 : decode cX4_covers 40 = .ok (.ireturn, 1) := by decide +kernel
theorem dX4_covered_0 : decode cX4_covered 0 = .ok (.aload_n 0, 1) := by decide +kernel
theorem dX4_covered_1 : decode cX4_covered 1 = .ok (.getfield 35, 3) := by decide +kernel
theorem dX4_covered_4 : decode cX4_covered 4 = .ok (.getfield 118, 3) := by decide +kernel
theorem dX4_covered_7 : decode cX4_covered 7 = .ok (.ifCond .ne 6, 3) := by decide +kernel
theorem dX4_covered_10 : decode cX4_covered 10 = .ok (.bipush (-4), 2) := by decide +kernel
theorem dX4_covered_12 : decode cX4_covered 12 = .ok (.ireturn, 1) := by decide +kernel
theorem dX4_covered_13 : decode cX4_covered 13 = .ok (.aload_n 0, 1) := by decide +kernel
theorem dX4_covered_14 : decode cX4_covered 14 = .ok (.aload_n 0, 1) := by decide +kernel
theorem dX4_covered_15 : decode cX4_covered 15 = .ok (.getfield 35, 3) := by decide +kernel
theorem dX4_covered_18 : decode cX4_covered 18 = .ok (.invokevirtual 142, 3) := by decide +kernel
theorem dX4_covered_21 : decode cX4_covered 21 = .ok (.putfield 178, 3) := by decide +kernel
theorem dX4_covered_24 : decode cX4_covered 24 = .ok (.aload_n 0, 1) := by decide +kernel
theorem dX4_covered_25 : decode cX4_covered 25 = .ok (.getfield 35, 3) := by decide +kernel
theorem dX4_covered_28 : decode cX4_covered 28 = .ok (.invokevirtual 181, 3) := by decide +kernel
theorem dX4_covered_31 : decode cX4_covered 31 = .ok (.ireturn, 1) := by decide +kernel
theorem dX4_weighs_0 : decode cX4_weighs 0 = .ok (.iload_n 1, 1) := by decide +kernel
theorem dX4_weighs_1 : decode cX4_weighs 1 = .ok (.bipush 8, 2) := by decide +kernel
theorem dX4_weighs_3 : decode cX4_weighs 3 = .ok (.invokestatic 124, 3) := by decide +kernel
theorem dX4_weighs_6 : decode cX4_weighs 6 = .ok (.ifCond .ne 5, 3) := by decide +kernel
theorem dX4_weighs_9 : decode cX4_weighs 9 = .ok (.iconst (-1), 1) := by decide +kernel
theorem dX4_weighs_10 : decode cX4_weighs 10 = .ok (.ireturn, 1) := by decide +kernel
theorem dX4_weighs_11 : decode cX4_weighs 11 = .ok (.aload_n 0, 1) := by decide +kernel
theorem dX4_weighs_12 : decode cX4_weighs 12 = .ok (.getfield 35, 3) := by decide +kernel
theorem dX4_weighs_15 : decode cX4_weighs 15 = .ok (.getfield 118, 3) := by decide +kernel
theorem dX4_weighs_18 : decode cX4_weighs 18 = .ok (.ifCond .ne 8, 3) := by decide +kernel
theorem dX4_weighs_21 : decode cX4_weighs 21 = .ok (.bipush (-4), 2) := by decide +kernel
theorem dX4_weighs_23 : decode cX4_weighs 23 = .ok (.goto 11, 3) := by decide +kernel
theorem dX4_weighs_26 : decode cX4_weighs 26 = .ok (.aload_n 0, 1) := by decide +kernel
theorem dX4_weighs_27 : decode cX4_weighs 27 = .ok (.getfield 35, 3) := by decide +kernel
theorem dX4_weighs_30 : decode cX4_weighs 30 = .ok (.iload_n 1, 1) := by decide +kernel
theorem dX4_weighs_31 : decode cX4_weighs 31 = .ok (.invokevirtual 184, 3) := by decide +kernel
theorem dX4_weighs_34 : decode cX4_weighs 34 = .ok (.ireturn, 1) := by decide +kernel
theorem dX4_reads_0 : decode cX4_reads 0 = .ok (.iload_n 1, 1) := by decide +kernel
theorem dX4_reads_1 : decode cX4_reads 1 = .ok (.ifCond .lt 9, 3) := by decide +kernel
theorem dX4_reads_4 : decode cX4_reads 4 = .ok (.iload_n 1, 1) := by decide +kernel
theorem dX4_reads_5 : decode cX4_reads 5 = .ok (.bipush 40, 2) := by decide +kernel
theorem dX4_reads_7 : decode cX4_reads 7 = .ok (.if_icmp .le 5, 3) := by decide +kernel
theorem dX4_reads_10 : decode cX4_reads 10 = .ok (.iconst (-1), 1) := by decide +kernel
theorem dX4_reads_11 : decode cX4_reads 11 = .ok (.ireturn, 1) := by decide +kernel
theorem dX4_reads_12 : decode cX4_reads 12 = .ok (.aload_n 0, 1) := by decide +kernel
theorem dX4_reads_13 : decode cX4_reads 13 = .ok (.getfield 35, 3) := by decide +kernel
theorem dX4_reads_16 : decode cX4_reads 16 = .ok (.getfield 118, 3) := by decide +kernel
theorem dX4_reads_19 : decode cX4_reads 19 = .ok (.ifCond .ne 6, 3) := by decide +kernel
theorem dX4_reads_22 : decode cX4_reads 22 = .ok (.bipush (-4), 2) := by decide +kernel
theorem dX4_reads_24 : decode cX4_reads 24 = .ok (.ireturn, 1) := by decide +kernel
theorem dX4_reads_25 : decode cX4_reads 25 = .ok (.aload_n 0, 1) := by decide +kernel
theorem dX4_reads_26 : decode cX4_reads 26 = .ok (.getfield 38, 3) := by decide +kernel
theorem dX4_reads_29 : decode cX4_reads 29 = .ok (.aload_n 0, 1) := by decide +kernel
theorem dX4_reads_30 : decode cX4_reads 30 = .ok (.getfield 35, 3) := by decide +kernel
theorem dX4_reads_33 : decode cX4_reads 33 = .ok (.invokevirtual 114, 3) := by decide +kernel
theorem dX4_reads_36 : decode cX4_reads 36 = .ok (.aload_n 0, 1) := by decide +kernel
theorem dX4_reads_37 : decode cX4_reads 37 = .ok (.getfield 38, 3) := by decide +kernel
theorem dX4_reads_40 : decode cX4_reads 40 = .ok (.iload_n 1, 1) := by decide +kernel
theorem dX4_reads_41 : decode cX4_reads 41 = .ok (.invokevirtual 187, 3) := by decide +kernel
theorem dX4_reads_44 : decode cX4_reads 44 = .ok (.aload_n 0, 1) := by decide +kernel
theorem dX4_reads_45 : decode cX4_reads 45 = .ok (.aload_n 0, 1) := by decide +kernel
theorem dX4_reads_46 : decode cX4_reads 46 = .ok (.getfield 38, 3) := by decide +kernel
theorem dX4_reads_49 : decode cX4_reads 49 = .ok (.getfield 190, 3) := by decide +kernel
theorem dX4_reads_52 : decode cX4_reads 52 = .ok (.putfield 178, 3) := by decide +kernel
theorem dX4_reads_55 : decode cX4_reads 55 = .ok (.aload_n 0, 1) := by decide +kernel
theorem dX4_reads_56 : decode cX4_reads 56 = .ok (.getfield 38, 3) := by decide +kernel
theorem dX4_reads_59 : decode cX4_reads 59 = .ok (.invokevirtual 142, 3) := by decide +kernel
theorem dX4_reads_62 : decode cX4_reads 62 = .ok (.ireturn, 1) := by decide +kernel
theorem dX4_first_0 : decode cX4_first 0 = .ok (.iload_n 1, 1) := by decide +kernel
theorem dX4_first_1 : decode cX4_first 1 = .ok (.bipush 8, 2) := by decide +kernel
theorem dX4_first_3 : decode cX4_first 3 = .ok (.invokestatic 124, 3) := by decide +kernel
theorem dX4_first_6 : decode cX4_first 6 = .ok (.ifCond .ne 5, 3) := by decide +kernel
theorem dX4_first_9 : decode cX4_first 9 = .ok (.iconst (-1), 1) := by decide +kernel
theorem dX4_first_10 : decode cX4_first 10 = .ok (.ireturn, 1) := by decide +kernel
theorem dX4_first_11 : decode cX4_first 11 = .ok (.aload_n 0, 1) := by decide +kernel
theorem dX4_first_12 : decode cX4_first 12 = .ok (.getfield 35, 3) := by decide +kernel
theorem dX4_first_15 : decode cX4_first 15 = .ok (.getfield 118, 3) := by decide +kernel
theorem dX4_first_18 : decode cX4_first 18 = .ok (.ifCond .ne 6, 3) := by decide +kernel
theorem dX4_first_21 : decode cX4_first 21 = .ok (.bipush (-4), 2) := by decide +kernel
theorem dX4_first_23 : decode cX4_first 23 = .ok (.ireturn, 1) := by decide +kernel
theorem dX4_first_24 : decode cX4_first 24 = .ok (.aload_n 0, 1) := by decide +kernel
theorem dX4_first_25 : decode cX4_first 25 = .ok (.getfield 38, 3) := by decide +kernel
theorem dX4_first_28 : decode cX4_first 28 = .ok (.aload_n 0, 1) := by decide +kernel
theorem dX4_first_29 : decode cX4_first 29 = .ok (.getfield 35, 3) := by decide +kernel
theorem dX4_first_32 : decode cX4_first 32 = .ok (.invokevirtual 114, 3) := by decide +kernel
theorem dX4_first_35 : decode cX4_first 35 = .ok (.iconst 1, 1) := by decide +kernel
theorem dX4_first_36 : decode cX4_first 36 = .ok (.istore_n 2, 1) := by decide +kernel
theorem dX4_first_37 : decode cX4_first 37 = .ok (.iload_n 2, 1) := by decide +kernel
theorem dX4_first_38 : decode cX4_first 38 = .ok (.bipush 40, 2) := by decide +kernel
theorem dX4_first_40 : decode cX4_first 40 = .ok (.if_icmp .gt 33, 3) := by decide +kernel
theorem dX4_first_43 : decode cX4_first 43 = .ok (.aload_n 0, 1) := by decide +kernel
theorem dX4_first_44 : decode cX4_first 44 = .ok (.getfield 38, 3) := by decide +kernel
theorem dX4_first_47 : decode cX4_first 47 = .ok (.invokevirtual 193, 3) := by decide +kernel
theorem dX4_first_50 : decode cX4_first 50 = .ok (.aload_n 0, 1) := by decide +kernel
theorem dX4_first_51 : decode cX4_first 51 = .ok (.getfield 38, 3) := by decide +kernel
theorem dX4_first_54 : decode cX4_first 54 = .ok (.invokevirtual 142, 3) := by decide +kernel
theorem dX4_first_57 : decode cX4_first 57 = .ok (.iload_n 1, 1) := by decide +kernel
theorem dX4_first_58 : decode cX4_first 58 = .ok (.invokestatic 155, 3) := by decide +kernel
theorem dX4_first_61 : decode cX4_first 61 = .ok (.iconst 1, 1) := by decide +kernel
theorem dX4_first_62 : decode cX4_first 62 = .ok (.if_icmp .ne 5, 3) := by decide +kernel
theorem dX4_first_65 : decode cX4_first 65 = .ok (.iload_n 2, 1) := by decide +kernel
theorem dX4_first_66 : decode cX4_first 66 = .ok (.ireturn, 1) := by decide +kernel
theorem dX4_first_67 : decode cX4_first 67 = .ok (.iinc 2 1, 3) := by decide +kernel
theorem dX4_first_70 : decode cX4_first 70 = .ok (.goto (-33), 3) := by decide +kernel
theorem dX4_first_73 : decode cX4_first 73 = .ok (.bipush (-9), 2) := by decide +kernel
theorem dX4_first_75 : decode cX4_first 75 = .ok (.ireturn, 1) := by decide +kernel
theorem dX4_found_0 : decode cX4_found 0 = .ok (.iload_n 1, 1) := by decide +kernel
theorem dX4_found_1 : decode cX4_found 1 = .ok (.invokestatic 196, 3) := by decide +kernel
theorem dX4_found_4 : decode cX4_found 4 = .ok (.ifCond .eq 10, 3) := by decide +kernel
theorem dX4_found_7 : decode cX4_found 7 = .ok (.iload_n 2, 1) := by decide +kernel
theorem dX4_found_8 : decode cX4_found 8 = .ok (.invokestatic 68, 3) := by decide +kernel
theorem dX4_found_11 : decode cX4_found 11 = .ok (.ifCond .ne 5, 3) := by decide +kernel
theorem dX4_found_14 : decode cX4_found 14 = .ok (.iconst (-1), 1) := by decide +kernel
theorem dX4_found_15 : decode cX4_found 15 = .ok (.ireturn, 1) := by decide +kernel
theorem dX4_found_16 : decode cX4_found 16 = .ok (.aload_n 0, 1) := by decide +kernel
theorem dX4_found_17 : decode cX4_found 17 = .ok (.getfield 35, 3) := by decide +kernel
theorem dX4_found_20 : decode cX4_found 20 = .ok (.getfield 118, 3) := by decide +kernel
theorem dX4_found_23 : decode cX4_found 23 = .ok (.ifCond .ne 6, 3) := by decide +kernel
theorem dX4_found_26 : decode cX4_found 26 = .ok (.bipush (-4), 2) := by decide +kernel
theorem dX4_found_28 : decode cX4_found 28 = .ok (.ireturn, 1) := by decide +kernel
theorem dX4_found_29 : decode cX4_found 29 = .ok (.aload_n 0, 1) := by decide +kernel
theorem dX4_found_30 : decode cX4_found 30 = .ok (.getfield 35, 3) := by decide +kernel
theorem dX4_found_33 : decode cX4_found 33 = .ok (.iload_n 1, 1) := by decide +kernel
theorem dX4_found_34 : decode cX4_found 34 = .ok (.aload_n 0, 1) := by decide +kernel
theorem dX4_found_35 : decode cX4_found 35 = .ok (.getfield 35, 3) := by decide +kernel
theorem dX4_found_38 : decode cX4_found 38 = .ok (.invokevirtual 181, 3) := by decide +kernel
theorem dX4_found_41 : decode cX4_found 41 = .ok (.invokevirtual 199, 3) := by decide +kernel
theorem dX4_found_44 : decode cX4_found 44 = .ok (.ifCond .eq 15, 3) := by decide +kernel
theorem dX4_found_47 : decode cX4_found 47 = .ok (.aload_n 0, 1) := by decide +kernel
theorem dX4_found_48 : decode cX4_found 48 = .ok (.getfield 14, 3) := by decide +kernel
theorem dX4_found_51 : decode cX4_found 51 = .ok (.iload_n 2, 1) := by decide +kernel
theorem dX4_found_52 : decode cX4_found 52 = .ok (.iconst 0, 1) := by decide +kernel
theorem dX4_found_53 : decode cX4_found 53 = .ok (.iconst 0, 1) := by decide +kernel
theorem dX4_found_54 : decode cX4_found 54 = .ok (.invokevirtual 24, 3) := by decide +kernel
theorem dX4_found_57 : decode cX4_found 57 = .ok (.iconst 0, 1) := by decide +kernel
theorem dX4_found_58 : decode cX4_found 58 = .ok (.ireturn, 1) := by decide +kernel
theorem dX4_found_59 : decode cX4_found 59 = .ok (.aload_n 0, 1) := by decide +kernel
theorem dX4_found_60 : decode cX4_found 60 = .ok (.invokevirtual 202, 3) := by decide +kernel
theorem dX4_found_63 : decode cX4_found 63 = .ok (.aload_n 0, 1) := by decide +kernel
theorem dX4_found_64 : decode cX4_found 64 = .ok (.iload_n 1, 1) := by decide +kernel
theorem dX4_found_65 : decode cX4_found 65 = .ok (.iload_n 2, 1) := by decide +kernel
theorem dX4_found_66 : decode cX4_found 66 = .ok (.invokevirtual 205, 3) := by decide +kernel
theorem dX4_found_69 : decode cX4_found 69 = .ok (.ifCond .eq 5, 3) := by decide +kernel
theorem dX4_found_72 : decode cX4_found 72 = .ok (.iconst 1, 1) := by decide +kernel
theorem dX4_found_73 : decode cX4_found 73 = .ok (.ireturn, 1) := by decide +kernel
theorem dX4_found_74 : decode cX4_found 74 = .ok (.aload_n 0, 1) := by decide +kernel
theorem dX4_found_75 : decode cX4_found 75 = .ok (.iload_n 1, 1) := by decide +kernel
theorem dX4_found_76 : decode cX4_found 76 = .ok (.iload_n 2, 1) := by decide +kernel
theorem dX4_found_77 : decode cX4_found 77 = .ok (.invokevirtual 208, 3) := by decide +kernel
theorem dX4_found_80 : decode cX4_found 80 = .ok (.ifCond .eq 7, 3) := by decide +kernel
theorem dX4_found_83 : decode cX4_found 83 = .ok (.iconst 2, 1) := by decide +kernel
theorem dX4_found_84 : decode cX4_found 84 = .ok (.goto 5, 3) := by decide +kernel
theorem dX4_found_87 : decode cX4_found 87 = .ok (.bipush (-9), 2) := by decide +kernel
theorem dX4_found_89 : decode cX4_found 89 = .ok (.ireturn, 1) := by decide +kernel
theorem dX4_best_0 : decode cX4_best 0 = .ok (.aload_n 0, 1) := by decide +kernel
theorem dX4_best_1 : decode cX4_best 1 = .ok (.getfield 35, 3) := by decide +kernel
theorem dX4_best_4 : decode cX4_best 4 = .ok (.iload_n 1, 1) := by decide +kernel
theorem dX4_best_5 : decode cX4_best 5 = .ok (.invokevirtual 122, 3) := by decide +kernel
theorem dX4_best_8 : decode cX4_best 8 = .ok (.ifCond .ne 5, 3) := by decide +kernel
theorem dX4_best_11 : decode cX4_best 11 = .ok (.iconst (-1), 1) := by decide +kernel
theorem dX4_best_12 : decode cX4_best 12 = .ok (.ireturn, 1) := by decide +kernel
theorem dX4_best_13 : decode cX4_best 13 = .ok (.aload_n 0, 1) := by decide +kernel
theorem dX4_best_14 : decode cX4_best 14 = .ok (.getfield 35, 3) := by decide +kernel
theorem dX4_best_17 : decode cX4_best 17 = .ok (.iload_n 1, 1) := by decide +kernel
theorem dX4_best_18 : decode cX4_best 18 = .ok (.iload_n 1, 1) := by decide +kernel
theorem dX4_best_19 : decode cX4_best 19 = .ok (.invokevirtual 211, 3) := by decide +kernel
theorem dX4_best_22 : decode cX4_best 22 = .ok (.istore_n 2, 1) := by decide +kernel
theorem dX4_best_23 : decode cX4_best 23 = .ok (.iconst 0, 1) := by decide +kernel
theorem dX4_best_24 : decode cX4_best 24 = .ok (.istore_n 3, 1) := by decide +kernel
theorem dX4_best_25 : decode cX4_best 25 = .ok (.iconst (-1), 1) := by decide +kernel
theorem dX4_best_26 : decode cX4_best 26 = .ok (.istore 4, 2) := by decide +kernel
theorem dX4_best_28 : decode cX4_best 28 = .ok (.iconst 0, 1) := by decide +kernel
theorem dX4_best_29 : decode cX4_best 29 = .ok (.istore 5, 2) := by decide +kernel
theorem dX4_best_31 : decode cX4_best 31 = .ok (.iload 5, 2) := by decide +kernel
theorem dX4_best_33 : decode cX4_best 33 = .ok (.bipush 16, 2) := by decide +kernel
theorem dX4_best_35 : decode cX4_best 35 = .ok (.if_icmp .ge 69, 3) := by decide +kernel
theorem dX4_best_38 : decode cX4_best 38 = .ok (.iload_n 2, 1) := by decide +kernel
theorem dX4_best_39 : decode cX4_best 39 = .ok (.aload_n 0, 1) := by decide +kernel
theorem dX4_best_40 : decode cX4_best 40 = .ok (.getfield 35, 3) := by decide +kernel
theorem dX4_best_43 : decode cX4_best 43 = .ok (.iload_n 1, 1) := by decide +kernel
theorem dX4_best_44 : decode cX4_best 44 = .ok (.iload 5, 2) := by decide +kernel
theorem dX4_best_46 : decode cX4_best 46 = .ok (.aload_n 0, 1) := by decide +kernel
theorem dX4_best_47 : decode cX4_best 47 = .ok (.getfield 35, 3) := by decide +kernel
theorem dX4_best_50 : decode cX4_best 50 = .ok (.iload_n 1, 1) := by decide +kernel
theorem dX4_best_51 : decode cX4_best 51 = .ok (.invokevirtual 149, 3) := by decide +kernel
theorem dX4_best_54 : decode cX4_best 54 = .ok (.invokevirtual 174, 3) := by decide +kernel
theorem dX4_best_57 : decode cX4_best 57 = .ok (.ior, 1) := by decide +kernel
theorem dX4_best_58 : decode cX4_best 58 = .ok (.istore 6, 2) := by decide +kernel
theorem dX4_best_60 : decode cX4_best 60 = .ok (.aload_n 0, 1) := by decide +kernel
theorem dX4_best_61 : decode cX4_best 61 = .ok (.getfield 35, 3) := by decide +kernel
theorem dX4_best_64 : decode cX4_best 64 = .ok (.iload 6, 2) := by decide +kernel
theorem dX4_best_66 : decode cX4_best 66 = .ok (.aload_n 0, 1) := by decide +kernel
theorem dX4_best_67 : decode cX4_best 67 = .ok (.getfield 35, 3) := by decide +kernel
theorem dX4_best_70 : decode cX4_best 70 = .ok (.getfield 161, 3) := by decide +kernel
theorem dX4_best_73 : decode cX4_best 73 = .ok (.iconst (-1), 1) := by decide +kernel
theorem dX4_best_74 : decode cX4_best 74 = .ok (.ixor, 1) := by decide +kernel
theorem dX4_best_75 : decode cX4_best 75 = .ok (.iand, 1) := by decide +kernel
theorem dX4_best_76 : decode cX4_best 76 = .ok (.invokevirtual 214, 3) := by decide +kernel
theorem dX4_best_79 : decode cX4_best 79 = .ok (.invokestatic 217, 3) := by decide +kernel
theorem dX4_best_82 : decode cX4_best 82 = .ok (.istore 7, 2) := by decide +kernel
theorem dX4_best_84 : decode cX4_best 84 = .ok (.iload 7, 2) := by decide +kernel
theorem dX4_best_86 : decode cX4_best 86 = .ok (.iload 4, 2) := by decide +kernel
theorem dX4_best_88 : decode cX4_best 88 = .ok (.if_icmp .le 10, 3) := by decide +kernel
theorem dX4_best_91 : decode cX4_best 91 = .ok (.iload 7, 2) := by decide +kernel
theorem dX4_best_93 : decode cX4_best 93 = .ok (.istore 4, 2) := by decide +kernel
theorem dX4_best_95 : decode cX4_best 95 = .ok (.iload 5, 2) := by decide +kernel
theorem dX4_best_97 : decode cX4_best 97 = .ok (.istore_n 3, 1) := by decide +kernel
theorem dX4_best_98 : decode cX4_best 98 = .ok (.iinc 5 1, 3) := by decide +kernel
theorem dX4_best_101 : decode cX4_best 101 = .ok (.goto (-70), 3) := by decide +kernel
theorem dX4_best_104 : decode cX4_best 104 = .ok (.aload_n 0, 1) := by decide +kernel
theorem dX4_best_105 : decode cX4_best 105 = .ok (.iload 4, 2) := by decide +kernel
theorem dX4_best_107 : decode cX4_best 107 = .ok (.putfield 178, 3) := by decide +kernel
theorem dX4_best_110 : decode cX4_best 110 = .ok (.iload_n 3, 1) := by decide +kernel
theorem dX4_best_111 : decode cX4_best 111 = .ok (.ireturn, 1) := by decide +kernel
theorem dX4_gap_0 : decode cX4_gap 0 = .ok (.iload_n 1, 1) := by decide +kernel
theorem dX4_gap_1 : decode cX4_gap 1 = .ok (.invokestatic 196, 3) := by decide +kernel
theorem dX4_gap_4 : decode cX4_gap 4 = .ok (.ifCond .ne 5, 3) := by decide +kernel
theorem dX4_gap_7 : decode cX4_gap 7 = .ok (.iconst (-1), 1) := by decide +kernel
theorem dX4_gap_8 : decode cX4_gap 8 = .ok (.ireturn, 1) := by decide +kernel
theorem dX4_gap_9 : decode cX4_gap 9 = .ok (.aload_n 0, 1) := by decide +kernel
theorem dX4_gap_10 : decode cX4_gap 10 = .ok (.getfield 35, 3) := by decide +kernel
theorem dX4_gap_13 : decode cX4_gap 13 = .ok (.getfield 118, 3) := by decide +kernel
theorem dX4_gap_16 : decode cX4_gap 16 = .ok (.ifCond .ne 6, 3) := by decide +kernel
theorem dX4_gap_19 : decode cX4_gap 19 = .ok (.bipush (-4), 2) := by decide +kernel
theorem dX4_gap_21 : decode cX4_gap 21 = .ok (.ireturn, 1) := by decide +kernel
theorem dX4_gap_22 : decode cX4_gap 22 = .ok (.aload_n 0, 1) := by decide +kernel
theorem dX4_gap_23 : decode cX4_gap 23 = .ok (.iload_n 1, 1) := by decide +kernel
theorem dX4_gap_24 : decode cX4_gap 24 = .ok (.invokevirtual 222, 3) := by decide +kernel
theorem dX4_gap_27 : decode cX4_gap 27 = .ok (.aload_n 0, 1) := by decide +kernel
theorem dX4_gap_28 : decode cX4_gap 28 = .ok (.aload_n 0, 1) := by decide +kernel
theorem dX4_gap_29 : decode cX4_gap 29 = .ok (.getfield 53, 3) := by decide +kernel
theorem dX4_gap_32 : decode cX4_gap 32 = .ok (.getfield 225, 3) := by decide +kernel
theorem dX4_gap_35 : decode cX4_gap 35 = .ok (.i2l, 1) := by decide +kernel
theorem dX4_gap_36 : decode cX4_gap 36 = .ok (.lconst 1, 1) := by decide +kernel
theorem dX4_gap_37 : decode cX4_gap 37 = .ok (.invokevirtual 228, 3) := by decide +kernel
theorem dX4_gap_40 : decode cX4_gap 40 = .ok (.aload_n 0, 1) := by decide +kernel
theorem dX4_gap_41 : decode cX4_gap 41 = .ok (.aload_n 0, 1) := by decide +kernel
theorem dX4_gap_42 : decode cX4_gap 42 = .ok (.getfield 53, 3) := by decide +kernel
theorem dX4_gap_45 : decode cX4_gap 45 = .ok (.getfield 232, 3) := by decide +kernel
theorem dX4_gap_48 : decode cX4_gap 48 = .ok (.invokevirtual 90, 3) := by decide +kernel
theorem dX4_gap_51 : decode cX4_gap 51 = .ok (.ireturn, 1) := by decide +kernel
theorem dX4_sure_0 : decode cX4_sure 0 = .ok (.iload_n 1, 1) := by decide +kernel
theorem dX4_sure_1 : decode cX4_sure 1 = .ok (.invokestatic 196, 3) := by decide +kernel
theorem dX4_sure_4 : decode cX4_sure 4 = .ok (.ifCond .ne 5, 3) := by decide +kernel
theorem dX4_sure_7 : decode cX4_sure 7 = .ok (.iconst (-1), 1) := by decide +kernel
theorem dX4_sure_8 : decode cX4_sure 8 = .ok (.ireturn, 1) := by decide +kernel
theorem dX4_sure_9 : decode cX4_sure 9 = .ok (.aload_n 0, 1) := by decide +kernel
theorem dX4_sure_10 : decode cX4_sure 10 = .ok (.getfield 35, 3) := by decide +kernel
theorem dX4_sure_13 : decode cX4_sure 13 = .ok (.getfield 118, 3) := by decide +kernel
theorem dX4_sure_16 : decode cX4_sure 16 = .ok (.ifCond .ne 6, 3) := by decide +kernel
theorem dX4_sure_19 : decode cX4_sure 19 = .ok (.bipush (-4), 2) := by decide +kernel
theorem dX4_sure_21 : decode cX4_sure 21 = .ok (.ireturn, 1) := by decide +kernel
theorem dX4_sure_22 : decode cX4_sure 22 = .ok (.aload_n 0, 1) := by decide +kernel
theorem dX4_sure_23 : decode cX4_sure 23 = .ok (.iload_n 1, 1) := by decide +kernel
theorem dX4_sure_24 : decode cX4_sure 24 = .ok (.invokevirtual 222, 3) := by decide +kernel
theorem dX4_sure_27 : decode cX4_sure 27 = .ok (.aload_n 0, 1) := by decide +kernel
theorem dX4_sure_28 : decode cX4_sure 28 = .ok (.getfield 53, 3) := by decide +kernel
theorem dX4_sure_31 : decode cX4_sure 31 = .ok (.getfield 225, 3) := by decide +kernel
theorem dX4_sure_34 : decode cX4_sure 34 = .ok (.ifCond .ne 9, 3) := by decide +kernel
theorem dX4_sure_37 : decode cX4_sure 37 = .ok (.aload_n 0, 1) := by decide +kernel
theorem dX4_sure_38 : decode cX4_sure 38 = .ok (.iconst 4, 1) := by decide +kernel
theorem dX4_sure_39 : decode cX4_sure 39 = .ok (.invokevirtual 72, 3) := by decide +kernel
theorem dX4_sure_42 : decode cX4_sure 42 = .ok (.ireturn, 1) := by decide +kernel
theorem dX4_sure_43 : decode cX4_sure 43 = .ok (.aload_n 0, 1) := by decide +kernel
theorem dX4_sure_44 : decode cX4_sure 44 = .ok (.aload_n 0, 1) := by decide +kernel
theorem dX4_sure_45 : decode cX4_sure 45 = .ok (.getfield 35, 3) := by decide +kernel
theorem dX4_sure_48 : decode cX4_sure 48 = .ok (.getfield 161, 3) := by decide +kernel
theorem dX4_sure_51 : decode cX4_sure 51 = .ok (.aload_n 0, 1) := by decide +kernel
theorem dX4_sure_52 : decode cX4_sure 52 = .ok (.getfield 53, 3) := by decide +kernel
theorem dX4_sure_55 : decode cX4_sure 55 = .ok (.getfield 235, 3) := by decide +kernel
theorem dX4_sure_58 : decode cX4_sure 58 = .ok (.iconst (-1), 1) := by decide +kernel
theorem dX4_sure_59 : decode cX4_sure 59 = .ok (.ixor, 1) := by decide +kernel
theorem dX4_sure_60 : decode cX4_sure 60 = .ok (.iand, 1) := by decide +kernel
theorem dX4_sure_61 : decode cX4_sure 61 = .ok (.putfield 178, 3) := by decide +kernel
theorem dX4_sure_64 : decode cX4_sure 64 = .ok (.aload_n 0, 1) := by decide +kernel
theorem dX4_sure_65 : decode cX4_sure 65 = .ok (.getfield 53, 3) := by decide +kernel
theorem dX4_sure_68 : decode cX4_sure 68 = .ok (.getfield 238, 3) := by decide +kernel
theorem dX4_sure_71 : decode cX4_sure 71 = .ok (.ireturn, 1) := by decide +kernel
theorem dX4_places_0 : decode cX4_places 0 = .ok (.aload_n 0, 1) := by decide +kernel
theorem dX4_places_1 : decode cX4_places 1 = .ok (.getfield 35, 3) := by decide +kernel
theorem dX4_places_4 : decode cX4_places 4 = .ok (.iload_n 1, 1) := by decide +kernel
theorem dX4_places_5 : decode cX4_places 5 = .ok (.invokevirtual 122, 3) := by decide +kernel
theorem dX4_places_8 : decode cX4_places 8 = .ok (.ifCond .eq 10, 3) := by decide +kernel
theorem dX4_places_11 : decode cX4_places 11 = .ok (.iload_n 2, 1) := by decide +kernel
theorem dX4_places_12 : decode cX4_places 12 = .ok (.invokestatic 68, 3) := by decide +kernel
theorem dX4_places_15 : decode cX4_places 15 = .ok (.ifCond .ne 5, 3) := by decide +kernel
theorem dX4_places_18 : decode cX4_places 18 = .ok (.iconst (-1), 1) := by decide +kernel
theorem dX4_places_19 : decode cX4_places 19 = .ok (.ireturn, 1) := by decide +kernel
theorem dX4_places_20 : decode cX4_places 20 = .ok (.aload_n 0, 1) := by decide +kernel
theorem dX4_places_21 : decode cX4_places 21 = .ok (.iload_n 2, 1) := by decide +kernel
theorem dX4_places_22 : decode cX4_places 22 = .ok (.invokevirtual 241, 3) := by decide +kernel
theorem dX4_places_25 : decode cX4_places 25 = .ok (.istore_n 3, 1) := by decide +kernel
theorem dX4_places_26 : decode cX4_places 26 = .ok (.iload_n 3, 1) := by decide +kernel
theorem dX4_places_27 : decode cX4_places 27 = .ok (.ifCond .eq 11, 3) := by decide +kernel
theorem dX4_places_30 : decode cX4_places 30 = .ok (.aload_n 0, 1) := by decide +kernel
theorem dX4_places_31 : decode cX4_places 31 = .ok (.iload_n 3, 1) := by decide +kernel
theorem dX4_places_32 : decode cX4_places 32 = .ok (.invokevirtual 72, 3) := by decide +kernel
theorem dX4_places_35 : decode cX4_places 35 = .ok (.goto 9, 3) := by decide +kernel
theorem dX4_places_38 : decode cX4_places 38 = .ok (.aload_n 0, 1) := by decide +kernel
theorem dX4_places_39 : decode cX4_places 39 = .ok (.iload_n 1, 1) := by decide +kernel
theorem dX4_places_40 : decode cX4_places 40 = .ok (.iload_n 2, 1) := by decide +kernel
theorem dX4_places_41 : decode cX4_places 41 = .ok (.invokevirtual 244, 3) := by decide +kernel
theorem dX4_places_44 : decode cX4_places 44 = .ok (.ireturn, 1) := by decide +kernel
theorem dX4_kinds_0 : decode cX4_kinds 0 = .ok (.aload_n 0, 1) := by decide +kernel
theorem dX4_kinds_1 : decode cX4_kinds 1 = .ok (.getfield 35, 3) := by decide +kernel
theorem dX4_kinds_4 : decode cX4_kinds 4 = .ok (.iload_n 1, 1) := by decide +kernel
theorem dX4_kinds_5 : decode cX4_kinds 5 = .ok (.invokevirtual 122, 3) := by decide +kernel
theorem dX4_kinds_8 : decode cX4_kinds 8 = .ok (.ifCond .eq 10, 3) := by decide +kernel
theorem dX4_kinds_11 : decode cX4_kinds 11 = .ok (.iload_n 2, 1) := by decide +kernel
theorem dX4_kinds_12 : decode cX4_kinds 12 = .ok (.invokestatic 68, 3) := by decide +kernel
theorem dX4_kinds_15 : decode cX4_kinds 15 = .ok (.ifCond .ne 5, 3) := by decide +kernel
theorem dX4_kinds_18 : decode cX4_kinds 18 = .ok (.iconst (-1), 1) := by decide +kernel
theorem dX4_kinds_19 : decode cX4_kinds 19 = .ok (.ireturn, 1) := by decide +kernel
theorem dX4_kinds_20 : decode cX4_kinds 20 = .ok (.aload_n 0, 1) := by decide +kernel
theorem dX4_kinds_21 : decode cX4_kinds 21 = .ok (.iload_n 2, 1) := by decide +kernel
theorem dX4_kinds_22 : decode cX4_kinds 22 = .ok (.invokevirtual 241, 3) := by decide +kernel
theorem dX4_kinds_25 : decode cX4_kinds 25 = .ok (.istore_n 3, 1) := by decide +kernel
theorem dX4_kinds_26 : decode cX4_kinds 26 = .ok (.iload_n 3, 1) := by decide +kernel
theorem dX4_kinds_27 : decode cX4_kinds 27 = .ok (.ifCond .eq 11, 3) := by decide +kernel
theorem dX4_kinds_30 : decode cX4_kinds 30 = .ok (.aload_n 0, 1) := by decide +kernel
theorem dX4_kinds_31 : decode cX4_kinds 31 = .ok (.iload_n 3, 1) := by decide +kernel
theorem dX4_kinds_32 : decode cX4_kinds 32 = .ok (.invokevirtual 72, 3) := by decide +kernel
theorem dX4_kinds_35 : decode cX4_kinds 35 = .ok (.goto 9, 3) := by decide +kernel
theorem dX4_kinds_38 : decode cX4_kinds 38 = .ok (.aload_n 0, 1) := by decide +kernel
theorem dX4_kinds_39 : decode cX4_kinds 39 = .ok (.iload_n 1, 1) := by decide +kernel
theorem dX4_kinds_40 : decode cX4_kinds 40 = .ok (.iload_n 2, 1) := by decide +kernel
theorem dX4_kinds_41 : decode cX4_kinds 41 = .ok (.invokevirtual 247, 3) := by decide +kernel
theorem dX4_kinds_44 : decode cX4_kinds 44 = .ok (.ireturn, 1) := by decide +kernel
theorem dX4_next_0 : decode cX4_next 0 = .ok (.aload_n 0, 1) := by decide +kernel
theorem dX4_next_1 : decode cX4_next 1 = .ok (.getfield 35, 3) := by decide +kernel
theorem dX4_next_4 : decode cX4_next 4 = .ok (.iload_n 1, 1) := by decide +kernel
theorem dX4_next_5 : decode cX4_next 5 = .ok (.invokevirtual 122, 3) := by decide +kernel
theorem dX4_next_8 : decode cX4_next 8 = .ok (.ifCond .eq 10, 3) := by decide +kernel
theorem dX4_next_11 : decode cX4_next 11 = .ok (.iload_n 2, 1) := by decide +kernel
theorem dX4_next_12 : decode cX4_next 12 = .ok (.invokestatic 68, 3) := by decide +kernel
theorem dX4_next_15 : decode cX4_next 15 = .ok (.ifCond .ne 5, 3) := by decide +kernel
theorem dX4_next_18 : decode cX4_next 18 = .ok (.iconst (-1), 1) := by decide +kernel
theorem dX4_next_19 : decode cX4_next 19 = .ok (.ireturn, 1) := by decide +kernel
theorem dX4_next_20 : decode cX4_next 20 = .ok (.aload_n 0, 1) := by decide +kernel
theorem dX4_next_21 : decode cX4_next 21 = .ok (.iload_n 2, 1) := by decide +kernel
theorem dX4_next_22 : decode cX4_next 22 = .ok (.invokevirtual 241, 3) := by decide +kernel
theorem dX4_next_25 : decode cX4_next 25 = .ok (.istore_n 3, 1) := by decide +kernel
theorem dX4_next_26 : decode cX4_next 26 = .ok (.iload_n 3, 1) := by decide +kernel
theorem dX4_next_27 : decode cX4_next 27 = .ok (.ifCond .eq 9, 3) := by decide +kernel
theorem dX4_next_30 : decode cX4_next 30 = .ok (.aload_n 0, 1) := by decide +kernel
theorem dX4_next_31 : decode cX4_next 31 = .ok (.iload_n 3, 1) := by decide +kernel
theorem dX4_next_32 : decode cX4_next 32 = .ok (.invokevirtual 72, 3) := by decide +kernel
theorem dX4_next_35 : decode cX4_next 35 = .ok (.ireturn, 1) := by decide +kernel
theorem dX4_next_36 : decode cX4_next 36 = .ok (.aload_n 0, 1) := by decide +kernel
theorem dX4_next_37 : decode cX4_next 37 = .ok (.iload_n 1, 1) := by decide +kernel
theorem dX4_next_38 : decode cX4_next 38 = .ok (.iload_n 2, 1) := by decide +kernel
theorem dX4_next_39 : decode cX4_next 39 = .ok (.invokevirtual 244, 3) := by decide +kernel
theorem dX4_next_42 : decode cX4_next 42 = .ok (.istore 4, 2) := by decide +kernel
theorem dX4_next_44 : decode cX4_next 44 = .ok (.iload 4, 2) := by decide +kernel
theorem dX4_next_46 : decode cX4_next 46 = .ok (.ifCond .ne 8, 3) := by decide +kernel
theorem dX4_next_49 : decode cX4_next 49 = .ok (.bipush (-9), 2) := by decide +kernel
theorem dX4_next_51 : decode cX4_next 51 = .ok (.goto 20, 3) := by decide +kernel
theorem dX4_next_54 : decode cX4_next 54 = .ok (.aload_n 0, 1) := by decide +kernel
theorem dX4_next_55 : decode cX4_next 55 = .ok (.iload_n 1, 1) := by decide +kernel
theorem dX4_next_56 : decode cX4_next 56 = .ok (.iload 4, 2) := by decide +kernel
theorem dX4_next_58 : decode cX4_next 58 = .ok (.aload_n 0, 1) := by decide +kernel
theorem dX4_next_59 : decode cX4_next 59 = .ok (.getfield 14, 3) := by decide +kernel
theorem dX4_next_62 : decode cX4_next 62 = .ok (.iload_n 2, 1) := by decide +kernel
theorem dX4_next_63 : decode cX4_next 63 = .ok (.invokevirtual 105, 3) := by decide +kernel
theorem dX4_next_66 : decode cX4_next 66 = .ok (.iconst 1, 1) := by decide +kernel
theorem dX4_next_67 : decode cX4_next 67 = .ok (.iadd, 1) := by decide +kernel
theorem dX4_next_68 : decode cX4_next 68 = .ok (.invokevirtual 250, 3) := by decide +kernel
theorem dX4_next_71 : decode cX4_next 71 = .ok (.ireturn, 1) := by decide +kernel
theorem dX4_sets_0 : decode cX4_sets 0 = .ok (.iload_n 1, 1) := by decide +kernel
theorem dX4_sets_1 : decode cX4_sets 1 = .ok (.ifCond .lt 9, 3) := by decide +kernel
theorem dX4_sets_4 : decode cX4_sets 4 = .ok (.iload_n 1, 1) := by decide +kernel
theorem dX4_sets_5 : decode cX4_sets 5 = .ok (.bipush 24, 2) := by decide +kernel
theorem dX4_sets_7 : decode cX4_sets 7 = .ok (.if_icmp .le 5, 3) := by decide +kernel
theorem dX4_sets_10 : decode cX4_sets 10 = .ok (.iconst (-1), 1) := by decide +kernel
theorem dX4_sets_11 : decode cX4_sets 11 = .ok (.ireturn, 1) := by decide +kernel
theorem dX4_sets_12 : decode cX4_sets 12 = .ok (.aload_n 0, 1) := by decide +kernel
theorem dX4_sets_13 : decode cX4_sets 13 = .ok (.getfield 35, 3) := by decide +kernel
theorem dX4_sets_16 : decode cX4_sets 16 = .ok (.getfield 118, 3) := by decide +kernel
theorem dX4_sets_19 : decode cX4_sets 19 = .ok (.ifCond .ne 6, 3) := by decide +kernel
theorem dX4_sets_22 : decode cX4_sets 22 = .ok (.bipush (-4), 2) := by decide +kernel
theorem dX4_sets_24 : decode cX4_sets 24 = .ok (.ireturn, 1) := by decide +kernel
theorem dX4_sets_25 : decode cX4_sets 25 = .ok (.aload_n 0, 1) := by decide +kernel
theorem dX4_sets_26 : decode cX4_sets 26 = .ok (.iload_n 1, 1) := by decide +kernel
theorem dX4_sets_27 : decode cX4_sets 27 = .ok (.invokevirtual 253, 3) := by decide +kernel
theorem dX4_sets_30 : decode cX4_sets 30 = .ok (.aload_n 0, 1) := by decide +kernel
theorem dX4_sets_31 : decode cX4_sets 31 = .ok (.aload_n 0, 1) := by decide +kernel
theorem dX4_sets_32 : decode cX4_sets 32 = .ok (.getfield 53, 3) := by decide +kernel
theorem dX4_sets_35 : decode cX4_sets 35 = .ok (.getfield 225, 3) := by decide +kernel
theorem dX4_sets_38 : decode cX4_sets 38 = .ok (.i2l, 1) := by decide +kernel
theorem dX4_sets_39 : decode cX4_sets 39 = .ok (.lconst 1, 1) := by decide +kernel
theorem dX4_sets_40 : decode cX4_sets 40 = .ok (.invokevirtual 228, 3) := by decide +kernel
theorem dX4_sets_43 : decode cX4_sets 43 = .ok (.aload_n 0, 1) := by decide +kernel
theorem dX4_sets_44 : decode cX4_sets 44 = .ok (.aload_n 0, 1) := by decide +kernel
theorem dX4_sets_45 : decode cX4_sets 45 = .ok (.getfield 53, 3) := by decide +kernel
theorem dX4_sets_48 : decode cX4_sets 48 = .ok (.getfield 232, 3) := by decide +kernel
theorem dX4_sets_51 : decode cX4_sets 51 = .ok (.invokevirtual 90, 3) := by decide +kernel
theorem dX4_sets_54 : decode cX4_sets 54 = .ok (.ireturn, 1) := by decide +kernel
theorem dX4_surely_0 : decode cX4_surely 0 = .ok (.iload_n 1, 1) := by decide +kernel
theorem dX4_surely_1 : decode cX4_surely 1 = .ok (.ifCond .lt 9, 3) := by decide +kernel
theorem dX4_surely_4 : decode cX4_surely 4 = .ok (.iload_n 1, 1) := by decide +kernel
theorem dX4_surely_5 : decode cX4_surely 5 = .ok (.bipush 24, 2) := by decide +kernel
theorem dX4_surely_7 : decode cX4_surely 7 = .ok (.if_icmp .le 5, 3) := by decide +kernel
theorem dX4_surely_10 : decode cX4_surely 10 = .ok (.iconst (-1), 1) := by decide +kernel
theorem dX4_surely_11 : decode cX4_surely 11 = .ok (.ireturn, 1) := by decide +kernel
theorem dX4_surely_12 : decode cX4_surely 12 = .ok (.aload_n 0, 1) := by decide +kernel
theorem dX4_surely_13 : decode cX4_surely 13 = .ok (.getfield 35, 3) := by decide +kernel
theorem dX4_surely_16 : decode cX4_surely 16 = .ok (.getfield 118, 3) := by decide +kernel
theorem dX4_surely_19 : decode cX4_surely 19 = .ok (.ifCond .ne 6, 3) := by decide +kernel
theorem dX4_surely_22 : decode cX4_surely 22 = .ok (.bipush (-4), 2) := by decide +kernel
theorem dX4_surely_24 : decode cX4_surely 24 = .ok (.ireturn, 1) := by decide +kernel
theorem dX4_surely_25 : decode cX4_surely 25 = .ok (.aload_n 0, 1) := by decide +kernel
theorem dX4_surely_26 : decode cX4_surely 26 = .ok (.iload_n 1, 1) := by decide +kernel
theorem dX4_surely_27 : decode cX4_surely 27 = .ok (.invokevirtual 253, 3) := by decide +kernel
theorem dX4_surely_30 : decode cX4_surely 30 = .ok (.aload_n 0, 1) := by decide +kernel
theorem dX4_surely_31 : decode cX4_surely 31 = .ok (.getfield 53, 3) := by decide +kernel
theorem dX4_surely_34 : decode cX4_surely 34 = .ok (.getfield 225, 3) := by decide +kernel
theorem dX4_surely_37 : decode cX4_surely 37 = .ok (.ifCond .ne 9, 3) := by decide +kernel
theorem dX4_surely_40 : decode cX4_surely 40 = .ok (.aload_n 0, 1) := by decide +kernel
theorem dX4_surely_41 : decode cX4_surely 41 = .ok (.iconst 4, 1) := by decide +kernel
theorem dX4_surely_42 : decode cX4_surely 42 = .ok (.invokevirtual 72, 3) := by decide +kernel
theorem dX4_surely_45 : decode cX4_surely 45 = .ok (.ireturn, 1) := by decide +kernel
theorem dX4_surely_46 : decode cX4_surely 46 = .ok (.aload_n 0, 1) := by decide +kernel
theorem dX4_surely_47 : decode cX4_surely 47 = .ok (.aload_n 0, 1) := by decide +kernel
theorem dX4_surely_48 : decode cX4_surely 48 = .ok (.getfield 35, 3) := by decide +kernel
theorem dX4_surely_51 : decode cX4_surely 51 = .ok (.invokevirtual 256, 3) := by decide +kernel
theorem dX4_surely_54 : decode cX4_surely 54 = .ok (.aload_n 0, 1) := by decide +kernel
theorem dX4_surely_55 : decode cX4_surely 55 = .ok (.getfield 53, 3) := by decide +kernel
theorem dX4_surely_58 : decode cX4_surely 58 = .ok (.getfield 235, 3) := by decide +kernel
theorem dX4_surely_61 : decode cX4_surely 61 = .ok (.iconst (-1), 1) := by decide +kernel
theorem dX4_surely_62 : decode cX4_surely 62 = .ok (.ixor, 1) := by decide +kernel
theorem dX4_surely_63 : decode cX4_surely 63 = .ok (.iand, 1) := by decide +kernel
theorem dX4_surely_64 : decode cX4_surely 64 = .ok (.putfield 178, 3) := by decide +kernel
theorem dX4_surely_67 : decode cX4_surely 67 = .ok (.aload_n 0, 1) := by decide +kernel
theorem dX4_surely_68 : decode cX4_surely 68 = .ok (.getfield 53, 3) := by decide +kernel
theorem dX4_surely_71 : decode cX4_surely 71 = .ok (.getfield 238, 3) := by decide +kernel
theorem dX4_surely_74 : decode cX4_surely 74 = .ok (.ireturn, 1) := by decide +kernel
theorem dX4_duel_0 : decode cX4_duel 0 = .ok (.iload_n 1, 1) := by decide +kernel
theorem dX4_duel_1 : decode cX4_duel 1 = .ok (.ifCond .lt 8, 3) := by decide +kernel
theorem dX4_duel_4 : decode cX4_duel 4 = .ok (.iload_n 1, 1) := by decide +kernel
theorem dX4_duel_5 : decode cX4_duel 5 = .ok (.iconst 2, 1) := by decide +kernel
theorem dX4_duel_6 : decode cX4_duel 6 = .ok (.if_icmp .le 5, 3) := by decide +kernel
theorem dX4_duel_9 : decode cX4_duel 9 = .ok (.iconst (-1), 1) := by decide +kernel
theorem dX4_duel_10 : decode cX4_duel 10 = .ok (.ireturn, 1) := by decide +kernel
theorem dX4_duel_11 : decode cX4_duel 11 = .ok (.aload_n 0, 1) := by decide +kernel
theorem dX4_duel_12 : decode cX4_duel 12 = .ok (.getfield 35, 3) := by decide +kernel
theorem dX4_duel_15 : decode cX4_duel 15 = .ok (.getfield 118, 3) := by decide +kernel
theorem dX4_duel_18 : decode cX4_duel 18 = .ok (.ifCond .ne 6, 3) := by decide +kernel
theorem dX4_duel_21 : decode cX4_duel 21 = .ok (.bipush (-4), 2) := by decide +kernel
theorem dX4_duel_23 : decode cX4_duel 23 = .ok (.ireturn, 1) := by decide +kernel
theorem dX4_duel_24 : decode cX4_duel 24 = .ok (.aload_n 0, 1) := by decide +kernel
theorem dX4_duel_25 : decode cX4_duel 25 = .ok (.invokevirtual 259, 3) := by decide +kernel
theorem dX4_duel_28 : decode cX4_duel 28 = .ok (.iconst 0, 1) := by decide +kernel
theorem dX4_duel_29 : decode cX4_duel 29 = .ok (.istore_n 2, 1) := by decide +kernel
theorem dX4_duel_30 : decode cX4_duel 30 = .ok (.iload_n 2, 1) := by decide +kernel
theorem dX4_duel_31 : decode cX4_duel 31 = .ok (.iload_n 1, 1) := by decide +kernel
theorem dX4_duel_32 : decode cX4_duel 32 = .ok (.if_icmp .ge 22, 3) := by decide +kernel
theorem dX4_duel_35 : decode cX4_duel 35 = .ok (.iload_n 2, 1) := by decide +kernel
theorem dX4_duel_36 : decode cX4_duel 36 = .ok (.iconst 2, 1) := by decide +kernel
theorem dX4_duel_37 : decode cX4_duel 37 = .ok (.if_icmp .ge 17, 3) := by decide +kernel
theorem dX4_duel_40 : decode cX4_duel 40 = .ok (.aload_n 0, 1) := by decide +kernel
theorem dX4_duel_41 : decode cX4_duel 41 = .ok (.invokevirtual 262, 3) := by decide +kernel
theorem dX4_duel_44 : decode cX4_duel 44 = .ok (.aload_n 0, 1) := by decide +kernel
theorem dX4_duel_45 : decode cX4_duel 45 = .ok (.invokevirtual 265, 3) := by decide +kernel
theorem dX4_duel_48 : decode cX4_duel 48 = .ok (.iinc 2 1, 3) := by decide +kernel
theorem dX4_duel_51 : decode cX4_duel 51 = .ok (.goto (-21), 3) := by decide +kernel
theorem dX4_duel_54 : decode cX4_duel 54 = .ok (.aload_n 0, 1) := by decide +kernel
theorem dX4_duel_55 : decode cX4_duel 55 = .ok (.aload_n 0, 1) := by decide +kernel
theorem dX4_duel_56 : decode cX4_duel 56 = .ok (.aload_n 0, 1) := by decide +kernel
theorem dX4_duel_57 : decode cX4_duel 57 = .ok (.getfield 35, 3) := by decide +kernel
theorem dX4_duel_60 : decode cX4_duel 60 = .ok (.getfield 152, 3) := by decide +kernel
theorem dX4_duel_63 : decode cX4_duel 63 = .ok (.invokevirtual 268, 3) := by decide +kernel
theorem dX4_duel_66 : decode cX4_duel 66 = .ok (.invokevirtual 90, 3) := by decide +kernel
theorem dX4_duel_69 : decode cX4_duel 69 = .ok (.ireturn, 1) := by decide +kernel
theorem dX4_odds_0 : decode cX4_odds 0 = .ok (.iload_n 1, 1) := by decide +kernel
theorem dX4_odds_1 : decode cX4_odds 1 = .ok (.bipush 8, 2) := by decide +kernel
theorem dX4_odds_3 : decode cX4_odds 3 = .ok (.invokestatic 124, 3) := by decide +kernel
theorem dX4_odds_6 : decode cX4_odds 6 = .ok (.ifCond .eq 13, 3) := by decide +kernel
theorem dX4_odds_9 : decode cX4_odds 9 = .ok (.iload_n 2, 1) := by decide +kernel
theorem dX4_odds_10 : decode cX4_odds 10 = .ok (.ifCond .lt 9, 3) := by decide +kernel
theorem dX4_odds_13 : decode cX4_odds 13 = .ok (.iload_n 2, 1) := by decide +kernel
theorem dX4_odds_14 : decode cX4_odds 14 = .ok (.bipush 12, 2) := by decide +kernel
theorem dX4_odds_16 : decode cX4_odds 16 = .ok (.if_icmp .le 5, 3) := by decide +kernel
theorem dX4_odds_19 : decode cX4_odds 19 = .ok (.iconst (-1), 1) := by decide +kernel
theorem dX4_odds_20 : decode cX4_odds 20 = .ok (.ireturn, 1) := by decide +kernel
theorem dX4_odds_21 : decode cX4_odds 21 = .ok (.aload_n 0, 1) := by decide +kernel
theorem dX4_odds_22 : decode cX4_odds 22 = .ok (.getfield 35, 3) := by decide +kernel
theorem dX4_odds_25 : decode cX4_odds 25 = .ok (.getfield 118, 3) := by decide +kernel
theorem dX4_odds_28 : decode cX4_odds 28 = .ok (.ifCond .ne 6, 3) := by decide +kernel
theorem dX4_odds_31 : decode cX4_odds 31 = .ok (.bipush (-4), 2) := by decide +kernel
theorem dX4_odds_33 : decode cX4_odds 33 = .ok (.ireturn, 1) := by decide +kernel
theorem dX4_odds_34 : decode cX4_odds 34 = .ok (.aload_n 0, 1) := by decide +kernel
theorem dX4_odds_35 : decode cX4_odds 35 = .ok (.iconst 1, 1) := by decide +kernel
theorem dX4_odds_36 : decode cX4_odds 36 = .ok (.iload_n 1, 1) := by decide +kernel
theorem dX4_odds_37 : decode cX4_odds 37 = .ok (.ishl, 1) := by decide +kernel
theorem dX4_odds_38 : decode cX4_odds 38 = .ok (.iload_n 2, 1) := by decide +kernel
theorem dX4_odds_39 : decode cX4_odds 39 = .ok (.invokevirtual 271, 3) := by decide +kernel
theorem dX4_odds_42 : decode cX4_odds 42 = .ok (.iconst 1, 1) := by decide +kernel
theorem dX4_odds_43 : decode cX4_odds 43 = .ok (.ireturn, 1) := by decide +kernel
theorem dX4_mid_0 : decode cX4_mid 0 = .ok (.iload_n 1, 1) := by decide +kernel
theorem dX4_mid_1 : decode cX4_mid 1 = .ok (.ifCond .lt 9, 3) := by decide +kernel
theorem dX4_mid_4 : decode cX4_mid 4 = .ok (.iload_n 1, 1) := by decide +kernel
theorem dX4_mid_5 : decode cX4_mid 5 = .ok (.bipush 12, 2) := by decide +kernel
theorem dX4_mid_7 : decode cX4_mid 7 = .ok (.if_icmp .le 5, 3) := by decide +kernel
theorem dX4_mid_10 : decode cX4_mid 10 = .ok (.iconst (-1), 1) := by decide +kernel
theorem dX4_mid_11 : decode cX4_mid 11 = .ok (.ireturn, 1) := by decide +kernel
theorem dX4_mid_12 : decode cX4_mid 12 = .ok (.aload_n 0, 1) := by decide +kernel
theorem dX4_mid_13 : decode cX4_mid 13 = .ok (.getfield 35, 3) := by decide +kernel
theorem dX4_mid_16 : decode cX4_mid 16 = .ok (.getfield 118, 3) := by decide +kernel
theorem dX4_mid_19 : decode cX4_mid 19 = .ok (.ifCond .ne 6, 3) := by decide +kernel
theorem dX4_mid_22 : decode cX4_mid 22 = .ok (.bipush (-4), 2) := by decide +kernel
theorem dX4_mid_24 : decode cX4_mid 24 = .ok (.ireturn, 1) := by decide +kernel
theorem dX4_mid_25 : decode cX4_mid 25 = .ok (.aload_n 0, 1) := by decide +kernel
theorem dX4_mid_26 : decode cX4_mid 26 = .ok (.sipush 255, 3) := by decide +kernel
theorem dX4_mid_29 : decode cX4_mid 29 = .ok (.iload_n 1, 1) := by decide +kernel
theorem dX4_mid_30 : decode cX4_mid 30 = .ok (.invokevirtual 271, 3) := by decide +kernel
theorem dX4_mid_33 : decode cX4_mid 33 = .ok (.iconst 1, 1) := by decide +kernel
theorem dX4_mid_34 : decode cX4_mid 34 = .ok (.ireturn, 1) := by decide +kernel
theorem dX4_lots_0 : decode cX4_lots 0 = .ok (.iload_n 1, 1) := by decide +kernel
theorem dX4_lots_1 : decode cX4_lots 1 = .ok (.iconst 1, 1) := by decide +kernel
theorem dX4_lots_2 : decode cX4_lots 2 = .ok (.if_icmp .lt 21, 3) := by decide +kernel
theorem dX4_lots_5 : decode cX4_lots 5 = .ok (.iload_n 1, 1) := by decide +kernel
theorem dX4_lots_6 : decode cX4_lots 6 = .ok (.bipush 20, 2) := by decide +kernel
theorem dX4_lots_8 : decode cX4_lots 8 = .ok (.if_icmp .gt 15, 3) := by decide +kernel
theorem dX4_lots_11 : decode cX4_lots 11 = .ok (.iload_n 2, 1) := by decide +kernel
theorem dX4_lots_12 : decode cX4_lots 12 = .ok (.iconst 1, 1) := by decide +kernel
theorem dX4_lots_13 : decode cX4_lots 13 = .ok (.if_icmp .lt 10, 3) := by decide +kernel
theorem dX4_lots_16 : decode cX4_lots 16 = .ok (.iload_n 2, 1) := by decide +kernel
theorem dX4_lots_17 : decode cX4_lots 17 = .ok (.ldc_w 274, 3) := by decide +kernel
theorem dX4_lots_20 : decode cX4_lots 20 = .ok (.if_icmp .lt 5, 3) := by decide +kernel
theorem dX4_lots_23 : decode cX4_lots 23 = .ok (.iconst (-1), 1) := by decide +kernel
theorem dX4_lots_24 : decode cX4_lots 24 = .ok (.ireturn, 1) := by decide +kernel
theorem dX4_lots_25 : decode cX4_lots 25 = .ok (.aload_n 0, 1) := by decide +kernel
theorem dX4_lots_26 : decode cX4_lots 26 = .ok (.getfield 35, 3) := by decide +kernel
theorem dX4_lots_29 : decode cX4_lots 29 = .ok (.getfield 118, 3) := by decide +kernel
theorem dX4_lots_32 : decode cX4_lots 32 = .ok (.ifCond .ne 6, 3) := by decide +kernel
theorem dX4_lots_35 : decode cX4_lots 35 = .ok (.bipush (-4), 2) := by decide +kernel
theorem dX4_lots_37 : decode cX4_lots 37 = .ok (.ireturn, 1) := by decide +kernel
theorem dX4_lots_38 : decode cX4_lots 38 = .ok (.aload_n 0, 1) := by decide +kernel
theorem dX4_lots_39 : decode cX4_lots 39 = .ok (.iload_n 1, 1) := by decide +kernel
theorem dX4_lots_40 : decode cX4_lots 40 = .ok (.invokevirtual 136, 3) := by decide +kernel
theorem dX4_lots_43 : decode cX4_lots 43 = .ok (.ifCond .ne 6, 3) := by decide +kernel
theorem dX4_lots_46 : decode cX4_lots 46 = .ok (.bipush (-2), 2) := by decide +kernel
theorem dX4_lots_48 : decode cX4_lots 48 = .ok (.ireturn, 1) := by decide +kernel
theorem dX4_lots_49 : decode cX4_lots 49 = .ok (.iload_n 2, 1) := by decide +kernel
theorem dX4_lots_50 : decode cX4_lots 50 = .ok (.i2l, 1) := by decide +kernel
theorem dX4_lots_51 : decode cX4_lots 51 = .ok (.lstore_n 3, 1) := by decide +kernel
theorem dX4_lots_52 : decode cX4_lots 52 = .ok (.iconst 0, 1) := by decide +kernel
theorem dX4_lots_53 : decode cX4_lots 53 = .ok (.istore 5, 2) := by decide +kernel
theorem dX4_lots_55 : decode cX4_lots 55 = .ok (.iload 5, 2) := by decide +kernel
theorem dX4_lots_57 : decode cX4_lots 57 = .ok (.iload_n 1, 1) := by decide +kernel
theorem dX4_lots_58 : decode cX4_lots 58 = .ok (.if_icmp .ge 56, 3) := by decide +kernel
theorem dX4_lots_61 : decode cX4_lots 61 = .ok (.iload 5, 2) := by decide +kernel
theorem dX4_lots_63 : decode cX4_lots 63 = .ok (.bipush 20, 2) := by decide +kernel
theorem dX4_lots_65 : decode cX4_lots 65 = .ok (.if_icmp .ge 49, 3) := by decide +kernel
theorem dX4_lots_68 : decode cX4_lots 68 = .ok (.lload_n 3, 1) := by decide +kernel
theorem dX4_lots_69 : decode cX4_lots 69 = .ok (.ldc2_w 275, 3) := by decide +kernel
theorem dX4_lots_72 : decode cX4_lots 72 = .ok (.lmul, 1) := by decide +kernel
theorem dX4_lots_73 : decode cX4_lots 73 = .ok (.ldc2_w 277, 3) := by decide +kernel
theorem dX4_lots_76 : decode cX4_lots 76 = .ok (.lrem, 1) := by decide +kernel
theorem dX4_lots_77 : decode cX4_lots 77 = .ok (.lstore_n 3, 1) := by decide +kernel
theorem dX4_lots_78 : decode cX4_lots 78 = .ok (.aload_n 0, 1) := by decide +kernel
theorem dX4_lots_79 : decode cX4_lots 79 = .ok (.lload_n 3, 1) := by decide +kernel
theorem dX4_lots_80 : decode cX4_lots 80 = .ok (.l2i, 1) := by decide +kernel
theorem dX4_lots_81 : decode cX4_lots 81 = .ok (.invokestatic 279, 3) := by decide +kernel
theorem dX4_lots_84 : decode cX4_lots 84 = .ok (.lload_n 3, 1) := by decide +kernel
theorem dX4_lots_85 : decode cX4_lots 85 = .ok (.aload_n 0, 1) := by decide +kernel
theorem dX4_lots_86 : decode cX4_lots 86 = .ok (.getfield 35, 3) := by decide +kernel
theorem dX4_lots_89 : decode cX4_lots 89 = .ok (.getfield 118, 3) := by decide +kernel
theorem dX4_lots_92 : decode cX4_lots 92 = .ok (.i2l, 1) := by decide +kernel
theorem dX4_lots_93 : decode cX4_lots 93 = .ok (.lrem, 1) := by decide +kernel
theorem dX4_lots_94 : decode cX4_lots 94 = .ok (.l2i, 1) := by decide +kernel
theorem dX4_lots_95 : decode cX4_lots 95 = .ok (.lload_n 3, 1) := by decide +kernel
theorem dX4_lots_96 : decode cX4_lots 96 = .ok (.ldc2_w 282, 3) := by decide +kernel
theorem dX4_lots_99 : decode cX4_lots 99 = .ok (.ldiv, 1) := by decide +kernel
theorem dX4_lots_100 : decode cX4_lots 100 = .ok (.ldc2_w 284, 3) := by decide +kernel
theorem dX4_lots_103 : decode cX4_lots 103 = .ok (.lrem, 1) := by decide +kernel
theorem dX4_lots_104 : decode cX4_lots 104 = .ok (.l2i, 1) := by decide +kernel
theorem dX4_lots_105 : decode cX4_lots 105 = .ok (.invokevirtual 139, 3) := by decide +kernel
theorem dX4_lots_108 : decode cX4_lots 108 = .ok (.iinc 5 1, 3) := by decide +kernel
theorem dX4_lots_111 : decode cX4_lots 111 = .ok (.goto (-56), 3) := by decide +kernel
theorem dX4_lots_114 : decode cX4_lots 114 = .ok (.aload_n 0, 1) := by decide +kernel
theorem dX4_lots_115 : decode cX4_lots 115 = .ok (.getfield 35, 3) := by decide +kernel
theorem dX4_lots_118 : decode cX4_lots 118 = .ok (.getfield 190, 3) := by decide +kernel
theorem dX4_lots_121 : decode cX4_lots 121 = .ok (.ireturn, 1) := by decide +kernel
theorem dX4_asked_0 : decode cX4_asked 0 = .ok (.aload_n 0, 1) := by decide +kernel
theorem dX4_asked_1 : decode cX4_asked 1 = .ok (.getfield 178, 3) := by decide +kernel
theorem dX4_asked_4 : decode cX4_asked 4 = .ok (.ireturn, 1) := by decide +kernel
theorem dX4_upper_0 : decode cX4_upper 0 = .ok (.aload_n 0, 1) := by decide +kernel
theorem dX4_upper_1 : decode cX4_upper 1 = .ok (.getfield 286, 3) := by decide +kernel
theorem dX4_upper_4 : decode cX4_upper 4 = .ok (.lreturn, 1) := by decide +kernel
theorem dX4_lower_0 : decode cX4_lower 0 = .ok (.aload_n 0, 1) := by decide +kernel
theorem dX4_lower_1 : decode cX4_lower 1 = .ok (.getfield 64, 3) := by decide +kernel
theorem dX4_lower_4 : decode cX4_lower 4 = .ok (.lreturn, 1) := by decide +kernel
theorem dX4_count_0 : decode cX4_count 0 = .ok (.iload_n 1, 1) := by decide +kernel
theorem dX4_count_1 : decode cX4_count 1 = .ok (.tableswitch 191 0 13 #[71, 79, 87, 95, 104, 112, 120, 128, 136, 147, 156, 165, 173, 181], 71) := by decide +kernel
theorem dX4_count_72 : decode cX4_count 72 = .ok (.aload_n 0, 1) := by decide +kernel
theorem dX4_count_73 : decode cX4_count 73 = .ok (.getfield 35, 3) := by decide +kernel
theorem dX4_count_76 : decode cX4_count 76 = .ok (.getfield 118, 3) := by decide +kernel
theorem dX4_count_79 : decode cX4_count 79 = .ok (.ireturn, 1) := by decide +kernel
theorem dX4_count_80 : decode cX4_count 80 = .ok (.aload_n 0, 1) := by decide +kernel
theorem dX4_count_81 : decode cX4_count 81 = .ok (.getfield 35, 3) := by decide +kernel
theorem dX4_count_84 : decode cX4_count 84 = .ok (.getfield 289, 3) := by decide +kernel
theorem dX4_count_87 : decode cX4_count 87 = .ok (.ireturn, 1) := by decide +kernel
theorem dX4_count_88 : decode cX4_count 88 = .ok (.aload_n 0, 1) := by decide +kernel
theorem dX4_count_89 : decode cX4_count 89 = .ok (.getfield 35, 3) := by decide +kernel
theorem dX4_count_92 : decode cX4_count 92 = .ok (.getfield 292, 3) := by decide +kernel
theorem dX4_count_95 : decode cX4_count 95 = .ok (.ireturn, 1) := by decide +kernel
theorem dX4_count_96 : decode cX4_count 96 = .ok (.aload_n 0, 1) := by decide +kernel
theorem dX4_count_97 : decode cX4_count 97 = .ok (.getfield 21, 3) := by decide +kernel
theorem dX4_count_100 : decode cX4_count 100 = .ok (.iconst 3, 1) := by decide +kernel
theorem dX4_count_101 : decode cX4_count 101 = .ok (.invokevirtual 105, 3) := by decide +kernel
theorem dX4_count_104 : decode cX4_count 104 = .ok (.ireturn, 1) := by decide +kernel
theorem dX4_count_105 : decode cX4_count 105 = .ok (.aload_n 0, 1) := by decide +kernel
theorem dX4_count_106 : decode cX4_count 106 = .ok (.getfield 35, 3) := by decide +kernel
theorem dX4_count_109 : decode cX4_count 109 = .ok (.getfield 190, 3) := by decide +kernel
theorem dX4_count_112 : decode cX4_count 112 = .ok (.ireturn, 1) := by decide +kernel
theorem dX4_count_113 : decode cX4_count 113 = .ok (.aload_n 0, 1) := by decide +kernel
theorem dX4_count_114 : decode cX4_count 114 = .ok (.getfield 35, 3) := by decide +kernel
theorem dX4_count_117 : decode cX4_count 117 = .ok (.getfield 152, 3) := by decide +kernel
theorem dX4_count_120 : decode cX4_count 120 = .ok (.ireturn, 1) := by decide +kernel
theorem dX4_count_121 : decode cX4_count 121 = .ok (.aload_n 0, 1) := by decide +kernel
theorem dX4_count_122 : decode cX4_count 122 = .ok (.getfield 35, 3) := by decide +kernel
theorem dX4_count_125 : decode cX4_count 125 = .ok (.getfield 161, 3) := by decide +kernel
theorem dX4_count_128 : decode cX4_count 128 = .ok (.ireturn, 1) := by decide +kernel
theorem dX4_count_129 : decode cX4_count 129 = .ok (.aload_n 0, 1) := by decide +kernel
theorem dX4_count_130 : decode cX4_count 130 = .ok (.getfield 35, 3) := by decide +kernel
theorem dX4_count_133 : decode cX4_count 133 = .ok (.invokevirtual 142, 3) := by decide +kernel
theorem dX4_count_136 : decode cX4_count 136 = .ok (.ireturn, 1) := by decide +kernel
theorem dX4_count_137 : decode cX4_count 137 = .ok (.aload_n 0, 1) := by decide +kernel
theorem dX4_count_138 : decode cX4_count 138 = .ok (.getfield 35, 3) := by decide +kernel
theorem dX4_count_141 : decode cX4_count 141 = .ok (.invokevirtual 181, 3) := by decide +kernel
theorem dX4_count_144 : decode cX4_count 144 = .ok (.invokestatic 217, 3) := by decide +kernel
theorem dX4_count_147 : decode cX4_count 147 = .ok (.ireturn, 1) := by decide +kernel
theorem dX4_count_148 : decode cX4_count 148 = .ok (.aload_n 0, 1) := by decide +kernel
theorem dX4_count_149 : decode cX4_count 149 = .ok (.getfield 35, 3) := by decide +kernel
theorem dX4_count_152 : decode cX4_count 152 = .ok (.iconst 1, 1) := by decide +kernel
theorem dX4_count_153 : decode cX4_count 153 = .ok (.invokevirtual 295, 3) := by decide +kernel
theorem dX4_count_156 : decode cX4_count 156 = .ok (.ireturn, 1) := by decide +kernel
theorem dX4_count_157 : decode cX4_count 157 = .ok (.aload_n 0, 1) := by decide +kernel
theorem dX4_count_158 : decode cX4_count 158 = .ok (.getfield 35, 3) := by decide +kernel
theorem dX4_count_161 : decode cX4_count 161 = .ok (.iconst 2, 1) := by decide +kernel
theorem dX4_count_162 : decode cX4_count 162 = .ok (.invokevirtual 295, 3) := by decide +kernel
theorem dX4_count_165 : decode cX4_count 165 = .ok (.ireturn, 1) := by decide +kernel
theorem dX4_count_166 : decode cX4_count 166 = .ok (.aload_n 0, 1) := by decide +kernel
theorem dX4_count_167 : decode cX4_count 167 = .ok (.getfield 14, 3) := by decide +kernel
theorem dX4_count_170 : decode cX4_count 170 = .ok (.invokevirtual 298, 3) := by decide +kernel
theorem dX4_count_173 : decode cX4_count 173 = .ok (.ireturn, 1) := by decide +kernel
theorem dX4_count_174 : decode cX4_count 174 = .ok (.aload_n 0, 1) := by decide +kernel
theorem dX4_count_175 : decode cX4_count 175 = .ok (.getfield 18, 3) := by decide +kernel
theorem dX4_count_178 : decode cX4_count 178 = .ok (.invokevirtual 298, 3) := by decide +kernel
theorem dX4_count_181 : decode cX4_count 181 = .ok (.ireturn, 1) := by decide +kernel
theorem dX4_count_182 : decode cX4_count 182 = .ok (.aload_n 0, 1) := by decide +kernel
theorem dX4_count_183 : decode cX4_count 183 = .ok (.getfield 21, 3) := by decide +kernel
theorem dX4_count_186 : decode cX4_count 186 = .ok (.invokevirtual 298, 3) := by decide +kernel
theorem dX4_count_189 : decode cX4_count 189 = .ok (.iconst 1, 1) := by decide +kernel
theorem dX4_count_190 : decode cX4_count 190 = .ok (.isub, 1) := by decide +kernel
theorem dX4_count_191 : decode cX4_count 191 = .ok (.ireturn, 1) := by decide +kernel
theorem dX4_count_192 : decode cX4_count 192 = .ok (.iconst (-1), 1) := by decide +kernel
theorem dX4_count_193 : decode cX4_count 193 = .ok (.ireturn, 1) := by decide +kernel
theorem dX4_finding_0 : decode cX4_finding 0 = .ok (.aload_n 0, 1) := by decide +kernel
theorem dX4_finding_1 : decode cX4_finding 1 = .ok (.getfield 301, 3) := by decide +kernel
theorem dX4_finding_4 : decode cX4_finding 4 = .ok (.ireturn, 1) := by decide +kernel
theorem dX4_findings_0 : decode cX4_findings 0 = .ok (.iload_n 1, 1) := by decide +kernel
theorem dX4_findings_1 : decode cX4_findings 1 = .ok (.iconst 1, 1) := by decide +kernel
theorem dX4_findings_2 : decode cX4_findings 2 = .ok (.if_icmp .lt 8, 3) := by decide +kernel
theorem dX4_findings_5 : decode cX4_findings 5 = .ok (.iload_n 1, 1) := by decide +kernel
theorem dX4_findings_6 : decode cX4_findings 6 = .ok (.iconst 5, 1) := by decide +kernel
theorem dX4_findings_7 : decode cX4_findings 7 = .ok (.if_icmp .le 7, 3) := by decide +kernel
theorem dX4_findings_10 : decode cX4_findings 10 = .ok (.iconst (-1), 1) := by decide +kernel
theorem dX4_findings_11 : decode cX4_findings 11 = .ok (.goto 9, 3) := by decide +kernel
theorem dX4_findings_14 : decode cX4_findings 14 = .ok (.aload_n 0, 1) := by decide +kernel
theorem dX4_findings_15 : decode cX4_findings 15 = .ok (.getfield 61, 3) := by decide +kernel
theorem dX4_findings_18 : decode cX4_findings 18 = .ok (.iload_n 1, 1) := by decide +kernel
theorem dX4_findings_19 : decode cX4_findings 19 = .ok (.iaload, 1) := by decide +kernel
theorem dX4_findings_20 : decode cX4_findings 20 = .ok (.ireturn, 1) := by decide +kernel
theorem dX4_digest_0 : decode cX4_digest 0 = .ok (.ldc2_w 304, 3) := by decide +kernel
theorem dX4_digest_3 : decode cX4_digest 3 = .ok (.lstore_n 1, 1) := by decide +kernel
theorem dX4_digest_4 : decode cX4_digest 4 = .ok (.iconst 0, 1) := by decide +kernel
theorem dX4_digest_5 : decode cX4_digest 5 = .ok (.istore_n 3, 1) := by decide +kernel
theorem dX4_digest_6 : decode cX4_digest 6 = .ok (.iload_n 3, 1) := by decide +kernel
theorem dX4_digest_7 : decode cX4_digest 7 = .ok (.bipush 14, 2) := by decide +kernel
theorem dX4_digest_9 : decode cX4_digest 9 = .ok (.if_icmp .ge 22, 3) := by decide +kernel
theorem dX4_digest_12 : decode cX4_digest 12 = .ok (.ldc2_w 306, 3) := by decide +kernel
theorem dX4_digest_15 : decode cX4_digest 15 = .ok (.lload_n 1, 1) := by decide +kernel
theorem dX4_digest_16 : decode cX4_digest 16 = .ok (.lmul, 1) := by decide +kernel
theorem dX4_digest_17 : decode cX4_digest 17 = .ok (.aload_n 0, 1) := by decide +kernel
theorem dX4_digest_18 : decode cX4_digest 18 = .ok (.iload_n 3, 1) := by decide +kernel
theorem dX4_digest_19 : decode cX4_digest 19 = .ok (.invokevirtual 308, 3) := by decide +kernel
theorem dX4_digest_22 : decode cX4_digest 22 = .ok (.i2l, 1) := by decide +kernel
theorem dX4_digest_23 : decode cX4_digest 23 = .ok (.ladd, 1) := by decide +kernel
theorem dX4_digest_24 : decode cX4_digest 24 = .ok (.lstore_n 1, 1) := by decide +kernel
theorem dX4_digest_25 : decode cX4_digest 25 = .ok (.iinc 3 1, 3) := by decide +kernel
theorem dX4_digest_28 : decode cX4_digest 28 = .ok (.goto (-22), 3) := by decide +kernel
theorem dX4_digest_31 : decode cX4_digest 31 = .ok (.iconst 0, 1) := by decide +kernel
theorem dX4_digest_32 : decode cX4_digest 32 = .ok (.istore_n 3, 1) := by decide +kernel
theorem dX4_digest_33 : decode cX4_digest 33 = .ok (.iload_n 3, 1) := by decide +kernel
theorem dX4_digest_34 : decode cX4_digest 34 = .ok (.aload_n 0, 1) := by decide +kernel
theorem dX4_digest_35 : decode cX4_digest 35 = .ok (.getfield 35, 3) := by decide +kernel
theorem dX4_digest_38 : decode cX4_digest 38 = .ok (.getfield 118, 3) := by decide +kernel
theorem dX4_digest_41 : decode cX4_digest 41 = .ok (.if_icmp .ge 43, 3) := by decide +kernel
theorem dX4_digest_44 : decode cX4_digest 44 = .ok (.iconst 0, 1) := by decide +kernel
theorem dX4_digest_45 : decode cX4_digest 45 = .ok (.istore 4, 2) := by decide +kernel
theorem dX4_digest_47 : decode cX4_digest 47 = .ok (.iload 4, 2) := by decide +kernel
theorem dX4_digest_49 : decode cX4_digest 49 = .ok (.bipush 7, 2) := by decide +kernel
theorem dX4_digest_51 : decode cX4_digest 51 = .ok (.if_icmp .ge 27, 3) := by decide +kernel
theorem dX4_digest_54 : decode cX4_digest 54 = .ok (.ldc2_w 306, 3) := by decide +kernel
theorem dX4_digest_57 : decode cX4_digest 57 = .ok (.lload_n 1, 1) := by decide +kernel
theorem dX4_digest_58 : decode cX4_digest 58 = .ok (.lmul, 1) := by decide +kernel
theorem dX4_digest_59 : decode cX4_digest 59 = .ok (.aload_n 0, 1) := by decide +kernel
theorem dX4_digest_60 : decode cX4_digest 60 = .ok (.getfield 35, 3) := by decide +kernel
theorem dX4_digest_63 : decode cX4_digest 63 = .ok (.iload_n 3, 1) := by decide +kernel
theorem dX4_digest_64 : decode cX4_digest 64 = .ok (.iload 4, 2) := by decide +kernel
theorem dX4_digest_66 : decode cX4_digest 66 = .ok (.invokevirtual 127, 3) := by decide +kernel
theorem dX4_digest_69 : decode cX4_digest 69 = .ok (.i2l, 1) := by decide +kernel
theorem dX4_digest_70 : decode cX4_digest 70 = .ok (.ladd, 1) := by decide +kernel
theorem dX4_digest_71 : decode cX4_digest 71 = .ok (.lstore_n 1, 1) := by decide +kernel
theorem dX4_digest_72 : decode cX4_digest 72 = .ok (.iinc 4 1, 3) := by decide +kernel
theorem dX4_digest_75 : decode cX4_digest 75 = .ok (.goto (-28), 3) := by decide +kernel
theorem dX4_digest_78 : decode cX4_digest 78 = .ok (.iinc 3 1, 3) := by decide +kernel
theorem dX4_digest_81 : decode cX4_digest 81 = .ok (.goto (-48), 3) := by decide +kernel
theorem dX4_digest_84 : decode cX4_digest 84 = .ok (.iconst 0, 1) := by decide +kernel
theorem dX4_digest_85 : decode cX4_digest 85 = .ok (.istore_n 3, 1) := by decide +kernel
theorem dX4_digest_86 : decode cX4_digest 86 = .ok (.iload_n 3, 1) := by decide +kernel
theorem dX4_digest_87 : decode cX4_digest 87 = .ok (.iconst 3, 1) := by decide +kernel
theorem dX4_digest_88 : decode cX4_digest 88 = .ok (.if_icmp .ge 25, 3) := by decide +kernel
theorem dX4_digest_91 : decode cX4_digest 91 = .ok (.ldc2_w 306, 3) := by decide +kernel
theorem dX4_digest_94 : decode cX4_digest 94 = .ok (.lload_n 1, 1) := by decide +kernel
theorem dX4_digest_95 : decode cX4_digest 95 = .ok (.lmul, 1) := by decide +kernel
theorem dX4_digest_96 : decode cX4_digest 96 = .ok (.aload_n 0, 1) := by decide +kernel
theorem dX4_digest_97 : decode cX4_digest 97 = .ok (.getfield 21, 3) := by decide +kernel
theorem dX4_digest_100 : decode cX4_digest 100 = .ok (.iload_n 3, 1) := by decide +kernel
theorem dX4_digest_101 : decode cX4_digest 101 = .ok (.invokevirtual 105, 3) := by decide +kernel
theorem dX4_digest_104 : decode cX4_digest 104 = .ok (.i2l, 1) := by decide +kernel
theorem dX4_digest_105 : decode cX4_digest 105 = .ok (.ladd, 1) := by decide +kernel
theorem dX4_digest_106 : decode cX4_digest 106 = .ok (.lstore_n 1, 1) := by decide +kernel
theorem dX4_digest_107 : decode cX4_digest 107 = .ok (.iinc 3 1, 3) := by decide +kernel
theorem dX4_digest_110 : decode cX4_digest 110 = .ok (.goto (-24), 3) := by decide +kernel
theorem dX4_digest_113 : decode cX4_digest 113 = .ok (.aload_n 0, 1) := by decide +kernel
theorem dX4_digest_114 : decode cX4_digest 114 = .ok (.getfield 18, 3) := by decide +kernel
theorem dX4_digest_117 : decode cX4_digest 117 = .ok (.aload_n 0, 1) := by decide +kernel
theorem dX4_digest_118 : decode cX4_digest 118 = .ok (.getfield 14, 3) := by decide +kernel
theorem dX4_digest_121 : decode cX4_digest 121 = .ok (.lload_n 1, 1) := by decide +kernel
theorem dX4_digest_122 : decode cX4_digest 122 = .ok (.invokevirtual 310, 3) := by decide +kernel
theorem dX4_digest_125 : decode cX4_digest 125 = .ok (.invokevirtual 310, 3) := by decide +kernel
theorem dX4_digest_128 : decode cX4_digest 128 = .ok (.lreturn, 1) := by decide +kernel
theorem dX4_isIn_0 : decode cX4_isIn 0 = .ok (.iload_n 0, 1) := by decide +kernel
theorem dX4_isIn_1 : decode cX4_isIn 1 = .ok (.ifCond .lt 12, 3) := by decide +kernel
theorem dX4_isIn_4 : decode cX4_isIn 4 = .ok (.iload_n 0, 1) := by decide +kernel
theorem dX4_isIn_5 : decode cX4_isIn 5 = .ok (.iload_n 1, 1) := by decide +kernel
theorem dX4_isIn_6 : decode cX4_isIn 6 = .ok (.if_icmp .ge 7, 3) := by decide +kernel
theorem dX4_isIn_9 : decode cX4_isIn 9 = .ok (.iconst 1, 1) := by decide +kernel
theorem dX4_isIn_10 : decode cX4_isIn 10 = .ok (.goto 4, 3) := by decide +kernel
theorem dX4_isIn_13 : decode cX4_isIn 13 = .ok (.iconst 0, 1) := by decide +kernel
theorem dX4_isIn_14 : decode cX4_isIn 14 = .ok (.ireturn, 1) := by decide +kernel
theorem dX4_isRow_0 : decode cX4_isRow 0 = .ok (.iload_n 0, 1) := by decide +kernel
theorem dX4_isRow_1 : decode cX4_isRow 1 = .ok (.bipush 6, 2) := by decide +kernel
theorem dX4_isRow_3 : decode cX4_isRow 3 = .ok (.invokestatic 124, 3) := by decide +kernel
theorem dX4_isRow_6 : decode cX4_isRow 6 = .ok (.ireturn, 1) := by decide +kernel
theorem dX4_isText_0 : decode cX4_isText 0 = .ok (.iload_n 0, 1) := by decide +kernel
theorem dX4_isText_1 : decode cX4_isText 1 = .ok (.iconst 4, 1) := by decide +kernel
theorem dX4_isText_2 : decode cX4_isText 2 = .ok (.invokestatic 124, 3) := by decide +kernel
theorem dX4_isText_5 : decode cX4_isText 5 = .ok (.ireturn, 1) := by decide +kernel
theorem dX4_areLines_0 : decode cX4_areLines 0 = .ok (.iload_n 0, 1) := by decide +kernel
theorem dX4_areLines_1 : decode cX4_areLines 1 = .ok (.ifCond .lt 14, 3) := by decide +kernel
theorem dX4_areLines_4 : decode cX4_areLines 4 = .ok (.iload_n 0, 1) := by decide +kernel
theorem dX4_areLines_5 : decode cX4_areLines 5 = .ok (.sipush 255, 3) := by decide +kernel
theorem dX4_areLines_8 : decode cX4_areLines 8 = .ok (.if_icmp .gt 7, 3) := by decide +kernel
theorem dX4_areLines_11 : decode cX4_areLines 11 = .ok (.iconst 1, 1) := by decide +kernel
theorem dX4_areLines_12 : decode cX4_areLines 12 = .ok (.goto 4, 3) := by decide +kernel
theorem dX4_areLines_15 : decode cX4_areLines 15 = .ok (.iconst 0, 1) := by decide +kernel
theorem dX4_areLines_16 : decode cX4_areLines 16 = .ok (.ireturn, 1) := by decide +kernel
theorem dX4_bit_0 : decode cX4_bit 0 = .ok (.iload_n 0, 1) := by decide +kernel
theorem dX4_bit_1 : decode cX4_bit 1 = .ok (.iload_n 1, 1) := by decide +kernel
theorem dX4_bit_2 : decode cX4_bit 2 = .ok (.ishr, 1) := by decide +kernel
theorem dX4_bit_3 : decode cX4_bit 3 = .ok (.iconst 1, 1) := by decide +kernel
theorem dX4_bit_4 : decode cX4_bit 4 = .ok (.iand, 1) := by decide +kernel
theorem dX4_bit_5 : decode cX4_bit 5 = .ok (.ireturn, 1) := by decide +kernel
theorem dX4_find_0 : decode cX4_find 0 = .ok (.aload_n 0, 1) := by decide +kernel
theorem dX4_find_1 : decode cX4_find 1 = .ok (.iload_n 1, 1) := by decide +kernel
theorem dX4_find_2 : decode cX4_find 2 = .ok (.putfield 301, 3) := by decide +kernel
theorem dX4_find_5 : decode cX4_find 5 = .ok (.iload_n 1, 1) := by decide +kernel
theorem dX4_find_6 : decode cX4_find 6 = .ok (.iconst 1, 1) := by decide +kernel
theorem dX4_find_7 : decode cX4_find 7 = .ok (.if_icmp .lt 18, 3) := by decide +kernel
theorem dX4_find_10 : decode cX4_find 10 = .ok (.iload_n 1, 1) := by decide +kernel
theorem dX4_find_11 : decode cX4_find 11 = .ok (.iconst 5, 1) := by decide +kernel
theorem dX4_find_12 : decode cX4_find 12 = .ok (.if_icmp .gt 13, 3) := by decide +kernel
theorem dX4_find_15 : decode cX4_find 15 = .ok (.aload_n 0, 1) := by decide +kernel
theorem dX4_find_16 : decode cX4_find 16 = .ok (.getfield 61, 3) := by decide +kernel
theorem dX4_find_19 : decode cX4_find 19 = .ok (.iload_n 1, 1) := by decide +kernel
theorem dX4_find_20 : decode cX4_find 20 = .ok (.dup2, 1) := by decide +kernel
theorem dX4_find_21 : decode cX4_find 21 = .ok (.iaload, 1) := by decide +kernel
theorem dX4_find_22 : decode cX4_find 22 = .ok (.iconst 1, 1) := by decide +kernel
theorem dX4_find_23 : decode cX4_find 23 = .ok (.iadd, 1) := by decide +kernel
theorem dX4_find_24 : decode cX4_find 24 = .ok (.iastore, 1) := by decide +kernel
theorem dX4_find_25 : decode cX4_find 25 = .ok (.bipush (-3), 2) := by decide +kernel
theorem dX4_find_27 : decode cX4_find 27 = .ok (.ireturn, 1) := by decide +kernel
theorem dX4_tell_0 : decode cX4_tell 0 = .ok (.aload_n 0, 1) := by decide +kernel
theorem dX4_tell_1 : decode cX4_tell 1 = .ok (.iload_n 1, 1) := by decide +kernel
theorem dX4_tell_2 : decode cX4_tell 2 = .ok (.putfield 178, 3) := by decide +kernel
theorem dX4_tell_5 : decode cX4_tell 5 = .ok (.iconst 1, 1) := by decide +kernel
theorem dX4_tell_6 : decode cX4_tell 6 = .ok (.ireturn, 1) := by decide +kernel
theorem dX4_tellChance_0 : decode cX4_tellChance 0 = .ok (.lload_n 1, 1) := by decide +kernel
theorem dX4_tellChance_1 : decode cX4_tellChance 1 = .ok (.lstore 5, 2) := by decide +kernel
theorem dX4_tellChance_3 : decode cX4_tellChance 3 = .ok (.lload_n 3, 1) := by decide +kernel
theorem dX4_tellChance_4 : decode cX4_tellChance 4 = .ok (.lstore 7, 2) := by decide +kernel
theorem dX4_tellChance_6 : decode cX4_tellChance 6 = .ok (.iconst 0, 1) := by decide +kernel
theorem dX4_tellChance_7 : decode cX4_tellChance 7 = .ok (.istore 9, 2) := by decide +kernel
theorem dX4_tellChance_9 : decode cX4_tellChance 9 = .ok (.iload 9, 2) := by decide +kernel
theorem dX4_tellChance_11 : decode cX4_tellChance 11 = .ok (.bipush 100, 2) := by decide +kernel
theorem dX4_tellChance_13 : decode cX4_tellChance 13 = .ok (.if_icmp .ge 31, 3) := by decide +kernel
theorem dX4_tellChance_16 : decode cX4_tellChance 16 = .ok (.lload 7, 2) := by decide +kernel
theorem dX4_tellChance_18 : decode cX4_tellChance 18 = .ok (.lconst 0, 1) := by decide +kernel
theorem dX4_tellChance_19 : decode cX4_tellChance 19 = .ok (.lcmp, 1) := by decide +kernel
theorem dX4_tellChance_20 : decode cX4_tellChance 20 = .ok (.ifCond .eq 24, 3) := by decide +kernel
theorem dX4_tellChance_23 : decode cX4_tellChance 23 = .ok (.lload 5, 2) := by decide +kernel
theorem dX4_tellChance_25 : decode cX4_tellChance 25 = .ok (.lload 7, 2) := by decide +kernel
theorem dX4_tellChance_27 : decode cX4_tellChance 27 = .ok (.lrem, 1) := by decide +kernel
theorem dX4_tellChance_28 : decode cX4_tellChance 28 = .ok (.lstore 10, 2) := by decide +kernel
theorem dX4_tellChance_30 : decode cX4_tellChance 30 = .ok (.lload 7, 2) := by decide +kernel
theorem dX4_tellChance_32 : decode cX4_tellChance 32 = .ok (.lstore 5, 2) := by decide +kernel
theorem dX4_tellChance_34 : decode cX4_tellChance 34 = .ok (.lload 10, 2) := by decide +kernel
theorem dX4_tellChance_36 : decode cX4_tellChance 36 = .ok (.lstore 7, 2) := by decide +kernel
theorem dX4_tellChance_38 : decode cX4_tellChance 38 = .ok (.iinc 9 1, 3) := by decide +kernel
theorem dX4_tellChance_41 : decode cX4_tellChance 41 = .ok (.goto (-32), 3) := by decide +kernel
theorem dX4_tellChance_44 : decode cX4_tellChance 44 = .ok (.lload 5, 2) := by decide +kernel
theorem dX4_tellChance_46 : decode cX4_tellChance 46 = .ok (.lconst 0, 1) := by decide +kernel
theorem dX4_tellChance_47 : decode cX4_tellChance 47 = .ok (.lcmp, 1) := by decide +kernel
theorem dX4_tellChance_48 : decode cX4_tellChance 48 = .ok (.ifCond .le 19, 3) := by decide +kernel
theorem dX4_tellChance_51 : decode cX4_tellChance 51 = .ok (.aload_n 0, 1) := by decide +kernel
theorem dX4_tellChance_52 : decode cX4_tellChance 52 = .ok (.lload_n 1, 1) := by decide +kernel
theorem dX4_tellChance_53 : decode cX4_tellChance 53 = .ok (.lload 5, 2) := by decide +kernel
theorem dX4_tellChance_55 : decode cX4_tellChance 55 = .ok (.ldiv, 1) := by decide +kernel
theorem dX4_tellChance_56 : decode cX4_tellChance 56 = .ok (.putfield 286, 3) := by decide +kernel
theorem dX4_tellChance_59 : decode cX4_tellChance 59 = .ok (.aload_n 0, 1) := by decide +kernel
theorem dX4_tellChance_60 : decode cX4_tellChance 60 = .ok (.lload_n 3, 1) := by decide +kernel
theorem dX4_tellChance_61 : decode cX4_tellChance 61 = .ok (.lload 5, 2) := by decide +kernel
theorem dX4_tellChance_63 : decode cX4_tellChance 63 = .ok (.ldiv, 1) := by decide +kernel
theorem dX4_tellChance_64 : decode cX4_tellChance 64 = .ok (.putfield 64, 3) := by decide +kernel
theorem dX4_tellChance_67 : decode cX4_tellChance 67 = .ok (.return_, 1) := by decide +kernel
theorem dX4_hasRoom_0 : decode cX4_hasRoom 0 = .ok (.aload_n 0, 1) := by decide +kernel
theorem dX4_hasRoom_1 : decode cX4_hasRoom 1 = .ok (.getfield 21, 3) := by decide +kernel
theorem dX4_hasRoom_4 : decode cX4_hasRoom 4 = .ok (.iconst 3, 1) := by decide +kernel
theorem dX4_hasRoom_5 : decode cX4_hasRoom 5 = .ok (.invokevirtual 105, 3) := by decide +kernel
theorem dX4_hasRoom_8 : decode cX4_hasRoom 8 = .ok (.iload_n 1, 1) := by decide +kernel
theorem dX4_hasRoom_9 : decode cX4_hasRoom 9 = .ok (.iadd, 1) := by decide +kernel
theorem dX4_hasRoom_10 : decode cX4_hasRoom 10 = .ok (.bipush 40, 2) := by decide +kernel
theorem dX4_hasRoom_12 : decode cX4_hasRoom 12 = .ok (.if_icmp .gt 7, 3) := by decide +kernel
theorem dX4_hasRoom_15 : decode cX4_hasRoom 15 = .ok (.iconst 1, 1) := by decide +kernel
theorem dX4_hasRoom_16 : decode cX4_hasRoom 16 = .ok (.goto 4, 3) := by decide +kernel
theorem dX4_hasRoom_19 : decode cX4_hasRoom 19 = .ok (.iconst 0, 1) := by decide +kernel
theorem dX4_hasRoom_20 : decode cX4_hasRoom 20 = .ok (.ireturn, 1) := by decide +kernel
theorem dX4_act_0 : decode cX4_act 0 = .ok (.aload_n 0, 1) := by decide +kernel
theorem dX4_act_1 : decode cX4_act 1 = .ok (.getfield 21, 3) := by decide +kernel
theorem dX4_act_4 : decode cX4_act 4 = .ok (.iconst 3, 1) := by decide +kernel
theorem dX4_act_5 : decode cX4_act 5 = .ok (.iload_n 1, 1) := by decide +kernel
theorem dX4_act_6 : decode cX4_act 6 = .ok (.bipush 6, 2) := by decide +kernel
theorem dX4_act_8 : decode cX4_act 8 = .ok (.imul, 1) := by decide +kernel
theorem dX4_act_9 : decode cX4_act 9 = .ok (.iload_n 2, 1) := by decide +kernel
theorem dX4_act_10 : decode cX4_act 10 = .ok (.iadd, 1) := by decide +kernel
theorem dX4_act_11 : decode cX4_act 11 = .ok (.bipush 16, 2) := by decide +kernel
theorem dX4_act_13 : decode cX4_act 13 = .ok (.imul, 1) := by decide +kernel
theorem dX4_act_14 : decode cX4_act 14 = .ok (.iload_n 3, 1) := by decide +kernel
theorem dX4_act_15 : decode cX4_act 15 = .ok (.iadd, 1) := by decide +kernel
theorem dX4_act_16 : decode cX4_act 16 = .ok (.invokevirtual 314, 3) := by decide +kernel
theorem dX4_act_19 : decode cX4_act 19 = .ok (.aload_n 0, 1) := by decide +kernel
theorem dX4_act_20 : decode cX4_act 20 = .ok (.getfield 35, 3) := by decide +kernel
theorem dX4_act_23 : decode cX4_act 23 = .ok (.iload_n 1, 1) := by decide +kernel
theorem dX4_act_24 : decode cX4_act 24 = .ok (.iload_n 2, 1) := by decide +kernel
theorem dX4_act_25 : decode cX4_act 25 = .ok (.iload_n 3, 1) := by decide +kernel
theorem dX4_act_26 : decode cX4_act 26 = .ok (.invokevirtual 317, 3) := by decide +kernel
theorem dX4_act_29 : decode cX4_act 29 = .ok (.return_, 1) := by decide +kernel
theorem dX4_doAnew_0 : decode cX4_doAnew 0 = .ok (.aload_n 0, 1) := by decide +kernel
theorem dX4_doAnew_1 : decode cX4_doAnew 1 = .ok (.getfield 35, 3) := by decide +kernel
theorem dX4_doAnew_4 : decode cX4_doAnew 4 = .ok (.aload_n 0, 1) := by decide +kernel
theorem dX4_doAnew_5 : decode cX4_doAnew 5 = .ok (.getfield 31, 3) := by decide +kernel
theorem dX4_doAnew_8 : decode cX4_doAnew 8 = .ok (.invokevirtual 114, 3) := by decide +kernel
theorem dX4_doAnew_11 : decode cX4_doAnew 11 = .ok (.aload_n 0, 1) := by decide +kernel
theorem dX4_doAnew_12 : decode cX4_doAnew 12 = .ok (.getfield 21, 3) := by decide +kernel
theorem dX4_doAnew_15 : decode cX4_doAnew 15 = .ok (.iconst 3, 1) := by decide +kernel
theorem dX4_doAnew_16 : decode cX4_doAnew 16 = .ok (.invokevirtual 105, 3) := by decide +kernel
theorem dX4_doAnew_19 : decode cX4_doAnew 19 = .ok (.istore_n 1, 1) := by decide +kernel
theorem dX4_doAnew_20 : decode cX4_doAnew 20 = .ok (.iconst 0, 1) := by decide +kernel
theorem dX4_doAnew_21 : decode cX4_doAnew 21 = .ok (.istore_n 2, 1) := by decide +kernel
theorem dX4_doAnew_22 : decode cX4_doAnew 22 = .ok (.iload_n 2, 1) := by decide +kernel
theorem dX4_doAnew_23 : decode cX4_doAnew 23 = .ok (.iload_n 1, 1) := by decide +kernel
theorem dX4_doAnew_24 : decode cX4_doAnew 24 = .ok (.if_icmp .ge 44, 3) := by decide +kernel
theorem dX4_doAnew_27 : decode cX4_doAnew 27 = .ok (.aload_n 0, 1) := by decide +kernel
theorem dX4_doAnew_28 : decode cX4_doAnew 28 = .ok (.getfield 21, 3) := by decide +kernel
theorem dX4_doAnew_31 : decode cX4_doAnew 31 = .ok (.iconst 3, 1) := by decide +kernel
theorem dX4_doAnew_32 : decode cX4_doAnew 32 = .ok (.iload_n 2, 1) := by decide +kernel
theorem dX4_doAnew_33 : decode cX4_doAnew 33 = .ok (.invokevirtual 83, 3) := by decide +kernel
theorem dX4_doAnew_36 : decode cX4_doAnew 36 = .ok (.istore_n 3, 1) := by decide +kernel
theorem dX4_doAnew_37 : decode cX4_doAnew 37 = .ok (.aload_n 0, 1) := by decide +kernel
theorem dX4_doAnew_38 : decode cX4_doAnew 38 = .ok (.getfield 35, 3) := by decide +kernel
theorem dX4_doAnew_41 : decode cX4_doAnew 41 = .ok (.iload_n 3, 1) := by decide +kernel
theorem dX4_doAnew_42 : decode cX4_doAnew 42 = .ok (.bipush 16, 2) := by decide +kernel
theorem dX4_doAnew_44 : decode cX4_doAnew 44 = .ok (.idiv, 1) := by decide +kernel
theorem dX4_doAnew_45 : decode cX4_doAnew 45 = .ok (.bipush 6, 2) := by decide +kernel
theorem dX4_doAnew_47 : decode cX4_doAnew 47 = .ok (.idiv, 1) := by decide +kernel
theorem dX4_doAnew_48 : decode cX4_doAnew 48 = .ok (.iload_n 3, 1) := by decide +kernel
theorem dX4_doAnew_49 : decode cX4_doAnew 49 = .ok (.bipush 16, 2) := by decide +kernel
theorem dX4_doAnew_51 : decode cX4_doAnew 51 = .ok (.idiv, 1) := by decide +kernel
theorem dX4_doAnew_52 : decode cX4_doAnew 52 = .ok (.bipush 6, 2) := by decide +kernel
theorem dX4_doAnew_54 : decode cX4_doAnew 54 = .ok (.irem, 1) := by decide +kernel
theorem dX4_doAnew_55 : decode cX4_doAnew 55 = .ok (.iload_n 3, 1) := by decide +kernel
theorem dX4_doAnew_56 : decode cX4_doAnew 56 = .ok (.bipush 16, 2) := by decide +kernel
theorem dX4_doAnew_58 : decode cX4_doAnew 58 = .ok (.irem, 1) := by decide +kernel
theorem dX4_doAnew_59 : decode cX4_doAnew 59 = .ok (.invokevirtual 317, 3) := by decide +kernel
theorem dX4_doAnew_62 : decode cX4_doAnew 62 = .ok (.iinc 2 1, 3) := by decide +kernel
theorem dX4_doAnew_65 : decode cX4_doAnew 65 = .ok (.goto (-43), 3) := by decide +kernel
theorem dX4_doAnew_68 : decode cX4_doAnew 68 = .ok (.return_, 1) := by decide +kernel
theorem dX4_deedByLot_0 : decode cX4_deedByLot 0 = .ok (.iload_n 0, 1) := by decide +kernel
theorem dX4_deedByLot_1 : decode cX4_deedByLot 1 = .ok (.bipush 8, 2) := by decide +kernel
theorem dX4_deedByLot_3 : decode cX4_deedByLot 3 = .ok (.idiv, 1) := by decide +kernel
theorem dX4_deedByLot_4 : decode cX4_deedByLot 4 = .ok (.bipush 8, 2) := by decide +kernel
theorem dX4_deedByLot_6 : decode cX4_deedByLot 6 = .ok (.irem, 1) := by decide +kernel
theorem dX4_deedByLot_7 : decode cX4_deedByLot 7 = .ok (.tableswitch 37 4 7 #[29, 31, 33, 35], 29) := by decide +kernel
theorem dX4_deedByLot_36 : decode cX4_deedByLot 36 = .ok (.iconst 1, 1) := by decide +kernel
theorem dX4_deedByLot_37 : decode cX4_deedByLot 37 = .ok (.ireturn, 1) := by decide +kernel
theorem dX4_deedByLot_38 : decode cX4_deedByLot 38 = .ok (.iconst 2, 1) := by decide +kernel
theorem dX4_deedByLot_39 : decode cX4_deedByLot 39 = .ok (.ireturn, 1) := by decide +kernel
theorem dX4_deedByLot_40 : decode cX4_deedByLot 40 = .ok (.iconst 3, 1) := by decide +kernel
theorem dX4_deedByLot_41 : decode cX4_deedByLot 41 = .ok (.ireturn, 1) := by decide +kernel
theorem dX4_deedByLot_42 : decode cX4_deedByLot 42 = .ok (.iconst 4, 1) := by decide +kernel
theorem dX4_deedByLot_43 : decode cX4_deedByLot 43 = .ok (.ireturn, 1) := by decide +kernel
theorem dX4_deedByLot_44 : decode cX4_deedByLot 44 = .ok (.iconst 0, 1) := by decide +kernel
theorem dX4_deedByLot_45 : decode cX4_deedByLot 45 = .ok (.ireturn, 1) := by decide +kernel
theorem dX4_layOutCovers_0 : decode cX4_layOutCovers 0 = .ok (.iconst 0, 1) := by decide +kernel
theorem dX4_layOutCovers_1 : decode cX4_layOutCovers 1 = .ok (.istore_n 1, 1) := by decide +kernel
theorem dX4_layOutCovers_2 : decode cX4_layOutCovers 2 = .ok (.iload_n 1, 1) := by decide +kernel
theorem dX4_layOutCovers_3 : decode cX4_layOutCovers 3 = .ok (.aload_n 0, 1) := by decide +kernel
theorem dX4_layOutCovers_4 : decode cX4_layOutCovers 4 = .ok (.getfield 35, 3) := by decide +kernel
theorem dX4_layOutCovers_7 : decode cX4_layOutCovers 7 = .ok (.getfield 118, 3) := by decide +kernel
theorem dX4_layOutCovers_10 : decode cX4_layOutCovers 10 = .ok (.if_icmp .ge 57, 3) := by decide +kernel
theorem dX4_layOutCovers_13 : decode cX4_layOutCovers 13 = .ok (.iload_n 1, 1) := by decide +kernel
theorem dX4_layOutCovers_14 : decode cX4_layOutCovers 14 = .ok (.bipush 6, 2) := by decide +kernel
theorem dX4_layOutCovers_16 : decode cX4_layOutCovers 16 = .ok (.if_icmp .ge 51, 3) := by decide +kernel
theorem dX4_layOutCovers_19 : decode cX4_layOutCovers 19 = .ok (.iconst 0, 1) := by decide +kernel
theorem dX4_layOutCovers_20 : decode cX4_layOutCovers 20 = .ok (.istore_n 2, 1) := by decide +kernel
theorem dX4_layOutCovers_21 : decode cX4_layOutCovers 21 = .ok (.iload_n 2, 1) := by decide +kernel
theorem dX4_layOutCovers_22 : decode cX4_layOutCovers 22 = .ok (.bipush 16, 2) := by decide +kernel
theorem dX4_layOutCovers_24 : decode cX4_layOutCovers 24 = .ok (.if_icmp .ge 37, 3) := by decide +kernel
theorem dX4_layOutCovers_27 : decode cX4_layOutCovers 27 = .ok (.aload_n 0, 1) := by decide +kernel
theorem dX4_layOutCovers_28 : decode cX4_layOutCovers 28 = .ok (.getfield 57, 3) := by decide +kernel
theorem dX4_layOutCovers_31 : decode cX4_layOutCovers 31 = .ok (.iload_n 1, 1) := by decide +kernel
theorem dX4_layOutCovers_32 : decode cX4_layOutCovers 32 = .ok (.bipush 16, 2) := by decide +kernel
theorem dX4_layOutCovers_34 : decode cX4_layOutCovers 34 = .ok (.imul, 1) := by decide +kernel
theorem dX4_layOutCovers_35 : decode cX4_layOutCovers 35 = .ok (.iload_n 2, 1) := by decide +kernel
theorem dX4_layOutCovers_36 : decode cX4_layOutCovers 36 = .ok (.iadd, 1) := by decide +kernel
theorem dX4_layOutCovers_37 : decode cX4_layOutCovers 37 = .ok (.aload_n 0, 1) := by decide +kernel
theorem dX4_layOutCovers_38 : decode cX4_layOutCovers 38 = .ok (.getfield 35, 3) := by decide +kernel
theorem dX4_layOutCovers_41 : decode cX4_layOutCovers 41 = .ok (.iload_n 1, 1) := by decide +kernel
theorem dX4_layOutCovers_42 : decode cX4_layOutCovers 42 = .ok (.iload_n 2, 1) := by decide +kernel
theorem dX4_layOutCovers_43 : decode cX4_layOutCovers 43 = .ok (.aload_n 0, 1) := by decide +kernel
theorem dX4_layOutCovers_44 : decode cX4_layOutCovers 44 = .ok (.getfield 35, 3) := by decide +kernel
theorem dX4_layOutCovers_47 : decode cX4_layOutCovers 47 = .ok (.iload_n 1, 1) := by decide +kernel
theorem dX4_layOutCovers_48 : decode cX4_layOutCovers 48 = .ok (.invokevirtual 149, 3) := by decide +kernel
theorem dX4_layOutCovers_51 : decode cX4_layOutCovers 51 = .ok (.invokevirtual 174, 3) := by decide +kernel
theorem dX4_layOutCovers_54 : decode cX4_layOutCovers 54 = .ok (.iastore, 1) := by decide +kernel
theorem dX4_layOutCovers_55 : decode cX4_layOutCovers 55 = .ok (.iinc 2 1, 3) := by decide +kernel
theorem dX4_layOutCovers_58 : decode cX4_layOutCovers 58 = .ok (.goto (-37), 3) := by decide +kernel
theorem dX4_layOutCovers_61 : decode cX4_layOutCovers 61 = .ok (.iinc 1 1, 3) := by decide +kernel
theorem dX4_layOutCovers_64 : decode cX4_layOutCovers 64 = .ok (.goto (-62), 3) := by decide +kernel
theorem dX4_layOutCovers_67 : decode cX4_layOutCovers 67 = .ok (.return_, 1) := by decide +kernel
theorem dX4_foundByOne_0 : decode cX4_foundByOne 0 = .ok (.iconst 0, 1) := by decide +kernel
theorem dX4_foundByOne_1 : decode cX4_foundByOne 1 = .ok (.istore_n 3, 1) := by decide +kernel
theorem dX4_foundByOne_2 : decode cX4_foundByOne 2 = .ok (.iload_n 3, 1) := by decide +kernel
theorem dX4_foundByOne_3 : decode cX4_foundByOne 3 = .ok (.aload_n 0, 1) := by decide +kernel
theorem dX4_foundByOne_4 : decode cX4_foundByOne 4 = .ok (.getfield 35, 3) := by decide +kernel
theorem dX4_foundByOne_7 : decode cX4_foundByOne 7 = .ok (.getfield 118, 3) := by decide +kernel
theorem dX4_foundByOne_10 : decode cX4_foundByOne 10 = .ok (.if_icmp .ge 127, 3) := by decide +kernel
theorem dX4_foundByOne_13 : decode cX4_foundByOne 13 = .ok (.iload_n 3, 1) := by decide +kernel
theorem dX4_foundByOne_14 : decode cX4_foundByOne 14 = .ok (.bipush 6, 2) := by decide +kernel
theorem dX4_foundByOne_16 : decode cX4_foundByOne 16 = .ok (.if_icmp .ge 121, 3) := by decide +kernel
theorem dX4_foundByOne_19 : decode cX4_foundByOne 19 = .ok (.aload_n 0, 1) := by decide +kernel
theorem dX4_foundByOne_20 : decode cX4_foundByOne 20 = .ok (.getfield 35, 3) := by decide +kernel
theorem dX4_foundByOne_23 : decode cX4_foundByOne 23 = .ok (.iload_n 3, 1) := by decide +kernel
theorem dX4_foundByOne_24 : decode cX4_foundByOne 24 = .ok (.invokevirtual 320, 3) := by decide +kernel
theorem dX4_foundByOne_27 : decode cX4_foundByOne 27 = .ok (.ifCond .eq 6, 3) := by decide +kernel
theorem dX4_foundByOne_30 : decode cX4_foundByOne 30 = .ok (.goto 101, 3) := by decide +kernel
theorem dX4_foundByOne_33 : decode cX4_foundByOne 33 = .ok (.aload_n 0, 1) := by decide +kernel
theorem dX4_foundByOne_34 : decode cX4_foundByOne 34 = .ok (.getfield 35, 3) := by decide +kernel
theorem dX4_foundByOne_37 : decode cX4_foundByOne 37 = .ok (.iload_n 3, 1) := by decide +kernel
theorem dX4_foundByOne_38 : decode cX4_foundByOne 38 = .ok (.iload_n 3, 1) := by decide +kernel
theorem dX4_foundByOne_39 : decode cX4_foundByOne 39 = .ok (.invokevirtual 211, 3) := by decide +kernel
theorem dX4_foundByOne_42 : decode cX4_foundByOne 42 = .ok (.istore 4, 2) := by decide +kernel
theorem dX4_foundByOne_44 : decode cX4_foundByOne 44 = .ok (.iconst 0, 1) := by decide +kernel
theorem dX4_foundByOne_45 : decode cX4_foundByOne 45 = .ok (.istore 5, 2) := by decide +kernel
theorem dX4_foundByOne_47 : decode cX4_foundByOne 47 = .ok (.iload 5, 2) := by decide +kernel
theorem dX4_foundByOne_49 : decode cX4_foundByOne 49 = .ok (.bipush 16, 2) := by decide +kernel
theorem dX4_foundByOne_51 : decode cX4_foundByOne 51 = .ok (.if_icmp .ge 80, 3) := by decide +kernel
theorem dX4_foundByOne_54 : decode cX4_foundByOne 54 = .ok (.iload 4, 2) := by decide +kernel
theorem dX4_foundByOne_56 : decode cX4_foundByOne 56 = .ok (.aload_n 0, 1) := by decide +kernel
theorem dX4_foundByOne_57 : decode cX4_foundByOne 57 = .ok (.getfield 57, 3) := by decide +kernel
theorem dX4_foundByOne_60 : decode cX4_foundByOne 60 = .ok (.iload_n 3, 1) := by decide +kernel
theorem dX4_foundByOne_61 : decode cX4_foundByOne 61 = .ok (.bipush 16, 2) := by decide +kernel
theorem dX4_foundByOne_63 : decode cX4_foundByOne 63 = .ok (.imul, 1) := by decide +kernel
theorem dX4_foundByOne_64 : decode cX4_foundByOne 64 = .ok (.iload 5, 2) := by decide +kernel
theorem dX4_foundByOne_66 : decode cX4_foundByOne 66 = .ok (.iadd, 1) := by decide +kernel
theorem dX4_foundByOne_67 : decode cX4_foundByOne 67 = .ok (.iaload, 1) := by decide +kernel
theorem dX4_foundByOne_68 : decode cX4_foundByOne 68 = .ok (.ior, 1) := by decide +kernel
theorem dX4_foundByOne_69 : decode cX4_foundByOne 69 = .ok (.istore 6, 2) := by decide +kernel
theorem dX4_foundByOne_71 : decode cX4_foundByOne 71 = .ok (.aload_n 0, 1) := by decide +kernel
theorem dX4_foundByOne_72 : decode cX4_foundByOne 72 = .ok (.getfield 35, 3) := by decide +kernel
theorem dX4_foundByOne_75 : decode cX4_foundByOne 75 = .ok (.iload_n 1, 1) := by decide +kernel
theorem dX4_foundByOne_76 : decode cX4_foundByOne 76 = .ok (.iload 6, 2) := by decide +kernel
theorem dX4_foundByOne_78 : decode cX4_foundByOne 78 = .ok (.aload_n 0, 1) := by decide +kernel
theorem dX4_foundByOne_79 : decode cX4_foundByOne 79 = .ok (.getfield 35, 3) := by decide +kernel
theorem dX4_foundByOne_82 : decode cX4_foundByOne 82 = .ok (.getfield 161, 3) := by decide +kernel
theorem dX4_foundByOne_85 : decode cX4_foundByOne 85 = .ok (.iconst (-1), 1) := by decide +kernel
theorem dX4_foundByOne_86 : decode cX4_foundByOne 86 = .ok (.ixor, 1) := by decide +kernel
theorem dX4_foundByOne_87 : decode cX4_foundByOne 87 = .ok (.iand, 1) := by decide +kernel
theorem dX4_foundByOne_88 : decode cX4_foundByOne 88 = .ok (.invokevirtual 199, 3) := by decide +kernel
theorem dX4_foundByOne_91 : decode cX4_foundByOne 91 = .ok (.ifCond .eq 34, 3) := by decide +kernel
theorem dX4_foundByOne_94 : decode cX4_foundByOne 94 = .ok (.aload_n 0, 1) := by decide +kernel
theorem dX4_foundByOne_95 : decode cX4_foundByOne 95 = .ok (.getfield 14, 3) := by decide +kernel
theorem dX4_foundByOne_98 : decode cX4_foundByOne 98 = .ok (.iload_n 2, 1) := by decide +kernel
theorem dX4_foundByOne_99 : decode cX4_foundByOne 99 = .ok (.iconst 0, 1) := by decide +kernel
theorem dX4_foundByOne_100 : decode cX4_foundByOne 100 = .ok (.iconst 0, 1) := by decide +kernel
theorem dX4_foundByOne_101 : decode cX4_foundByOne 101 = .ok (.invokevirtual 24, 3) := by decide +kernel
theorem dX4_foundByOne_104 : decode cX4_foundByOne 104 = .ok (.aload_n 0, 1) := by decide +kernel
theorem dX4_foundByOne_105 : decode cX4_foundByOne 105 = .ok (.getfield 14, 3) := by decide +kernel
theorem dX4_foundByOne_108 : decode cX4_foundByOne 108 = .ok (.iload_n 2, 1) := by decide +kernel
theorem dX4_foundByOne_109 : decode cX4_foundByOne 109 = .ok (.iload_n 3, 1) := by decide +kernel
theorem dX4_foundByOne_110 : decode cX4_foundByOne 110 = .ok (.invokevirtual 314, 3) := by decide +kernel
theorem dX4_foundByOne_113 : decode cX4_foundByOne 113 = .ok (.aload_n 0, 1) := by decide +kernel
theorem dX4_foundByOne_114 : decode cX4_foundByOne 114 = .ok (.getfield 14, 3) := by decide +kernel
theorem dX4_foundByOne_117 : decode cX4_foundByOne 117 = .ok (.iload_n 2, 1) := by decide +kernel
theorem dX4_foundByOne_118 : decode cX4_foundByOne 118 = .ok (.iload 5, 2) := by decide +kernel
theorem dX4_foundByOne_120 : decode cX4_foundByOne 120 = .ok (.invokevirtual 314, 3) := by decide +kernel
theorem dX4_foundByOne_123 : decode cX4_foundByOne 123 = .ok (.iconst 1, 1) := by decide +kernel
theorem dX4_foundByOne_124 : decode cX4_foundByOne 124 = .ok (.ireturn, 1) := by decide +kernel
theorem dX4_foundByOne_125 : decode cX4_foundByOne 125 = .ok (.iinc 5 1, 3) := by decide +kernel
theorem dX4_foundByOne_128 : decode cX4_foundByOne 128 = .ok (.goto (-81), 3) := by decide +kernel
theorem dX4_foundByOne_131 : decode cX4_foundByOne 131 = .ok (.iinc 3 1, 3) := by decide +kernel
theorem dX4_foundByOne_134 : decode cX4_foundByOne 134 = .ok (.goto (-132), 3) := by decide +kernel
theorem dX4_foundByOne_137 : decode cX4_foundByOne 137 = .ok (.iconst 0, 1) := by decide +kernel
theorem dX4_foundByOne_138 : decode cX4_foundByOne 138 = .ok (.ireturn, 1) := by decide +kernel
theorem dX4_foundByTwo_0 : decode cX4_foundByTwo 0 = .ok (.iconst 0, 1) := by decide +kernel
theorem dX4_foundByTwo_1 : decode cX4_foundByTwo 1 = .ok (.istore_n 3, 1) := by decide +kernel
theorem dX4_foundByTwo_2 : decode cX4_foundByTwo 2 = .ok (.iload_n 3, 1) := by decide +kernel
theorem dX4_foundByTwo_3 : decode cX4_foundByTwo 3 = .ok (.aload_n 0, 1) := by decide +kernel
theorem dX4_foundByTwo_4 : decode cX4_foundByTwo 4 = .ok (.getfield 35, 3) := by decide +kernel
theorem dX4_foundByTwo_7 : decode cX4_foundByTwo 7 = .ok (.getfield 118, 3) := by decide +kernel
theorem dX4_foundByTwo_10 : decode cX4_foundByTwo 10 = .ok (.if_icmp .ge 69, 3) := by decide +kernel
theorem dX4_foundByTwo_13 : decode cX4_foundByTwo 13 = .ok (.iload_n 3, 1) := by decide +kernel
theorem dX4_foundByTwo_14 : decode cX4_foundByTwo 14 = .ok (.iconst 1, 1) := by decide +kernel
theorem dX4_foundByTwo_15 : decode cX4_foundByTwo 15 = .ok (.iadd, 1) := by decide +kernel
theorem dX4_foundByTwo_16 : decode cX4_foundByTwo 16 = .ok (.istore 4, 2) := by decide +kernel
theorem dX4_foundByTwo_18 : decode cX4_foundByTwo 18 = .ok (.iload 4, 2) := by decide +kernel
theorem dX4_foundByTwo_20 : decode cX4_foundByTwo 20 = .ok (.aload_n 0, 1) := by decide +kernel
theorem dX4_foundByTwo_21 : decode cX4_foundByTwo 21 = .ok (.getfield 35, 3) := by decide +kernel
theorem dX4_foundByTwo_24 : decode cX4_foundByTwo 24 = .ok (.getfield 118, 3) := by decide +kernel
theorem dX4_foundByTwo_27 : decode cX4_foundByTwo 27 = .ok (.if_icmp .ge 46, 3) := by decide +kernel
theorem dX4_foundByTwo_30 : decode cX4_foundByTwo 30 = .ok (.aload_n 0, 1) := by decide +kernel
theorem dX4_foundByTwo_31 : decode cX4_foundByTwo 31 = .ok (.getfield 35, 3) := by decide +kernel
theorem dX4_foundByTwo_34 : decode cX4_foundByTwo 34 = .ok (.iload_n 3, 1) := by decide +kernel
theorem dX4_foundByTwo_35 : decode cX4_foundByTwo 35 = .ok (.invokevirtual 320, 3) := by decide +kernel
theorem dX4_foundByTwo_38 : decode cX4_foundByTwo 38 = .ok (.ifCond .ne 29, 3) := by decide +kernel
theorem dX4_foundByTwo_41 : decode cX4_foundByTwo 41 = .ok (.aload_n 0, 1) := by decide +kernel
theorem dX4_foundByTwo_42 : decode cX4_foundByTwo 42 = .ok (.getfield 35, 3) := by decide +kernel
theorem dX4_foundByTwo_45 : decode cX4_foundByTwo 45 = .ok (.iload 4, 2) := by decide +kernel
theorem dX4_foundByTwo_47 : decode cX4_foundByTwo 47 = .ok (.invokevirtual 320, 3) := by decide +kernel
theorem dX4_foundByTwo_50 : decode cX4_foundByTwo 50 = .ok (.ifCond .ne 17, 3) := by decide +kernel
theorem dX4_foundByTwo_53 : decode cX4_foundByTwo 53 = .ok (.aload_n 0, 1) := by decide +kernel
theorem dX4_foundByTwo_54 : decode cX4_foundByTwo 54 = .ok (.iload_n 1, 1) := by decide +kernel
theorem dX4_foundByTwo_55 : decode cX4_foundByTwo 55 = .ok (.iload_n 3, 1) := by decide +kernel
theorem dX4_foundByTwo_56 : decode cX4_foundByTwo 56 = .ok (.iload 4, 2) := by decide +kernel
theorem dX4_foundByTwo_58 : decode cX4_foundByTwo 58 = .ok (.iload_n 2, 1) := by decide +kernel
theorem dX4_foundByTwo_59 : decode cX4_foundByTwo 59 = .ok (.invokevirtual 323, 3) := by decide +kernel
theorem dX4_foundByTwo_62 : decode cX4_foundByTwo 62 = .ok (.ifCond .eq 5, 3) := by decide +kernel
theorem dX4_foundByTwo_65 : decode cX4_foundByTwo 65 = .ok (.iconst 1, 1) := by decide +kernel
theorem dX4_foundByTwo_66 : decode cX4_foundByTwo 66 = .ok (.ireturn, 1) := by decide +kernel
theorem dX4_foundByTwo_67 : decode cX4_foundByTwo 67 = .ok (.iinc 4 1, 3) := by decide +kernel
theorem dX4_foundByTwo_70 : decode cX4_foundByTwo 70 = .ok (.goto (-52), 3) := by decide +kernel
theorem dX4_foundByTwo_73 : decode cX4_foundByTwo 73 = .ok (.iinc 3 1, 3) := by decide +kernel
theorem dX4_foundByTwo_76 : decode cX4_foundByTwo 76 = .ok (.goto (-74), 3) := by decide +kernel
theorem dX4_foundByTwo_79 : decode cX4_foundByTwo 79 = .ok (.iconst 0, 1) := by decide +kernel
theorem dX4_foundByTwo_80 : decode cX4_foundByTwo 80 = .ok (.ireturn, 1) := by decide +kernel
theorem dX4_foundByPair_0 : decode cX4_foundByPair 0 = .ok (.iload_n 2, 1) := by decide +kernel
theorem dX4_foundByPair_1 : decode cX4_foundByPair 1 = .ok (.bipush 6, 2) := by decide +kernel
theorem dX4_foundByPair_3 : decode cX4_foundByPair 3 = .ok (.invokestatic 124, 3) := by decide +kernel
theorem dX4_foundByPair_6 : decode cX4_foundByPair 6 = .ok (.ifCond .eq 12, 3) := by decide +kernel
theorem dX4_foundByPair_9 : decode cX4_foundByPair 9 = .ok (.iload_n 3, 1) := by decide +kernel
theorem dX4_foundByPair_10 : decode cX4_foundByPair 10 = .ok (.bipush 6, 2) := by decide +kernel
theorem dX4_foundByPair_12 : decode cX4_foundByPair 12 = .ok (.invokestatic 124, 3) := by decide +kernel
theorem dX4_foundByPair_15 : decode cX4_foundByPair 15 = .ok (.ifCond .ne 5, 3) := by decide +kernel
theorem dX4_foundByPair_18 : decode cX4_foundByPair 18 = .ok (.iconst 0, 1) := by decide +kernel
theorem dX4_foundByPair_19 : decode cX4_foundByPair 19 = .ok (.ireturn, 1) := by decide +kernel
theorem dX4_foundByPair_20 : decode cX4_foundByPair 20 = .ok (.aload_n 0, 1) := by decide +kernel
theorem dX4_foundByPair_21 : decode cX4_foundByPair 21 = .ok (.getfield 35, 3) := by decide +kernel
theorem dX4_foundByPair_24 : decode cX4_foundByPair 24 = .ok (.iload_n 2, 1) := by decide +kernel
theorem dX4_foundByPair_25 : decode cX4_foundByPair 25 = .ok (.iload_n 3, 1) := by decide +kernel
theorem dX4_foundByPair_26 : decode cX4_foundByPair 26 = .ok (.invokevirtual 211, 3) := by decide +kernel
theorem dX4_foundByPair_29 : decode cX4_foundByPair 29 = .ok (.istore 5, 2) := by decide +kernel
theorem dX4_foundByPair_31 : decode cX4_foundByPair 31 = .ok (.iconst 0, 1) := by decide +kernel
theorem dX4_foundByPair_32 : decode cX4_foundByPair 32 = .ok (.istore 6, 2) := by decide +kernel
theorem dX4_foundByPair_34 : decode cX4_foundByPair 34 = .ok (.iload 6, 2) := by decide +kernel
theorem dX4_foundByPair_36 : decode cX4_foundByPair 36 = .ok (.bipush 16, 2) := by decide +kernel
theorem dX4_foundByPair_38 : decode cX4_foundByPair 38 = .ok (.if_icmp .ge 137, 3) := by decide +kernel
theorem dX4_foundByPair_41 : decode cX4_foundByPair 41 = .ok (.iload 5, 2) := by decide +kernel
theorem dX4_foundByPair_43 : decode cX4_foundByPair 43 = .ok (.aload_n 0, 1) := by decide +kernel
theorem dX4_foundByPair_44 : decode cX4_foundByPair 44 = .ok (.getfield 57, 3) := by decide +kernel
theorem dX4_foundByPair_47 : decode cX4_foundByPair 47 = .ok (.iload_n 2, 1) := by decide +kernel
theorem dX4_foundByPair_48 : decode cX4_foundByPair 48 = .ok (.bipush 16, 2) := by decide +kernel
theorem dX4_foundByPair_50 : decode cX4_foundByPair 50 = .ok (.imul, 1) := by decide +kernel
theorem dX4_foundByPair_51 : decode cX4_foundByPair 51 = .ok (.iload 6, 2) := by decide +kernel
theorem dX4_foundByPair_53 : decode cX4_foundByPair 53 = .ok (.iadd, 1) := by decide +kernel
theorem dX4_foundByPair_54 : decode cX4_foundByPair 54 = .ok (.iaload, 1) := by decide +kernel
theorem dX4_foundByPair_55 : decode cX4_foundByPair 55 = .ok (.ior, 1) := by decide +kernel
theorem dX4_foundByPair_56 : decode cX4_foundByPair 56 = .ok (.istore 7, 2) := by decide +kernel
theorem dX4_foundByPair_58 : decode cX4_foundByPair 58 = .ok (.iconst 0, 1) := by decide +kernel
theorem dX4_foundByPair_59 : decode cX4_foundByPair 59 = .ok (.istore 8, 2) := by decide +kernel
theorem dX4_foundByPair_61 : decode cX4_foundByPair 61 = .ok (.iload 8, 2) := by decide +kernel
theorem dX4_foundByPair_63 : decode cX4_foundByPair 63 = .ok (.bipush 16, 2) := by decide +kernel
theorem dX4_foundByPair_65 : decode cX4_foundByPair 65 = .ok (.if_icmp .ge 104, 3) := by decide +kernel
theorem dX4_foundByPair_68 : decode cX4_foundByPair 68 = .ok (.iload 7, 2) := by decide +kernel
theorem dX4_foundByPair_70 : decode cX4_foundByPair 70 = .ok (.aload_n 0, 1) := by decide +kernel
theorem dX4_foundByPair_71 : decode cX4_foundByPair 71 = .ok (.getfield 57, 3) := by decide +kernel
theorem dX4_foundByPair_74 : decode cX4_foundByPair 74 = .ok (.iload_n 3, 1) := by decide +kernel
theorem dX4_foundByPair_75 : decode cX4_foundByPair 75 = .ok (.bipush 16, 2) := by decide +kernel
theorem dX4_foundByPair_77 : decode cX4_foundByPair 77 = .ok (.imul, 1) := by decide +kernel
theorem dX4_foundByPair_78 : decode cX4_foundByPair 78 = .ok (.iload 8, 2) := by decide +kernel
theorem dX4_foundByPair_80 : decode cX4_foundByPair 80 = .ok (.iadd, 1) := by decide +kernel
theorem dX4_foundByPair_81 : decode cX4_foundByPair 81 = .ok (.iaload, 1) := by decide +kernel
theorem dX4_foundByPair_82 : decode cX4_foundByPair 82 = .ok (.ior, 1) := by decide +kernel
theorem dX4_foundByPair_83 : decode cX4_foundByPair 83 = .ok (.istore 9, 2) := by decide +kernel
theorem dX4_foundByPair_85 : decode cX4_foundByPair 85 = .ok (.aload_n 0, 1) := by decide +kernel
theorem dX4_foundByPair_86 : decode cX4_foundByPair 86 = .ok (.getfield 35, 3) := by decide +kernel
theorem dX4_foundByPair_89 : decode cX4_foundByPair 89 = .ok (.iload_n 1, 1) := by decide +kernel
theorem dX4_foundByPair_90 : decode cX4_foundByPair 90 = .ok (.iload 9, 2) := by decide +kernel
theorem dX4_foundByPair_92 : decode cX4_foundByPair 92 = .ok (.aload_n 0, 1) := by decide +kernel
theorem dX4_foundByPair_93 : decode cX4_foundByPair 93 = .ok (.getfield 35, 3) := by decide +kernel
theorem dX4_foundByPair_96 : decode cX4_foundByPair 96 = .ok (.getfield 161, 3) := by decide +kernel
theorem dX4_foundByPair_99 : decode cX4_foundByPair 99 = .ok (.iconst (-1), 1) := by decide +kernel
theorem dX4_foundByPair_100 : decode cX4_foundByPair 100 = .ok (.ixor, 1) := by decide +kernel
theorem dX4_foundByPair_101 : decode cX4_foundByPair 101 = .ok (.iand, 1) := by decide +kernel
theorem dX4_foundByPair_102 : decode cX4_foundByPair 102 = .ok (.invokevirtual 199, 3) := by decide +kernel
theorem dX4_foundByPair_105 : decode cX4_foundByPair 105 = .ok (.ifCond .eq 58, 3) := by decide +kernel
theorem dX4_foundByPair_108 : decode cX4_foundByPair 108 = .ok (.aload_n 0, 1) := by decide +kernel
theorem dX4_foundByPair_109 : decode cX4_foundByPair 109 = .ok (.getfield 14, 3) := by decide +kernel
theorem dX4_foundByPair_112 : decode cX4_foundByPair 112 = .ok (.iload 4, 2) := by decide +kernel
theorem dX4_foundByPair_114 : decode cX4_foundByPair 114 = .ok (.iconst 0, 1) := by decide +kernel
theorem dX4_foundByPair_115 : decode cX4_foundByPair 115 = .ok (.iconst 0, 1) := by decide +kernel
theorem dX4_foundByPair_116 : decode cX4_foundByPair 116 = .ok (.invokevirtual 24, 3) := by decide +kernel
theorem dX4_foundByPair_119 : decode cX4_foundByPair 119 = .ok (.aload_n 0, 1) := by decide +kernel
theorem dX4_foundByPair_120 : decode cX4_foundByPair 120 = .ok (.getfield 14, 3) := by decide +kernel
theorem dX4_foundByPair_123 : decode cX4_foundByPair 123 = .ok (.iload 4, 2) := by decide +kernel
theorem dX4_foundByPair_125 : decode cX4_foundByPair 125 = .ok (.iload_n 2, 1) := by decide +kernel
theorem dX4_foundByPair_126 : decode cX4_foundByPair 126 = .ok (.invokevirtual 314, 3) := by decide +kernel
theorem dX4_foundByPair_129 : decode cX4_foundByPair 129 = .ok (.aload_n 0, 1) := by decide +kernel
theorem dX4_foundByPair_130 : decode cX4_foundByPair 130 = .ok (.getfield 14, 3) := by decide +kernel
theorem dX4_foundByPair_133 : decode cX4_foundByPair 133 = .ok (.iload 4, 2) := by decide +kernel
theorem dX4_foundByPair_135 : decode cX4_foundByPair 135 = .ok (.iload 6, 2) := by decide +kernel
theorem dX4_foundByPair_137 : decode cX4_foundByPair 137 = .ok (.invokevirtual 314, 3) := by decide +kernel
theorem dX4_foundByPair_140 : decode cX4_foundByPair 140 = .ok (.aload_n 0, 1) := by decide +kernel
theorem dX4_foundByPair_141 : decode cX4_foundByPair 141 = .ok (.getfield 14, 3) := by decide +kernel
theorem dX4_foundByPair_144 : decode cX4_foundByPair 144 = .ok (.iload 4, 2) := by decide +kernel
theorem dX4_foundByPair_146 : decode cX4_foundByPair 146 = .ok (.iload_n 3, 1) := by decide +kernel
theorem dX4_foundByPair_147 : decode cX4_foundByPair 147 = .ok (.invokevirtual 314, 3) := by decide +kernel
theorem dX4_foundByPair_150 : decode cX4_foundByPair 150 = .ok (.aload_n 0, 1) := by decide +kernel
theorem dX4_foundByPair_151 : decode cX4_foundByPair 151 = .ok (.getfield 14, 3) := by decide +kernel
theorem dX4_foundByPair_154 : decode cX4_foundByPair 154 = .ok (.iload 4, 2) := by decide +kernel
theorem dX4_foundByPair_156 : decode cX4_foundByPair 156 = .ok (.iload 8, 2) := by decide +kernel
theorem dX4_foundByPair_158 : decode cX4_foundByPair 158 = .ok (.invokevirtual 314, 3) := by decide +kernel
theorem dX4_foundByPair_161 : decode cX4_foundByPair 161 = .ok (.iconst 1, 1) := by decide +kernel
theorem dX4_foundByPair_162 : decode cX4_foundByPair 162 = .ok (.ireturn, 1) := by decide +kernel
theorem dX4_foundByPair_163 : decode cX4_foundByPair 163 = .ok (.iinc 8 1, 3) := by decide +kernel
theorem dX4_foundByPair_166 : decode cX4_foundByPair 166 = .ok (.goto (-105), 3) := by decide +kernel
theorem dX4_foundByPair_169 : decode cX4_foundByPair 169 = .ok (.iinc 6 1, 3) := by decide +kernel
theorem dX4_foundByPair_172 : decode cX4_foundByPair 172 = .ok (.goto (-138), 3) := by decide +kernel
theorem dX4_foundByPair_175 : decode cX4_foundByPair 175 = .ok (.iconst 0, 1) := by decide +kernel
theorem dX4_foundByPair_176 : decode cX4_foundByPair 176 = .ok (.ireturn, 1) := by decide +kernel
theorem dX4_fitGapSets_0 : decode cX4_fitGapSets 0 = .ok (.aload_n 0, 1) := by decide +kernel
theorem dX4_fitGapSets_1 : decode cX4_fitGapSets 1 = .ok (.getfield 53, 3) := by decide +kernel
theorem dX4_fitGapSets_4 : decode cX4_fitGapSets 4 = .ok (.invokevirtual 327, 3) := by decide +kernel
theorem dX4_fitGapSets_7 : decode cX4_fitGapSets 7 = .ok (.aload_n 0, 1) := by decide +kernel
theorem dX4_fitGapSets_8 : decode cX4_fitGapSets 8 = .ok (.getfield 35, 3) := by decide +kernel
theorem dX4_fitGapSets_11 : decode cX4_fitGapSets 11 = .ok (.invokevirtual 181, 3) := by decide +kernel
theorem dX4_fitGapSets_14 : decode cX4_fitGapSets 14 = .ok (.istore_n 2, 1) := by decide +kernel
theorem dX4_fitGapSets_15 : decode cX4_fitGapSets 15 = .ok (.iconst 0, 1) := by decide +kernel
theorem dX4_fitGapSets_16 : decode cX4_fitGapSets 16 = .ok (.istore_n 3, 1) := by decide +kernel
theorem dX4_fitGapSets_17 : decode cX4_fitGapSets 17 = .ok (.iconst 0, 1) := by decide +kernel
theorem dX4_fitGapSets_18 : decode cX4_fitGapSets 18 = .ok (.istore 4, 2) := by decide +kernel
theorem dX4_fitGapSets_20 : decode cX4_fitGapSets 20 = .ok (.iload 4, 2) := by decide +kernel
theorem dX4_fitGapSets_22 : decode cX4_fitGapSets 22 = .ok (.sipush 256, 3) := by decide +kernel
theorem dX4_fitGapSets_25 : decode cX4_fitGapSets 25 = .ok (.if_icmp .ge 56, 3) := by decide +kernel
theorem dX4_fitGapSets_28 : decode cX4_fitGapSets 28 = .ok (.aload_n 0, 1) := by decide +kernel
theorem dX4_fitGapSets_29 : decode cX4_fitGapSets 29 = .ok (.getfield 35, 3) := by decide +kernel
theorem dX4_fitGapSets_32 : decode cX4_fitGapSets 32 = .ok (.iload_n 2, 1) := by decide +kernel
theorem dX4_fitGapSets_33 : decode cX4_fitGapSets 33 = .ok (.iload_n 3, 1) := by decide +kernel
theorem dX4_fitGapSets_34 : decode cX4_fitGapSets 34 = .ok (.ior, 1) := by decide +kernel
theorem dX4_fitGapSets_35 : decode cX4_fitGapSets 35 = .ok (.invokevirtual 214, 3) := by decide +kernel
theorem dX4_fitGapSets_38 : decode cX4_fitGapSets 38 = .ok (.iload_n 1, 1) := by decide +kernel
theorem dX4_fitGapSets_39 : decode cX4_fitGapSets 39 = .ok (.if_icmp .ne 11, 3) := by decide +kernel
theorem dX4_fitGapSets_42 : decode cX4_fitGapSets 42 = .ok (.aload_n 0, 1) := by decide +kernel
theorem dX4_fitGapSets_43 : decode cX4_fitGapSets 43 = .ok (.getfield 53, 3) := by decide +kernel
theorem dX4_fitGapSets_46 : decode cX4_fitGapSets 46 = .ok (.iload_n 3, 1) := by decide +kernel
theorem dX4_fitGapSets_47 : decode cX4_fitGapSets 47 = .ok (.invokevirtual 330, 3) := by decide +kernel
theorem dX4_fitGapSets_50 : decode cX4_fitGapSets 50 = .ok (.iload_n 3, 1) := by decide +kernel
theorem dX4_fitGapSets_51 : decode cX4_fitGapSets 51 = .ok (.aload_n 0, 1) := by decide +kernel
theorem dX4_fitGapSets_52 : decode cX4_fitGapSets 52 = .ok (.getfield 35, 3) := by decide +kernel
theorem dX4_fitGapSets_55 : decode cX4_fitGapSets 55 = .ok (.getfield 161, 3) := by decide +kernel
theorem dX4_fitGapSets_58 : decode cX4_fitGapSets 58 = .ok (.isub, 1) := by decide +kernel
theorem dX4_fitGapSets_59 : decode cX4_fitGapSets 59 = .ok (.aload_n 0, 1) := by decide +kernel
theorem dX4_fitGapSets_60 : decode cX4_fitGapSets 60 = .ok (.getfield 35, 3) := by decide +kernel
theorem dX4_fitGapSets_63 : decode cX4_fitGapSets 63 = .ok (.getfield 161, 3) := by decide +kernel
theorem dX4_fitGapSets_66 : decode cX4_fitGapSets 66 = .ok (.iand, 1) := by decide +kernel
theorem dX4_fitGapSets_67 : decode cX4_fitGapSets 67 = .ok (.istore_n 3, 1) := by decide +kernel
theorem dX4_fitGapSets_68 : decode cX4_fitGapSets 68 = .ok (.iload_n 3, 1) := by decide +kernel
theorem dX4_fitGapSets_69 : decode cX4_fitGapSets 69 = .ok (.ifCond .ne 6, 3) := by decide +kernel
theorem dX4_fitGapSets_72 : decode cX4_fitGapSets 72 = .ok (.goto 9, 3) := by decide +kernel
theorem dX4_fitGapSets_75 : decode cX4_fitGapSets 75 = .ok (.iinc 4 1, 3) := by decide +kernel
theorem dX4_fitGapSets_78 : decode cX4_fitGapSets 78 = .ok (.goto (-58), 3) := by decide +kernel
theorem dX4_fitGapSets_81 : decode cX4_fitGapSets 81 = .ok (.return_, 1) := by decide +kernel
theorem dX4_fitLengthSets_0 : decode cX4_fitLengthSets 0 = .ok (.aload_n 0, 1) := by decide +kernel
theorem dX4_fitLengthSets_1 : decode cX4_fitLengthSets 1 = .ok (.getfield 53, 3) := by decide +kernel
theorem dX4_fitLengthSets_4 : decode cX4_fitLengthSets 4 = .ok (.invokevirtual 327, 3) := by decide +kernel
theorem dX4_fitLengthSets_7 : decode cX4_fitLengthSets 7 = .ok (.aload_n 0, 1) := by decide +kernel
theorem dX4_fitLengthSets_8 : decode cX4_fitLengthSets 8 = .ok (.getfield 35, 3) := by decide +kernel
theorem dX4_fitLengthSets_11 : decode cX4_fitLengthSets 11 = .ok (.invokevirtual 256, 3) := by decide +kernel
theorem dX4_fitLengthSets_14 : decode cX4_fitLengthSets 14 = .ok (.istore_n 2, 1) := by decide +kernel
theorem dX4_fitLengthSets_15 : decode cX4_fitLengthSets 15 = .ok (.iconst 0, 1) := by decide +kernel
theorem dX4_fitLengthSets_16 : decode cX4_fitLengthSets 16 = .ok (.istore_n 3, 1) := by decide +kernel
theorem dX4_fitLengthSets_17 : decode cX4_fitLengthSets 17 = .ok (.iload_n 3, 1) := by decide +kernel
theorem dX4_fitLengthSets_18 : decode cX4_fitLengthSets 18 = .ok (.iload_n 2, 1) := by decide +kernel
theorem dX4_fitLengthSets_19 : decode cX4_fitLengthSets 19 = .ok (.if_icmp .gt 29, 3) := by decide +kernel
theorem dX4_fitLengthSets_22 : decode cX4_fitLengthSets 22 = .ok (.aload_n 0, 1) := by decide +kernel
theorem dX4_fitLengthSets_23 : decode cX4_fitLengthSets 23 = .ok (.getfield 35, 3) := by decide +kernel
theorem dX4_fitLengthSets_26 : decode cX4_fitLengthSets 26 = .ok (.iload_n 3, 1) := by decide +kernel
theorem dX4_fitLengthSets_27 : decode cX4_fitLengthSets 27 = .ok (.invokevirtual 333, 3) := by decide +kernel
theorem dX4_fitLengthSets_30 : decode cX4_fitLengthSets 30 = .ok (.iload_n 1, 1) := by decide +kernel
theorem dX4_fitLengthSets_31 : decode cX4_fitLengthSets 31 = .ok (.if_icmp .ne 11, 3) := by decide +kernel
theorem dX4_fitLengthSets_34 : decode cX4_fitLengthSets 34 = .ok (.aload_n 0, 1) := by decide +kernel
theorem dX4_fitLengthSets_35 : decode cX4_fitLengthSets 35 = .ok (.getfield 53, 3) := by decide +kernel
theorem dX4_fitLengthSets_38 : decode cX4_fitLengthSets 38 = .ok (.iload_n 3, 1) := by decide +kernel
theorem dX4_fitLengthSets_39 : decode cX4_fitLengthSets 39 = .ok (.invokevirtual 330, 3) := by decide +kernel
theorem dX4_fitLengthSets_42 : decode cX4_fitLengthSets 42 = .ok (.iinc 3 1, 3) := by decide +kernel
theorem dX4_fitLengthSets_45 : decode cX4_fitLengthSets 45 = .ok (.goto (-28), 3) := by decide +kernel
theorem dX4_fitLengthSets_48 : decode cX4_fitLengthSets 48 = .ok (.return_, 1) := by decide +kernel
theorem dX4_flawOfSeen_0 : decode cX4_flawOfSeen 0 = .ok (.aload_n 0, 1) := by decide +kernel
theorem dX4_flawOfSeen_1 : decode cX4_flawOfSeen 1 = .ok (.getfield 14, 3) := by decide +kernel
theorem dX4_flawOfSeen_4 : decode cX4_flawOfSeen 4 = .ok (.iload_n 1, 1) := by decide +kernel
theorem dX4_flawOfSeen_5 : decode cX4_flawOfSeen 5 = .ok (.invokevirtual 105, 3) := by decide +kernel
theorem dX4_flawOfSeen_8 : decode cX4_flawOfSeen 8 = .ok (.istore_n 2, 1) := by decide +kernel
theorem dX4_flawOfSeen_9 : decode cX4_flawOfSeen 9 = .ok (.aload_n 0, 1) := by decide +kernel
theorem dX4_flawOfSeen_10 : decode cX4_flawOfSeen 10 = .ok (.getfield 14, 3) := by decide +kernel
theorem dX4_flawOfSeen_13 : decode cX4_flawOfSeen 13 = .ok (.iload_n 1, 1) := by decide +kernel
theorem dX4_flawOfSeen_14 : decode cX4_flawOfSeen 14 = .ok (.invokevirtual 76, 3) := by decide +kernel
theorem dX4_flawOfSeen_17 : decode cX4_flawOfSeen 17 = .ok (.ifCond .eq 5, 3) := by decide +kernel
theorem dX4_flawOfSeen_20 : decode cX4_flawOfSeen 20 = .ok (.iconst 1, 1) := by decide +kernel
theorem dX4_flawOfSeen_21 : decode cX4_flawOfSeen 21 = .ok (.ireturn, 1) := by decide +kernel
theorem dX4_flawOfSeen_22 : decode cX4_flawOfSeen 22 = .ok (.iload_n 2, 1) := by decide +kernel
theorem dX4_flawOfSeen_23 : decode cX4_flawOfSeen 23 = .ok (.iconst 1, 1) := by decide +kernel
theorem dX4_flawOfSeen_24 : decode cX4_flawOfSeen 24 = .ok (.if_icmp .lt 9, 3) := by decide +kernel
theorem dX4_flawOfSeen_27 : decode cX4_flawOfSeen 27 = .ok (.iload_n 2, 1) := by decide +kernel
theorem dX4_flawOfSeen_28 : decode cX4_flawOfSeen 28 = .ok (.bipush 10, 2) := by decide +kernel
theorem dX4_flawOfSeen_30 : decode cX4_flawOfSeen 30 = .ok (.if_icmp .le 5, 3) := by decide +kernel
theorem dX4_flawOfSeen_33 : decode cX4_flawOfSeen 33 = .ok (.iconst 5, 1) := by decide +kernel
theorem dX4_flawOfSeen_34 : decode cX4_flawOfSeen 34 = .ok (.ireturn, 1) := by decide +kernel
theorem dX4_flawOfSeen_35 : decode cX4_flawOfSeen 35 = .ok (.iconst 0, 1) := by decide +kernel
theorem dX4_flawOfSeen_36 : decode cX4_flawOfSeen 36 = .ok (.istore_n 3, 1) := by decide +kernel
theorem dX4_flawOfSeen_37 : decode cX4_flawOfSeen 37 = .ok (.iload_n 3, 1) := by decide +kernel
theorem dX4_flawOfSeen_38 : decode cX4_flawOfSeen 38 = .ok (.iload_n 2, 1) := by decide +kernel
theorem dX4_flawOfSeen_39 : decode cX4_flawOfSeen 39 = .ok (.if_icmp .ge 26, 3) := by decide +kernel
theorem dX4_flawOfSeen_42 : decode cX4_flawOfSeen 42 = .ok (.aload_n 0, 1) := by decide +kernel
theorem dX4_flawOfSeen_43 : decode cX4_flawOfSeen 43 = .ok (.getfield 14, 3) := by decide +kernel
theorem dX4_flawOfSeen_46 : decode cX4_flawOfSeen 46 = .ok (.iload_n 1, 1) := by decide +kernel
theorem dX4_flawOfSeen_47 : decode cX4_flawOfSeen 47 = .ok (.iload_n 3, 1) := by decide +kernel
theorem dX4_flawOfSeen_48 : decode cX4_flawOfSeen 48 = .ok (.invokevirtual 83, 3) := by decide +kernel
theorem dX4_flawOfSeen_51 : decode cX4_flawOfSeen 51 = .ok (.invokestatic 196, 3) := by decide +kernel
theorem dX4_flawOfSeen_54 : decode cX4_flawOfSeen 54 = .ok (.ifCond .ne 5, 3) := by decide +kernel
theorem dX4_flawOfSeen_57 : decode cX4_flawOfSeen 57 = .ok (.iconst 3, 1) := by decide +kernel
theorem dX4_flawOfSeen_58 : decode cX4_flawOfSeen 58 = .ok (.ireturn, 1) := by decide +kernel
theorem dX4_flawOfSeen_59 : decode cX4_flawOfSeen 59 = .ok (.iinc 3 1, 3) := by decide +kernel
theorem dX4_flawOfSeen_62 : decode cX4_flawOfSeen 62 = .ok (.goto (-25), 3) := by decide +kernel
theorem dX4_flawOfSeen_65 : decode cX4_flawOfSeen 65 = .ok (.iconst 0, 1) := by decide +kernel
theorem dX4_flawOfSeen_66 : decode cX4_flawOfSeen 66 = .ok (.ireturn, 1) := by decide +kernel
theorem dX4_asideFits_0 : decode cX4_asideFits 0 = .ok (.aload_n 0, 1) := by decide +kernel
theorem dX4_asideFits_1 : decode cX4_asideFits 1 = .ok (.getfield 14, 3) := by decide +kernel
theorem dX4_asideFits_4 : decode cX4_asideFits 4 = .ok (.iload_n 1, 1) := by decide +kernel
theorem dX4_asideFits_5 : decode cX4_asideFits 5 = .ok (.invokevirtual 105, 3) := by decide +kernel
theorem dX4_asideFits_8 : decode cX4_asideFits 8 = .ok (.istore_n 2, 1) := by decide +kernel
theorem dX4_asideFits_9 : decode cX4_asideFits 9 = .ok (.iconst 0, 1) := by decide +kernel
theorem dX4_asideFits_10 : decode cX4_asideFits 10 = .ok (.istore_n 3, 1) := by decide +kernel
theorem dX4_asideFits_11 : decode cX4_asideFits 11 = .ok (.iload_n 3, 1) := by decide +kernel
theorem dX4_asideFits_12 : decode cX4_asideFits 12 = .ok (.iload_n 2, 1) := by decide +kernel
theorem dX4_asideFits_13 : decode cX4_asideFits 13 = .ok (.if_icmp .ge 37, 3) := by decide +kernel
theorem dX4_asideFits_16 : decode cX4_asideFits 16 = .ok (.aload_n 0, 1) := by decide +kernel
theorem dX4_asideFits_17 : decode cX4_asideFits 17 = .ok (.getfield 38, 3) := by decide +kernel
theorem dX4_asideFits_20 : decode cX4_asideFits 20 = .ok (.invokevirtual 193, 3) := by decide +kernel
theorem dX4_asideFits_23 : decode cX4_asideFits 23 = .ok (.aload_n 0, 1) := by decide +kernel
theorem dX4_asideFits_24 : decode cX4_asideFits 24 = .ok (.getfield 38, 3) := by decide +kernel
theorem dX4_asideFits_27 : decode cX4_asideFits 27 = .ok (.invokevirtual 142, 3) := by decide +kernel
theorem dX4_asideFits_30 : decode cX4_asideFits 30 = .ok (.aload_n 0, 1) := by decide +kernel
theorem dX4_asideFits_31 : decode cX4_asideFits 31 = .ok (.getfield 14, 3) := by decide +kernel
theorem dX4_asideFits_34 : decode cX4_asideFits 34 = .ok (.iload_n 1, 1) := by decide +kernel
theorem dX4_asideFits_35 : decode cX4_asideFits 35 = .ok (.iload_n 3, 1) := by decide +kernel
theorem dX4_asideFits_36 : decode cX4_asideFits 36 = .ok (.invokevirtual 83, 3) := by decide +kernel
theorem dX4_asideFits_39 : decode cX4_asideFits 39 = .ok (.if_icmp .eq 5, 3) := by decide +kernel
theorem dX4_asideFits_42 : decode cX4_asideFits 42 = .ok (.iconst 0, 1) := by decide +kernel
theorem dX4_asideFits_43 : decode cX4_asideFits 43 = .ok (.ireturn, 1) := by decide +kernel
theorem dX4_asideFits_44 : decode cX4_asideFits 44 = .ok (.iinc 3 1, 3) := by decide +kernel
theorem dX4_asideFits_47 : decode cX4_asideFits 47 = .ok (.goto (-36), 3) := by decide +kernel
theorem dX4_asideFits_50 : decode cX4_asideFits 50 = .ok (.iconst 1, 1) := by decide +kernel
theorem dX4_asideFits_51 : decode cX4_asideFits 51 = .ok (.ireturn, 1) := by decide +kernel
theorem dX4_fittingPlaces_0 : decode cX4_fittingPlaces 0 = .ok (.iconst 0, 1) := by decide +kernel
theorem dX4_fittingPlaces_1 : decode cX4_fittingPlaces 1 = .ok (.istore_n 3, 1) := by decide +kernel
theorem dX4_fittingPlaces_2 : decode cX4_fittingPlaces 2 = .ok (.iconst 0, 1) := by decide +kernel
theorem dX4_fittingPlaces_3 : decode cX4_fittingPlaces 3 = .ok (.istore 4, 2) := by decide +kernel
theorem dX4_fittingPlaces_5 : decode cX4_fittingPlaces 5 = .ok (.iload 4, 2) := by decide +kernel
theorem dX4_fittingPlaces_7 : decode cX4_fittingPlaces 7 = .ok (.bipush 16, 2) := by decide +kernel
theorem dX4_fittingPlaces_9 : decode cX4_fittingPlaces 9 = .ok (.if_icmp .ge 53, 3) := by decide +kernel
theorem dX4_fittingPlaces_12 : decode cX4_fittingPlaces 12 = .ok (.aload_n 0, 1) := by decide +kernel
theorem dX4_fittingPlaces_13 : decode cX4_fittingPlaces 13 = .ok (.getfield 38, 3) := by decide +kernel
theorem dX4_fittingPlaces_16 : decode cX4_fittingPlaces 16 = .ok (.aload_n 0, 1) := by decide +kernel
theorem dX4_fittingPlaces_17 : decode cX4_fittingPlaces 17 = .ok (.getfield 35, 3) := by decide +kernel
theorem dX4_fittingPlaces_20 : decode cX4_fittingPlaces 20 = .ok (.invokevirtual 114, 3) := by decide +kernel
theorem dX4_fittingPlaces_23 : decode cX4_fittingPlaces 23 = .ok (.aload_n 0, 1) := by decide +kernel
theorem dX4_fittingPlaces_24 : decode cX4_fittingPlaces 24 = .ok (.getfield 38, 3) := by decide +kernel
theorem dX4_fittingPlaces_27 : decode cX4_fittingPlaces 27 = .ok (.iload_n 1, 1) := by decide +kernel
theorem dX4_fittingPlaces_28 : decode cX4_fittingPlaces 28 = .ok (.iload 4, 2) := by decide +kernel
theorem dX4_fittingPlaces_30 : decode cX4_fittingPlaces 30 = .ok (.aload_n 0, 1) := by decide +kernel
theorem dX4_fittingPlaces_31 : decode cX4_fittingPlaces 31 = .ok (.getfield 35, 3) := by decide +kernel
theorem dX4_fittingPlaces_34 : decode cX4_fittingPlaces 34 = .ok (.iload_n 1, 1) := by decide +kernel
theorem dX4_fittingPlaces_35 : decode cX4_fittingPlaces 35 = .ok (.invokevirtual 149, 3) := by decide +kernel
theorem dX4_fittingPlaces_38 : decode cX4_fittingPlaces 38 = .ok (.invokevirtual 336, 3) := by decide +kernel
theorem dX4_fittingPlaces_41 : decode cX4_fittingPlaces 41 = .ok (.aload_n 0, 1) := by decide +kernel
theorem dX4_fittingPlaces_42 : decode cX4_fittingPlaces 42 = .ok (.iload_n 2, 1) := by decide +kernel
theorem dX4_fittingPlaces_43 : decode cX4_fittingPlaces 43 = .ok (.invokevirtual 339, 3) := by decide +kernel
theorem dX4_fittingPlaces_46 : decode cX4_fittingPlaces 46 = .ok (.ifCond .eq 10, 3) := by decide +kernel
theorem dX4_fittingPlaces_49 : decode cX4_fittingPlaces 49 = .ok (.iload_n 3, 1) := by decide +kernel
theorem dX4_fittingPlaces_50 : decode cX4_fittingPlaces 50 = .ok (.iconst 1, 1) := by decide +kernel
theorem dX4_fittingPlaces_51 : decode cX4_fittingPlaces 51 = .ok (.iload 4, 2) := by decide +kernel
theorem dX4_fittingPlaces_53 : decode cX4_fittingPlaces 53 = .ok (.ishl, 1) := by decide +kernel
theorem dX4_fittingPlaces_54 : decode cX4_fittingPlaces 54 = .ok (.ior, 1) := by decide +kernel
theorem dX4_fittingPlaces_55 : decode cX4_fittingPlaces 55 = .ok (.istore_n 3, 1) := by decide +kernel
theorem dX4_fittingPlaces_56 : decode cX4_fittingPlaces 56 = .ok (.iinc 4 1, 3) := by decide +kernel
theorem dX4_fittingPlaces_59 : decode cX4_fittingPlaces 59 = .ok (.goto (-54), 3) := by decide +kernel
theorem dX4_fittingPlaces_62 : decode cX4_fittingPlaces 62 = .ok (.iload_n 3, 1) := by decide +kernel
theorem dX4_fittingPlaces_63 : decode cX4_fittingPlaces 63 = .ok (.ireturn, 1) := by decide +kernel
theorem dX4_fittingKinds_0 : decode cX4_fittingKinds 0 = .ok (.iconst 0, 1) := by decide +kernel
theorem dX4_fittingKinds_1 : decode cX4_fittingKinds 1 = .ok (.istore_n 3, 1) := by decide +kernel
theorem dX4_fittingKinds_2 : decode cX4_fittingKinds 2 = .ok (.iconst 0, 1) := by decide +kernel
theorem dX4_fittingKinds_3 : decode cX4_fittingKinds 3 = .ok (.istore 4, 2) := by decide +kernel
theorem dX4_fittingKinds_5 : decode cX4_fittingKinds 5 = .ok (.iload 4, 2) := by decide +kernel
theorem dX4_fittingKinds_7 : decode cX4_fittingKinds 7 = .ok (.bipush 6, 2) := by decide +kernel
theorem dX4_fittingKinds_9 : decode cX4_fittingKinds 9 = .ok (.if_icmp .ge 45, 3) := by decide +kernel
theorem dX4_fittingKinds_12 : decode cX4_fittingKinds 12 = .ok (.aload_n 0, 1) := by decide +kernel
theorem dX4_fittingKinds_13 : decode cX4_fittingKinds 13 = .ok (.getfield 38, 3) := by decide +kernel
theorem dX4_fittingKinds_16 : decode cX4_fittingKinds 16 = .ok (.aload_n 0, 1) := by decide +kernel
theorem dX4_fittingKinds_17 : decode cX4_fittingKinds 17 = .ok (.getfield 35, 3) := by decide +kernel
theorem dX4_fittingKinds_20 : decode cX4_fittingKinds 20 = .ok (.invokevirtual 114, 3) := by decide +kernel
theorem dX4_fittingKinds_23 : decode cX4_fittingKinds 23 = .ok (.aload_n 0, 1) := by decide +kernel
theorem dX4_fittingKinds_24 : decode cX4_fittingKinds 24 = .ok (.getfield 38, 3) := by decide +kernel
theorem dX4_fittingKinds_27 : decode cX4_fittingKinds 27 = .ok (.iload_n 1, 1) := by decide +kernel
theorem dX4_fittingKinds_28 : decode cX4_fittingKinds 28 = .ok (.iload 4, 2) := by decide +kernel
theorem dX4_fittingKinds_30 : decode cX4_fittingKinds 30 = .ok (.invokevirtual 342, 3) := by decide +kernel
theorem dX4_fittingKinds_33 : decode cX4_fittingKinds 33 = .ok (.aload_n 0, 1) := by decide +kernel
theorem dX4_fittingKinds_34 : decode cX4_fittingKinds 34 = .ok (.iload_n 2, 1) := by decide +kernel
theorem dX4_fittingKinds_35 : decode cX4_fittingKinds 35 = .ok (.invokevirtual 339, 3) := by decide +kernel
theorem dX4_fittingKinds_38 : decode cX4_fittingKinds 38 = .ok (.ifCond .eq 10, 3) := by decide +kernel
theorem dX4_fittingKinds_41 : decode cX4_fittingKinds 41 = .ok (.iload_n 3, 1) := by decide +kernel
theorem dX4_fittingKinds_42 : decode cX4_fittingKinds 42 = .ok (.iconst 1, 1) := by decide +kernel
theorem dX4_fittingKinds_43 : decode cX4_fittingKinds 43 = .ok (.iload 4, 2) := by decide +kernel
theorem dX4_fittingKinds_45 : decode cX4_fittingKinds 45 = .ok (.ishl, 1) := by decide +kernel
theorem dX4_fittingKinds_46 : decode cX4_fittingKinds 46 = .ok (.ior, 1) := by decide +kernel
theorem dX4_fittingKinds_47 : decode cX4_fittingKinds 47 = .ok (.istore_n 3, 1) := by decide +kernel
theorem dX4_fittingKinds_48 : decode cX4_fittingKinds 48 = .ok (.iinc 4 1, 3) := by decide +kernel
theorem dX4_fittingKinds_51 : decode cX4_fittingKinds 51 = .ok (.goto (-46), 3) := by decide +kernel
theorem dX4_fittingKinds_54 : decode cX4_fittingKinds 54 = .ok (.iload_n 3, 1) := by decide +kernel
theorem dX4_fittingKinds_55 : decode cX4_fittingKinds 55 = .ok (.ireturn, 1) := by decide +kernel
theorem dX4_lineToLookAt_0 : decode cX4_lineToLookAt 0 = .ok (.iconst 0, 1) := by decide +kernel
theorem dX4_lineToLookAt_1 : decode cX4_lineToLookAt 1 = .ok (.istore 4, 2) := by decide +kernel
theorem dX4_lineToLookAt_3 : decode cX4_lineToLookAt 3 = .ok (.iload 4, 2) := by decide +kernel
theorem dX4_lineToLookAt_5 : decode cX4_lineToLookAt 5 = .ok (.bipush 16, 2) := by decide +kernel
theorem dX4_lineToLookAt_7 : decode cX4_lineToLookAt 7 = .ok (.if_icmp .ge 60, 3) := by decide +kernel
theorem dX4_lineToLookAt_10 : decode cX4_lineToLookAt 10 = .ok (.aload_n 0, 1) := by decide +kernel
theorem dX4_lineToLookAt_11 : decode cX4_lineToLookAt 11 = .ok (.getfield 38, 3) := by decide +kernel
theorem dX4_lineToLookAt_14 : decode cX4_lineToLookAt 14 = .ok (.aload_n 0, 1) := by decide +kernel
theorem dX4_lineToLookAt_15 : decode cX4_lineToLookAt 15 = .ok (.getfield 35, 3) := by decide +kernel
theorem dX4_lineToLookAt_18 : decode cX4_lineToLookAt 18 = .ok (.invokevirtual 114, 3) := by decide +kernel
theorem dX4_lineToLookAt_21 : decode cX4_lineToLookAt 21 = .ok (.aload_n 0, 1) := by decide +kernel
theorem dX4_lineToLookAt_22 : decode cX4_lineToLookAt 22 = .ok (.getfield 38, 3) := by decide +kernel
theorem dX4_lineToLookAt_25 : decode cX4_lineToLookAt 25 = .ok (.iload_n 1, 1) := by decide +kernel
theorem dX4_lineToLookAt_26 : decode cX4_lineToLookAt 26 = .ok (.iload 4, 2) := by decide +kernel
theorem dX4_lineToLookAt_28 : decode cX4_lineToLookAt 28 = .ok (.aload_n 0, 1) := by decide +kernel
theorem dX4_lineToLookAt_29 : decode cX4_lineToLookAt 29 = .ok (.getfield 35, 3) := by decide +kernel
theorem dX4_lineToLookAt_32 : decode cX4_lineToLookAt 32 = .ok (.iload_n 1, 1) := by decide +kernel
theorem dX4_lineToLookAt_33 : decode cX4_lineToLookAt 33 = .ok (.invokevirtual 149, 3) := by decide +kernel
theorem dX4_lineToLookAt_36 : decode cX4_lineToLookAt 36 = .ok (.invokevirtual 336, 3) := by decide +kernel
theorem dX4_lineToLookAt_39 : decode cX4_lineToLookAt 39 = .ok (.aload_n 0, 1) := by decide +kernel
theorem dX4_lineToLookAt_40 : decode cX4_lineToLookAt 40 = .ok (.getfield 38, 3) := by decide +kernel
theorem dX4_lineToLookAt_43 : decode cX4_lineToLookAt 43 = .ok (.iload_n 3, 1) := by decide +kernel
theorem dX4_lineToLookAt_44 : decode cX4_lineToLookAt 44 = .ok (.invokevirtual 187, 3) := by decide +kernel
theorem dX4_lineToLookAt_47 : decode cX4_lineToLookAt 47 = .ok (.aload_n 0, 1) := by decide +kernel
theorem dX4_lineToLookAt_48 : decode cX4_lineToLookAt 48 = .ok (.getfield 57, 3) := by decide +kernel
theorem dX4_lineToLookAt_51 : decode cX4_lineToLookAt 51 = .ok (.iload 4, 2) := by decide +kernel
theorem dX4_lineToLookAt_53 : decode cX4_lineToLookAt 53 = .ok (.aload_n 0, 1) := by decide +kernel
theorem dX4_lineToLookAt_54 : decode cX4_lineToLookAt 54 = .ok (.getfield 38, 3) := by decide +kernel
theorem dX4_lineToLookAt_57 : decode cX4_lineToLookAt 57 = .ok (.invokevirtual 142, 3) := by decide +kernel
theorem dX4_lineToLookAt_60 : decode cX4_lineToLookAt 60 = .ok (.iastore, 1) := by decide +kernel
theorem dX4_lineToLookAt_61 : decode cX4_lineToLookAt 61 = .ok (.iinc 4 1, 3) := by decide +kernel
theorem dX4_lineToLookAt_64 : decode cX4_lineToLookAt 64 = .ok (.goto (-61), 3) := by decide +kernel
theorem dX4_lineToLookAt_67 : decode cX4_lineToLookAt 67 = .ok (.iload_n 2, 1) := by decide +kernel
theorem dX4_lineToLookAt_68 : decode cX4_lineToLookAt 68 = .ok (.invokestatic 217, 3) := by decide +kernel
theorem dX4_lineToLookAt_71 : decode cX4_lineToLookAt 71 = .ok (.istore 4, 2) := by decide +kernel
theorem dX4_lineToLookAt_73 : decode cX4_lineToLookAt 73 = .ok (.iconst 0, 1) := by decide +kernel
theorem dX4_lineToLookAt_74 : decode cX4_lineToLookAt 74 = .ok (.istore 5, 2) := by decide +kernel
theorem dX4_lineToLookAt_76 : decode cX4_lineToLookAt 76 = .ok (.iload 4, 2) := by decide +kernel
theorem dX4_lineToLookAt_78 : decode cX4_lineToLookAt 78 = .ok (.iconst 1, 1) := by decide +kernel
theorem dX4_lineToLookAt_79 : decode cX4_lineToLookAt 79 = .ok (.iadd, 1) := by decide +kernel
theorem dX4_lineToLookAt_80 : decode cX4_lineToLookAt 80 = .ok (.istore 6, 2) := by decide +kernel
theorem dX4_lineToLookAt_82 : decode cX4_lineToLookAt 82 = .ok (.iconst 0, 1) := by decide +kernel
theorem dX4_lineToLookAt_83 : decode cX4_lineToLookAt 83 = .ok (.istore 7, 2) := by decide +kernel
theorem dX4_lineToLookAt_85 : decode cX4_lineToLookAt 85 = .ok (.iload 7, 2) := by decide +kernel
theorem dX4_lineToLookAt_87 : decode cX4_lineToLookAt 87 = .ok (.bipush 8, 2) := by decide +kernel
theorem dX4_lineToLookAt_89 : decode cX4_lineToLookAt 89 = .ok (.if_icmp .ge 79, 3) := by decide +kernel
theorem dX4_lineToLookAt_92 : decode cX4_lineToLookAt 92 = .ok (.iconst 0, 1) := by decide +kernel
theorem dX4_lineToLookAt_93 : decode cX4_lineToLookAt 93 = .ok (.istore 8, 2) := by decide +kernel
theorem dX4_lineToLookAt_95 : decode cX4_lineToLookAt 95 = .ok (.iconst 0, 1) := by decide +kernel
theorem dX4_lineToLookAt_96 : decode cX4_lineToLookAt 96 = .ok (.istore 9, 2) := by decide +kernel
theorem dX4_lineToLookAt_98 : decode cX4_lineToLookAt 98 = .ok (.iload 9, 2) := by decide +kernel
theorem dX4_lineToLookAt_100 : decode cX4_lineToLookAt 100 = .ok (.bipush 16, 2) := by decide +kernel
theorem dX4_lineToLookAt_102 : decode cX4_lineToLookAt 102 = .ok (.if_icmp .ge 33, 3) := by decide +kernel
theorem dX4_lineToLookAt_105 : decode cX4_lineToLookAt 105 = .ok (.iload 8, 2) := by decide +kernel
theorem dX4_lineToLookAt_107 : decode cX4_lineToLookAt 107 = .ok (.iload_n 2, 1) := by decide +kernel
theorem dX4_lineToLookAt_108 : decode cX4_lineToLookAt 108 = .ok (.iload 9, 2) := by decide +kernel
theorem dX4_lineToLookAt_110 : decode cX4_lineToLookAt 110 = .ok (.invokestatic 155, 3) := by decide +kernel
theorem dX4_lineToLookAt_113 : decode cX4_lineToLookAt 113 = .ok (.aload_n 0, 1) := by decide +kernel
theorem dX4_lineToLookAt_114 : decode cX4_lineToLookAt 114 = .ok (.getfield 57, 3) := by decide +kernel
theorem dX4_lineToLookAt_117 : decode cX4_lineToLookAt 117 = .ok (.iload 9, 2) := by decide +kernel
theorem dX4_lineToLookAt_119 : decode cX4_lineToLookAt 119 = .ok (.iaload, 1) := by decide +kernel
theorem dX4_lineToLookAt_120 : decode cX4_lineToLookAt 120 = .ok (.iload 7, 2) := by decide +kernel
theorem dX4_lineToLookAt_122 : decode cX4_lineToLookAt 122 = .ok (.invokestatic 155, 3) := by decide +kernel
theorem dX4_lineToLookAt_125 : decode cX4_lineToLookAt 125 = .ok (.imul, 1) := by decide +kernel
theorem dX4_lineToLookAt_126 : decode cX4_lineToLookAt 126 = .ok (.iadd, 1) := by decide +kernel
theorem dX4_lineToLookAt_127 : decode cX4_lineToLookAt 127 = .ok (.istore 8, 2) := by decide +kernel
theorem dX4_lineToLookAt_129 : decode cX4_lineToLookAt 129 = .ok (.iinc 9 1, 3) := by decide +kernel
theorem dX4_lineToLookAt_132 : decode cX4_lineToLookAt 132 = .ok (.goto (-34), 3) := by decide +kernel
theorem dX4_lineToLookAt_135 : decode cX4_lineToLookAt 135 = .ok (.iload 8, 2) := by decide +kernel
theorem dX4_lineToLookAt_137 : decode cX4_lineToLookAt 137 = .ok (.iload 4, 2) := by decide +kernel
theorem dX4_lineToLookAt_139 : decode cX4_lineToLookAt 139 = .ok (.iload 8, 2) := by decide +kernel
theorem dX4_lineToLookAt_141 : decode cX4_lineToLookAt 141 = .ok (.isub, 1) := by decide +kernel
theorem dX4_lineToLookAt_142 : decode cX4_lineToLookAt 142 = .ok (.invokestatic 345, 3) := by decide +kernel
theorem dX4_lineToLookAt_145 : decode cX4_lineToLookAt 145 = .ok (.istore 9, 2) := by decide +kernel
theorem dX4_lineToLookAt_147 : decode cX4_lineToLookAt 147 = .ok (.iload 9, 2) := by decide +kernel
theorem dX4_lineToLookAt_149 : decode cX4_lineToLookAt 149 = .ok (.iload 6, 2) := by decide +kernel
theorem dX4_lineToLookAt_151 : decode cX4_lineToLookAt 151 = .ok (.if_icmp .ge 11, 3) := by decide +kernel
theorem dX4_lineToLookAt_154 : decode cX4_lineToLookAt 154 = .ok (.iload 9, 2) := by decide +kernel
theorem dX4_lineToLookAt_156 : decode cX4_lineToLookAt 156 = .ok (.istore 6, 2) := by decide +kernel
theorem dX4_lineToLookAt_158 : decode cX4_lineToLookAt 158 = .ok (.iload 7, 2) := by decide +kernel
theorem dX4_lineToLookAt_160 : decode cX4_lineToLookAt 160 = .ok (.istore 5, 2) := by decide +kernel
theorem dX4_lineToLookAt_162 : decode cX4_lineToLookAt 162 = .ok (.iinc 7 1, 3) := by decide +kernel
theorem dX4_lineToLookAt_165 : decode cX4_lineToLookAt 165 = .ok (.goto (-80), 3) := by decide +kernel
theorem dX4_lineToLookAt_168 : decode cX4_lineToLookAt 168 = .ok (.aload_n 0, 1) := by decide +kernel
theorem dX4_lineToLookAt_169 : decode cX4_lineToLookAt 169 = .ok (.iload 6, 2) := by decide +kernel
theorem dX4_lineToLookAt_171 : decode cX4_lineToLookAt 171 = .ok (.putfield 178, 3) := by decide +kernel
theorem dX4_lineToLookAt_174 : decode cX4_lineToLookAt 174 = .ok (.iload 5, 2) := by decide +kernel
theorem dX4_lineToLookAt_176 : decode cX4_lineToLookAt 176 = .ok (.ireturn, 1) := by decide +kernel
theorem dX4_weighLiftedSets_0 : decode cX4_weighLiftedSets 0 = .ok (.aload_n 0, 1) := by decide +kernel
theorem dX4_weighLiftedSets_1 : decode cX4_weighLiftedSets 1 = .ok (.getfield 38, 3) := by decide +kernel
theorem dX4_weighLiftedSets_4 : decode cX4_weighLiftedSets 4 = .ok (.aload_n 0, 1) := by decide +kernel
theorem dX4_weighLiftedSets_5 : decode cX4_weighLiftedSets 5 = .ok (.getfield 35, 3) := by decide +kernel
theorem dX4_weighLiftedSets_8 : decode cX4_weighLiftedSets 8 = .ok (.invokevirtual 114, 3) := by decide +kernel
theorem dX4_weighLiftedSets_11 : decode cX4_weighLiftedSets 11 = .ok (.aload_n 0, 1) := by decide +kernel
theorem dX4_weighLiftedSets_12 : decode cX4_weighLiftedSets 12 = .ok (.getfield 38, 3) := by decide +kernel
theorem dX4_weighLiftedSets_15 : decode cX4_weighLiftedSets 15 = .ok (.iconst 0, 1) := by decide +kernel
theorem dX4_weighLiftedSets_16 : decode cX4_weighLiftedSets 16 = .ok (.putfield 152, 3) := by decide +kernel
theorem dX4_weighLiftedSets_19 : decode cX4_weighLiftedSets 19 = .ok (.aload_n 0, 1) := by decide +kernel
theorem dX4_weighLiftedSets_20 : decode cX4_weighLiftedSets 20 = .ok (.getfield 38, 3) := by decide +kernel
theorem dX4_weighLiftedSets_23 : decode cX4_weighLiftedSets 23 = .ok (.invokevirtual 193, 3) := by decide +kernel
theorem dX4_weighLiftedSets_26 : decode cX4_weighLiftedSets 26 = .ok (.aload_n 0, 1) := by decide +kernel
theorem dX4_weighLiftedSets_27 : decode cX4_weighLiftedSets 27 = .ok (.getfield 38, 3) := by decide +kernel
theorem dX4_weighLiftedSets_30 : decode cX4_weighLiftedSets 30 = .ok (.invokevirtual 256, 3) := by decide +kernel
theorem dX4_weighLiftedSets_33 : decode cX4_weighLiftedSets 33 = .ok (.istore_n 1, 1) := by decide +kernel
theorem dX4_weighLiftedSets_34 : decode cX4_weighLiftedSets 34 = .ok (.iconst 0, 1) := by decide +kernel
theorem dX4_weighLiftedSets_35 : decode cX4_weighLiftedSets 35 = .ok (.istore_n 2, 1) := by decide +kernel
theorem dX4_weighLiftedSets_36 : decode cX4_weighLiftedSets 36 = .ok (.iload_n 2, 1) := by decide +kernel
theorem dX4_weighLiftedSets_37 : decode cX4_weighLiftedSets 37 = .ok (.iload_n 1, 1) := by decide +kernel
theorem dX4_weighLiftedSets_38 : decode cX4_weighLiftedSets 38 = .ok (.if_icmp .gt 42, 3) := by decide +kernel
theorem dX4_weighLiftedSets_41 : decode cX4_weighLiftedSets 41 = .ok (.iload_n 2, 1) := by decide +kernel
theorem dX4_weighLiftedSets_42 : decode cX4_weighLiftedSets 42 = .ok (.aload_n 0, 1) := by decide +kernel
theorem dX4_weighLiftedSets_43 : decode cX4_weighLiftedSets 43 = .ok (.getfield 57, 3) := by decide +kernel
theorem dX4_weighLiftedSets_46 : decode cX4_weighLiftedSets 46 = .ok (.arraylength, 1) := by decide +kernel
theorem dX4_weighLiftedSets_47 : decode cX4_weighLiftedSets 47 = .ok (.if_icmp .ge 33, 3) := by decide +kernel
theorem dX4_weighLiftedSets_50 : decode cX4_weighLiftedSets 50 = .ok (.aload_n 0, 1) := by decide +kernel
theorem dX4_weighLiftedSets_51 : decode cX4_weighLiftedSets 51 = .ok (.getfield 38, 3) := by decide +kernel
theorem dX4_weighLiftedSets_54 : decode cX4_weighLiftedSets 54 = .ok (.iload_n 2, 1) := by decide +kernel
theorem dX4_weighLiftedSets_55 : decode cX4_weighLiftedSets 55 = .ok (.putfield 152, 3) := by decide +kernel
theorem dX4_weighLiftedSets_58 : decode cX4_weighLiftedSets 58 = .ok (.aload_n 0, 1) := by decide +kernel
theorem dX4_weighLiftedSets_59 : decode cX4_weighLiftedSets 59 = .ok (.getfield 57, 3) := by decide +kernel
theorem dX4_weighLiftedSets_62 : decode cX4_weighLiftedSets 62 = .ok (.iload_n 2, 1) := by decide +kernel
theorem dX4_weighLiftedSets_63 : decode cX4_weighLiftedSets 63 = .ok (.aload_n 0, 1) := by decide +kernel
theorem dX4_weighLiftedSets_64 : decode cX4_weighLiftedSets 64 = .ok (.getfield 38, 3) := by decide +kernel
theorem dX4_weighLiftedSets_67 : decode cX4_weighLiftedSets 67 = .ok (.invokevirtual 142, 3) := by decide +kernel
theorem dX4_weighLiftedSets_70 : decode cX4_weighLiftedSets 70 = .ok (.invokestatic 217, 3) := by decide +kernel
theorem dX4_weighLiftedSets_73 : decode cX4_weighLiftedSets 73 = .ok (.iastore, 1) := by decide +kernel
theorem dX4_weighLiftedSets_74 : decode cX4_weighLiftedSets 74 = .ok (.iinc 2 1, 3) := by decide +kernel
theorem dX4_weighLiftedSets_77 : decode cX4_weighLiftedSets 77 = .ok (.goto (-41), 3) := by decide +kernel
theorem dX4_weighLiftedSets_80 : decode cX4_weighLiftedSets 80 = .ok (.return_, 1) := by decide +kernel
theorem dX4_valueOf_0 : decode cX4_valueOf 0 = .ok (.iload_n 1, 1) := by decide +kernel
theorem dX4_valueOf_1 : decode cX4_valueOf 1 = .ok (.aload_n 0, 1) := by decide +kernel
theorem dX4_valueOf_2 : decode cX4_valueOf 2 = .ok (.getfield 57, 3) := by decide +kernel
theorem dX4_valueOf_5 : decode cX4_valueOf 5 = .ok (.arraylength, 1) := by decide +kernel
theorem dX4_valueOf_6 : decode cX4_valueOf 6 = .ok (.invokestatic 124, 3) := by decide +kernel
theorem dX4_valueOf_9 : decode cX4_valueOf 9 = .ok (.ifCond .eq 12, 3) := by decide +kernel
theorem dX4_valueOf_12 : decode cX4_valueOf 12 = .ok (.aload_n 0, 1) := by decide +kernel
theorem dX4_valueOf_13 : decode cX4_valueOf 13 = .ok (.getfield 57, 3) := by decide +kernel
theorem dX4_valueOf_16 : decode cX4_valueOf 16 = .ok (.iload_n 1, 1) := by decide +kernel
theorem dX4_valueOf_17 : decode cX4_valueOf 17 = .ok (.iaload, 1) := by decide +kernel
theorem dX4_valueOf_18 : decode cX4_valueOf 18 = .ok (.goto 4, 3) := by decide +kernel
theorem dX4_valueOf_21 : decode cX4_valueOf 21 = .ok (.iconst 0, 1) := by decide +kernel
theorem dX4_valueOf_22 : decode cX4_valueOf 22 = .ok (.ireturn, 1) := by decide +kernel
theorem dX4_donChooses_0 : decode cX4_donChooses 0 = .ok (.aload_n 0, 1) := by decide +kernel
theorem dX4_donChooses_1 : decode cX4_donChooses 1 = .ok (.getfield 35, 3) := by decide +kernel
theorem dX4_donChooses_4 : decode cX4_donChooses 4 = .ok (.invokevirtual 256, 3) := by decide +kernel
theorem dX4_donChooses_7 : decode cX4_donChooses 7 = .ok (.aload_n 0, 1) := by decide +kernel
theorem dX4_donChooses_8 : decode cX4_donChooses 8 = .ok (.getfield 57, 3) := by decide +kernel
theorem dX4_donChooses_11 : decode cX4_donChooses 11 = .ok (.arraylength, 1) := by decide +kernel
theorem dX4_donChooses_12 : decode cX4_donChooses 12 = .ok (.iconst 1, 1) := by decide +kernel
theorem dX4_donChooses_13 : decode cX4_donChooses 13 = .ok (.isub, 1) := by decide +kernel
theorem dX4_donChooses_14 : decode cX4_donChooses 14 = .ok (.invokestatic 350, 3) := by decide +kernel
theorem dX4_donChooses_17 : decode cX4_donChooses 17 = .ok (.istore_n 1, 1) := by decide +kernel
theorem dX4_donChooses_18 : decode cX4_donChooses 18 = .ok (.iload_n 1, 1) := by decide +kernel
theorem dX4_donChooses_19 : decode cX4_donChooses 19 = .ok (.ifCond .lt 54, 3) := by decide +kernel
theorem dX4_donChooses_22 : decode cX4_donChooses 22 = .ok (.iconst 0, 1) := by decide +kernel
theorem dX4_donChooses_23 : decode cX4_donChooses 23 = .ok (.istore_n 2, 1) := by decide +kernel
theorem dX4_donChooses_24 : decode cX4_donChooses 24 = .ok (.iload_n 2, 1) := by decide +kernel
theorem dX4_donChooses_25 : decode cX4_donChooses 25 = .ok (.aload_n 0, 1) := by decide +kernel
theorem dX4_donChooses_26 : decode cX4_donChooses 26 = .ok (.getfield 35, 3) := by decide +kernel
theorem dX4_donChooses_29 : decode cX4_donChooses 29 = .ok (.getfield 118, 3) := by decide +kernel
theorem dX4_donChooses_32 : decode cX4_donChooses 32 = .ok (.if_icmp .ge 35, 3) := by decide +kernel
theorem dX4_donChooses_35 : decode cX4_donChooses 35 = .ok (.aload_n 0, 1) := by decide +kernel
theorem dX4_donChooses_36 : decode cX4_donChooses 36 = .ok (.getfield 57, 3) := by decide +kernel
theorem dX4_donChooses_39 : decode cX4_donChooses 39 = .ok (.iload_n 1, 1) := by decide +kernel
theorem dX4_donChooses_40 : decode cX4_donChooses 40 = .ok (.aload_n 0, 1) := by decide +kernel
theorem dX4_donChooses_41 : decode cX4_donChooses 41 = .ok (.getfield 57, 3) := by decide +kernel
theorem dX4_donChooses_44 : decode cX4_donChooses 44 = .ok (.iload_n 1, 1) := by decide +kernel
theorem dX4_donChooses_45 : decode cX4_donChooses 45 = .ok (.iaload, 1) := by decide +kernel
theorem dX4_donChooses_46 : decode cX4_donChooses 46 = .ok (.aload_n 0, 1) := by decide +kernel
theorem dX4_donChooses_47 : decode cX4_donChooses 47 = .ok (.iload_n 1, 1) := by decide +kernel
theorem dX4_donChooses_48 : decode cX4_donChooses 48 = .ok (.iconst 1, 1) := by decide +kernel
theorem dX4_donChooses_49 : decode cX4_donChooses 49 = .ok (.iload_n 2, 1) := by decide +kernel
theorem dX4_donChooses_50 : decode cX4_donChooses 50 = .ok (.ishl, 1) := by decide +kernel
theorem dX4_donChooses_51 : decode cX4_donChooses 51 = .ok (.iconst (-1), 1) := by decide +kernel
theorem dX4_donChooses_52 : decode cX4_donChooses 52 = .ok (.ixor, 1) := by decide +kernel
theorem dX4_donChooses_53 : decode cX4_donChooses 53 = .ok (.iand, 1) := by decide +kernel
theorem dX4_donChooses_54 : decode cX4_donChooses 54 = .ok (.invokevirtual 268, 3) := by decide +kernel
theorem dX4_donChooses_57 : decode cX4_donChooses 57 = .ok (.invokestatic 345, 3) := by decide +kernel
theorem dX4_donChooses_60 : decode cX4_donChooses 60 = .ok (.iastore, 1) := by decide +kernel
theorem dX4_donChooses_61 : decode cX4_donChooses 61 = .ok (.iinc 2 1, 3) := by decide +kernel
theorem dX4_donChooses_64 : decode cX4_donChooses 64 = .ok (.goto (-40), 3) := by decide +kernel
theorem dX4_donChooses_67 : decode cX4_donChooses 67 = .ok (.iinc 1 (-1), 3) := by decide +kernel
theorem dX4_donChooses_70 : decode cX4_donChooses 70 = .ok (.goto (-52), 3) := by decide +kernel
theorem dX4_donChooses_73 : decode cX4_donChooses 73 = .ok (.return_, 1) := by decide +kernel
theorem dX4_bedmakerChooses_0 : decode cX4_bedmakerChooses 0 = .ok (.aload_n 0, 1) := by decide +kernel
theorem dX4_bedmakerChooses_1 : decode cX4_bedmakerChooses 1 = .ok (.getfield 35, 3) := by decide +kernel
theorem dX4_bedmakerChooses_4 : decode cX4_bedmakerChooses 4 = .ok (.invokevirtual 256, 3) := by decide +kernel
theorem dX4_bedmakerChooses_7 : decode cX4_bedmakerChooses 7 = .ok (.istore_n 1, 1) := by decide +kernel
theorem dX4_bedmakerChooses_8 : decode cX4_bedmakerChooses 8 = .ok (.iconst 0, 1) := by decide +kernel
theorem dX4_bedmakerChooses_9 : decode cX4_bedmakerChooses 9 = .ok (.istore_n 2, 1) := by decide +kernel
theorem dX4_bedmakerChooses_10 : decode cX4_bedmakerChooses 10 = .ok (.iload_n 2, 1) := by decide +kernel
theorem dX4_bedmakerChooses_11 : decode cX4_bedmakerChooses 11 = .ok (.iload_n 1, 1) := by decide +kernel
theorem dX4_bedmakerChooses_12 : decode cX4_bedmakerChooses 12 = .ok (.if_icmp .gt 61, 3) := by decide +kernel
theorem dX4_bedmakerChooses_15 : decode cX4_bedmakerChooses 15 = .ok (.iload_n 2, 1) := by decide +kernel
theorem dX4_bedmakerChooses_16 : decode cX4_bedmakerChooses 16 = .ok (.aload_n 0, 1) := by decide +kernel
theorem dX4_bedmakerChooses_17 : decode cX4_bedmakerChooses 17 = .ok (.getfield 57, 3) := by decide +kernel
theorem dX4_bedmakerChooses_20 : decode cX4_bedmakerChooses 20 = .ok (.arraylength, 1) := by decide +kernel
theorem dX4_bedmakerChooses_21 : decode cX4_bedmakerChooses 21 = .ok (.if_icmp .ge 52, 3) := by decide +kernel
theorem dX4_bedmakerChooses_24 : decode cX4_bedmakerChooses 24 = .ok (.iconst 0, 1) := by decide +kernel
theorem dX4_bedmakerChooses_25 : decode cX4_bedmakerChooses 25 = .ok (.istore_n 3, 1) := by decide +kernel
theorem dX4_bedmakerChooses_26 : decode cX4_bedmakerChooses 26 = .ok (.iload_n 3, 1) := by decide +kernel
theorem dX4_bedmakerChooses_27 : decode cX4_bedmakerChooses 27 = .ok (.aload_n 0, 1) := by decide +kernel
theorem dX4_bedmakerChooses_28 : decode cX4_bedmakerChooses 28 = .ok (.getfield 35, 3) := by decide +kernel
theorem dX4_bedmakerChooses_31 : decode cX4_bedmakerChooses 31 = .ok (.getfield 118, 3) := by decide +kernel
theorem dX4_bedmakerChooses_34 : decode cX4_bedmakerChooses 34 = .ok (.if_icmp .ge 33, 3) := by decide +kernel
theorem dX4_bedmakerChooses_37 : decode cX4_bedmakerChooses 37 = .ok (.aload_n 0, 1) := by decide +kernel
theorem dX4_bedmakerChooses_38 : decode cX4_bedmakerChooses 38 = .ok (.getfield 57, 3) := by decide +kernel
theorem dX4_bedmakerChooses_41 : decode cX4_bedmakerChooses 41 = .ok (.iload_n 2, 1) := by decide +kernel
theorem dX4_bedmakerChooses_42 : decode cX4_bedmakerChooses 42 = .ok (.aload_n 0, 1) := by decide +kernel
theorem dX4_bedmakerChooses_43 : decode cX4_bedmakerChooses 43 = .ok (.getfield 57, 3) := by decide +kernel
theorem dX4_bedmakerChooses_46 : decode cX4_bedmakerChooses 46 = .ok (.iload_n 2, 1) := by decide +kernel
theorem dX4_bedmakerChooses_47 : decode cX4_bedmakerChooses 47 = .ok (.iaload, 1) := by decide +kernel
theorem dX4_bedmakerChooses_48 : decode cX4_bedmakerChooses 48 = .ok (.aload_n 0, 1) := by decide +kernel
theorem dX4_bedmakerChooses_49 : decode cX4_bedmakerChooses 49 = .ok (.iload_n 2, 1) := by decide +kernel
theorem dX4_bedmakerChooses_50 : decode cX4_bedmakerChooses 50 = .ok (.iconst 1, 1) := by decide +kernel
theorem dX4_bedmakerChooses_51 : decode cX4_bedmakerChooses 51 = .ok (.iload_n 3, 1) := by decide +kernel
theorem dX4_bedmakerChooses_52 : decode cX4_bedmakerChooses 52 = .ok (.ishl, 1) := by decide +kernel
theorem dX4_bedmakerChooses_53 : decode cX4_bedmakerChooses 53 = .ok (.ior, 1) := by decide +kernel
theorem dX4_bedmakerChooses_54 : decode cX4_bedmakerChooses 54 = .ok (.invokevirtual 268, 3) := by decide +kernel
theorem dX4_bedmakerChooses_57 : decode cX4_bedmakerChooses 57 = .ok (.invokestatic 350, 3) := by decide +kernel
theorem dX4_bedmakerChooses_60 : decode cX4_bedmakerChooses 60 = .ok (.iastore, 1) := by decide +kernel
theorem dX4_bedmakerChooses_61 : decode cX4_bedmakerChooses 61 = .ok (.iinc 3 1, 3) := by decide +kernel
theorem dX4_bedmakerChooses_64 : decode cX4_bedmakerChooses 64 = .ok (.goto (-38), 3) := by decide +kernel
theorem dX4_bedmakerChooses_67 : decode cX4_bedmakerChooses 67 = .ok (.iinc 2 1, 3) := by decide +kernel
theorem dX4_bedmakerChooses_70 : decode cX4_bedmakerChooses 70 = .ok (.goto (-60), 3) := by decide +kernel
theorem dX4_bedmakerChooses_73 : decode cX4_bedmakerChooses 73 = .ok (.return_, 1) := by decide +kernel
theorem dX4_tellBurnt_0 : decode cX4_tellBurnt 0 = .ok (.aload_n 0, 1) := by decide +kernel
theorem dX4_tellBurnt_1 : decode cX4_tellBurnt 1 = .ok (.getfield 38, 3) := by decide +kernel
theorem dX4_tellBurnt_4 : decode cX4_tellBurnt 4 = .ok (.aload_n 0, 1) := by decide +kernel
theorem dX4_tellBurnt_5 : decode cX4_tellBurnt 5 = .ok (.getfield 35, 3) := by decide +kernel
theorem dX4_tellBurnt_8 : decode cX4_tellBurnt 8 = .ok (.invokevirtual 114, 3) := by decide +kernel
theorem dX4_tellBurnt_11 : decode cX4_tellBurnt 11 = .ok (.aload_n 0, 1) := by decide +kernel
theorem dX4_tellBurnt_12 : decode cX4_tellBurnt 12 = .ok (.getfield 35, 3) := by decide +kernel
theorem dX4_tellBurnt_15 : decode cX4_tellBurnt 15 = .ok (.invokevirtual 256, 3) := by decide +kernel
theorem dX4_tellBurnt_18 : decode cX4_tellBurnt 18 = .ok (.istore_n 3, 1) := by decide +kernel
theorem dX4_tellBurnt_19 : decode cX4_tellBurnt 19 = .ok (.lconst 0, 1) := by decide +kernel
theorem dX4_tellBurnt_20 : decode cX4_tellBurnt 20 = .ok (.lstore 4, 2) := by decide +kernel
theorem dX4_tellBurnt_22 : decode cX4_tellBurnt 22 = .ok (.lconst 0, 1) := by decide +kernel
theorem dX4_tellBurnt_23 : decode cX4_tellBurnt 23 = .ok (.lstore 6, 2) := by decide +kernel
theorem dX4_tellBurnt_25 : decode cX4_tellBurnt 25 = .ok (.iconst 0, 1) := by decide +kernel
theorem dX4_tellBurnt_26 : decode cX4_tellBurnt 26 = .ok (.istore 8, 2) := by decide +kernel
theorem dX4_tellBurnt_28 : decode cX4_tellBurnt 28 = .ok (.iload 8, 2) := by decide +kernel
theorem dX4_tellBurnt_30 : decode cX4_tellBurnt 30 = .ok (.iload_n 3, 1) := by decide +kernel
theorem dX4_tellBurnt_31 : decode cX4_tellBurnt 31 = .ok (.if_icmp .gt 79, 3) := by decide +kernel
theorem dX4_tellBurnt_34 : decode cX4_tellBurnt 34 = .ok (.iload 8, 2) := by decide +kernel
theorem dX4_tellBurnt_36 : decode cX4_tellBurnt 36 = .ok (.aload_n 0, 1) := by decide +kernel
theorem dX4_tellBurnt_37 : decode cX4_tellBurnt 37 = .ok (.getfield 35, 3) := by decide +kernel
theorem dX4_tellBurnt_40 : decode cX4_tellBurnt 40 = .ok (.getfield 152, 3) := by decide +kernel
theorem dX4_tellBurnt_43 : decode cX4_tellBurnt 43 = .ok (.iand, 1) := by decide +kernel
theorem dX4_tellBurnt_44 : decode cX4_tellBurnt 44 = .ok (.ifCond .eq 6, 3) := by decide +kernel
theorem dX4_tellBurnt_47 : decode cX4_tellBurnt 47 = .ok (.goto 57, 3) := by decide +kernel
theorem dX4_tellBurnt_50 : decode cX4_tellBurnt 50 = .ok (.aload_n 0, 1) := by decide +kernel
theorem dX4_tellBurnt_51 : decode cX4_tellBurnt 51 = .ok (.iload 8, 2) := by decide +kernel
theorem dX4_tellBurnt_53 : decode cX4_tellBurnt 53 = .ok (.iload_n 2, 1) := by decide +kernel
theorem dX4_tellBurnt_54 : decode cX4_tellBurnt 54 = .ok (.invokevirtual 353, 3) := by decide +kernel
theorem dX4_tellBurnt_57 : decode cX4_tellBurnt 57 = .ok (.lstore 9, 2) := by decide +kernel
theorem dX4_tellBurnt_59 : decode cX4_tellBurnt 59 = .ok (.aload_n 0, 1) := by decide +kernel
theorem dX4_tellBurnt_60 : decode cX4_tellBurnt 60 = .ok (.getfield 38, 3) := by decide +kernel
theorem dX4_tellBurnt_63 : decode cX4_tellBurnt 63 = .ok (.aload_n 0, 1) := by decide +kernel
theorem dX4_tellBurnt_64 : decode cX4_tellBurnt 64 = .ok (.getfield 35, 3) := by decide +kernel
theorem dX4_tellBurnt_67 : decode cX4_tellBurnt 67 = .ok (.getfield 152, 3) := by decide +kernel
theorem dX4_tellBurnt_70 : decode cX4_tellBurnt 70 = .ok (.iload 8, 2) := by decide +kernel
theorem dX4_tellBurnt_72 : decode cX4_tellBurnt 72 = .ok (.ior, 1) := by decide +kernel
theorem dX4_tellBurnt_73 : decode cX4_tellBurnt 73 = .ok (.putfield 152, 3) := by decide +kernel
theorem dX4_tellBurnt_76 : decode cX4_tellBurnt 76 = .ok (.lload 4, 2) := by decide +kernel
theorem dX4_tellBurnt_78 : decode cX4_tellBurnt 78 = .ok (.lload 9, 2) := by decide +kernel
theorem dX4_tellBurnt_80 : decode cX4_tellBurnt 80 = .ok (.aload_n 0, 1) := by decide +kernel
theorem dX4_tellBurnt_81 : decode cX4_tellBurnt 81 = .ok (.getfield 38, 3) := by decide +kernel
theorem dX4_tellBurnt_84 : decode cX4_tellBurnt 84 = .ok (.invokevirtual 142, 3) := by decide +kernel
theorem dX4_tellBurnt_87 : decode cX4_tellBurnt 87 = .ok (.iload_n 1, 1) := by decide +kernel
theorem dX4_tellBurnt_88 : decode cX4_tellBurnt 88 = .ok (.iand, 1) := by decide +kernel
theorem dX4_tellBurnt_89 : decode cX4_tellBurnt 89 = .ok (.invokestatic 217, 3) := by decide +kernel
theorem dX4_tellBurnt_92 : decode cX4_tellBurnt 92 = .ok (.i2l, 1) := by decide +kernel
theorem dX4_tellBurnt_93 : decode cX4_tellBurnt 93 = .ok (.lmul, 1) := by decide +kernel
theorem dX4_tellBurnt_94 : decode cX4_tellBurnt 94 = .ok (.ladd, 1) := by decide +kernel
theorem dX4_tellBurnt_95 : decode cX4_tellBurnt 95 = .ok (.lstore 4, 2) := by decide +kernel
theorem dX4_tellBurnt_97 : decode cX4_tellBurnt 97 = .ok (.lload 6, 2) := by decide +kernel
theorem dX4_tellBurnt_99 : decode cX4_tellBurnt 99 = .ok (.lload 9, 2) := by decide +kernel
theorem dX4_tellBurnt_101 : decode cX4_tellBurnt 101 = .ok (.ladd, 1) := by decide +kernel
theorem dX4_tellBurnt_102 : decode cX4_tellBurnt 102 = .ok (.lstore 6, 2) := by decide +kernel
theorem dX4_tellBurnt_104 : decode cX4_tellBurnt 104 = .ok (.iinc 8 1, 3) := by decide +kernel
theorem dX4_tellBurnt_107 : decode cX4_tellBurnt 107 = .ok (.goto (-79), 3) := by decide +kernel
theorem dX4_tellBurnt_110 : decode cX4_tellBurnt 110 = .ok (.aload_n 0, 1) := by decide +kernel
theorem dX4_tellBurnt_111 : decode cX4_tellBurnt 111 = .ok (.lload 4, 2) := by decide +kernel
theorem dX4_tellBurnt_113 : decode cX4_tellBurnt 113 = .ok (.lload 6, 2) := by decide +kernel
theorem dX4_tellBurnt_115 : decode cX4_tellBurnt 115 = .ok (.invokevirtual 228, 3) := by decide +kernel
theorem dX4_tellBurnt_118 : decode cX4_tellBurnt 118 = .ok (.return_, 1) := by decide +kernel
theorem dX4_chanceOf_0 : decode cX4_chanceOf 0 = .ok (.lconst 1, 1) := by decide +kernel
theorem dX4_chanceOf_1 : decode cX4_chanceOf 1 = .ok (.lstore_n 3, 1) := by decide +kernel
theorem dX4_chanceOf_2 : decode cX4_chanceOf 2 = .ok (.iconst 0, 1) := by decide +kernel
theorem dX4_chanceOf_3 : decode cX4_chanceOf 3 = .ok (.istore 5, 2) := by decide +kernel
theorem dX4_chanceOf_5 : decode cX4_chanceOf 5 = .ok (.iload 5, 2) := by decide +kernel
theorem dX4_chanceOf_7 : decode cX4_chanceOf 7 = .ok (.aload_n 0, 1) := by decide +kernel
theorem dX4_chanceOf_8 : decode cX4_chanceOf 8 = .ok (.getfield 35, 3) := by decide +kernel
theorem dX4_chanceOf_11 : decode cX4_chanceOf 11 = .ok (.getfield 118, 3) := by decide +kernel
theorem dX4_chanceOf_14 : decode cX4_chanceOf 14 = .ok (.if_icmp .ge 44, 3) := by decide +kernel
theorem dX4_chanceOf_17 : decode cX4_chanceOf 17 = .ok (.aload_n 0, 1) := by decide +kernel
theorem dX4_chanceOf_18 : decode cX4_chanceOf 18 = .ok (.getfield 35, 3) := by decide +kernel
theorem dX4_chanceOf_21 : decode cX4_chanceOf 21 = .ok (.iload 5, 2) := by decide +kernel
theorem dX4_chanceOf_23 : decode cX4_chanceOf 23 = .ok (.invokevirtual 320, 3) := by decide +kernel
theorem dX4_chanceOf_26 : decode cX4_chanceOf 26 = .ok (.ifCond .ne 26, 3) := by decide +kernel
theorem dX4_chanceOf_29 : decode cX4_chanceOf 29 = .ok (.lload_n 3, 1) := by decide +kernel
theorem dX4_chanceOf_30 : decode cX4_chanceOf 30 = .ok (.iload_n 1, 1) := by decide +kernel
theorem dX4_chanceOf_31 : decode cX4_chanceOf 31 = .ok (.iload 5, 2) := by decide +kernel
theorem dX4_chanceOf_33 : decode cX4_chanceOf 33 = .ok (.invokestatic 155, 3) := by decide +kernel
theorem dX4_chanceOf_36 : decode cX4_chanceOf 36 = .ok (.iconst 1, 1) := by decide +kernel
theorem dX4_chanceOf_37 : decode cX4_chanceOf 37 = .ok (.if_icmp .ne 8, 3) := by decide +kernel
theorem dX4_chanceOf_40 : decode cX4_chanceOf 40 = .ok (.iload_n 2, 1) := by decide +kernel
theorem dX4_chanceOf_41 : decode cX4_chanceOf 41 = .ok (.i2l, 1) := by decide +kernel
theorem dX4_chanceOf_42 : decode cX4_chanceOf 42 = .ok (.goto 8, 3) := by decide +kernel
theorem dX4_chanceOf_45 : decode cX4_chanceOf 45 = .ok (.bipush 12, 2) := by decide +kernel
theorem dX4_chanceOf_47 : decode cX4_chanceOf 47 = .ok (.iload_n 2, 1) := by decide +kernel
theorem dX4_chanceOf_48 : decode cX4_chanceOf 48 = .ok (.isub, 1) := by decide +kernel
theorem dX4_chanceOf_49 : decode cX4_chanceOf 49 = .ok (.i2l, 1) := by decide +kernel
theorem dX4_chanceOf_50 : decode cX4_chanceOf 50 = .ok (.lmul, 1) := by decide +kernel
theorem dX4_chanceOf_51 : decode cX4_chanceOf 51 = .ok (.lstore_n 3, 1) := by decide +kernel
theorem dX4_chanceOf_52 : decode cX4_chanceOf 52 = .ok (.iinc 5 1, 3) := by decide +kernel
theorem dX4_chanceOf_55 : decode cX4_chanceOf 55 = .ok (.goto (-50), 3) := by decide +kernel
theorem dX4_chanceOf_58 : decode cX4_chanceOf 58 = .ok (.lload_n 3, 1) := by decide +kernel
theorem dX4_chanceOf_59 : decode cX4_chanceOf 59 = .ok (.lreturn, 1) := by decide +kernel
