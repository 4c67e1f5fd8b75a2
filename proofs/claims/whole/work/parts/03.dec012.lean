theorem dX0_init_0 : decode cX0_init 0 = .ok (.aload_n 0, 1) := by decide +kernel
theorem dX0_init_1 : decode cX0_init 1 = .ok (.invokespecial 3, 3) := by decide +kernel
theorem dX0_init_4 : decode cX0_init 4 = .ok (.aload_n 0, 1) := by decide +kernel
theorem dX0_init_5 : decode cX0_init 5 = .ok (.aload_n 1, 1) := by decide +kernel
theorem dX0_init_6 : decode cX0_init 6 = .ok (.putfield 9, 3) := by decide +kernel
theorem dX0_init_9 : decode cX0_init 9 = .ok (.aload_n 0, 1) := by decide +kernel
theorem dX0_init_10 : decode cX0_init 10 = .ok (.aload_n 2, 1) := by decide +kernel
theorem dX0_init_11 : decode cX0_init 11 = .ok (.putfield 15, 3) := by decide +kernel
theorem dX0_init_14 : decode cX0_init 14 = .ok (.return_, 1) := by decide +kernel
theorem dX0_read_0 : decode cX0_read 0 = .ok (.aload_n 0, 1) := by decide +kernel
theorem dX0_read_1 : decode cX0_read 1 = .ok (.iload_n 1, 1) := by decide +kernel
theorem dX0_read_2 : decode cX0_read 2 = .ok (.putfield 19, 3) := by decide +kernel
theorem dX0_read_5 : decode cX0_read 5 = .ok (.aload_n 0, 1) := by decide +kernel
theorem dX0_read_6 : decode cX0_read 6 = .ok (.iconst 0, 1) := by decide +kernel
theorem dX0_read_7 : decode cX0_read 7 = .ok (.putfield 23, 3) := by decide +kernel
theorem dX0_read_10 : decode cX0_read 10 = .ok (.aload_n 0, 1) := by decide +kernel
theorem dX0_read_11 : decode cX0_read 11 = .ok (.getfield 15, 3) := by decide +kernel
theorem dX0_read_14 : decode cX0_read 14 = .ok (.invokevirtual 26, 3) := by decide +kernel
theorem dX0_read_17 : decode cX0_read 17 = .ok (.aload_n 0, 1) := by decide +kernel
theorem dX0_read_18 : decode cX0_read 18 = .ok (.invokevirtual 31, 3) := by decide +kernel
theorem dX0_read_21 : decode cX0_read 21 = .ok (.aload_n 0, 1) := by decide +kernel
theorem dX0_read_22 : decode cX0_read 22 = .ok (.invokevirtual 34, 3) := by decide +kernel
theorem dX0_read_25 : decode cX0_read 25 = .ok (.bipush 110, 2) := by decide +kernel
theorem dX0_read_27 : decode cX0_read 27 = .ok (.if_icmp .eq 8, 3) := by decide +kernel
theorem dX0_read_30 : decode cX0_read 30 = .ok (.aload_n 0, 1) := by decide +kernel
theorem dX0_read_31 : decode cX0_read 31 = .ok (.getfield 23, 3) := by decide +kernel
theorem dX0_read_34 : decode cX0_read 34 = .ok (.ireturn, 1) := by decide +kernel
theorem dX0_read_35 : decode cX0_read 35 = .ok (.aload_n 0, 1) := by decide +kernel
theorem dX0_read_36 : decode cX0_read 36 = .ok (.dup, 1) := by decide +kernel
theorem dX0_read_37 : decode cX0_read 37 = .ok (.getfield 23, 3) := by decide +kernel
theorem dX0_read_40 : decode cX0_read 40 = .ok (.iconst 1, 1) := by decide +kernel
theorem dX0_read_41 : decode cX0_read 41 = .ok (.iadd, 1) := by decide +kernel
theorem dX0_read_42 : decode cX0_read 42 = .ok (.putfield 23, 3) := by decide +kernel
theorem dX0_read_45 : decode cX0_read 45 = .ok (.aload_n 0, 1) := by decide +kernel
theorem dX0_read_46 : decode cX0_read 46 = .ok (.iconst 1, 1) := by decide +kernel
theorem dX0_read_47 : decode cX0_read 47 = .ok (.iconst 4, 1) := by decide +kernel
theorem dX0_read_48 : decode cX0_read 48 = .ok (.invokevirtual 38, 3) := by decide +kernel
theorem dX0_read_51 : decode cX0_read 51 = .ok (.istore_n 2, 1) := by decide +kernel
theorem dX0_read_52 : decode cX0_read 52 = .ok (.iload_n 2, 1) := by decide +kernel
theorem dX0_read_53 : decode cX0_read 53 = .ok (.bipush (-9), 2) := by decide +kernel
theorem dX0_read_55 : decode cX0_read 55 = .ok (.if_icmp .ne 8, 3) := by decide +kernel
theorem dX0_read_58 : decode cX0_read 58 = .ok (.aload_n 0, 1) := by decide +kernel
theorem dX0_read_59 : decode cX0_read 59 = .ok (.getfield 23, 3) := by decide +kernel
theorem dX0_read_62 : decode cX0_read 62 = .ok (.ireturn, 1) := by decide +kernel
theorem dX0_read_63 : decode cX0_read 63 = .ok (.aload_n 0, 1) := by decide +kernel
theorem dX0_read_64 : decode cX0_read 64 = .ok (.getfield 15, 3) := by decide +kernel
theorem dX0_read_67 : decode cX0_read 67 = .ok (.iload_n 2, 1) := by decide +kernel
theorem dX0_read_68 : decode cX0_read 68 = .ok (.putfield 42, 3) := by decide +kernel
theorem dX0_read_71 : decode cX0_read 71 = .ok (.aload_n 0, 1) := by decide +kernel
theorem dX0_read_72 : decode cX0_read 72 = .ok (.invokevirtual 31, 3) := by decide +kernel
theorem dX0_read_75 : decode cX0_read 75 = .ok (.iconst 0, 1) := by decide +kernel
theorem dX0_read_76 : decode cX0_read 76 = .ok (.istore_n 3, 1) := by decide +kernel
theorem dX0_read_77 : decode cX0_read 77 = .ok (.iload_n 3, 1) := by decide +kernel
theorem dX0_read_78 : decode cX0_read 78 = .ok (.bipush 6, 2) := by decide +kernel
theorem dX0_read_80 : decode cX0_read 80 = .ok (.if_icmp .ge 39, 3) := by decide +kernel
theorem dX0_read_83 : decode cX0_read 83 = .ok (.aload_n 0, 1) := by decide +kernel
theorem dX0_read_84 : decode cX0_read 84 = .ok (.invokevirtual 34, 3) := by decide +kernel
theorem dX0_read_87 : decode cX0_read 87 = .ok (.sipush 1000, 3) := by decide +kernel
theorem dX0_read_90 : decode cX0_read 90 = .ok (.if_icmp .eq 29, 3) := by decide +kernel
theorem dX0_read_93 : decode cX0_read 93 = .ok (.aload_n 0, 1) := by decide +kernel
theorem dX0_read_94 : decode cX0_read 94 = .ok (.invokevirtual 45, 3) := by decide +kernel
theorem dX0_read_97 : decode cX0_read 97 = .ok (.istore 4, 2) := by decide +kernel
theorem dX0_read_99 : decode cX0_read 99 = .ok (.iload 4, 2) := by decide +kernel
theorem dX0_read_101 : decode cX0_read 101 = .ok (.bipush (-9), 2) := by decide +kernel
theorem dX0_read_103 : decode cX0_read 103 = .ok (.if_icmp .eq 6, 3) := by decide +kernel
theorem dX0_read_106 : decode cX0_read 106 = .ok (.iload 4, 2) := by decide +kernel
theorem dX0_read_108 : decode cX0_read 108 = .ok (.ireturn, 1) := by decide +kernel
theorem dX0_read_109 : decode cX0_read 109 = .ok (.aload_n 0, 1) := by decide +kernel
theorem dX0_read_110 : decode cX0_read 110 = .ok (.invokevirtual 31, 3) := by decide +kernel
theorem dX0_read_113 : decode cX0_read 113 = .ok (.iinc 3 1, 3) := by decide +kernel
theorem dX0_read_116 : decode cX0_read 116 = .ok (.goto (-39), 3) := by decide +kernel
theorem dX0_read_119 : decode cX0_read 119 = .ok (.aload_n 0, 1) := by decide +kernel
theorem dX0_read_120 : decode cX0_read 120 = .ok (.getfield 15, 3) := by decide +kernel
theorem dX0_read_123 : decode cX0_read 123 = .ok (.getfield 48, 3) := by decide +kernel
theorem dX0_read_126 : decode cX0_read 126 = .ok (.ifCond .le 18, 3) := by decide +kernel
theorem dX0_read_129 : decode cX0_read 129 = .ok (.aload_n 0, 1) := by decide +kernel
theorem dX0_read_130 : decode cX0_read 130 = .ok (.invokevirtual 34, 3) := by decide +kernel
theorem dX0_read_133 : decode cX0_read 133 = .ok (.sipush 1000, 3) := by decide +kernel
theorem dX0_read_136 : decode cX0_read 136 = .ok (.if_icmp .ne 8, 3) := by decide +kernel
theorem dX0_read_139 : decode cX0_read 139 = .ok (.bipush (-9), 2) := by decide +kernel
theorem dX0_read_141 : decode cX0_read 141 = .ok (.goto 7, 3) := by decide +kernel
theorem dX0_read_144 : decode cX0_read 144 = .ok (.aload_n 0, 1) := by decide +kernel
theorem dX0_read_145 : decode cX0_read 145 = .ok (.getfield 23, 3) := by decide +kernel
theorem dX0_read_148 : decode cX0_read 148 = .ok (.ireturn, 1) := by decide +kernel
theorem dX0_readPeel_0 : decode cX0_readPeel 0 = .ok (.aload_n 0, 1) := by decide +kernel
theorem dX0_readPeel_1 : decode cX0_readPeel 1 = .ok (.invokevirtual 34, 3) := by decide +kernel
theorem dX0_readPeel_4 : decode cX0_readPeel 4 = .ok (.invokestatic 51, 3) := by decide +kernel
theorem dX0_readPeel_7 : decode cX0_readPeel 7 = .ok (.istore_n 1, 1) := by decide +kernel
theorem dX0_readPeel_8 : decode cX0_readPeel 8 = .ok (.iload_n 1, 1) := by decide +kernel
theorem dX0_readPeel_9 : decode cX0_readPeel 9 = .ok (.bipush (-9), 2) := by decide +kernel
theorem dX0_readPeel_11 : decode cX0_readPeel 11 = .ok (.if_icmp .ne 8, 3) := by decide +kernel
theorem dX0_readPeel_14 : decode cX0_readPeel 14 = .ok (.aload_n 0, 1) := by decide +kernel
theorem dX0_readPeel_15 : decode cX0_readPeel 15 = .ok (.getfield 23, 3) := by decide +kernel
theorem dX0_readPeel_18 : decode cX0_readPeel 18 = .ok (.ireturn, 1) := by decide +kernel
theorem dX0_readPeel_19 : decode cX0_readPeel 19 = .ok (.aload_n 0, 1) := by decide +kernel
theorem dX0_readPeel_20 : decode cX0_readPeel 20 = .ok (.dup, 1) := by decide +kernel
theorem dX0_readPeel_21 : decode cX0_readPeel 21 = .ok (.getfield 23, 3) := by decide +kernel
theorem dX0_readPeel_24 : decode cX0_readPeel 24 = .ok (.iconst 1, 1) := by decide +kernel
theorem dX0_readPeel_25 : decode cX0_readPeel 25 = .ok (.iadd, 1) := by decide +kernel
theorem dX0_readPeel_26 : decode cX0_readPeel 26 = .ok (.putfield 23, 3) := by decide +kernel
theorem dX0_readPeel_29 : decode cX0_readPeel 29 = .ok (.aload_n 0, 1) := by decide +kernel
theorem dX0_readPeel_30 : decode cX0_readPeel 30 = .ok (.iconst 0, 1) := by decide +kernel
theorem dX0_readPeel_31 : decode cX0_readPeel 31 = .ok (.bipush 9, 2) := by decide +kernel
theorem dX0_readPeel_33 : decode cX0_readPeel 33 = .ok (.invokevirtual 38, 3) := by decide +kernel
theorem dX0_readPeel_36 : decode cX0_readPeel 36 = .ok (.istore_n 2, 1) := by decide +kernel
theorem dX0_readPeel_37 : decode cX0_readPeel 37 = .ok (.iload_n 2, 1) := by decide +kernel
theorem dX0_readPeel_38 : decode cX0_readPeel 38 = .ok (.bipush (-9), 2) := by decide +kernel
theorem dX0_readPeel_40 : decode cX0_readPeel 40 = .ok (.if_icmp .ne 8, 3) := by decide +kernel
theorem dX0_readPeel_43 : decode cX0_readPeel 43 = .ok (.bipush (-9), 2) := by decide +kernel
theorem dX0_readPeel_45 : decode cX0_readPeel 45 = .ok (.goto 10, 3) := by decide +kernel
theorem dX0_readPeel_48 : decode cX0_readPeel 48 = .ok (.aload_n 0, 1) := by decide +kernel
theorem dX0_readPeel_49 : decode cX0_readPeel 49 = .ok (.iconst 0, 1) := by decide +kernel
theorem dX0_readPeel_50 : decode cX0_readPeel 50 = .ok (.bipush 9, 2) := by decide +kernel
theorem dX0_readPeel_52 : decode cX0_readPeel 52 = .ok (.invokevirtual 38, 3) := by decide +kernel
theorem dX0_readPeel_55 : decode cX0_readPeel 55 = .ok (.istore_n 3, 1) := by decide +kernel
theorem dX0_readPeel_56 : decode cX0_readPeel 56 = .ok (.iload_n 3, 1) := by decide +kernel
theorem dX0_readPeel_57 : decode cX0_readPeel 57 = .ok (.bipush (-9), 2) := by decide +kernel
theorem dX0_readPeel_59 : decode cX0_readPeel 59 = .ok (.if_icmp .ne 8, 3) := by decide +kernel
theorem dX0_readPeel_62 : decode cX0_readPeel 62 = .ok (.aload_n 0, 1) := by decide +kernel
theorem dX0_readPeel_63 : decode cX0_readPeel 63 = .ok (.getfield 23, 3) := by decide +kernel
theorem dX0_readPeel_66 : decode cX0_readPeel 66 = .ok (.ireturn, 1) := by decide +kernel
theorem dX0_readPeel_67 : decode cX0_readPeel 67 = .ok (.iload_n 2, 1) := by decide +kernel
theorem dX0_readPeel_68 : decode cX0_readPeel 68 = .ok (.bipush 10, 2) := by decide +kernel
theorem dX0_readPeel_70 : decode cX0_readPeel 70 = .ok (.imul, 1) := by decide +kernel
theorem dX0_readPeel_71 : decode cX0_readPeel 71 = .ok (.iload_n 3, 1) := by decide +kernel
theorem dX0_readPeel_72 : decode cX0_readPeel 72 = .ok (.iadd, 1) := by decide +kernel
theorem dX0_readPeel_73 : decode cX0_readPeel 73 = .ok (.bipush 16, 2) := by decide +kernel
theorem dX0_readPeel_75 : decode cX0_readPeel 75 = .ok (.if_icmp .lt 10, 3) := by decide +kernel
theorem dX0_readPeel_78 : decode cX0_readPeel 78 = .ok (.aload_n 0, 1) := by decide +kernel
theorem dX0_readPeel_79 : decode cX0_readPeel 79 = .ok (.getfield 23, 3) := by decide +kernel
theorem dX0_readPeel_82 : decode cX0_readPeel 82 = .ok (.iconst 2, 1) := by decide +kernel
theorem dX0_readPeel_83 : decode cX0_readPeel 83 = .ok (.isub, 1) := by decide +kernel
theorem dX0_readPeel_84 : decode cX0_readPeel 84 = .ok (.ireturn, 1) := by decide +kernel
theorem dX0_readPeel_85 : decode cX0_readPeel 85 = .ok (.aload_n 0, 1) := by decide +kernel
theorem dX0_readPeel_86 : decode cX0_readPeel 86 = .ok (.iconst 1, 1) := by decide +kernel
theorem dX0_readPeel_87 : decode cX0_readPeel 87 = .ok (.iconst 4, 1) := by decide +kernel
theorem dX0_readPeel_88 : decode cX0_readPeel 88 = .ok (.invokevirtual 38, 3) := by decide +kernel
theorem dX0_readPeel_91 : decode cX0_readPeel 91 = .ok (.istore 4, 2) := by decide +kernel
theorem dX0_readPeel_93 : decode cX0_readPeel 93 = .ok (.iload 4, 2) := by decide +kernel
theorem dX0_readPeel_95 : decode cX0_readPeel 95 = .ok (.bipush (-9), 2) := by decide +kernel
theorem dX0_readPeel_97 : decode cX0_readPeel 97 = .ok (.if_icmp .ne 8, 3) := by decide +kernel
theorem dX0_readPeel_100 : decode cX0_readPeel 100 = .ok (.bipush (-9), 2) := by decide +kernel
theorem dX0_readPeel_102 : decode cX0_readPeel 102 = .ok (.goto 9, 3) := by decide +kernel
theorem dX0_readPeel_105 : decode cX0_readPeel 105 = .ok (.aload_n 0, 1) := by decide +kernel
theorem dX0_readPeel_106 : decode cX0_readPeel 106 = .ok (.iconst 0, 1) := by decide +kernel
theorem dX0_readPeel_107 : decode cX0_readPeel 107 = .ok (.iconst 1, 1) := by decide +kernel
theorem dX0_readPeel_108 : decode cX0_readPeel 108 = .ok (.invokevirtual 38, 3) := by decide +kernel
theorem dX0_readPeel_111 : decode cX0_readPeel 111 = .ok (.istore 5, 2) := by decide +kernel
theorem dX0_readPeel_113 : decode cX0_readPeel 113 = .ok (.iload 5, 2) := by decide +kernel
theorem dX0_readPeel_115 : decode cX0_readPeel 115 = .ok (.bipush (-9), 2) := by decide +kernel
theorem dX0_readPeel_117 : decode cX0_readPeel 117 = .ok (.if_icmp .ne 8, 3) := by decide +kernel
theorem dX0_readPeel_120 : decode cX0_readPeel 120 = .ok (.aload_n 0, 1) := by decide +kernel
theorem dX0_readPeel_121 : decode cX0_readPeel 121 = .ok (.getfield 23, 3) := by decide +kernel
theorem dX0_readPeel_124 : decode cX0_readPeel 124 = .ok (.ireturn, 1) := by decide +kernel
theorem dX0_readPeel_125 : decode cX0_readPeel 125 = .ok (.aload_n 0, 1) := by decide +kernel
theorem dX0_readPeel_126 : decode cX0_readPeel 126 = .ok (.getfield 15, 3) := by decide +kernel
theorem dX0_readPeel_129 : decode cX0_readPeel 129 = .ok (.iload_n 1, 1) := by decide +kernel
theorem dX0_readPeel_130 : decode cX0_readPeel 130 = .ok (.iload_n 2, 1) := by decide +kernel
theorem dX0_readPeel_131 : decode cX0_readPeel 131 = .ok (.bipush 10, 2) := by decide +kernel
theorem dX0_readPeel_133 : decode cX0_readPeel 133 = .ok (.imul, 1) := by decide +kernel
theorem dX0_readPeel_134 : decode cX0_readPeel 134 = .ok (.iload_n 3, 1) := by decide +kernel
theorem dX0_readPeel_135 : decode cX0_readPeel 135 = .ok (.iadd, 1) := by decide +kernel
theorem dX0_readPeel_136 : decode cX0_readPeel 136 = .ok (.iload 4, 2) := by decide +kernel
theorem dX0_readPeel_138 : decode cX0_readPeel 138 = .ok (.iload 5, 2) := by decide +kernel
theorem dX0_readPeel_140 : decode cX0_readPeel 140 = .ok (.invokevirtual 55, 3) := by decide +kernel
theorem dX0_readPeel_143 : decode cX0_readPeel 143 = .ok (.bipush (-9), 2) := by decide +kernel
theorem dX0_readPeel_145 : decode cX0_readPeel 145 = .ok (.ireturn, 1) := by decide +kernel
theorem dX0_sign_0 : decode cX0_sign 0 = .ok (.aload_n 0, 1) := by decide +kernel
theorem dX0_sign_1 : decode cX0_sign 1 = .ok (.getfield 9, 3) := by decide +kernel
theorem dX0_sign_4 : decode cX0_sign 4 = .ok (.aload_n 0, 1) := by decide +kernel
theorem dX0_sign_5 : decode cX0_sign 5 = .ok (.getfield 19, 3) := by decide +kernel
theorem dX0_sign_8 : decode cX0_sign 8 = .ok (.aload_n 0, 1) := by decide +kernel
theorem dX0_sign_9 : decode cX0_sign 9 = .ok (.getfield 23, 3) := by decide +kernel
theorem dX0_sign_12 : decode cX0_sign 12 = .ok (.invokevirtual 59, 3) := by decide +kernel
theorem dX0_sign_15 : decode cX0_sign 15 = .ok (.ifCond .eq 21, 3) := by decide +kernel
theorem dX0_sign_18 : decode cX0_sign 18 = .ok (.aload_n 0, 1) := by decide +kernel
theorem dX0_sign_19 : decode cX0_sign 19 = .ok (.getfield 9, 3) := by decide +kernel
theorem dX0_sign_22 : decode cX0_sign 22 = .ok (.aload_n 0, 1) := by decide +kernel
theorem dX0_sign_23 : decode cX0_sign 23 = .ok (.getfield 19, 3) := by decide +kernel
theorem dX0_sign_26 : decode cX0_sign 26 = .ok (.aload_n 0, 1) := by decide +kernel
theorem dX0_sign_27 : decode cX0_sign 27 = .ok (.getfield 23, 3) := by decide +kernel
theorem dX0_sign_30 : decode cX0_sign 30 = .ok (.invokevirtual 65, 3) := by decide +kernel
theorem dX0_sign_33 : decode cX0_sign 33 = .ok (.goto 6, 3) := by decide +kernel
theorem dX0_sign_36 : decode cX0_sign 36 = .ok (.sipush 1000, 3) := by decide +kernel
theorem dX0_sign_39 : decode cX0_sign 39 = .ok (.ireturn, 1) := by decide +kernel
theorem dX0_skipBlanks_0 : decode cX0_skipBlanks 0 = .ok (.iconst 0, 1) := by decide +kernel
theorem dX0_skipBlanks_1 : decode cX0_skipBlanks 1 = .ok (.istore_n 1, 1) := by decide +kernel
theorem dX0_skipBlanks_2 : decode cX0_skipBlanks 2 = .ok (.iload_n 1, 1) := by decide +kernel
theorem dX0_skipBlanks_3 : decode cX0_skipBlanks 3 = .ok (.bipush 60, 2) := by decide +kernel
theorem dX0_skipBlanks_5 : decode cX0_skipBlanks 5 = .ok (.if_icmp .ge 28, 3) := by decide +kernel
theorem dX0_skipBlanks_8 : decode cX0_skipBlanks 8 = .ok (.aload_n 0, 1) := by decide +kernel
theorem dX0_skipBlanks_9 : decode cX0_skipBlanks 9 = .ok (.invokevirtual 34, 3) := by decide +kernel
theorem dX0_skipBlanks_12 : decode cX0_skipBlanks 12 = .ok (.bipush 32, 2) := by decide +kernel
theorem dX0_skipBlanks_14 : decode cX0_skipBlanks 14 = .ok (.if_icmp .ne 19, 3) := by decide +kernel
theorem dX0_skipBlanks_17 : decode cX0_skipBlanks 17 = .ok (.aload_n 0, 1) := by decide +kernel
theorem dX0_skipBlanks_18 : decode cX0_skipBlanks 18 = .ok (.dup, 1) := by decide +kernel
theorem dX0_skipBlanks_19 : decode cX0_skipBlanks 19 = .ok (.getfield 23, 3) := by decide +kernel
theorem dX0_skipBlanks_22 : decode cX0_skipBlanks 22 = .ok (.iconst 1, 1) := by decide +kernel
theorem dX0_skipBlanks_23 : decode cX0_skipBlanks 23 = .ok (.iadd, 1) := by decide +kernel
theorem dX0_skipBlanks_24 : decode cX0_skipBlanks 24 = .ok (.putfield 23, 3) := by decide +kernel
theorem dX0_skipBlanks_27 : decode cX0_skipBlanks 27 = .ok (.iinc 1 1, 3) := by decide +kernel
theorem dX0_skipBlanks_30 : decode cX0_skipBlanks 30 = .ok (.goto (-28), 3) := by decide +kernel
theorem dX0_skipBlanks_33 : decode cX0_skipBlanks 33 = .ok (.return_, 1) := by decide +kernel
theorem dX0_figure_0 : decode cX0_figure 0 = .ok (.aload_n 0, 1) := by decide +kernel
theorem dX0_figure_1 : decode cX0_figure 1 = .ok (.invokevirtual 34, 3) := by decide +kernel
theorem dX0_figure_4 : decode cX0_figure 4 = .ok (.bipush 48, 2) := by decide +kernel
theorem dX0_figure_6 : decode cX0_figure 6 = .ok (.isub, 1) := by decide +kernel
theorem dX0_figure_7 : decode cX0_figure 7 = .ok (.istore_n 3, 1) := by decide +kernel
theorem dX0_figure_8 : decode cX0_figure 8 = .ok (.iload_n 3, 1) := by decide +kernel
theorem dX0_figure_9 : decode cX0_figure 9 = .ok (.iload_n 1, 1) := by decide +kernel
theorem dX0_figure_10 : decode cX0_figure 10 = .ok (.if_icmp .lt 8, 3) := by decide +kernel
theorem dX0_figure_13 : decode cX0_figure 13 = .ok (.iload_n 3, 1) := by decide +kernel
theorem dX0_figure_14 : decode cX0_figure 14 = .ok (.iload_n 2, 1) := by decide +kernel
theorem dX0_figure_15 : decode cX0_figure 15 = .ok (.if_icmp .le 6, 3) := by decide +kernel
theorem dX0_figure_18 : decode cX0_figure 18 = .ok (.bipush (-9), 2) := by decide +kernel
theorem dX0_figure_20 : decode cX0_figure 20 = .ok (.ireturn, 1) := by decide +kernel
theorem dX0_figure_21 : decode cX0_figure 21 = .ok (.aload_n 0, 1) := by decide +kernel
theorem dX0_figure_22 : decode cX0_figure 22 = .ok (.dup, 1) := by decide +kernel
theorem dX0_figure_23 : decode cX0_figure 23 = .ok (.getfield 23, 3) := by decide +kernel
theorem dX0_figure_26 : decode cX0_figure 26 = .ok (.iconst 1, 1) := by decide +kernel
theorem dX0_figure_27 : decode cX0_figure 27 = .ok (.iadd, 1) := by decide +kernel
theorem dX0_figure_28 : decode cX0_figure 28 = .ok (.putfield 23, 3) := by decide +kernel
theorem dX0_figure_31 : decode cX0_figure 31 = .ok (.iload_n 3, 1) := by decide +kernel
theorem dX0_figure_32 : decode cX0_figure 32 = .ok (.ireturn, 1) := by decide +kernel
theorem dX0_kindBy_0 : decode cX0_kindBy 0 = .ok (.iload_n 0, 1) := by decide +kernel
theorem dX0_kindBy_1 : decode cX0_kindBy 1 = .ok (.tableswitch 99 99 116 #[93, 99, 99, 99, 99, 95, 97, 99, 99, 91, 99, 99, 99, 87, 99, 99, 99, 89], 87) := by decide +kernel
theorem dX0_kindBy_88 : decode cX0_kindBy 88 = .ok (.iconst 0, 1) := by decide +kernel
theorem dX0_kindBy_89 : decode cX0_kindBy 89 = .ok (.ireturn, 1) := by decide +kernel
theorem dX0_kindBy_90 : decode cX0_kindBy 90 = .ok (.iconst 1, 1) := by decide +kernel
theorem dX0_kindBy_91 : decode cX0_kindBy 91 = .ok (.ireturn, 1) := by decide +kernel
theorem dX0_kindBy_92 : decode cX0_kindBy 92 = .ok (.iconst 2, 1) := by decide +kernel
theorem dX0_kindBy_93 : decode cX0_kindBy 93 = .ok (.ireturn, 1) := by decide +kernel
theorem dX0_kindBy_94 : decode cX0_kindBy 94 = .ok (.iconst 3, 1) := by decide +kernel
theorem dX0_kindBy_95 : decode cX0_kindBy 95 = .ok (.ireturn, 1) := by decide +kernel
theorem dX0_kindBy_96 : decode cX0_kindBy 96 = .ok (.iconst 4, 1) := by decide +kernel
theorem dX0_kindBy_97 : decode cX0_kindBy 97 = .ok (.ireturn, 1) := by decide +kernel
theorem dX0_kindBy_98 : decode cX0_kindBy 98 = .ok (.iconst 5, 1) := by decide +kernel
theorem dX0_kindBy_99 : decode cX0_kindBy 99 = .ok (.ireturn, 1) := by decide +kernel
theorem dX0_kindBy_100 : decode cX0_kindBy 100 = .ok (.bipush (-9), 2) := by decide +kernel
theorem dX0_kindBy_102 : decode cX0_kindBy 102 = .ok (.ireturn, 1) := by decide +kernel
theorem dX1_init_0 : decode cX1_init 0 = .ok (.aload_n 0, 1) := by decide +kernel
theorem dX1_init_1 : decode cX1_init 1 = .ok (.invokespecial 3, 3) := by decide +kernel
theorem dX1_init_4 : decode cX1_init 4 = .ok (.return_, 1) := by decide +kernel
theorem dX1_clear_0 : decode cX1_clear 0 = .ok (.aload_n 0, 1) := by decide +kernel
theorem dX1_clear_1 : decode cX1_clear 1 = .ok (.iconst 0, 1) := by decide +kernel
theorem dX1_clear_2 : decode cX1_clear 2 = .ok (.putfield 9, 3) := by decide +kernel
theorem dX1_clear_5 : decode cX1_clear 5 = .ok (.aload_n 0, 1) := by decide +kernel
theorem dX1_clear_6 : decode cX1_clear 6 = .ok (.bipush (-9), 2) := by decide +kernel
theorem dX1_clear_8 : decode cX1_clear 8 = .ok (.putfield 15, 3) := by decide +kernel
theorem dX1_clear_11 : decode cX1_clear 11 = .ok (.aload_n 0, 1) := by decide +kernel
theorem dX1_clear_12 : decode cX1_clear 12 = .ok (.iconst (-1), 1) := by decide +kernel
theorem dX1_clear_13 : decode cX1_clear 13 = .ok (.putfield 18, 3) := by decide +kernel
theorem dX1_clear_16 : decode cX1_clear 16 = .ok (.aload_n 0, 1) := by decide +kernel
theorem dX1_clear_17 : decode cX1_clear 17 = .ok (.iconst 0, 1) := by decide +kernel
theorem dX1_clear_18 : decode cX1_clear 18 = .ok (.putfield 21, 3) := by decide +kernel
theorem dX1_clear_21 : decode cX1_clear 21 = .ok (.return_, 1) := by decide +kernel
theorem dX1_add_0 : decode cX1_add 0 = .ok (.aload_n 0, 1) := by decide +kernel
theorem dX1_add_1 : decode cX1_add 1 = .ok (.getfield 9, 3) := by decide +kernel
theorem dX1_add_4 : decode cX1_add 4 = .ok (.ifCond .ne 8, 3) := by decide +kernel
theorem dX1_add_7 : decode cX1_add 7 = .ok (.aload_n 0, 1) := by decide +kernel
theorem dX1_add_8 : decode cX1_add 8 = .ok (.iload_n 1, 1) := by decide +kernel
theorem dX1_add_9 : decode cX1_add 9 = .ok (.putfield 15, 3) := by decide +kernel
theorem dX1_add_12 : decode cX1_add 12 = .ok (.aload_n 0, 1) := by decide +kernel
theorem dX1_add_13 : decode cX1_add 13 = .ok (.dup, 1) := by decide +kernel
theorem dX1_add_14 : decode cX1_add 14 = .ok (.getfield 9, 3) := by decide +kernel
theorem dX1_add_17 : decode cX1_add 17 = .ok (.iconst 1, 1) := by decide +kernel
theorem dX1_add_18 : decode cX1_add 18 = .ok (.iadd, 1) := by decide +kernel
theorem dX1_add_19 : decode cX1_add 19 = .ok (.putfield 9, 3) := by decide +kernel
theorem dX1_add_22 : decode cX1_add 22 = .ok (.aload_n 0, 1) := by decide +kernel
theorem dX1_add_23 : decode cX1_add 23 = .ok (.dup, 1) := by decide +kernel
theorem dX1_add_24 : decode cX1_add 24 = .ok (.getfield 18, 3) := by decide +kernel
theorem dX1_add_27 : decode cX1_add 27 = .ok (.iload_n 1, 1) := by decide +kernel
theorem dX1_add_28 : decode cX1_add 28 = .ok (.iand, 1) := by decide +kernel
theorem dX1_add_29 : decode cX1_add 29 = .ok (.putfield 18, 3) := by decide +kernel
theorem dX1_add_32 : decode cX1_add 32 = .ok (.aload_n 0, 1) := by decide +kernel
theorem dX1_add_33 : decode cX1_add 33 = .ok (.dup, 1) := by decide +kernel
theorem dX1_add_34 : decode cX1_add 34 = .ok (.getfield 21, 3) := by decide +kernel
theorem dX1_add_37 : decode cX1_add 37 = .ok (.iload_n 1, 1) := by decide +kernel
theorem dX1_add_38 : decode cX1_add 38 = .ok (.ior, 1) := by decide +kernel
theorem dX1_add_39 : decode cX1_add 39 = .ok (.putfield 21, 3) := by decide +kernel
theorem dX1_add_42 : decode cX1_add 42 = .ok (.return_, 1) := by decide +kernel
theorem dX2_init_0 : decode cX2_init 0 = .ok (.aload_n 0, 1) := by decide +kernel
theorem dX2_init_1 : decode cX2_init 1 = .ok (.invokespecial 1, 3) := by decide +kernel
theorem dX2_init_4 : decode cX2_init 4 = .ok (.aload_n 0, 1) := by decide +kernel
theorem dX2_init_5 : decode cX2_init 5 = .ok (.aload_n 1, 1) := by decide +kernel
theorem dX2_init_6 : decode cX2_init 6 = .ok (.putfield 7, 3) := by decide +kernel
theorem dX2_init_9 : decode cX2_init 9 = .ok (.aload_n 0, 1) := by decide +kernel
theorem dX2_init_10 : decode cX2_init 10 = .ok (.aload_n 2, 1) := by decide +kernel
theorem dX2_init_11 : decode cX2_init 11 = .ok (.putfield 13, 3) := by decide +kernel
theorem dX2_init_14 : decode cX2_init 14 = .ok (.aload_n 0, 1) := by decide +kernel
theorem dX2_init_15 : decode cX2_init 15 = .ok (.iload_n 3, 1) := by decide +kernel
theorem dX2_init_16 : decode cX2_init 16 = .ok (.putfield 16, 3) := by decide +kernel
theorem dX2_init_19 : decode cX2_init 19 = .ok (.iconst 0, 1) := by decide +kernel
theorem dX2_init_20 : decode cX2_init 20 = .ok (.istore 4, 2) := by decide +kernel
theorem dX2_init_22 : decode cX2_init 22 = .ok (.iload 4, 2) := by decide +kernel
theorem dX2_init_24 : decode cX2_init 24 = .ok (.aload_n 2, 1) := by decide +kernel
theorem dX2_init_25 : decode cX2_init 25 = .ok (.arraylength, 1) := by decide +kernel
theorem dX2_init_26 : decode cX2_init 26 = .ok (.if_icmp .ge 14, 3) := by decide +kernel
theorem dX2_init_29 : decode cX2_init 29 = .ok (.aload_n 2, 1) := by decide +kernel
theorem dX2_init_30 : decode cX2_init 30 = .ok (.iload 4, 2) := by decide +kernel
theorem dX2_init_32 : decode cX2_init 32 = .ok (.iconst (-1), 1) := by decide +kernel
theorem dX2_init_33 : decode cX2_init 33 = .ok (.iastore, 1) := by decide +kernel
theorem dX2_init_34 : decode cX2_init 34 = .ok (.iinc 4 1, 3) := by decide +kernel
theorem dX2_init_37 : decode cX2_init 37 = .ok (.goto (-15), 3) := by decide +kernel
theorem dX2_init_40 : decode cX2_init 40 = .ok (.return_, 1) := by decide +kernel
theorem dX2_sizeOf_0 : decode cX2_sizeOf 0 = .ok (.iload_n 1, 1) := by decide +kernel
theorem dX2_sizeOf_1 : decode cX2_sizeOf 1 = .ok (.ifCond .lt 21, 3) := by decide +kernel
theorem dX2_sizeOf_4 : decode cX2_sizeOf 4 = .ok (.iload_n 1, 1) := by decide +kernel
theorem dX2_sizeOf_5 : decode cX2_sizeOf 5 = .ok (.aload_n 0, 1) := by decide +kernel
theorem dX2_sizeOf_6 : decode cX2_sizeOf 6 = .ok (.getfield 13, 3) := by decide +kernel
theorem dX2_sizeOf_9 : decode cX2_sizeOf 9 = .ok (.arraylength, 1) := by decide +kernel
theorem dX2_sizeOf_10 : decode cX2_sizeOf 10 = .ok (.if_icmp .ge 12, 3) := by decide +kernel
theorem dX2_sizeOf_13 : decode cX2_sizeOf 13 = .ok (.aload_n 0, 1) := by decide +kernel
theorem dX2_sizeOf_14 : decode cX2_sizeOf 14 = .ok (.getfield 13, 3) := by decide +kernel
theorem dX2_sizeOf_17 : decode cX2_sizeOf 17 = .ok (.iload_n 1, 1) := by decide +kernel
theorem dX2_sizeOf_18 : decode cX2_sizeOf 18 = .ok (.iaload, 1) := by decide +kernel
theorem dX2_sizeOf_19 : decode cX2_sizeOf 19 = .ok (.goto 4, 3) := by decide +kernel
theorem dX2_sizeOf_22 : decode cX2_sizeOf 22 = .ok (.iconst (-1), 1) := by decide +kernel
theorem dX2_sizeOf_23 : decode cX2_sizeOf 23 = .ok (.ireturn, 1) := by decide +kernel
theorem dX2_isMissing_0 : decode cX2_isMissing 0 = .ok (.aload_n 0, 1) := by decide +kernel
theorem dX2_isMissing_1 : decode cX2_isMissing 1 = .ok (.iload_n 1, 1) := by decide +kernel
theorem dX2_isMissing_2 : decode cX2_isMissing 2 = .ok (.invokevirtual 20, 3) := by decide +kernel
theorem dX2_isMissing_5 : decode cX2_isMissing 5 = .ok (.iconst (-1), 1) := by decide +kernel
theorem dX2_isMissing_6 : decode cX2_isMissing 6 = .ok (.if_icmp .ne 7, 3) := by decide +kernel
theorem dX2_isMissing_9 : decode cX2_isMissing 9 = .ok (.iconst 1, 1) := by decide +kernel
theorem dX2_isMissing_10 : decode cX2_isMissing 10 = .ok (.goto 4, 3) := by decide +kernel
theorem dX2_isMissing_13 : decode cX2_isMissing 13 = .ok (.iconst 0, 1) := by decide +kernel
theorem dX2_isMissing_14 : decode cX2_isMissing 14 = .ok (.ireturn, 1) := by decide +kernel
theorem dX2_has_0 : decode cX2_has 0 = .ok (.iload_n 1, 1) := by decide +kernel
theorem dX2_has_1 : decode cX2_has 1 = .ok (.ifCond .lt 30, 3) := by decide +kernel
theorem dX2_has_4 : decode cX2_has 4 = .ok (.iload_n 1, 1) := by decide +kernel
theorem dX2_has_5 : decode cX2_has 5 = .ok (.aload_n 0, 1) := by decide +kernel
theorem dX2_has_6 : decode cX2_has 6 = .ok (.getfield 13, 3) := by decide +kernel
theorem dX2_has_9 : decode cX2_has 9 = .ok (.arraylength, 1) := by decide +kernel
theorem dX2_has_10 : decode cX2_has 10 = .ok (.if_icmp .ge 21, 3) := by decide +kernel
theorem dX2_has_13 : decode cX2_has 13 = .ok (.iload_n 2, 1) := by decide +kernel
theorem dX2_has_14 : decode cX2_has 14 = .ok (.ifCond .lt 17, 3) := by decide +kernel
theorem dX2_has_17 : decode cX2_has 17 = .ok (.iload_n 2, 1) := by decide +kernel
theorem dX2_has_18 : decode cX2_has 18 = .ok (.aload_n 0, 1) := by decide +kernel
theorem dX2_has_19 : decode cX2_has 19 = .ok (.getfield 13, 3) := by decide +kernel
theorem dX2_has_22 : decode cX2_has 22 = .ok (.iload_n 1, 1) := by decide +kernel
theorem dX2_has_23 : decode cX2_has 23 = .ok (.iaload, 1) := by decide +kernel
theorem dX2_has_24 : decode cX2_has 24 = .ok (.if_icmp .ge 7, 3) := by decide +kernel
theorem dX2_has_27 : decode cX2_has 27 = .ok (.iconst 1, 1) := by decide +kernel
theorem dX2_has_28 : decode cX2_has 28 = .ok (.goto 4, 3) := by decide +kernel
theorem dX2_has_31 : decode cX2_has 31 = .ok (.iconst 0, 1) := by decide +kernel
theorem dX2_has_32 : decode cX2_has 32 = .ok (.ireturn, 1) := by decide +kernel
theorem dX2_hasRun_0 : decode cX2_hasRun 0 = .ok (.iload_n 3, 1) := by decide +kernel
theorem dX2_hasRun_1 : decode cX2_hasRun 1 = .ok (.ifCond .lt 22, 3) := by decide +kernel
theorem dX2_hasRun_4 : decode cX2_hasRun 4 = .ok (.iload_n 2, 1) := by decide +kernel
theorem dX2_hasRun_5 : decode cX2_hasRun 5 = .ok (.ifCond .lt 18, 3) := by decide +kernel
theorem dX2_hasRun_8 : decode cX2_hasRun 8 = .ok (.iload_n 2, 1) := by decide +kernel
theorem dX2_hasRun_9 : decode cX2_hasRun 9 = .ok (.aload_n 0, 1) := by decide +kernel
theorem dX2_hasRun_10 : decode cX2_hasRun 10 = .ok (.iload_n 1, 1) := by decide +kernel
theorem dX2_hasRun_11 : decode cX2_hasRun 11 = .ok (.invokevirtual 20, 3) := by decide +kernel
theorem dX2_hasRun_14 : decode cX2_hasRun 14 = .ok (.iload_n 3, 1) := by decide +kernel
theorem dX2_hasRun_15 : decode cX2_hasRun 15 = .ok (.isub, 1) := by decide +kernel
theorem dX2_hasRun_16 : decode cX2_hasRun 16 = .ok (.if_icmp .gt 7, 3) := by decide +kernel
theorem dX2_hasRun_19 : decode cX2_hasRun 19 = .ok (.iconst 1, 1) := by decide +kernel
theorem dX2_hasRun_20 : decode cX2_hasRun 20 = .ok (.goto 4, 3) := by decide +kernel
theorem dX2_hasRun_23 : decode cX2_hasRun 23 = .ok (.iconst 0, 1) := by decide +kernel
theorem dX2_hasRun_24 : decode cX2_hasRun 24 = .ok (.ireturn, 1) := by decide +kernel
theorem dX2_get_0 : decode cX2_get 0 = .ok (.aload_n 0, 1) := by decide +kernel
theorem dX2_get_1 : decode cX2_get 1 = .ok (.iload_n 1, 1) := by decide +kernel
theorem dX2_get_2 : decode cX2_get 2 = .ok (.iload_n 2, 1) := by decide +kernel
theorem dX2_get_3 : decode cX2_get 3 = .ok (.invokevirtual 24, 3) := by decide +kernel
theorem dX2_get_6 : decode cX2_get 6 = .ok (.ifCond .eq 19, 3) := by decide +kernel
theorem dX2_get_9 : decode cX2_get 9 = .ok (.aload_n 0, 1) := by decide +kernel
theorem dX2_get_10 : decode cX2_get 10 = .ok (.getfield 7, 3) := by decide +kernel
theorem dX2_get_13 : decode cX2_get 13 = .ok (.iload_n 1, 1) := by decide +kernel
theorem dX2_get_14 : decode cX2_get 14 = .ok (.aload_n 0, 1) := by decide +kernel
theorem dX2_get_15 : decode cX2_get 15 = .ok (.getfield 16, 3) := by decide +kernel
theorem dX2_get_18 : decode cX2_get 18 = .ok (.imul, 1) := by decide +kernel
theorem dX2_get_19 : decode cX2_get 19 = .ok (.iload_n 2, 1) := by decide +kernel
theorem dX2_get_20 : decode cX2_get 20 = .ok (.iadd, 1) := by decide +kernel
theorem dX2_get_21 : decode cX2_get 21 = .ok (.iaload, 1) := by decide +kernel
theorem dX2_get_22 : decode cX2_get 22 = .ok (.goto 4, 3) := by decide +kernel
theorem dX2_get_25 : decode cX2_get 25 = .ok (.iconst 0, 1) := by decide +kernel
theorem dX2_get_26 : decode cX2_get 26 = .ok (.ireturn, 1) := by decide +kernel
theorem dX2_set_0 : decode cX2_set 0 = .ok (.aload_n 0, 1) := by decide +kernel
theorem dX2_set_1 : decode cX2_set 1 = .ok (.iload_n 1, 1) := by decide +kernel
theorem dX2_set_2 : decode cX2_set 2 = .ok (.iload_n 2, 1) := by decide +kernel
theorem dX2_set_3 : decode cX2_set 3 = .ok (.invokevirtual 24, 3) := by decide +kernel
theorem dX2_set_6 : decode cX2_set 6 = .ok (.ifCond .eq 17, 3) := by decide +kernel
theorem dX2_set_9 : decode cX2_set 9 = .ok (.aload_n 0, 1) := by decide +kernel
theorem dX2_set_10 : decode cX2_set 10 = .ok (.getfield 7, 3) := by decide +kernel
theorem dX2_set_13 : decode cX2_set 13 = .ok (.iload_n 1, 1) := by decide +kernel
theorem dX2_set_14 : decode cX2_set 14 = .ok (.aload_n 0, 1) := by decide +kernel
theorem dX2_set_15 : decode cX2_set 15 = .ok (.getfield 16, 3) := by decide +kernel
theorem dX2_set_18 : decode cX2_set 18 = .ok (.imul, 1) := by decide +kernel
theorem dX2_set_19 : decode cX2_set 19 = .ok (.iload_n 2, 1) := by decide +kernel
theorem dX2_set_20 : decode cX2_set 20 = .ok (.iadd, 1) := by decide +kernel
theorem dX2_set_21 : decode cX2_set 21 = .ok (.iload_n 3, 1) := by decide +kernel
theorem dX2_set_22 : decode cX2_set 22 = .ok (.iastore, 1) := by decide +kernel
theorem dX2_set_23 : decode cX2_set 23 = .ok (.return_, 1) := by decide +kernel
theorem dX2_make_0 : decode cX2_make 0 = .ok (.iload_n 1, 1) := by decide +kernel
theorem dX2_make_1 : decode cX2_make 1 = .ok (.ifCond .lt 61, 3) := by decide +kernel
theorem dX2_make_4 : decode cX2_make 4 = .ok (.iload_n 1, 1) := by decide +kernel
theorem dX2_make_5 : decode cX2_make 5 = .ok (.aload_n 0, 1) := by decide +kernel
theorem dX2_make_6 : decode cX2_make 6 = .ok (.getfield 13, 3) := by decide +kernel
theorem dX2_make_9 : decode cX2_make 9 = .ok (.arraylength, 1) := by decide +kernel
theorem dX2_make_10 : decode cX2_make 10 = .ok (.if_icmp .ge 52, 3) := by decide +kernel
theorem dX2_make_13 : decode cX2_make 13 = .ok (.iload_n 2, 1) := by decide +kernel
theorem dX2_make_14 : decode cX2_make 14 = .ok (.ifCond .lt 48, 3) := by decide +kernel
theorem dX2_make_17 : decode cX2_make 17 = .ok (.iload_n 2, 1) := by decide +kernel
theorem dX2_make_18 : decode cX2_make 18 = .ok (.aload_n 0, 1) := by decide +kernel
theorem dX2_make_19 : decode cX2_make 19 = .ok (.getfield 16, 3) := by decide +kernel
theorem dX2_make_22 : decode cX2_make 22 = .ok (.if_icmp .gt 40, 3) := by decide +kernel
theorem dX2_make_25 : decode cX2_make 25 = .ok (.aload_n 0, 1) := by decide +kernel
theorem dX2_make_26 : decode cX2_make 26 = .ok (.getfield 13, 3) := by decide +kernel
theorem dX2_make_29 : decode cX2_make 29 = .ok (.iload_n 1, 1) := by decide +kernel
theorem dX2_make_30 : decode cX2_make 30 = .ok (.iload_n 2, 1) := by decide +kernel
theorem dX2_make_31 : decode cX2_make 31 = .ok (.iastore, 1) := by decide +kernel
theorem dX2_make_32 : decode cX2_make 32 = .ok (.iconst 0, 1) := by decide +kernel
theorem dX2_make_33 : decode cX2_make 33 = .ok (.istore 4, 2) := by decide +kernel
theorem dX2_make_35 : decode cX2_make 35 = .ok (.iload 4, 2) := by decide +kernel
theorem dX2_make_37 : decode cX2_make 37 = .ok (.iload_n 2, 1) := by decide +kernel
theorem dX2_make_38 : decode cX2_make 38 = .ok (.if_icmp .ge 24, 3) := by decide +kernel
theorem dX2_make_41 : decode cX2_make 41 = .ok (.aload_n 0, 1) := by decide +kernel
theorem dX2_make_42 : decode cX2_make 42 = .ok (.getfield 7, 3) := by decide +kernel
theorem dX2_make_45 : decode cX2_make 45 = .ok (.iload_n 1, 1) := by decide +kernel
theorem dX2_make_46 : decode cX2_make 46 = .ok (.aload_n 0, 1) := by decide +kernel
theorem dX2_make_47 : decode cX2_make 47 = .ok (.getfield 16, 3) := by decide +kernel
theorem dX2_make_50 : decode cX2_make 50 = .ok (.imul, 1) := by decide +kernel
theorem dX2_make_51 : decode cX2_make 51 = .ok (.iload 4, 2) := by decide +kernel
theorem dX2_make_53 : decode cX2_make 53 = .ok (.iadd, 1) := by decide +kernel
theorem dX2_make_54 : decode cX2_make 54 = .ok (.iload_n 3, 1) := by decide +kernel
theorem dX2_make_55 : decode cX2_make 55 = .ok (.iastore, 1) := by decide +kernel
theorem dX2_make_56 : decode cX2_make 56 = .ok (.iinc 4 1, 3) := by decide +kernel
theorem dX2_make_59 : decode cX2_make 59 = .ok (.goto (-24), 3) := by decide +kernel
theorem dX2_make_62 : decode cX2_make 62 = .ok (.return_, 1) := by decide +kernel
theorem dX2_append_0 : decode cX2_append 0 = .ok (.aload_n 0, 1) := by decide +kernel
theorem dX2_append_1 : decode cX2_append 1 = .ok (.iload_n 1, 1) := by decide +kernel
theorem dX2_append_2 : decode cX2_append 2 = .ok (.invokevirtual 20, 3) := by decide +kernel
theorem dX2_append_5 : decode cX2_append 5 = .ok (.istore_n 3, 1) := by decide +kernel
theorem dX2_append_6 : decode cX2_append 6 = .ok (.iload_n 3, 1) := by decide +kernel
theorem dX2_append_7 : decode cX2_append 7 = .ok (.ifCond .lt 34, 3) := by decide +kernel
theorem dX2_append_10 : decode cX2_append 10 = .ok (.iload_n 3, 1) := by decide +kernel
theorem dX2_append_11 : decode cX2_append 11 = .ok (.aload_n 0, 1) := by decide +kernel
theorem dX2_append_12 : decode cX2_append 12 = .ok (.getfield 16, 3) := by decide +kernel
theorem dX2_append_15 : decode cX2_append 15 = .ok (.if_icmp .ge 26, 3) := by decide +kernel
theorem dX2_append_18 : decode cX2_append 18 = .ok (.aload_n 0, 1) := by decide +kernel
theorem dX2_append_19 : decode cX2_append 19 = .ok (.getfield 13, 3) := by decide +kernel
theorem dX2_append_22 : decode cX2_append 22 = .ok (.iload_n 1, 1) := by decide +kernel
theorem dX2_append_23 : decode cX2_append 23 = .ok (.iload_n 3, 1) := by decide +kernel
theorem dX2_append_24 : decode cX2_append 24 = .ok (.iconst 1, 1) := by decide +kernel
theorem dX2_append_25 : decode cX2_append 25 = .ok (.iadd, 1) := by decide +kernel
theorem dX2_append_26 : decode cX2_append 26 = .ok (.iastore, 1) := by decide +kernel
theorem dX2_append_27 : decode cX2_append 27 = .ok (.aload_n 0, 1) := by decide +kernel
theorem dX2_append_28 : decode cX2_append 28 = .ok (.getfield 7, 3) := by decide +kernel
theorem dX2_append_31 : decode cX2_append 31 = .ok (.iload_n 1, 1) := by decide +kernel
theorem dX2_append_32 : decode cX2_append 32 = .ok (.aload_n 0, 1) := by decide +kernel
theorem dX2_append_33 : decode cX2_append 33 = .ok (.getfield 16, 3) := by decide +kernel
theorem dX2_append_36 : decode cX2_append 36 = .ok (.imul, 1) := by decide +kernel
theorem dX2_append_37 : decode cX2_append 37 = .ok (.iload_n 3, 1) := by decide +kernel
theorem dX2_append_38 : decode cX2_append 38 = .ok (.iadd, 1) := by decide +kernel
theorem dX2_append_39 : decode cX2_append 39 = .ok (.iload_n 2, 1) := by decide +kernel
theorem dX2_append_40 : decode cX2_append 40 = .ok (.iastore, 1) := by decide +kernel
theorem dX2_append_41 : decode cX2_append 41 = .ok (.return_, 1) := by decide +kernel
theorem dX2_cut_0 : decode cX2_cut 0 = .ok (.iload_n 2, 1) := by decide +kernel
theorem dX2_cut_1 : decode cX2_cut 1 = .ok (.ifCond .lt 19, 3) := by decide +kernel
theorem dX2_cut_4 : decode cX2_cut 4 = .ok (.iload_n 2, 1) := by decide +kernel
theorem dX2_cut_5 : decode cX2_cut 5 = .ok (.aload_n 0, 1) := by decide +kernel
theorem dX2_cut_6 : decode cX2_cut 6 = .ok (.iload_n 1, 1) := by decide +kernel
theorem dX2_cut_7 : decode cX2_cut 7 = .ok (.invokevirtual 20, 3) := by decide +kernel
theorem dX2_cut_10 : decode cX2_cut 10 = .ok (.if_icmp .ge 10, 3) := by decide +kernel
theorem dX2_cut_13 : decode cX2_cut 13 = .ok (.aload_n 0, 1) := by decide +kernel
theorem dX2_cut_14 : decode cX2_cut 14 = .ok (.getfield 13, 3) := by decide +kernel
theorem dX2_cut_17 : decode cX2_cut 17 = .ok (.iload_n 1, 1) := by decide +kernel
theorem dX2_cut_18 : decode cX2_cut 18 = .ok (.iload_n 2, 1) := by decide +kernel
theorem dX2_cut_19 : decode cX2_cut 19 = .ok (.iastore, 1) := by decide +kernel
theorem dX2_cut_20 : decode cX2_cut 20 = .ok (.return_, 1) := by decide +kernel
theorem dX2_remove_0 : decode cX2_remove 0 = .ok (.iload_n 1, 1) := by decide +kernel
theorem dX2_remove_1 : decode cX2_remove 1 = .ok (.ifCond .lt 19, 3) := by decide +kernel
theorem dX2_remove_4 : decode cX2_remove 4 = .ok (.iload_n 1, 1) := by decide +kernel
theorem dX2_remove_5 : decode cX2_remove 5 = .ok (.aload_n 0, 1) := by decide +kernel
theorem dX2_remove_6 : decode cX2_remove 6 = .ok (.getfield 13, 3) := by decide +kernel
theorem dX2_remove_9 : decode cX2_remove 9 = .ok (.arraylength, 1) := by decide +kernel
theorem dX2_remove_10 : decode cX2_remove 10 = .ok (.if_icmp .ge 10, 3) := by decide +kernel
theorem dX2_remove_13 : decode cX2_remove 13 = .ok (.aload_n 0, 1) := by decide +kernel
theorem dX2_remove_14 : decode cX2_remove 14 = .ok (.getfield 13, 3) := by decide +kernel
theorem dX2_remove_17 : decode cX2_remove 17 = .ok (.iload_n 1, 1) := by decide +kernel
theorem dX2_remove_18 : decode cX2_remove 18 = .ok (.iconst (-1), 1) := by decide +kernel
theorem dX2_remove_19 : decode cX2_remove 19 = .ok (.iastore, 1) := by decide +kernel
theorem dX2_remove_20 : decode cX2_remove 20 = .ok (.return_, 1) := by decide +kernel
theorem dX2_copyRun_0 : decode cX2_copyRun 0 = .ok (.aload_n 0, 1) := by decide +kernel
theorem dX2_copyRun_1 : decode cX2_copyRun 1 = .ok (.iload_n 1, 1) := by decide +kernel
theorem dX2_copyRun_2 : decode cX2_copyRun 2 = .ok (.iload_n 2, 1) := by decide +kernel
theorem dX2_copyRun_3 : decode cX2_copyRun 3 = .ok (.iload 5, 2) := by decide +kernel
theorem dX2_copyRun_5 : decode cX2_copyRun 5 = .ok (.invokevirtual 28, 3) := by decide +kernel
theorem dX2_copyRun_8 : decode cX2_copyRun 8 = .ok (.ifCond .eq 45, 3) := by decide +kernel
theorem dX2_copyRun_11 : decode cX2_copyRun 11 = .ok (.aload_n 0, 1) := by decide +kernel
theorem dX2_copyRun_12 : decode cX2_copyRun 12 = .ok (.iload_n 3, 1) := by decide +kernel
theorem dX2_copyRun_13 : decode cX2_copyRun 13 = .ok (.iload 4, 2) := by decide +kernel
theorem dX2_copyRun_15 : decode cX2_copyRun 15 = .ok (.iload 5, 2) := by decide +kernel
theorem dX2_copyRun_17 : decode cX2_copyRun 17 = .ok (.invokevirtual 28, 3) := by decide +kernel
theorem dX2_copyRun_20 : decode cX2_copyRun 20 = .ok (.ifCond .eq 33, 3) := by decide +kernel
theorem dX2_copyRun_23 : decode cX2_copyRun 23 = .ok (.aload_n 0, 1) := by decide +kernel
theorem dX2_copyRun_24 : decode cX2_copyRun 24 = .ok (.getfield 7, 3) := by decide +kernel
theorem dX2_copyRun_27 : decode cX2_copyRun 27 = .ok (.iload_n 1, 1) := by decide +kernel
theorem dX2_copyRun_28 : decode cX2_copyRun 28 = .ok (.aload_n 0, 1) := by decide +kernel
theorem dX2_copyRun_29 : decode cX2_copyRun 29 = .ok (.getfield 16, 3) := by decide +kernel
theorem dX2_copyRun_32 : decode cX2_copyRun 32 = .ok (.imul, 1) := by decide +kernel
theorem dX2_copyRun_33 : decode cX2_copyRun 33 = .ok (.iload_n 2, 1) := by decide +kernel
theorem dX2_copyRun_34 : decode cX2_copyRun 34 = .ok (.iadd, 1) := by decide +kernel
theorem dX2_copyRun_35 : decode cX2_copyRun 35 = .ok (.aload_n 0, 1) := by decide +kernel
theorem dX2_copyRun_36 : decode cX2_copyRun 36 = .ok (.getfield 7, 3) := by decide +kernel
theorem dX2_copyRun_39 : decode cX2_copyRun 39 = .ok (.iload_n 3, 1) := by decide +kernel
theorem dX2_copyRun_40 : decode cX2_copyRun 40 = .ok (.aload_n 0, 1) := by decide +kernel
theorem dX2_copyRun_41 : decode cX2_copyRun 41 = .ok (.getfield 16, 3) := by decide +kernel
theorem dX2_copyRun_44 : decode cX2_copyRun 44 = .ok (.imul, 1) := by decide +kernel
theorem dX2_copyRun_45 : decode cX2_copyRun 45 = .ok (.iload 4, 2) := by decide +kernel
theorem dX2_copyRun_47 : decode cX2_copyRun 47 = .ok (.iadd, 1) := by decide +kernel
theorem dX2_copyRun_48 : decode cX2_copyRun 48 = .ok (.iload 5, 2) := by decide +kernel
theorem dX2_copyRun_50 : decode cX2_copyRun 50 = .ok (.invokestatic 32, 3) := by decide +kernel
theorem dX2_copyRun_53 : decode cX2_copyRun 53 = .ok (.return_, 1) := by decide +kernel
theorem dX2_copyRow_0 : decode cX2_copyRow 0 = .ok (.aload_n 0, 1) := by decide +kernel
theorem dX2_copyRow_1 : decode cX2_copyRow 1 = .ok (.iload_n 1, 1) := by decide +kernel
theorem dX2_copyRow_2 : decode cX2_copyRow 2 = .ok (.invokevirtual 20, 3) := by decide +kernel
theorem dX2_copyRow_5 : decode cX2_copyRow 5 = .ok (.istore_n 3, 1) := by decide +kernel
theorem dX2_copyRow_6 : decode cX2_copyRow 6 = .ok (.iload_n 3, 1) := by decide +kernel
theorem dX2_copyRow_7 : decode cX2_copyRow 7 = .ok (.ifCond .lt 19, 3) := by decide +kernel
theorem dX2_copyRow_10 : decode cX2_copyRow 10 = .ok (.aload_n 0, 1) := by decide +kernel
theorem dX2_copyRow_11 : decode cX2_copyRow 11 = .ok (.iload_n 2, 1) := by decide +kernel
theorem dX2_copyRow_12 : decode cX2_copyRow 12 = .ok (.iload_n 3, 1) := by decide +kernel
theorem dX2_copyRow_13 : decode cX2_copyRow 13 = .ok (.iconst 0, 1) := by decide +kernel
theorem dX2_copyRow_14 : decode cX2_copyRow 14 = .ok (.invokevirtual 38, 3) := by decide +kernel
theorem dX2_copyRow_17 : decode cX2_copyRow 17 = .ok (.aload_n 0, 1) := by decide +kernel
theorem dX2_copyRow_18 : decode cX2_copyRow 18 = .ok (.iload_n 1, 1) := by decide +kernel
theorem dX2_copyRow_19 : decode cX2_copyRow 19 = .ok (.iconst 0, 1) := by decide +kernel
theorem dX2_copyRow_20 : decode cX2_copyRow 20 = .ok (.iload_n 2, 1) := by decide +kernel
theorem dX2_copyRow_21 : decode cX2_copyRow 21 = .ok (.iconst 0, 1) := by decide +kernel
theorem dX2_copyRow_22 : decode cX2_copyRow 22 = .ok (.iload_n 3, 1) := by decide +kernel
theorem dX2_copyRow_23 : decode cX2_copyRow 23 = .ok (.invokevirtual 42, 3) := by decide +kernel
theorem dX2_copyRow_26 : decode cX2_copyRow 26 = .ok (.return_, 1) := by decide +kernel
theorem dX2_amount_0 : decode cX2_amount 0 = .ok (.iconst 0, 1) := by decide +kernel
theorem dX2_amount_1 : decode cX2_amount 1 = .ok (.istore_n 1, 1) := by decide +kernel
theorem dX2_amount_2 : decode cX2_amount 2 = .ok (.iconst 0, 1) := by decide +kernel
theorem dX2_amount_3 : decode cX2_amount 3 = .ok (.istore_n 2, 1) := by decide +kernel
theorem dX2_amount_4 : decode cX2_amount 4 = .ok (.iload_n 2, 1) := by decide +kernel
theorem dX2_amount_5 : decode cX2_amount 5 = .ok (.aload_n 0, 1) := by decide +kernel
theorem dX2_amount_6 : decode cX2_amount 6 = .ok (.getfield 13, 3) := by decide +kernel
theorem dX2_amount_9 : decode cX2_amount 9 = .ok (.arraylength, 1) := by decide +kernel
theorem dX2_amount_10 : decode cX2_amount 10 = .ok (.if_icmp .ge 22, 3) := by decide +kernel
theorem dX2_amount_13 : decode cX2_amount 13 = .ok (.aload_n 0, 1) := by decide +kernel
theorem dX2_amount_14 : decode cX2_amount 14 = .ok (.getfield 13, 3) := by decide +kernel
theorem dX2_amount_17 : decode cX2_amount 17 = .ok (.iload_n 2, 1) := by decide +kernel
theorem dX2_amount_18 : decode cX2_amount 18 = .ok (.iaload, 1) := by decide +kernel
theorem dX2_amount_19 : decode cX2_amount 19 = .ok (.iconst (-1), 1) := by decide +kernel
theorem dX2_amount_20 : decode cX2_amount 20 = .ok (.if_icmp .eq 6, 3) := by decide +kernel
theorem dX2_amount_23 : decode cX2_amount 23 = .ok (.iinc 1 1, 3) := by decide +kernel
theorem dX2_amount_26 : decode cX2_amount 26 = .ok (.iinc 2 1, 3) := by decide +kernel
theorem dX2_amount_29 : decode cX2_amount 29 = .ok (.goto (-25), 3) := by decide +kernel
theorem dX2_amount_32 : decode cX2_amount 32 = .ok (.iload_n 1, 1) := by decide +kernel
theorem dX2_amount_33 : decode cX2_amount 33 = .ok (.ireturn, 1) := by decide +kernel
theorem dX2_addTo_0 : decode cX2_addTo 0 = .ok (.lload_n 1, 1) := by decide +kernel
theorem dX2_addTo_1 : decode cX2_addTo 1 = .ok (.lstore_n 3, 1) := by decide +kernel
theorem dX2_addTo_2 : decode cX2_addTo 2 = .ok (.iconst 0, 1) := by decide +kernel
theorem dX2_addTo_3 : decode cX2_addTo 3 = .ok (.istore 5, 2) := by decide +kernel
theorem dX2_addTo_5 : decode cX2_addTo 5 = .ok (.iload 5, 2) := by decide +kernel
theorem dX2_addTo_7 : decode cX2_addTo 7 = .ok (.aload_n 0, 1) := by decide +kernel
theorem dX2_addTo_8 : decode cX2_addTo 8 = .ok (.getfield 13, 3) := by decide +kernel
theorem dX2_addTo_11 : decode cX2_addTo 11 = .ok (.arraylength, 1) := by decide +kernel
theorem dX2_addTo_12 : decode cX2_addTo 12 = .ok (.if_icmp .ge 61, 3) := by decide +kernel
theorem dX2_addTo_15 : decode cX2_addTo 15 = .ok (.ldc2_w 46, 3) := by decide +kernel
theorem dX2_addTo_18 : decode cX2_addTo 18 = .ok (.lload_n 3, 1) := by decide +kernel
theorem dX2_addTo_19 : decode cX2_addTo 19 = .ok (.lmul, 1) := by decide +kernel
theorem dX2_addTo_20 : decode cX2_addTo 20 = .ok (.aload_n 0, 1) := by decide +kernel
theorem dX2_addTo_21 : decode cX2_addTo 21 = .ok (.getfield 13, 3) := by decide +kernel
theorem dX2_addTo_24 : decode cX2_addTo 24 = .ok (.iload 5, 2) := by decide +kernel
theorem dX2_addTo_26 : decode cX2_addTo 26 = .ok (.iaload, 1) := by decide +kernel
theorem dX2_addTo_27 : decode cX2_addTo 27 = .ok (.i2l, 1) := by decide +kernel
theorem dX2_addTo_28 : decode cX2_addTo 28 = .ok (.ladd, 1) := by decide +kernel
theorem dX2_addTo_29 : decode cX2_addTo 29 = .ok (.lstore_n 3, 1) := by decide +kernel
theorem dX2_addTo_30 : decode cX2_addTo 30 = .ok (.iconst 0, 1) := by decide +kernel
theorem dX2_addTo_31 : decode cX2_addTo 31 = .ok (.istore 6, 2) := by decide +kernel
theorem dX2_addTo_33 : decode cX2_addTo 33 = .ok (.iload 6, 2) := by decide +kernel
theorem dX2_addTo_35 : decode cX2_addTo 35 = .ok (.aload_n 0, 1) := by decide +kernel
theorem dX2_addTo_36 : decode cX2_addTo 36 = .ok (.getfield 13, 3) := by decide +kernel
theorem dX2_addTo_39 : decode cX2_addTo 39 = .ok (.iload 5, 2) := by decide +kernel
theorem dX2_addTo_41 : decode cX2_addTo 41 = .ok (.iaload, 1) := by decide +kernel
theorem dX2_addTo_42 : decode cX2_addTo 42 = .ok (.if_icmp .ge 25, 3) := by decide +kernel
theorem dX2_addTo_45 : decode cX2_addTo 45 = .ok (.ldc2_w 46, 3) := by decide +kernel
theorem dX2_addTo_48 : decode cX2_addTo 48 = .ok (.lload_n 3, 1) := by decide +kernel
theorem dX2_addTo_49 : decode cX2_addTo 49 = .ok (.lmul, 1) := by decide +kernel
theorem dX2_addTo_50 : decode cX2_addTo 50 = .ok (.aload_n 0, 1) := by decide +kernel
theorem dX2_addTo_51 : decode cX2_addTo 51 = .ok (.iload 5, 2) := by decide +kernel
theorem dX2_addTo_53 : decode cX2_addTo 53 = .ok (.iload 6, 2) := by decide +kernel
theorem dX2_addTo_55 : decode cX2_addTo 55 = .ok (.invokevirtual 48, 3) := by decide +kernel
theorem dX2_addTo_58 : decode cX2_addTo 58 = .ok (.i2l, 1) := by decide +kernel
theorem dX2_addTo_59 : decode cX2_addTo 59 = .ok (.ladd, 1) := by decide +kernel
theorem dX2_addTo_60 : decode cX2_addTo 60 = .ok (.lstore_n 3, 1) := by decide +kernel
theorem dX2_addTo_61 : decode cX2_addTo 61 = .ok (.iinc 6 1, 3) := by decide +kernel
theorem dX2_addTo_64 : decode cX2_addTo 64 = .ok (.goto (-31), 3) := by decide +kernel
theorem dX2_addTo_67 : decode cX2_addTo 67 = .ok (.iinc 5 1, 3) := by decide +kernel
theorem dX2_addTo_70 : decode cX2_addTo 70 = .ok (.goto (-65), 3) := by decide +kernel
theorem dX2_addTo_73 : decode cX2_addTo 73 = .ok (.lload_n 3, 1) := by decide +kernel
theorem dX2_addTo_74 : decode cX2_addTo 74 = .ok (.lreturn, 1) := by decide +kernel
