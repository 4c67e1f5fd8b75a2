theorem dX5_on_34 : decode cX5_on 34 = .ok (.iload_n 1, 1) := by decide +kernel
theorem dX5_on_35 : decode cX5_on 35 = .ok (.imul, 1) := by decide +kernel
theorem dX5_on_36 : decode cX5_on 36 = .ok (.aload_n 0, 1) := by decide +kernel
theorem dX5_on_37 : decode cX5_on 37 = .ok (.getfield 25, 3) := by decide +kernel
theorem dX5_on_40 : decode cX5_on 40 = .ok (.iconst 0, 1) := by decide +kernel
theorem dX5_on_41 : decode cX5_on 41 = .ok (.bipush 35, 2) := by decide +kernel
theorem dX5_on_43 : decode cX5_on 43 = .ok (.invokestatic 120, 3) := by decide +kernel
theorem dX5_on_46 : decode cX5_on 46 = .ok (.aload_n 0, 1) := by decide +kernel
theorem dX5_on_47 : decode cX5_on 47 = .ok (.getfield 40, 3) := by decide +kernel
theorem dX5_on_50 : decode cX5_on 50 = .ok (.sipush 1400, 3) := by decide +kernel
theorem dX5_on_53 : decode cX5_on 53 = .ok (.iload_n 1, 1) := by decide +kernel
theorem dX5_on_54 : decode cX5_on 54 = .ok (.imul, 1) := by decide +kernel
theorem dX5_on_55 : decode cX5_on 55 = .ok (.aload_n 0, 1) := by decide +kernel
theorem dX5_on_56 : decode cX5_on 56 = .ok (.getfield 34, 3) := by decide +kernel
theorem dX5_on_59 : decode cX5_on 59 = .ok (.iconst 0, 1) := by decide +kernel
theorem dX5_on_60 : decode cX5_on 60 = .ok (.sipush 1400, 3) := by decide +kernel
theorem dX5_on_63 : decode cX5_on 63 = .ok (.invokestatic 120, 3) := by decide +kernel
theorem dX5_on_66 : decode cX5_on 66 = .ok (.aload_n 0, 1) := by decide +kernel
theorem dX5_on_67 : decode cX5_on 67 = .ok (.aload_n 0, 1) := by decide +kernel
theorem dX5_on_68 : decode cX5_on 68 = .ok (.getfield 43, 3) := by decide +kernel
theorem dX5_on_71 : decode cX5_on 71 = .ok (.iload_n 1, 1) := by decide +kernel
theorem dX5_on_72 : decode cX5_on 72 = .ok (.iaload, 1) := by decide +kernel
theorem dX5_on_73 : decode cX5_on 73 = .ok (.putfield 124, 3) := by decide +kernel
theorem dX5_on_76 : decode cX5_on 76 = .ok (.aload_n 0, 1) := by decide +kernel
theorem dX5_on_77 : decode cX5_on 77 = .ok (.getfield 124, 3) := by decide +kernel
theorem dX5_on_80 : decode cX5_on 80 = .ok (.ireturn, 1) := by decide +kernel
theorem dX5_covers_0 : decode cX5_covers 0 = .ok (.aload_n 0, 1) := by decide +kernel
theorem dX5_covers_1 : decode cX5_covers 1 = .ok (.iload_n 1, 1) := by decide +kernel
theorem dX5_covers_2 : decode cX5_covers 2 = .ok (.invokevirtual 170, 3) := by decide +kernel
theorem dX5_covers_5 : decode cX5_covers 5 = .ok (.ifCond .eq 22, 3) := by decide +kernel
theorem dX5_covers_8 : decode cX5_covers 8 = .ok (.iload_n 2, 1) := by decide +kernel
theorem dX5_covers_9 : decode cX5_covers 9 = .ok (.iconst 0, 1) := by decide +kernel
theorem dX5_covers_10 : decode cX5_covers 10 = .ok (.bipush 15, 2) := by decide +kernel
theorem dX5_covers_12 : decode cX5_covers 12 = .ok (.invokestatic 63, 3) := by decide +kernel
theorem dX5_covers_15 : decode cX5_covers 15 = .ok (.ifCond .eq 12, 3) := by decide +kernel
theorem dX5_covers_18 : decode cX5_covers 18 = .ok (.iload_n 3, 1) := by decide +kernel
theorem dX5_covers_19 : decode cX5_covers 19 = .ok (.iconst 0, 1) := by decide +kernel
theorem dX5_covers_20 : decode cX5_covers 20 = .ok (.iconst 1, 1) := by decide +kernel
theorem dX5_covers_21 : decode cX5_covers 21 = .ok (.invokestatic 63, 3) := by decide +kernel
theorem dX5_covers_24 : decode cX5_covers 24 = .ok (.ifCond .ne 5, 3) := by decide +kernel
theorem dX5_covers_27 : decode cX5_covers 27 = .ok (.iconst (-1), 1) := by decide +kernel
theorem dX5_covers_28 : decode cX5_covers 28 = .ok (.ireturn, 1) := by decide +kernel
theorem dX5_covers_29 : decode cX5_covers 29 = .ok (.aload_n 0, 1) := by decide +kernel
theorem dX5_covers_30 : decode cX5_covers 30 = .ok (.getfield 25, 3) := by decide +kernel
theorem dX5_covers_33 : decode cX5_covers 33 = .ok (.iconst 5, 1) := by decide +kernel
theorem dX5_covers_34 : decode cX5_covers 34 = .ok (.iconst 5, 1) := by decide +kernel
theorem dX5_covers_35 : decode cX5_covers 35 = .ok (.iload_n 1, 1) := by decide +kernel
theorem dX5_covers_36 : decode cX5_covers 36 = .ok (.imul, 1) := by decide +kernel
theorem dX5_covers_37 : decode cX5_covers 37 = .ok (.iadd, 1) := by decide +kernel
theorem dX5_covers_38 : decode cX5_covers 38 = .ok (.iaload, 1) := by decide +kernel
theorem dX5_covers_39 : decode cX5_covers 39 = .ok (.iload_n 2, 1) := by decide +kernel
theorem dX5_covers_40 : decode cX5_covers 40 = .ok (.aload_n 0, 1) := by decide +kernel
theorem dX5_covers_41 : decode cX5_covers 41 = .ok (.getfield 25, 3) := by decide +kernel
theorem dX5_covers_44 : decode cX5_covers 44 = .ok (.iconst 5, 1) := by decide +kernel
theorem dX5_covers_45 : decode cX5_covers 45 = .ok (.iconst 5, 1) := by decide +kernel
theorem dX5_covers_46 : decode cX5_covers 46 = .ok (.iload_n 1, 1) := by decide +kernel
theorem dX5_covers_47 : decode cX5_covers 47 = .ok (.imul, 1) := by decide +kernel
theorem dX5_covers_48 : decode cX5_covers 48 = .ok (.iadd, 1) := by decide +kernel
theorem dX5_covers_49 : decode cX5_covers 49 = .ok (.iconst 2, 1) := by decide +kernel
theorem dX5_covers_50 : decode cX5_covers 50 = .ok (.iadd, 1) := by decide +kernel
theorem dX5_covers_51 : decode cX5_covers 51 = .ok (.iaload, 1) := by decide +kernel
theorem dX5_covers_52 : decode cX5_covers 52 = .ok (.iload_n 3, 1) := by decide +kernel
theorem dX5_covers_53 : decode cX5_covers 53 = .ok (.invokestatic 136, 3) := by decide +kernel
theorem dX5_covers_56 : decode cX5_covers 56 = .ok (.ireturn, 1) := by decide +kernel
theorem dX5_covered_0 : decode cX5_covered 0 = .ok (.aload_n 0, 1) := by decide +kernel
theorem dX5_covered_1 : decode cX5_covered 1 = .ok (.invokevirtual 186, 3) := by decide +kernel
theorem dX5_covered_4 : decode cX5_covered 4 = .ok (.ifCond .ne 6, 3) := by decide +kernel
theorem dX5_covered_7 : decode cX5_covered 7 = .ok (.bipush (-4), 2) := by decide +kernel
theorem dX5_covered_9 : decode cX5_covered 9 = .ok (.ireturn, 1) := by decide +kernel
theorem dX5_covered_10 : decode cX5_covered 10 = .ok (.aload_n 0, 1) := by decide +kernel
theorem dX5_covered_11 : decode cX5_covered 11 = .ok (.aload_n 0, 1) := by decide +kernel
theorem dX5_covered_12 : decode cX5_covered 12 = .ok (.getfield 25, 3) := by decide +kernel
theorem dX5_covered_15 : decode cX5_covered 15 = .ok (.invokestatic 163, 3) := by decide +kernel
theorem dX5_covered_18 : decode cX5_covered 18 = .ok (.invokevirtual 75, 3) := by decide +kernel
theorem dX5_covered_21 : decode cX5_covered 21 = .ok (.pop, 1) := by decide +kernel
theorem dX5_covered_22 : decode cX5_covered 22 = .ok (.aload_n 0, 1) := by decide +kernel
theorem dX5_covered_23 : decode cX5_covered 23 = .ok (.getfield 25, 3) := by decide +kernel
theorem dX5_covered_26 : decode cX5_covered 26 = .ok (.iconst 0, 1) := by decide +kernel
theorem dX5_covered_27 : decode cX5_covered 27 = .ok (.invokestatic 154, 3) := by decide +kernel
theorem dX5_covered_30 : decode cX5_covered 30 = .ok (.ireturn, 1) := by decide +kernel
theorem dX5_weighs_0 : decode cX5_weighs 0 = .ok (.iload_n 1, 1) := by decide +kernel
theorem dX5_weighs_1 : decode cX5_weighs 1 = .ok (.iconst 0, 1) := by decide +kernel
theorem dX5_weighs_2 : decode cX5_weighs 2 = .ok (.bipush 7, 2) := by decide +kernel
theorem dX5_weighs_4 : decode cX5_weighs 4 = .ok (.invokestatic 63, 3) := by decide +kernel
theorem dX5_weighs_7 : decode cX5_weighs 7 = .ok (.ifCond .ne 5, 3) := by decide +kernel
theorem dX5_weighs_10 : decode cX5_weighs 10 = .ok (.iconst (-1), 1) := by decide +kernel
theorem dX5_weighs_11 : decode cX5_weighs 11 = .ok (.ireturn, 1) := by decide +kernel
theorem dX5_weighs_12 : decode cX5_weighs 12 = .ok (.aload_n 0, 1) := by decide +kernel
theorem dX5_weighs_13 : decode cX5_weighs 13 = .ok (.invokevirtual 186, 3) := by decide +kernel
theorem dX5_weighs_16 : decode cX5_weighs 16 = .ok (.ifCond .ne 6, 3) := by decide +kernel
theorem dX5_weighs_19 : decode cX5_weighs 19 = .ok (.bipush (-4), 2) := by decide +kernel
theorem dX5_weighs_21 : decode cX5_weighs 21 = .ok (.ireturn, 1) := by decide +kernel
theorem dX5_weighs_22 : decode cX5_weighs 22 = .ok (.iconst 0, 1) := by decide +kernel
theorem dX5_weighs_23 : decode cX5_weighs 23 = .ok (.istore_n 2, 1) := by decide +kernel
theorem dX5_weighs_24 : decode cX5_weighs 24 = .ok (.iconst 0, 1) := by decide +kernel
theorem dX5_weighs_25 : decode cX5_weighs 25 = .ok (.istore_n 3, 1) := by decide +kernel
theorem dX5_weighs_26 : decode cX5_weighs 26 = .ok (.iload_n 3, 1) := by decide +kernel
theorem dX5_weighs_27 : decode cX5_weighs 27 = .ok (.aload_n 0, 1) := by decide +kernel
theorem dX5_weighs_28 : decode cX5_weighs 28 = .ok (.getfield 25, 3) := by decide +kernel
theorem dX5_weighs_31 : decode cX5_weighs 31 = .ok (.iconst 1, 1) := by decide +kernel
theorem dX5_weighs_32 : decode cX5_weighs 32 = .ok (.iaload, 1) := by decide +kernel
theorem dX5_weighs_33 : decode cX5_weighs 33 = .ok (.if_icmp .ge 72, 3) := by decide +kernel
theorem dX5_weighs_36 : decode cX5_weighs 36 = .ok (.aload_n 0, 1) := by decide +kernel
theorem dX5_weighs_37 : decode cX5_weighs 37 = .ok (.getfield 25, 3) := by decide +kernel
theorem dX5_weighs_40 : decode cX5_weighs 40 = .ok (.iconst 5, 1) := by decide +kernel
theorem dX5_weighs_41 : decode cX5_weighs 41 = .ok (.iconst 5, 1) := by decide +kernel
theorem dX5_weighs_42 : decode cX5_weighs 42 = .ok (.iload_n 3, 1) := by decide +kernel
theorem dX5_weighs_43 : decode cX5_weighs 43 = .ok (.imul, 1) := by decide +kernel
theorem dX5_weighs_44 : decode cX5_weighs 44 = .ok (.iadd, 1) := by decide +kernel
theorem dX5_weighs_45 : decode cX5_weighs 45 = .ok (.iconst 4, 1) := by decide +kernel
theorem dX5_weighs_46 : decode cX5_weighs 46 = .ok (.iadd, 1) := by decide +kernel
theorem dX5_weighs_47 : decode cX5_weighs 47 = .ok (.iaload, 1) := by decide +kernel
theorem dX5_weighs_48 : decode cX5_weighs 48 = .ok (.ifCond .ne 23, 3) := by decide +kernel
theorem dX5_weighs_51 : decode cX5_weighs 51 = .ok (.aload_n 0, 1) := by decide +kernel
theorem dX5_weighs_52 : decode cX5_weighs 52 = .ok (.getfield 25, 3) := by decide +kernel
theorem dX5_weighs_55 : decode cX5_weighs 55 = .ok (.iload_n 3, 1) := by decide +kernel
theorem dX5_weighs_56 : decode cX5_weighs 56 = .ok (.invokestatic 144, 3) := by decide +kernel
theorem dX5_weighs_59 : decode cX5_weighs 59 = .ok (.iload_n 1, 1) := by decide +kernel
theorem dX5_weighs_60 : decode cX5_weighs 60 = .ok (.invokestatic 148, 3) := by decide +kernel
theorem dX5_weighs_63 : decode cX5_weighs 63 = .ok (.iand, 1) := by decide +kernel
theorem dX5_weighs_64 : decode cX5_weighs 64 = .ok (.ifCond .eq 7, 3) := by decide +kernel
theorem dX5_weighs_67 : decode cX5_weighs 67 = .ok (.iconst 1, 1) := by decide +kernel
theorem dX5_weighs_68 : decode cX5_weighs 68 = .ok (.goto 4, 3) := by decide +kernel
theorem dX5_weighs_71 : decode cX5_weighs 71 = .ok (.iconst 0, 1) := by decide +kernel
theorem dX5_weighs_72 : decode cX5_weighs 72 = .ok (.istore 4, 2) := by decide +kernel
theorem dX5_weighs_74 : decode cX5_weighs 74 = .ok (.iload_n 2, 1) := by decide +kernel
theorem dX5_weighs_75 : decode cX5_weighs 75 = .ok (.iload 4, 2) := by decide +kernel
theorem dX5_weighs_77 : decode cX5_weighs 77 = .ok (.ifCond .eq 19, 3) := by decide +kernel
theorem dX5_weighs_80 : decode cX5_weighs 80 = .ok (.aload_n 0, 1) := by decide +kernel
theorem dX5_weighs_81 : decode cX5_weighs 81 = .ok (.getfield 25, 3) := by decide +kernel
theorem dX5_weighs_84 : decode cX5_weighs 84 = .ok (.iconst 5, 1) := by decide +kernel
theorem dX5_weighs_85 : decode cX5_weighs 85 = .ok (.iconst 5, 1) := by decide +kernel
theorem dX5_weighs_86 : decode cX5_weighs 86 = .ok (.iload_n 3, 1) := by decide +kernel
theorem dX5_weighs_87 : decode cX5_weighs 87 = .ok (.imul, 1) := by decide +kernel
theorem dX5_weighs_88 : decode cX5_weighs 88 = .ok (.iadd, 1) := by decide +kernel
theorem dX5_weighs_89 : decode cX5_weighs 89 = .ok (.iaload, 1) := by decide +kernel
theorem dX5_weighs_90 : decode cX5_weighs 90 = .ok (.invokestatic 167, 3) := by decide +kernel
theorem dX5_weighs_93 : decode cX5_weighs 93 = .ok (.goto 4, 3) := by decide +kernel
theorem dX5_weighs_96 : decode cX5_weighs 96 = .ok (.iconst 0, 1) := by decide +kernel
theorem dX5_weighs_97 : decode cX5_weighs 97 = .ok (.iadd, 1) := by decide +kernel
theorem dX5_weighs_98 : decode cX5_weighs 98 = .ok (.istore_n 2, 1) := by decide +kernel
theorem dX5_weighs_99 : decode cX5_weighs 99 = .ok (.iinc 3 1, 3) := by decide +kernel
theorem dX5_weighs_102 : decode cX5_weighs 102 = .ok (.goto (-76), 3) := by decide +kernel
theorem dX5_weighs_105 : decode cX5_weighs 105 = .ok (.iload_n 2, 1) := by decide +kernel
theorem dX5_weighs_106 : decode cX5_weighs 106 = .ok (.ireturn, 1) := by decide +kernel
theorem dX5_reads_0 : decode cX5_reads 0 = .ok (.iload_n 1, 1) := by decide +kernel
theorem dX5_reads_1 : decode cX5_reads 1 = .ok (.iconst 0, 1) := by decide +kernel
theorem dX5_reads_2 : decode cX5_reads 2 = .ok (.bipush 40, 2) := by decide +kernel
theorem dX5_reads_4 : decode cX5_reads 4 = .ok (.invokestatic 63, 3) := by decide +kernel
theorem dX5_reads_7 : decode cX5_reads 7 = .ok (.ifCond .ne 5, 3) := by decide +kernel
theorem dX5_reads_10 : decode cX5_reads 10 = .ok (.iconst (-1), 1) := by decide +kernel
theorem dX5_reads_11 : decode cX5_reads 11 = .ok (.ireturn, 1) := by decide +kernel
theorem dX5_reads_12 : decode cX5_reads 12 = .ok (.aload_n 0, 1) := by decide +kernel
theorem dX5_reads_13 : decode cX5_reads 13 = .ok (.invokevirtual 186, 3) := by decide +kernel
theorem dX5_reads_16 : decode cX5_reads 16 = .ok (.ifCond .ne 6, 3) := by decide +kernel
theorem dX5_reads_19 : decode cX5_reads 19 = .ok (.bipush (-4), 2) := by decide +kernel
theorem dX5_reads_21 : decode cX5_reads 21 = .ok (.ireturn, 1) := by decide +kernel
theorem dX5_reads_22 : decode cX5_reads 22 = .ok (.aload_n 0, 1) := by decide +kernel
theorem dX5_reads_23 : decode cX5_reads 23 = .ok (.getfield 25, 3) := by decide +kernel
theorem dX5_reads_26 : decode cX5_reads 26 = .ok (.iconst 0, 1) := by decide +kernel
theorem dX5_reads_27 : decode cX5_reads 27 = .ok (.aload_n 0, 1) := by decide +kernel
theorem dX5_reads_28 : decode cX5_reads 28 = .ok (.getfield 31, 3) := by decide +kernel
theorem dX5_reads_31 : decode cX5_reads 31 = .ok (.iconst 0, 1) := by decide +kernel
theorem dX5_reads_32 : decode cX5_reads 32 = .ok (.bipush 35, 2) := by decide +kernel
theorem dX5_reads_34 : decode cX5_reads 34 = .ok (.invokestatic 120, 3) := by decide +kernel
theorem dX5_reads_37 : decode cX5_reads 37 = .ok (.iconst 0, 1) := by decide +kernel
theorem dX5_reads_38 : decode cX5_reads 38 = .ok (.istore_n 2, 1) := by decide +kernel
theorem dX5_reads_39 : decode cX5_reads 39 = .ok (.iload_n 2, 1) := by decide +kernel
theorem dX5_reads_40 : decode cX5_reads 40 = .ok (.iload_n 1, 1) := by decide +kernel
theorem dX5_reads_41 : decode cX5_reads 41 = .ok (.if_icmp .ge 17, 3) := by decide +kernel
theorem dX5_reads_44 : decode cX5_reads 44 = .ok (.aload_n 0, 1) := by decide +kernel
theorem dX5_reads_45 : decode cX5_reads 45 = .ok (.getfield 31, 3) := by decide +kernel
theorem dX5_reads_48 : decode cX5_reads 48 = .ok (.invokestatic 193, 3) := by decide +kernel
theorem dX5_reads_51 : decode cX5_reads 51 = .ok (.pop, 1) := by decide +kernel
theorem dX5_reads_52 : decode cX5_reads 52 = .ok (.iinc 2 1, 3) := by decide +kernel
theorem dX5_reads_55 : decode cX5_reads 55 = .ok (.goto (-16), 3) := by decide +kernel
theorem dX5_reads_58 : decode cX5_reads 58 = .ok (.aload_n 0, 1) := by decide +kernel
theorem dX5_reads_59 : decode cX5_reads 59 = .ok (.aload_n 0, 1) := by decide +kernel
theorem dX5_reads_60 : decode cX5_reads 60 = .ok (.getfield 31, 3) := by decide +kernel
theorem dX5_reads_63 : decode cX5_reads 63 = .ok (.iconst 3, 1) := by decide +kernel
theorem dX5_reads_64 : decode cX5_reads 64 = .ok (.iaload, 1) := by decide +kernel
theorem dX5_reads_65 : decode cX5_reads 65 = .ok (.invokevirtual 75, 3) := by decide +kernel
theorem dX5_reads_68 : decode cX5_reads 68 = .ok (.pop, 1) := by decide +kernel
theorem dX5_reads_69 : decode cX5_reads 69 = .ok (.aload_n 0, 1) := by decide +kernel
theorem dX5_reads_70 : decode cX5_reads 70 = .ok (.getfield 31, 3) := by decide +kernel
theorem dX5_reads_73 : decode cX5_reads 73 = .ok (.invokestatic 163, 3) := by decide +kernel
theorem dX5_reads_76 : decode cX5_reads 76 = .ok (.ireturn, 1) := by decide +kernel
theorem dX5_first_0 : decode cX5_first 0 = .ok (.iload_n 1, 1) := by decide +kernel
theorem dX5_first_1 : decode cX5_first 1 = .ok (.iconst 0, 1) := by decide +kernel
theorem dX5_first_2 : decode cX5_first 2 = .ok (.bipush 7, 2) := by decide +kernel
theorem dX5_first_4 : decode cX5_first 4 = .ok (.invokestatic 63, 3) := by decide +kernel
theorem dX5_first_7 : decode cX5_first 7 = .ok (.ifCond .ne 5, 3) := by decide +kernel
theorem dX5_first_10 : decode cX5_first 10 = .ok (.iconst (-1), 1) := by decide +kernel
theorem dX5_first_11 : decode cX5_first 11 = .ok (.ireturn, 1) := by decide +kernel
theorem dX5_first_12 : decode cX5_first 12 = .ok (.aload_n 0, 1) := by decide +kernel
theorem dX5_first_13 : decode cX5_first 13 = .ok (.invokevirtual 186, 3) := by decide +kernel
theorem dX5_first_16 : decode cX5_first 16 = .ok (.ifCond .ne 6, 3) := by decide +kernel
theorem dX5_first_19 : decode cX5_first 19 = .ok (.bipush (-4), 2) := by decide +kernel
theorem dX5_first_21 : decode cX5_first 21 = .ok (.ireturn, 1) := by decide +kernel
theorem dX5_first_22 : decode cX5_first 22 = .ok (.aload_n 0, 1) := by decide +kernel
theorem dX5_first_23 : decode cX5_first 23 = .ok (.getfield 25, 3) := by decide +kernel
theorem dX5_first_26 : decode cX5_first 26 = .ok (.iconst 0, 1) := by decide +kernel
theorem dX5_first_27 : decode cX5_first 27 = .ok (.aload_n 0, 1) := by decide +kernel
theorem dX5_first_28 : decode cX5_first 28 = .ok (.getfield 31, 3) := by decide +kernel
theorem dX5_first_31 : decode cX5_first 31 = .ok (.iconst 0, 1) := by decide +kernel
theorem dX5_first_32 : decode cX5_first 32 = .ok (.bipush 35, 2) := by decide +kernel
theorem dX5_first_34 : decode cX5_first 34 = .ok (.invokestatic 120, 3) := by decide +kernel
theorem dX5_first_37 : decode cX5_first 37 = .ok (.iconst 1, 1) := by decide +kernel
theorem dX5_first_38 : decode cX5_first 38 = .ok (.istore_n 2, 1) := by decide +kernel
theorem dX5_first_39 : decode cX5_first 39 = .ok (.iload_n 2, 1) := by decide +kernel
theorem dX5_first_40 : decode cX5_first 40 = .ok (.bipush 41, 2) := by decide +kernel
theorem dX5_first_42 : decode cX5_first 42 = .ok (.if_icmp .ge 25, 3) := by decide +kernel
theorem dX5_first_45 : decode cX5_first 45 = .ok (.aload_n 0, 1) := by decide +kernel
theorem dX5_first_46 : decode cX5_first 46 = .ok (.getfield 31, 3) := by decide +kernel
theorem dX5_first_49 : decode cX5_first 49 = .ok (.invokestatic 193, 3) := by decide +kernel
theorem dX5_first_52 : decode cX5_first 52 = .ok (.iload_n 1, 1) := by decide +kernel
theorem dX5_first_53 : decode cX5_first 53 = .ok (.invokestatic 140, 3) := by decide +kernel
theorem dX5_first_56 : decode cX5_first 56 = .ok (.ifCond .eq 5, 3) := by decide +kernel
theorem dX5_first_59 : decode cX5_first 59 = .ok (.iload_n 2, 1) := by decide +kernel
theorem dX5_first_60 : decode cX5_first 60 = .ok (.ireturn, 1) := by decide +kernel
theorem dX5_first_61 : decode cX5_first 61 = .ok (.iinc 2 1, 3) := by decide +kernel
theorem dX5_first_64 : decode cX5_first 64 = .ok (.goto (-25), 3) := by decide +kernel
theorem dX5_first_67 : decode cX5_first 67 = .ok (.bipush (-9), 2) := by decide +kernel
theorem dX5_first_69 : decode cX5_first 69 = .ok (.ireturn, 1) := by decide +kernel
theorem dX5_areRead_0 : decode cX5_areRead 0 = .ok (.iload_n 1, 1) := by decide +kernel
theorem dX5_areRead_1 : decode cX5_areRead 1 = .ok (.aload_n 0, 1) := by decide +kernel
theorem dX5_areRead_2 : decode cX5_areRead 2 = .ok (.getfield 31, 3) := by decide +kernel
theorem dX5_areRead_5 : decode cX5_areRead 5 = .ok (.invokestatic 163, 3) := by decide +kernel
theorem dX5_areRead_8 : decode cX5_areRead 8 = .ok (.iconst (-1), 1) := by decide +kernel
theorem dX5_areRead_9 : decode cX5_areRead 9 = .ok (.ixor, 1) := by decide +kernel
theorem dX5_areRead_10 : decode cX5_areRead 10 = .ok (.iand, 1) := by decide +kernel
theorem dX5_areRead_11 : decode cX5_areRead 11 = .ok (.ifCond .ne 7, 3) := by decide +kernel
theorem dX5_areRead_14 : decode cX5_areRead 14 = .ok (.iconst 1, 1) := by decide +kernel
theorem dX5_areRead_15 : decode cX5_areRead 15 = .ok (.goto 4, 3) := by decide +kernel
theorem dX5_areRead_18 : decode cX5_areRead 18 = .ok (.iconst 0, 1) := by decide +kernel
theorem dX5_areRead_19 : decode cX5_areRead 19 = .ok (.ireturn, 1) := by decide +kernel
theorem dX5_answers_0 : decode cX5_answers 0 = .ok (.aload_n 0, 1) := by decide +kernel
theorem dX5_answers_1 : decode cX5_answers 1 = .ok (.getfield 7, 3) := by decide +kernel
theorem dX5_answers_4 : decode cX5_answers 4 = .ok (.iload_n 1, 1) := by decide +kernel
theorem dX5_answers_5 : decode cX5_answers 5 = .ok (.iload_n 2, 1) := by decide +kernel
theorem dX5_answers_6 : decode cX5_answers 6 = .ok (.iastore, 1) := by decide +kernel
theorem dX5_answers_7 : decode cX5_answers 7 = .ok (.iconst 0, 1) := by decide +kernel
theorem dX5_answers_8 : decode cX5_answers 8 = .ok (.istore 7, 2) := by decide +kernel
theorem dX5_answers_10 : decode cX5_answers 10 = .ok (.iload 7, 2) := by decide +kernel
theorem dX5_answers_12 : decode cX5_answers 12 = .ok (.bipush 40, 2) := by decide +kernel
theorem dX5_answers_14 : decode cX5_answers 14 = .ok (.if_icmp .ge 64, 3) := by decide +kernel
theorem dX5_answers_17 : decode cX5_answers 17 = .ok (.aload_n 0, 1) := by decide +kernel
theorem dX5_answers_18 : decode cX5_answers 18 = .ok (.getfield 13, 3) := by decide +kernel
theorem dX5_answers_21 : decode cX5_answers 21 = .ok (.bipush 40, 2) := by decide +kernel
theorem dX5_answers_23 : decode cX5_answers 23 = .ok (.iload_n 1, 1) := by decide +kernel
theorem dX5_answers_24 : decode cX5_answers 24 = .ok (.imul, 1) := by decide +kernel
theorem dX5_answers_25 : decode cX5_answers 25 = .ok (.iload 7, 2) := by decide +kernel
theorem dX5_answers_27 : decode cX5_answers 27 = .ok (.iadd, 1) := by decide +kernel
theorem dX5_answers_28 : decode cX5_answers 28 = .ok (.iload 7, 2) := by decide +kernel
theorem dX5_answers_30 : decode cX5_answers 30 = .ok (.iload_n 2, 1) := by decide +kernel
theorem dX5_answers_31 : decode cX5_answers 31 = .ok (.if_icmp .lt 7, 3) := by decide +kernel
theorem dX5_answers_34 : decode cX5_answers 34 = .ok (.iconst 0, 1) := by decide +kernel
theorem dX5_answers_35 : decode cX5_answers 35 = .ok (.goto 36, 3) := by decide +kernel
theorem dX5_answers_38 : decode cX5_answers 38 = .ok (.iload 7, 2) := by decide +kernel
theorem dX5_answers_40 : decode cX5_answers 40 = .ok (.ifCond .ne 7, 3) := by decide +kernel
theorem dX5_answers_43 : decode cX5_answers 43 = .ok (.iload_n 3, 1) := by decide +kernel
theorem dX5_answers_44 : decode cX5_answers 44 = .ok (.goto 27, 3) := by decide +kernel
theorem dX5_answers_47 : decode cX5_answers 47 = .ok (.iload 7, 2) := by decide +kernel
theorem dX5_answers_49 : decode cX5_answers 49 = .ok (.iconst 1, 1) := by decide +kernel
theorem dX5_answers_50 : decode cX5_answers 50 = .ok (.if_icmp .ne 8, 3) := by decide +kernel
theorem dX5_answers_53 : decode cX5_answers 53 = .ok (.iload 4, 2) := by decide +kernel
theorem dX5_answers_55 : decode cX5_answers 55 = .ok (.goto 16, 3) := by decide +kernel
theorem dX5_answers_58 : decode cX5_answers 58 = .ok (.iload 7, 2) := by decide +kernel
theorem dX5_answers_60 : decode cX5_answers 60 = .ok (.iconst 2, 1) := by decide +kernel
theorem dX5_answers_61 : decode cX5_answers 61 = .ok (.if_icmp .ne 8, 3) := by decide +kernel
theorem dX5_answers_64 : decode cX5_answers 64 = .ok (.iload 5, 2) := by decide +kernel
theorem dX5_answers_66 : decode cX5_answers 66 = .ok (.goto 5, 3) := by decide +kernel
theorem dX5_answers_69 : decode cX5_answers 69 = .ok (.iload 6, 2) := by decide +kernel
theorem dX5_answers_71 : decode cX5_answers 71 = .ok (.iastore, 1) := by decide +kernel
theorem dX5_answers_72 : decode cX5_answers 72 = .ok (.iinc 7 1, 3) := by decide +kernel
theorem dX5_answers_75 : decode cX5_answers 75 = .ok (.goto (-65), 3) := by decide +kernel
theorem dX5_answers_78 : decode cX5_answers 78 = .ok (.return_, 1) := by decide +kernel
theorem dX5_isDown_0 : decode cX5_isDown 0 = .ok (.aload_n 0, 1) := by decide +kernel
theorem dX5_isDown_1 : decode cX5_isDown 1 = .ok (.getfield 25, 3) := by decide +kernel
theorem dX5_isDown_4 : decode cX5_isDown 4 = .ok (.iconst 5, 1) := by decide +kernel
theorem dX5_isDown_5 : decode cX5_isDown 5 = .ok (.iconst 5, 1) := by decide +kernel
theorem dX5_isDown_6 : decode cX5_isDown 6 = .ok (.iload_n 1, 1) := by decide +kernel
theorem dX5_isDown_7 : decode cX5_isDown 7 = .ok (.imul, 1) := by decide +kernel
theorem dX5_isDown_8 : decode cX5_isDown 8 = .ok (.iadd, 1) := by decide +kernel
theorem dX5_isDown_9 : decode cX5_isDown 9 = .ok (.iconst 4, 1) := by decide +kernel
theorem dX5_isDown_10 : decode cX5_isDown 10 = .ok (.iadd, 1) := by decide +kernel
theorem dX5_isDown_11 : decode cX5_isDown 11 = .ok (.iaload, 1) := by decide +kernel
theorem dX5_isDown_12 : decode cX5_isDown 12 = .ok (.ifCond .ne 7, 3) := by decide +kernel
theorem dX5_isDown_15 : decode cX5_isDown 15 = .ok (.iconst 1, 1) := by decide +kernel
theorem dX5_isDown_16 : decode cX5_isDown 16 = .ok (.goto 4, 3) := by decide +kernel
theorem dX5_isDown_19 : decode cX5_isDown 19 = .ok (.iconst 0, 1) := by decide +kernel
theorem dX5_isDown_20 : decode cX5_isDown 20 = .ok (.ireturn, 1) := by decide +kernel
theorem dX5_found_0 : decode cX5_found 0 = .ok (.iload_n 1, 1) := by decide +kernel
theorem dX5_found_1 : decode cX5_found 1 = .ok (.iconst 0, 1) := by decide +kernel
theorem dX5_found_2 : decode cX5_found 2 = .ok (.sipush 255, 3) := by decide +kernel
theorem dX5_found_5 : decode cX5_found 5 = .ok (.invokestatic 63, 3) := by decide +kernel
theorem dX5_found_8 : decode cX5_found 8 = .ok (.ifCond .eq 10, 3) := by decide +kernel
theorem dX5_found_11 : decode cX5_found 11 = .ok (.iload_n 2, 1) := by decide +kernel
theorem dX5_found_12 : decode cX5_found 12 = .ok (.invokestatic 67, 3) := by decide +kernel
theorem dX5_found_15 : decode cX5_found 15 = .ok (.ifCond .ne 5, 3) := by decide +kernel
theorem dX5_found_18 : decode cX5_found 18 = .ok (.iconst (-1), 1) := by decide +kernel
theorem dX5_found_19 : decode cX5_found 19 = .ok (.ireturn, 1) := by decide +kernel
theorem dX5_found_20 : decode cX5_found 20 = .ok (.aload_n 0, 1) := by decide +kernel
theorem dX5_found_21 : decode cX5_found 21 = .ok (.invokevirtual 186, 3) := by decide +kernel
theorem dX5_found_24 : decode cX5_found 24 = .ok (.ifCond .ne 6, 3) := by decide +kernel
theorem dX5_found_27 : decode cX5_found 27 = .ok (.bipush (-4), 2) := by decide +kernel
theorem dX5_found_29 : decode cX5_found 29 = .ok (.ireturn, 1) := by decide +kernel
theorem dX5_found_30 : decode cX5_found 30 = .ok (.aload_n 0, 1) := by decide +kernel
theorem dX5_found_31 : decode cX5_found 31 = .ok (.getfield 25, 3) := by decide +kernel
theorem dX5_found_34 : decode cX5_found 34 = .ok (.iconst 0, 1) := by decide +kernel
theorem dX5_found_35 : decode cX5_found 35 = .ok (.aload_n 0, 1) := by decide +kernel
theorem dX5_found_36 : decode cX5_found 36 = .ok (.getfield 31, 3) := by decide +kernel
theorem dX5_found_39 : decode cX5_found 39 = .ok (.iconst 0, 1) := by decide +kernel
theorem dX5_found_40 : decode cX5_found 40 = .ok (.bipush 35, 2) := by decide +kernel
theorem dX5_found_42 : decode cX5_found 42 = .ok (.invokestatic 120, 3) := by decide +kernel
theorem dX5_found_45 : decode cX5_found 45 = .ok (.aload_n 0, 1) := by decide +kernel
theorem dX5_found_46 : decode cX5_found 46 = .ok (.iload_n 1, 1) := by decide +kernel
theorem dX5_found_47 : decode cX5_found 47 = .ok (.invokevirtual 202, 3) := by decide +kernel
theorem dX5_found_50 : decode cX5_found 50 = .ok (.ifCond .eq 15, 3) := by decide +kernel
theorem dX5_found_53 : decode cX5_found 53 = .ok (.aload_n 0, 1) := by decide +kernel
theorem dX5_found_54 : decode cX5_found 54 = .ok (.iload_n 2, 1) := by decide +kernel
theorem dX5_found_55 : decode cX5_found 55 = .ok (.iconst 0, 1) := by decide +kernel
theorem dX5_found_56 : decode cX5_found 56 = .ok (.iconst 0, 1) := by decide +kernel
theorem dX5_found_57 : decode cX5_found 57 = .ok (.iconst 0, 1) := by decide +kernel
theorem dX5_found_58 : decode cX5_found 58 = .ok (.iconst 0, 1) := by decide +kernel
theorem dX5_found_59 : decode cX5_found 59 = .ok (.iconst 0, 1) := by decide +kernel
theorem dX5_found_60 : decode cX5_found 60 = .ok (.invokevirtual 205, 3) := by decide +kernel
theorem dX5_found_63 : decode cX5_found 63 = .ok (.iconst 0, 1) := by decide +kernel
theorem dX5_found_64 : decode cX5_found 64 = .ok (.ireturn, 1) := by decide +kernel
theorem dX5_found_65 : decode cX5_found 65 = .ok (.iconst 0, 1) := by decide +kernel
theorem dX5_found_66 : decode cX5_found 66 = .ok (.istore_n 3, 1) := by decide +kernel
theorem dX5_found_67 : decode cX5_found 67 = .ok (.iload_n 3, 1) := by decide +kernel
theorem dX5_found_68 : decode cX5_found 68 = .ok (.aload_n 0, 1) := by decide +kernel
theorem dX5_found_69 : decode cX5_found 69 = .ok (.getfield 25, 3) := by decide +kernel
theorem dX5_found_72 : decode cX5_found 72 = .ok (.iconst 1, 1) := by decide +kernel
theorem dX5_found_73 : decode cX5_found 73 = .ok (.iaload, 1) := by decide +kernel
theorem dX5_found_74 : decode cX5_found 74 = .ok (.if_icmp .ge 83, 3) := by decide +kernel
theorem dX5_found_77 : decode cX5_found 77 = .ok (.iconst 0, 1) := by decide +kernel
theorem dX5_found_78 : decode cX5_found 78 = .ok (.istore 4, 2) := by decide +kernel
theorem dX5_found_80 : decode cX5_found 80 = .ok (.iload 4, 2) := by decide +kernel
theorem dX5_found_82 : decode cX5_found 82 = .ok (.bipush 16, 2) := by decide +kernel
theorem dX5_found_84 : decode cX5_found 84 = .ok (.if_icmp .ge 67, 3) := by decide +kernel
theorem dX5_found_87 : decode cX5_found 87 = .ok (.aload_n 0, 1) := by decide +kernel
theorem dX5_found_88 : decode cX5_found 88 = .ok (.iload_n 3, 1) := by decide +kernel
theorem dX5_found_89 : decode cX5_found 89 = .ok (.invokevirtual 209, 3) := by decide +kernel
theorem dX5_found_92 : decode cX5_found 92 = .ok (.ifCond .eq 59, 3) := by decide +kernel
theorem dX5_found_95 : decode cX5_found 95 = .ok (.aload_n 0, 1) := by decide +kernel
theorem dX5_found_96 : decode cX5_found 96 = .ok (.getfield 25, 3) := by decide +kernel
theorem dX5_found_99 : decode cX5_found 99 = .ok (.iconst 0, 1) := by decide +kernel
theorem dX5_found_100 : decode cX5_found 100 = .ok (.aload_n 0, 1) := by decide +kernel
theorem dX5_found_101 : decode cX5_found 101 = .ok (.getfield 31, 3) := by decide +kernel
theorem dX5_found_104 : decode cX5_found 104 = .ok (.iconst 0, 1) := by decide +kernel
theorem dX5_found_105 : decode cX5_found 105 = .ok (.bipush 35, 2) := by decide +kernel
theorem dX5_found_107 : decode cX5_found 107 = .ok (.invokestatic 120, 3) := by decide +kernel
theorem dX5_found_110 : decode cX5_found 110 = .ok (.aload_n 0, 1) := by decide +kernel
theorem dX5_found_111 : decode cX5_found 111 = .ok (.getfield 31, 3) := by decide +kernel
theorem dX5_found_114 : decode cX5_found 114 = .ok (.iconst 5, 1) := by decide +kernel
theorem dX5_found_115 : decode cX5_found 115 = .ok (.iconst 5, 1) := by decide +kernel
theorem dX5_found_116 : decode cX5_found 116 = .ok (.iload_n 3, 1) := by decide +kernel
theorem dX5_found_117 : decode cX5_found 117 = .ok (.imul, 1) := by decide +kernel
theorem dX5_found_118 : decode cX5_found 118 = .ok (.iadd, 1) := by decide +kernel
theorem dX5_found_119 : decode cX5_found 119 = .ok (.iconst 1, 1) := by decide +kernel
theorem dX5_found_120 : decode cX5_found 120 = .ok (.iadd, 1) := by decide +kernel
theorem dX5_found_121 : decode cX5_found 121 = .ok (.iload 4, 2) := by decide +kernel
theorem dX5_found_123 : decode cX5_found 123 = .ok (.iastore, 1) := by decide +kernel
theorem dX5_found_124 : decode cX5_found 124 = .ok (.aload_n 0, 1) := by decide +kernel
theorem dX5_found_125 : decode cX5_found 125 = .ok (.iload_n 1, 1) := by decide +kernel
theorem dX5_found_126 : decode cX5_found 126 = .ok (.invokevirtual 202, 3) := by decide +kernel
theorem dX5_found_129 : decode cX5_found 129 = .ok (.ifCond .eq 16, 3) := by decide +kernel
theorem dX5_found_132 : decode cX5_found 132 = .ok (.aload_n 0, 1) := by decide +kernel
theorem dX5_found_133 : decode cX5_found 133 = .ok (.iload_n 2, 1) := by decide +kernel
theorem dX5_found_134 : decode cX5_found 134 = .ok (.iconst 2, 1) := by decide +kernel
theorem dX5_found_135 : decode cX5_found 135 = .ok (.iload_n 3, 1) := by decide +kernel
theorem dX5_found_136 : decode cX5_found 136 = .ok (.iload 4, 2) := by decide +kernel
theorem dX5_found_138 : decode cX5_found 138 = .ok (.iconst 0, 1) := by decide +kernel
theorem dX5_found_139 : decode cX5_found 139 = .ok (.iconst 0, 1) := by decide +kernel
theorem dX5_found_140 : decode cX5_found 140 = .ok (.invokevirtual 205, 3) := by decide +kernel
theorem dX5_found_143 : decode cX5_found 143 = .ok (.iconst 1, 1) := by decide +kernel
theorem dX5_found_144 : decode cX5_found 144 = .ok (.ireturn, 1) := by decide +kernel
theorem dX5_found_145 : decode cX5_found 145 = .ok (.iinc 4 1, 3) := by decide +kernel
theorem dX5_found_148 : decode cX5_found 148 = .ok (.goto (-68), 3) := by decide +kernel
theorem dX5_found_151 : decode cX5_found 151 = .ok (.iinc 3 1, 3) := by decide +kernel
theorem dX5_found_154 : decode cX5_found 154 = .ok (.goto (-87), 3) := by decide +kernel
theorem dX5_found_157 : decode cX5_found 157 = .ok (.iconst 0, 1) := by decide +kernel
theorem dX5_found_158 : decode cX5_found 158 = .ok (.istore_n 3, 1) := by decide +kernel
theorem dX5_found_159 : decode cX5_found 159 = .ok (.iload_n 3, 1) := by decide +kernel
theorem dX5_found_160 : decode cX5_found 160 = .ok (.aload_n 0, 1) := by decide +kernel
theorem dX5_found_161 : decode cX5_found 161 = .ok (.getfield 25, 3) := by decide +kernel
theorem dX5_found_164 : decode cX5_found 164 = .ok (.iconst 1, 1) := by decide +kernel
theorem dX5_found_165 : decode cX5_found 165 = .ok (.iaload, 1) := by decide +kernel
theorem dX5_found_166 : decode cX5_found 166 = .ok (.if_icmp .ge 144, 3) := by decide +kernel
theorem dX5_found_169 : decode cX5_found 169 = .ok (.iload_n 3, 1) := by decide +kernel
theorem dX5_found_170 : decode cX5_found 170 = .ok (.iconst 1, 1) := by decide +kernel
theorem dX5_found_171 : decode cX5_found 171 = .ok (.iadd, 1) := by decide +kernel
theorem dX5_found_172 : decode cX5_found 172 = .ok (.istore 4, 2) := by decide +kernel
theorem dX5_found_174 : decode cX5_found 174 = .ok (.iload 4, 2) := by decide +kernel
theorem dX5_found_176 : decode cX5_found 176 = .ok (.aload_n 0, 1) := by decide +kernel
theorem dX5_found_177 : decode cX5_found 177 = .ok (.getfield 25, 3) := by decide +kernel
theorem dX5_found_180 : decode cX5_found 180 = .ok (.iconst 1, 1) := by decide +kernel
theorem dX5_found_181 : decode cX5_found 181 = .ok (.iaload, 1) := by decide +kernel
theorem dX5_found_182 : decode cX5_found 182 = .ok (.if_icmp .ge 122, 3) := by decide +kernel
theorem dX5_found_185 : decode cX5_found 185 = .ok (.iconst 0, 1) := by decide +kernel
theorem dX5_found_186 : decode cX5_found 186 = .ok (.istore 5, 2) := by decide +kernel
theorem dX5_found_188 : decode cX5_found 188 = .ok (.iload 5, 2) := by decide +kernel
theorem dX5_found_190 : decode cX5_found 190 = .ok (.sipush 256, 3) := by decide +kernel
theorem dX5_found_193 : decode cX5_found 193 = .ok (.if_icmp .ge 105, 3) := by decide +kernel
theorem dX5_found_196 : decode cX5_found 196 = .ok (.aload_n 0, 1) := by decide +kernel
theorem dX5_found_197 : decode cX5_found 197 = .ok (.iload_n 3, 1) := by decide +kernel
theorem dX5_found_198 : decode cX5_found 198 = .ok (.invokevirtual 209, 3) := by decide +kernel
theorem dX5_found_201 : decode cX5_found 201 = .ok (.ifCond .eq 97, 3) := by decide +kernel
theorem dX5_found_204 : decode cX5_found 204 = .ok (.aload_n 0, 1) := by decide +kernel
theorem dX5_found_205 : decode cX5_found 205 = .ok (.iload 4, 2) := by decide +kernel
theorem dX5_found_207 : decode cX5_found 207 = .ok (.invokevirtual 209, 3) := by decide +kernel
theorem dX5_found_210 : decode cX5_found 210 = .ok (.ifCond .eq 88, 3) := by decide +kernel
theorem dX5_found_213 : decode cX5_found 213 = .ok (.aload_n 0, 1) := by decide +kernel
theorem dX5_found_214 : decode cX5_found 214 = .ok (.getfield 25, 3) := by decide +kernel
theorem dX5_found_217 : decode cX5_found 217 = .ok (.iconst 0, 1) := by decide +kernel
theorem dX5_found_218 : decode cX5_found 218 = .ok (.aload_n 0, 1) := by decide +kernel
theorem dX5_found_219 : decode cX5_found 219 = .ok (.getfield 31, 3) := by decide +kernel
theorem dX5_found_222 : decode cX5_found 222 = .ok (.iconst 0, 1) := by decide +kernel
theorem dX5_found_223 : decode cX5_found 223 = .ok (.bipush 35, 2) := by decide +kernel
theorem dX5_found_225 : decode cX5_found 225 = .ok (.invokestatic 120, 3) := by decide +kernel
theorem dX5_found_228 : decode cX5_found 228 = .ok (.aload_n 0, 1) := by decide +kernel
theorem dX5_found_229 : decode cX5_found 229 = .ok (.getfield 31, 3) := by decide +kernel
theorem dX5_found_232 : decode cX5_found 232 = .ok (.iconst 5, 1) := by decide +kernel
theorem dX5_found_233 : decode cX5_found 233 = .ok (.iconst 5, 1) := by decide +kernel
theorem dX5_found_234 : decode cX5_found 234 = .ok (.iload_n 3, 1) := by decide +kernel
theorem dX5_found_235 : decode cX5_found 235 = .ok (.imul, 1) := by decide +kernel
theorem dX5_found_236 : decode cX5_found 236 = .ok (.iadd, 1) := by decide +kernel
theorem dX5_found_237 : decode cX5_found 237 = .ok (.iconst 1, 1) := by decide +kernel
theorem dX5_found_238 : decode cX5_found 238 = .ok (.iadd, 1) := by decide +kernel
theorem dX5_found_239 : decode cX5_found 239 = .ok (.iload 5, 2) := by decide +kernel
theorem dX5_found_241 : decode cX5_found 241 = .ok (.bipush 16, 2) := by decide +kernel
theorem dX5_found_243 : decode cX5_found 243 = .ok (.idiv, 1) := by decide +kernel
theorem dX5_found_244 : decode cX5_found 244 = .ok (.iastore, 1) := by decide +kernel
theorem dX5_found_245 : decode cX5_found 245 = .ok (.aload_n 0, 1) := by decide +kernel
theorem dX5_found_246 : decode cX5_found 246 = .ok (.getfield 31, 3) := by decide +kernel
theorem dX5_found_249 : decode cX5_found 249 = .ok (.iconst 5, 1) := by decide +kernel
theorem dX5_found_250 : decode cX5_found 250 = .ok (.iconst 5, 1) := by decide +kernel
theorem dX5_found_251 : decode cX5_found 251 = .ok (.iload 4, 2) := by decide +kernel
theorem dX5_found_253 : decode cX5_found 253 = .ok (.imul, 1) := by decide +kernel
theorem dX5_found_254 : decode cX5_found 254 = .ok (.iadd, 1) := by decide +kernel
theorem dX5_found_255 : decode cX5_found 255 = .ok (.iconst 1, 1) := by decide +kernel
theorem dX5_found_256 : decode cX5_found 256 = .ok (.iadd, 1) := by decide +kernel
theorem dX5_found_257 : decode cX5_found 257 = .ok (.iload 5, 2) := by decide +kernel
theorem dX5_found_259 : decode cX5_found 259 = .ok (.bipush 16, 2) := by decide +kernel
theorem dX5_found_261 : decode cX5_found 261 = .ok (.irem, 1) := by decide +kernel
theorem dX5_found_262 : decode cX5_found 262 = .ok (.iastore, 1) := by decide +kernel
theorem dX5_found_263 : decode cX5_found 263 = .ok (.aload_n 0, 1) := by decide +kernel
theorem dX5_found_264 : decode cX5_found 264 = .ok (.iload_n 1, 1) := by decide +kernel
theorem dX5_found_265 : decode cX5_found 265 = .ok (.invokevirtual 202, 3) := by decide +kernel
theorem dX5_found_268 : decode cX5_found 268 = .ok (.ifCond .eq 24, 3) := by decide +kernel
theorem dX5_found_271 : decode cX5_found 271 = .ok (.aload_n 0, 1) := by decide +kernel
theorem dX5_found_272 : decode cX5_found 272 = .ok (.iload_n 2, 1) := by decide +kernel
theorem dX5_found_273 : decode cX5_found 273 = .ok (.iconst 4, 1) := by decide +kernel
theorem dX5_found_274 : decode cX5_found 274 = .ok (.iload_n 3, 1) := by decide +kernel
theorem dX5_found_275 : decode cX5_found 275 = .ok (.iload 5, 2) := by decide +kernel
theorem dX5_found_277 : decode cX5_found 277 = .ok (.bipush 16, 2) := by decide +kernel
theorem dX5_found_279 : decode cX5_found 279 = .ok (.idiv, 1) := by decide +kernel
theorem dX5_found_280 : decode cX5_found 280 = .ok (.iload 4, 2) := by decide +kernel
theorem dX5_found_282 : decode cX5_found 282 = .ok (.iload 5, 2) := by decide +kernel
theorem dX5_found_284 : decode cX5_found 284 = .ok (.bipush 16, 2) := by decide +kernel
theorem dX5_found_286 : decode cX5_found 286 = .ok (.irem, 1) := by decide +kernel
theorem dX5_found_287 : decode cX5_found 287 = .ok (.invokevirtual 205, 3) := by decide +kernel
theorem dX5_found_290 : decode cX5_found 290 = .ok (.iconst 2, 1) := by decide +kernel
theorem dX5_found_291 : decode cX5_found 291 = .ok (.ireturn, 1) := by decide +kernel
theorem dX5_found_292 : decode cX5_found 292 = .ok (.iinc 5 1, 3) := by decide +kernel
theorem dX5_found_295 : decode cX5_found 295 = .ok (.goto (-107), 3) := by decide +kernel
theorem dX5_found_298 : decode cX5_found 298 = .ok (.iinc 4 1, 3) := by decide +kernel
theorem dX5_found_301 : decode cX5_found 301 = .ok (.goto (-127), 3) := by decide +kernel
theorem dX5_found_304 : decode cX5_found 304 = .ok (.iinc 3 1, 3) := by decide +kernel
theorem dX5_found_307 : decode cX5_found 307 = .ok (.goto (-148), 3) := by decide +kernel
theorem dX5_found_310 : decode cX5_found 310 = .ok (.bipush (-9), 2) := by decide +kernel
theorem dX5_found_312 : decode cX5_found 312 = .ok (.ireturn, 1) := by decide +kernel
theorem dX5_best_0 : decode cX5_best 0 = .ok (.aload_n 0, 1) := by decide +kernel
theorem dX5_best_1 : decode cX5_best 1 = .ok (.iload_n 1, 1) := by decide +kernel
theorem dX5_best_2 : decode cX5_best 2 = .ok (.invokevirtual 170, 3) := by decide +kernel
theorem dX5_best_5 : decode cX5_best 5 = .ok (.ifCond .ne 5, 3) := by decide +kernel
theorem dX5_best_8 : decode cX5_best 8 = .ok (.iconst (-1), 1) := by decide +kernel
theorem dX5_best_9 : decode cX5_best 9 = .ok (.ireturn, 1) := by decide +kernel
theorem dX5_best_10 : decode cX5_best 10 = .ok (.iconst 0, 1) := by decide +kernel
theorem dX5_best_11 : decode cX5_best 11 = .ok (.istore_n 2, 1) := by decide +kernel
theorem dX5_best_12 : decode cX5_best 12 = .ok (.iconst (-1), 1) := by decide +kernel
theorem dX5_best_13 : decode cX5_best 13 = .ok (.istore_n 3, 1) := by decide +kernel
theorem dX5_best_14 : decode cX5_best 14 = .ok (.iconst 0, 1) := by decide +kernel
theorem dX5_best_15 : decode cX5_best 15 = .ok (.istore 4, 2) := by decide +kernel
theorem dX5_best_17 : decode cX5_best 17 = .ok (.iload 4, 2) := by decide +kernel
theorem dX5_best_19 : decode cX5_best 19 = .ok (.bipush 16, 2) := by decide +kernel
theorem dX5_best_21 : decode cX5_best 21 = .ok (.if_icmp .ge 89, 3) := by decide +kernel
theorem dX5_best_24 : decode cX5_best 24 = .ok (.aload_n 0, 1) := by decide +kernel
theorem dX5_best_25 : decode cX5_best 25 = .ok (.getfield 25, 3) := by decide +kernel
theorem dX5_best_28 : decode cX5_best 28 = .ok (.iconst 0, 1) := by decide +kernel
theorem dX5_best_29 : decode cX5_best 29 = .ok (.aload_n 0, 1) := by decide +kernel
theorem dX5_best_30 : decode cX5_best 30 = .ok (.getfield 31, 3) := by decide +kernel
theorem dX5_best_33 : decode cX5_best 33 = .ok (.iconst 0, 1) := by decide +kernel
theorem dX5_best_34 : decode cX5_best 34 = .ok (.bipush 35, 2) := by decide +kernel
theorem dX5_best_36 : decode cX5_best 36 = .ok (.invokestatic 120, 3) := by decide +kernel
theorem dX5_best_39 : decode cX5_best 39 = .ok (.aload_n 0, 1) := by decide +kernel
theorem dX5_best_40 : decode cX5_best 40 = .ok (.getfield 31, 3) := by decide +kernel
theorem dX5_best_43 : decode cX5_best 43 = .ok (.iconst 5, 1) := by decide +kernel
theorem dX5_best_44 : decode cX5_best 44 = .ok (.iconst 5, 1) := by decide +kernel
theorem dX5_best_45 : decode cX5_best 45 = .ok (.iload_n 1, 1) := by decide +kernel
theorem dX5_best_46 : decode cX5_best 46 = .ok (.imul, 1) := by decide +kernel
theorem dX5_best_47 : decode cX5_best 47 = .ok (.iadd, 1) := by decide +kernel
theorem dX5_best_48 : decode cX5_best 48 = .ok (.iconst 1, 1) := by decide +kernel
theorem dX5_best_49 : decode cX5_best 49 = .ok (.iadd, 1) := by decide +kernel
theorem dX5_best_50 : decode cX5_best 50 = .ok (.iload 4, 2) := by decide +kernel
theorem dX5_best_52 : decode cX5_best 52 = .ok (.iastore, 1) := by decide +kernel
theorem dX5_best_53 : decode cX5_best 53 = .ok (.aload_n 0, 1) := by decide +kernel
theorem dX5_best_54 : decode cX5_best 54 = .ok (.getfield 31, 3) := by decide +kernel
theorem dX5_best_57 : decode cX5_best 57 = .ok (.iconst 5, 1) := by decide +kernel
theorem dX5_best_58 : decode cX5_best 58 = .ok (.iconst 5, 1) := by decide +kernel
theorem dX5_best_59 : decode cX5_best 59 = .ok (.iload_n 1, 1) := by decide +kernel
theorem dX5_best_60 : decode cX5_best 60 = .ok (.imul, 1) := by decide +kernel
theorem dX5_best_61 : decode cX5_best 61 = .ok (.iadd, 1) := by decide +kernel
theorem dX5_best_62 : decode cX5_best 62 = .ok (.iconst 4, 1) := by decide +kernel
theorem dX5_best_63 : decode cX5_best 63 = .ok (.iadd, 1) := by decide +kernel
theorem dX5_best_64 : decode cX5_best 64 = .ok (.iconst 0, 1) := by decide +kernel
theorem dX5_best_65 : decode cX5_best 65 = .ok (.iastore, 1) := by decide +kernel
theorem dX5_best_66 : decode cX5_best 66 = .ok (.aload_n 0, 1) := by decide +kernel
theorem dX5_best_67 : decode cX5_best 67 = .ok (.getfield 31, 3) := by decide +kernel
theorem dX5_best_70 : decode cX5_best 70 = .ok (.invokestatic 163, 3) := by decide +kernel
theorem dX5_best_73 : decode cX5_best 73 = .ok (.invokestatic 151, 3) := by decide +kernel
theorem dX5_best_76 : decode cX5_best 76 = .ok (.istore 5, 2) := by decide +kernel
theorem dX5_best_78 : decode cX5_best 78 = .ok (.iload 5, 2) := by decide +kernel
theorem dX5_best_80 : decode cX5_best 80 = .ok (.iload_n 3, 1) := by decide +kernel
theorem dX5_best_81 : decode cX5_best 81 = .ok (.if_icmp .le 8, 3) := by decide +kernel
theorem dX5_best_84 : decode cX5_best 84 = .ok (.iload 4, 2) := by decide +kernel
theorem dX5_best_86 : decode cX5_best 86 = .ok (.goto 4, 3) := by decide +kernel
theorem dX5_best_89 : decode cX5_best 89 = .ok (.iload_n 2, 1) := by decide +kernel
theorem dX5_best_90 : decode cX5_best 90 = .ok (.istore_n 2, 1) := by decide +kernel
theorem dX5_best_91 : decode cX5_best 91 = .ok (.iload 5, 2) := by decide +kernel
theorem dX5_best_93 : decode cX5_best 93 = .ok (.iload_n 3, 1) := by decide +kernel
theorem dX5_best_94 : decode cX5_best 94 = .ok (.if_icmp .le 8, 3) := by decide +kernel
theorem dX5_best_97 : decode cX5_best 97 = .ok (.iload 5, 2) := by decide +kernel
theorem dX5_best_99 : decode cX5_best 99 = .ok (.goto 4, 3) := by decide +kernel
theorem dX5_best_102 : decode cX5_best 102 = .ok (.iload_n 3, 1) := by decide +kernel
theorem dX5_best_103 : decode cX5_best 103 = .ok (.istore_n 3, 1) := by decide +kernel
theorem dX5_best_104 : decode cX5_best 104 = .ok (.iinc 4 1, 3) := by decide +kernel
theorem dX5_best_107 : decode cX5_best 107 = .ok (.goto (-90), 3) := by decide +kernel
theorem dX5_best_110 : decode cX5_best 110 = .ok (.aload_n 0, 1) := by decide +kernel
theorem dX5_best_111 : decode cX5_best 111 = .ok (.iload_n 3, 1) := by decide +kernel
theorem dX5_best_112 : decode cX5_best 112 = .ok (.invokevirtual 75, 3) := by decide +kernel
theorem dX5_best_115 : decode cX5_best 115 = .ok (.pop, 1) := by decide +kernel
theorem dX5_best_116 : decode cX5_best 116 = .ok (.iload_n 2, 1) := by decide +kernel
theorem dX5_best_117 : decode cX5_best 117 = .ok (.ireturn, 1) := by decide +kernel
theorem dX5_fills_0 : decode cX5_fills 0 = .ok (.iload_n 1, 1) := by decide +kernel
theorem dX5_fills_1 : decode cX5_fills 1 = .ok (.aload_n 0, 1) := by decide +kernel
theorem dX5_fills_2 : decode cX5_fills 2 = .ok (.getfield 25, 3) := by decide +kernel
theorem dX5_fills_5 : decode cX5_fills 5 = .ok (.iconst 4, 1) := by decide +kernel
theorem dX5_fills_6 : decode cX5_fills 6 = .ok (.iaload, 1) := by decide +kernel
theorem dX5_fills_7 : decode cX5_fills 7 = .ok (.iconst (-1), 1) := by decide +kernel
theorem dX5_fills_8 : decode cX5_fills 8 = .ok (.ixor, 1) := by decide +kernel
theorem dX5_fills_9 : decode cX5_fills 9 = .ok (.iand, 1) := by decide +kernel
theorem dX5_fills_10 : decode cX5_fills 10 = .ok (.ifCond .ne 28, 3) := by decide +kernel
theorem dX5_fills_13 : decode cX5_fills 13 = .ok (.aload_n 0, 1) := by decide +kernel
theorem dX5_fills_14 : decode cX5_fills 14 = .ok (.getfield 25, 3) := by decide +kernel
theorem dX5_fills_17 : decode cX5_fills 17 = .ok (.aload_n 0, 1) := by decide +kernel
theorem dX5_fills_18 : decode cX5_fills 18 = .ok (.getfield 25, 3) := by decide +kernel
theorem dX5_fills_21 : decode cX5_fills 21 = .ok (.iconst 0, 1) := by decide +kernel
theorem dX5_fills_22 : decode cX5_fills 22 = .ok (.invokestatic 154, 3) := by decide +kernel
theorem dX5_fills_25 : decode cX5_fills 25 = .ok (.iload_n 1, 1) := by decide +kernel
theorem dX5_fills_26 : decode cX5_fills 26 = .ok (.ior, 1) := by decide +kernel
theorem dX5_fills_27 : decode cX5_fills 27 = .ok (.invokestatic 157, 3) := by decide +kernel
theorem dX5_fills_30 : decode cX5_fills 30 = .ok (.iload_n 2, 1) := by decide +kernel
theorem dX5_fills_31 : decode cX5_fills 31 = .ok (.if_icmp .ne 7, 3) := by decide +kernel
theorem dX5_fills_34 : decode cX5_fills 34 = .ok (.iconst 1, 1) := by decide +kernel
theorem dX5_fills_35 : decode cX5_fills 35 = .ok (.goto 4, 3) := by decide +kernel
theorem dX5_fills_38 : decode cX5_fills 38 = .ok (.iconst 0, 1) := by decide +kernel
theorem dX5_fills_39 : decode cX5_fills 39 = .ok (.ireturn, 1) := by decide +kernel
theorem dX5_gap_0 : decode cX5_gap 0 = .ok (.iload_n 1, 1) := by decide +kernel
theorem dX5_gap_1 : decode cX5_gap 1 = .ok (.iconst 0, 1) := by decide +kernel
theorem dX5_gap_2 : decode cX5_gap 2 = .ok (.sipush 255, 3) := by decide +kernel
theorem dX5_gap_5 : decode cX5_gap 5 = .ok (.invokestatic 63, 3) := by decide +kernel
theorem dX5_gap_8 : decode cX5_gap 8 = .ok (.ifCond .ne 5, 3) := by decide +kernel
theorem dX5_gap_11 : decode cX5_gap 11 = .ok (.iconst (-1), 1) := by decide +kernel
theorem dX5_gap_12 : decode cX5_gap 12 = .ok (.ireturn, 1) := by decide +kernel
theorem dX5_gap_13 : decode cX5_gap 13 = .ok (.aload_n 0, 1) := by decide +kernel
theorem dX5_gap_14 : decode cX5_gap 14 = .ok (.invokevirtual 186, 3) := by decide +kernel
theorem dX5_gap_17 : decode cX5_gap 17 = .ok (.ifCond .ne 6, 3) := by decide +kernel
theorem dX5_gap_20 : decode cX5_gap 20 = .ok (.bipush (-4), 2) := by decide +kernel
theorem dX5_gap_22 : decode cX5_gap 22 = .ok (.ireturn, 1) := by decide +kernel
theorem dX5_gap_23 : decode cX5_gap 23 = .ok (.iconst 0, 1) := by decide +kernel
theorem dX5_gap_24 : decode cX5_gap 24 = .ok (.istore_n 2, 1) := by decide +kernel
theorem dX5_gap_25 : decode cX5_gap 25 = .ok (.bipush (-9), 2) := by decide +kernel
theorem dX5_gap_27 : decode cX5_gap 27 = .ok (.istore_n 3, 1) := by decide +kernel
theorem dX5_gap_28 : decode cX5_gap 28 = .ok (.iconst 0, 1) := by decide +kernel
theorem dX5_gap_29 : decode cX5_gap 29 = .ok (.istore 4, 2) := by decide +kernel
theorem dX5_gap_31 : decode cX5_gap 31 = .ok (.iload 4, 2) := by decide +kernel
theorem dX5_gap_33 : decode cX5_gap 33 = .ok (.aload_n 0, 1) := by decide +kernel
theorem dX5_gap_34 : decode cX5_gap 34 = .ok (.getfield 25, 3) := by decide +kernel
theorem dX5_gap_37 : decode cX5_gap 37 = .ok (.iconst 4, 1) := by decide +kernel
theorem dX5_gap_38 : decode cX5_gap 38 = .ok (.iaload, 1) := by decide +kernel
theorem dX5_gap_39 : decode cX5_gap 39 = .ok (.if_icmp .gt 33, 3) := by decide +kernel
theorem dX5_gap_42 : decode cX5_gap 42 = .ok (.aload_n 0, 1) := by decide +kernel
theorem dX5_gap_43 : decode cX5_gap 43 = .ok (.iload 4, 2) := by decide +kernel
theorem dX5_gap_45 : decode cX5_gap 45 = .ok (.iload_n 1, 1) := by decide +kernel
theorem dX5_gap_46 : decode cX5_gap 46 = .ok (.invokevirtual 212, 3) := by decide +kernel
theorem dX5_gap_49 : decode cX5_gap 49 = .ok (.ifCond .eq 17, 3) := by decide +kernel
theorem dX5_gap_52 : decode cX5_gap 52 = .ok (.iload_n 2, 1) := by decide +kernel
theorem dX5_gap_53 : decode cX5_gap 53 = .ok (.ifCond .ne 8, 3) := by decide +kernel
theorem dX5_gap_56 : decode cX5_gap 56 = .ok (.iload 4, 2) := by decide +kernel
theorem dX5_gap_58 : decode cX5_gap 58 = .ok (.goto 4, 3) := by decide +kernel
theorem dX5_gap_61 : decode cX5_gap 61 = .ok (.iload_n 3, 1) := by decide +kernel
theorem dX5_gap_62 : decode cX5_gap 62 = .ok (.istore_n 3, 1) := by decide +kernel
theorem dX5_gap_63 : decode cX5_gap 63 = .ok (.iinc 2 1, 3) := by decide +kernel
theorem dX5_gap_66 : decode cX5_gap 66 = .ok (.iinc 4 1, 3) := by decide +kernel
theorem dX5_gap_69 : decode cX5_gap 69 = .ok (.goto (-38), 3) := by decide +kernel
theorem dX5_gap_72 : decode cX5_gap 72 = .ok (.aload_n 0, 1) := by decide +kernel
theorem dX5_gap_73 : decode cX5_gap 73 = .ok (.iload_n 2, 1) := by decide +kernel
theorem dX5_gap_74 : decode cX5_gap 74 = .ok (.i2l, 1) := by decide +kernel
theorem dX5_gap_75 : decode cX5_gap 75 = .ok (.putfield 215, 3) := by decide +kernel
theorem dX5_gap_78 : decode cX5_gap 78 = .ok (.aload_n 0, 1) := by decide +kernel
theorem dX5_gap_79 : decode cX5_gap 79 = .ok (.lconst 1, 1) := by decide +kernel
theorem dX5_gap_80 : decode cX5_gap 80 = .ok (.putfield 49, 3) := by decide +kernel
theorem dX5_gap_83 : decode cX5_gap 83 = .ok (.aload_n 0, 1) := by decide +kernel
theorem dX5_gap_84 : decode cX5_gap 84 = .ok (.iload_n 3, 1) := by decide +kernel
theorem dX5_gap_85 : decode cX5_gap 85 = .ok (.invokevirtual 75, 3) := by decide +kernel
theorem dX5_gap_88 : decode cX5_gap 88 = .ok (.ireturn, 1) := by decide +kernel
theorem dX5_sure_0 : decode cX5_sure 0 = .ok (.iload_n 1, 1) := by decide +kernel
theorem dX5_sure_1 : decode cX5_sure 1 = .ok (.iconst 0, 1) := by decide +kernel
theorem dX5_sure_2 : decode cX5_sure 2 = .ok (.sipush 255, 3) := by decide +kernel
theorem dX5_sure_5 : decode cX5_sure 5 = .ok (.invokestatic 63, 3) := by decide +kernel
theorem dX5_sure_8 : decode cX5_sure 8 = .ok (.ifCond .ne 5, 3) := by decide +kernel
theorem dX5_sure_11 : decode cX5_sure 11 = .ok (.iconst (-1), 1) := by decide +kernel
theorem dX5_sure_12 : decode cX5_sure 12 = .ok (.ireturn, 1) := by decide +kernel
theorem dX5_sure_13 : decode cX5_sure 13 = .ok (.aload_n 0, 1) := by decide +kernel
theorem dX5_sure_14 : decode cX5_sure 14 = .ok (.invokevirtual 186, 3) := by decide +kernel
theorem dX5_sure_17 : decode cX5_sure 17 = .ok (.ifCond .ne 6, 3) := by decide +kernel
theorem dX5_sure_20 : decode cX5_sure 20 = .ok (.bipush (-4), 2) := by decide +kernel
theorem dX5_sure_22 : decode cX5_sure 22 = .ok (.ireturn, 1) := by decide +kernel
theorem dX5_sure_23 : decode cX5_sure 23 = .ok (.aload_n 0, 1) := by decide +kernel
theorem dX5_sure_24 : decode cX5_sure 24 = .ok (.getfield 25, 3) := by decide +kernel
theorem dX5_sure_27 : decode cX5_sure 27 = .ok (.iconst 4, 1) := by decide +kernel
theorem dX5_sure_28 : decode cX5_sure 28 = .ok (.iaload, 1) := by decide +kernel
theorem dX5_sure_29 : decode cX5_sure 29 = .ok (.istore_n 2, 1) := by decide +kernel
theorem dX5_sure_30 : decode cX5_sure 30 = .ok (.iconst 0, 1) := by decide +kernel
theorem dX5_sure_31 : decode cX5_sure 31 = .ok (.istore_n 3, 1) := by decide +kernel
theorem dX5_sure_32 : decode cX5_sure 32 = .ok (.iconst 0, 1) := by decide +kernel
theorem dX5_sure_33 : decode cX5_sure 33 = .ok (.istore 4, 2) := by decide +kernel
theorem dX5_sure_35 : decode cX5_sure 35 = .ok (.iconst 0, 1) := by decide +kernel
theorem dX5_sure_36 : decode cX5_sure 36 = .ok (.istore 5, 2) := by decide +kernel
theorem dX5_sure_38 : decode cX5_sure 38 = .ok (.iload 5, 2) := by decide +kernel
theorem dX5_sure_40 : decode cX5_sure 40 = .ok (.aload_n 0, 1) := by decide +kernel
theorem dX5_sure_41 : decode cX5_sure 41 = .ok (.getfield 25, 3) := by decide +kernel
theorem dX5_sure_44 : decode cX5_sure 44 = .ok (.iconst 4, 1) := by decide +kernel
theorem dX5_sure_45 : decode cX5_sure 45 = .ok (.iaload, 1) := by decide +kernel
theorem dX5_sure_46 : decode cX5_sure 46 = .ok (.if_icmp .gt 32, 3) := by decide +kernel
theorem dX5_sure_49 : decode cX5_sure 49 = .ok (.aload_n 0, 1) := by decide +kernel
theorem dX5_sure_50 : decode cX5_sure 50 = .ok (.iload 5, 2) := by decide +kernel
theorem dX5_sure_52 : decode cX5_sure 52 = .ok (.iload_n 1, 1) := by decide +kernel
theorem dX5_sure_53 : decode cX5_sure 53 = .ok (.invokevirtual 212, 3) := by decide +kernel
theorem dX5_sure_56 : decode cX5_sure 56 = .ok (.ifCond .eq 16, 3) := by decide +kernel
theorem dX5_sure_59 : decode cX5_sure 59 = .ok (.iload_n 2, 1) := by decide +kernel
theorem dX5_sure_60 : decode cX5_sure 60 = .ok (.iload 5, 2) := by decide +kernel
theorem dX5_sure_62 : decode cX5_sure 62 = .ok (.iand, 1) := by decide +kernel
theorem dX5_sure_63 : decode cX5_sure 63 = .ok (.istore_n 2, 1) := by decide +kernel
theorem dX5_sure_64 : decode cX5_sure 64 = .ok (.iload_n 3, 1) := by decide +kernel
theorem dX5_sure_65 : decode cX5_sure 65 = .ok (.iload 5, 2) := by decide +kernel
theorem dX5_sure_67 : decode cX5_sure 67 = .ok (.ior, 1) := by decide +kernel
theorem dX5_sure_68 : decode cX5_sure 68 = .ok (.istore_n 3, 1) := by decide +kernel
theorem dX5_sure_69 : decode cX5_sure 69 = .ok (.iinc 4 1, 3) := by decide +kernel
theorem dX5_sure_72 : decode cX5_sure 72 = .ok (.iinc 5 1, 3) := by decide +kernel
theorem dX5_sure_75 : decode cX5_sure 75 = .ok (.goto (-37), 3) := by decide +kernel
theorem dX5_sure_78 : decode cX5_sure 78 = .ok (.iload 4, 2) := by decide +kernel
theorem dX5_sure_80 : decode cX5_sure 80 = .ok (.ifCond .ne 9, 3) := by decide +kernel
theorem dX5_sure_83 : decode cX5_sure 83 = .ok (.aload_n 0, 1) := by decide +kernel
theorem dX5_sure_84 : decode cX5_sure 84 = .ok (.iconst 4, 1) := by decide +kernel
theorem dX5_sure_85 : decode cX5_sure 85 = .ok (.invokevirtual 71, 3) := by decide +kernel
theorem dX5_sure_88 : decode cX5_sure 88 = .ok (.ireturn, 1) := by decide +kernel
theorem dX5_sure_89 : decode cX5_sure 89 = .ok (.aload_n 0, 1) := by decide +kernel
theorem dX5_sure_90 : decode cX5_sure 90 = .ok (.aload_n 0, 1) := by decide +kernel
theorem dX5_sure_91 : decode cX5_sure 91 = .ok (.getfield 25, 3) := by decide +kernel
theorem dX5_sure_94 : decode cX5_sure 94 = .ok (.iconst 4, 1) := by decide +kernel
theorem dX5_sure_95 : decode cX5_sure 95 = .ok (.iaload, 1) := by decide +kernel
theorem dX5_sure_96 : decode cX5_sure 96 = .ok (.iload_n 3, 1) := by decide +kernel
theorem dX5_sure_97 : decode cX5_sure 97 = .ok (.iconst (-1), 1) := by decide +kernel
theorem dX5_sure_98 : decode cX5_sure 98 = .ok (.ixor, 1) := by decide +kernel
theorem dX5_sure_99 : decode cX5_sure 99 = .ok (.iand, 1) := by decide +kernel
theorem dX5_sure_100 : decode cX5_sure 100 = .ok (.invokevirtual 75, 3) := by decide +kernel
theorem dX5_sure_103 : decode cX5_sure 103 = .ok (.pop, 1) := by decide +kernel
theorem dX5_sure_104 : decode cX5_sure 104 = .ok (.iload_n 2, 1) := by decide +kernel
theorem dX5_sure_105 : decode cX5_sure 105 = .ok (.ireturn, 1) := by decide +kernel
theorem dX5_wrongIn_0 : decode cX5_wrongIn 0 = .ok (.aload_n 0, 1) := by decide +kernel
theorem dX5_wrongIn_1 : decode cX5_wrongIn 1 = .ok (.getfield 7, 3) := by decide +kernel
theorem dX5_wrongIn_4 : decode cX5_wrongIn 4 = .ok (.iload_n 1, 1) := by decide +kernel
theorem dX5_wrongIn_5 : decode cX5_wrongIn 5 = .ok (.iaload, 1) := by decide +kernel
theorem dX5_wrongIn_6 : decode cX5_wrongIn 6 = .ok (.bipush (-9), 2) := by decide +kernel
theorem dX5_wrongIn_8 : decode cX5_wrongIn 8 = .ok (.if_icmp .ne 5, 3) := by decide +kernel
theorem dX5_wrongIn_11 : decode cX5_wrongIn 11 = .ok (.iconst 1, 1) := by decide +kernel
theorem dX5_wrongIn_12 : decode cX5_wrongIn 12 = .ok (.ireturn, 1) := by decide +kernel
theorem dX5_wrongIn_13 : decode cX5_wrongIn 13 = .ok (.aload_n 0, 1) := by decide +kernel
theorem dX5_wrongIn_14 : decode cX5_wrongIn 14 = .ok (.getfield 7, 3) := by decide +kernel
theorem dX5_wrongIn_17 : decode cX5_wrongIn 17 = .ok (.iload_n 1, 1) := by decide +kernel
theorem dX5_wrongIn_18 : decode cX5_wrongIn 18 = .ok (.iaload, 1) := by decide +kernel
theorem dX5_wrongIn_19 : decode cX5_wrongIn 19 = .ok (.iconst 1, 1) := by decide +kernel
theorem dX5_wrongIn_20 : decode cX5_wrongIn 20 = .ok (.bipush 10, 2) := by decide +kernel
theorem dX5_wrongIn_22 : decode cX5_wrongIn 22 = .ok (.invokestatic 63, 3) := by decide +kernel
theorem dX5_wrongIn_25 : decode cX5_wrongIn 25 = .ok (.ifCond .ne 5, 3) := by decide +kernel
theorem dX5_wrongIn_28 : decode cX5_wrongIn 28 = .ok (.iconst 5, 1) := by decide +kernel
theorem dX5_wrongIn_29 : decode cX5_wrongIn 29 = .ok (.ireturn, 1) := by decide +kernel
theorem dX5_wrongIn_30 : decode cX5_wrongIn 30 = .ok (.iconst 0, 1) := by decide +kernel
theorem dX5_wrongIn_31 : decode cX5_wrongIn 31 = .ok (.istore_n 2, 1) := by decide +kernel
theorem dX5_wrongIn_32 : decode cX5_wrongIn 32 = .ok (.iload_n 2, 1) := by decide +kernel
theorem dX5_wrongIn_33 : decode cX5_wrongIn 33 = .ok (.aload_n 0, 1) := by decide +kernel
theorem dX5_wrongIn_34 : decode cX5_wrongIn 34 = .ok (.getfield 7, 3) := by decide +kernel
theorem dX5_wrongIn_37 : decode cX5_wrongIn 37 = .ok (.iload_n 1, 1) := by decide +kernel
theorem dX5_wrongIn_38 : decode cX5_wrongIn 38 = .ok (.iaload, 1) := by decide +kernel
theorem dX5_wrongIn_39 : decode cX5_wrongIn 39 = .ok (.if_icmp .ge 32, 3) := by decide +kernel
theorem dX5_wrongIn_42 : decode cX5_wrongIn 42 = .ok (.aload_n 0, 1) := by decide +kernel
theorem dX5_wrongIn_43 : decode cX5_wrongIn 43 = .ok (.getfield 13, 3) := by decide +kernel
theorem dX5_wrongIn_46 : decode cX5_wrongIn 46 = .ok (.bipush 40, 2) := by decide +kernel
theorem dX5_wrongIn_48 : decode cX5_wrongIn 48 = .ok (.iload_n 1, 1) := by decide +kernel
theorem dX5_wrongIn_49 : decode cX5_wrongIn 49 = .ok (.imul, 1) := by decide +kernel
theorem dX5_wrongIn_50 : decode cX5_wrongIn 50 = .ok (.iload_n 2, 1) := by decide +kernel
theorem dX5_wrongIn_51 : decode cX5_wrongIn 51 = .ok (.iadd, 1) := by decide +kernel
theorem dX5_wrongIn_52 : decode cX5_wrongIn 52 = .ok (.iaload, 1) := by decide +kernel
theorem dX5_wrongIn_53 : decode cX5_wrongIn 53 = .ok (.iconst 0, 1) := by decide +kernel
theorem dX5_wrongIn_54 : decode cX5_wrongIn 54 = .ok (.sipush 255, 3) := by decide +kernel
theorem dX5_wrongIn_57 : decode cX5_wrongIn 57 = .ok (.invokestatic 63, 3) := by decide +kernel
theorem dX5_wrongIn_60 : decode cX5_wrongIn 60 = .ok (.ifCond .ne 5, 3) := by decide +kernel
theorem dX5_wrongIn_63 : decode cX5_wrongIn 63 = .ok (.iconst 3, 1) := by decide +kernel
theorem dX5_wrongIn_64 : decode cX5_wrongIn 64 = .ok (.ireturn, 1) := by decide +kernel
theorem dX5_wrongIn_65 : decode cX5_wrongIn 65 = .ok (.iinc 2 1, 3) := by decide +kernel
theorem dX5_wrongIn_68 : decode cX5_wrongIn 68 = .ok (.goto (-36), 3) := by decide +kernel
theorem dX5_wrongIn_71 : decode cX5_wrongIn 71 = .ok (.iconst 0, 1) := by decide +kernel
theorem dX5_wrongIn_72 : decode cX5_wrongIn 72 = .ok (.ireturn, 1) := by decide +kernel
theorem dX5_isReadSo_0 : decode cX5_isReadSo 0 = .ok (.aload_n 0, 1) := by decide +kernel
theorem dX5_isReadSo_1 : decode cX5_isReadSo 1 = .ok (.getfield 25, 3) := by decide +kernel
theorem dX5_isReadSo_4 : decode cX5_isReadSo 4 = .ok (.iconst 0, 1) := by decide +kernel
theorem dX5_isReadSo_5 : decode cX5_isReadSo 5 = .ok (.aload_n 0, 1) := by decide +kernel
theorem dX5_isReadSo_6 : decode cX5_isReadSo 6 = .ok (.getfield 31, 3) := by decide +kernel
theorem dX5_isReadSo_9 : decode cX5_isReadSo 9 = .ok (.iconst 0, 1) := by decide +kernel
theorem dX5_isReadSo_10 : decode cX5_isReadSo 10 = .ok (.bipush 35, 2) := by decide +kernel
theorem dX5_isReadSo_12 : decode cX5_isReadSo 12 = .ok (.invokestatic 120, 3) := by decide +kernel
theorem dX5_isReadSo_15 : decode cX5_isReadSo 15 = .ok (.aload_n 0, 1) := by decide +kernel
theorem dX5_isReadSo_16 : decode cX5_isReadSo 16 = .ok (.getfield 31, 3) := by decide +kernel
theorem dX5_isReadSo_19 : decode cX5_isReadSo 19 = .ok (.iconst 5, 1) := by decide +kernel
theorem dX5_isReadSo_20 : decode cX5_isReadSo 20 = .ok (.iconst 5, 1) := by decide +kernel
theorem dX5_isReadSo_21 : decode cX5_isReadSo 21 = .ok (.iload_n 2, 1) := by decide +kernel
theorem dX5_isReadSo_22 : decode cX5_isReadSo 22 = .ok (.imul, 1) := by decide +kernel
theorem dX5_isReadSo_23 : decode cX5_isReadSo 23 = .ok (.iadd, 1) := by decide +kernel
theorem dX5_isReadSo_24 : decode cX5_isReadSo 24 = .ok (.iload_n 3, 1) := by decide +kernel
theorem dX5_isReadSo_25 : decode cX5_isReadSo 25 = .ok (.iadd, 1) := by decide +kernel
theorem dX5_isReadSo_26 : decode cX5_isReadSo 26 = .ok (.iload 4, 2) := by decide +kernel
theorem dX5_isReadSo_28 : decode cX5_isReadSo 28 = .ok (.iastore, 1) := by decide +kernel
theorem dX5_isReadSo_29 : decode cX5_isReadSo 29 = .ok (.iconst 1, 1) := by decide +kernel
theorem dX5_isReadSo_30 : decode cX5_isReadSo 30 = .ok (.istore 5, 2) := by decide +kernel
theorem dX5_isReadSo_32 : decode cX5_isReadSo 32 = .ok (.iconst 0, 1) := by decide +kernel
theorem dX5_isReadSo_33 : decode cX5_isReadSo 33 = .ok (.istore 6, 2) := by decide +kernel
theorem dX5_isReadSo_35 : decode cX5_isReadSo 35 = .ok (.iload 6, 2) := by decide +kernel
theorem dX5_isReadSo_37 : decode cX5_isReadSo 37 = .ok (.aload_n 0, 1) := by decide +kernel
theorem dX5_isReadSo_38 : decode cX5_isReadSo 38 = .ok (.getfield 7, 3) := by decide +kernel
theorem dX5_isReadSo_41 : decode cX5_isReadSo 41 = .ok (.iload_n 1, 1) := by decide +kernel
theorem dX5_isReadSo_42 : decode cX5_isReadSo 42 = .ok (.iaload, 1) := by decide +kernel
theorem dX5_isReadSo_43 : decode cX5_isReadSo 43 = .ok (.if_icmp .ge 47, 3) := by decide +kernel
theorem dX5_isReadSo_46 : decode cX5_isReadSo 46 = .ok (.aload_n 0, 1) := by decide +kernel
theorem dX5_isReadSo_47 : decode cX5_isReadSo 47 = .ok (.getfield 31, 3) := by decide +kernel
theorem dX5_isReadSo_50 : decode cX5_isReadSo 50 = .ok (.invokestatic 193, 3) := by decide +kernel
theorem dX5_isReadSo_53 : decode cX5_isReadSo 53 = .ok (.istore 7, 2) := by decide +kernel
theorem dX5_isReadSo_55 : decode cX5_isReadSo 55 = .ok (.iload 5, 2) := by decide +kernel
theorem dX5_isReadSo_57 : decode cX5_isReadSo 57 = .ok (.ifCond .eq 24, 3) := by decide +kernel
theorem dX5_isReadSo_60 : decode cX5_isReadSo 60 = .ok (.iload 7, 2) := by decide +kernel
theorem dX5_isReadSo_62 : decode cX5_isReadSo 62 = .ok (.aload_n 0, 1) := by decide +kernel
theorem dX5_isReadSo_63 : decode cX5_isReadSo 63 = .ok (.getfield 13, 3) := by decide +kernel
theorem dX5_isReadSo_66 : decode cX5_isReadSo 66 = .ok (.bipush 40, 2) := by decide +kernel
theorem dX5_isReadSo_68 : decode cX5_isReadSo 68 = .ok (.iload_n 1, 1) := by decide +kernel
theorem dX5_isReadSo_69 : decode cX5_isReadSo 69 = .ok (.imul, 1) := by decide +kernel
theorem dX5_isReadSo_70 : decode cX5_isReadSo 70 = .ok (.iload 6, 2) := by decide +kernel
theorem dX5_isReadSo_72 : decode cX5_isReadSo 72 = .ok (.iadd, 1) := by decide +kernel
theorem dX5_isReadSo_73 : decode cX5_isReadSo 73 = .ok (.iaload, 1) := by decide +kernel
theorem dX5_isReadSo_74 : decode cX5_isReadSo 74 = .ok (.if_icmp .ne 7, 3) := by decide +kernel
theorem dX5_isReadSo_77 : decode cX5_isReadSo 77 = .ok (.iconst 1, 1) := by decide +kernel
theorem dX5_isReadSo_78 : decode cX5_isReadSo 78 = .ok (.goto 4, 3) := by decide +kernel
theorem dX5_isReadSo_81 : decode cX5_isReadSo 81 = .ok (.iconst 0, 1) := by decide +kernel
theorem dX5_isReadSo_82 : decode cX5_isReadSo 82 = .ok (.istore 5, 2) := by decide +kernel
theorem dX5_isReadSo_84 : decode cX5_isReadSo 84 = .ok (.iinc 6 1, 3) := by decide +kernel
theorem dX5_isReadSo_87 : decode cX5_isReadSo 87 = .ok (.goto (-52), 3) := by decide +kernel
theorem dX5_isReadSo_90 : decode cX5_isReadSo 90 = .ok (.iload 5, 2) := by decide +kernel
theorem dX5_isReadSo_92 : decode cX5_isReadSo 92 = .ok (.ireturn, 1) := by decide +kernel
theorem dX5_places_0 : decode cX5_places 0 = .ok (.aload_n 0, 1) := by decide +kernel
theorem dX5_places_1 : decode cX5_places 1 = .ok (.iload_n 1, 1) := by decide +kernel
theorem dX5_places_2 : decode cX5_places 2 = .ok (.invokevirtual 170, 3) := by decide +kernel
theorem dX5_places_5 : decode cX5_places 5 = .ok (.ifCond .eq 10, 3) := by decide +kernel
theorem dX5_places_8 : decode cX5_places 8 = .ok (.iload_n 2, 1) := by decide +kernel
theorem dX5_places_9 : decode cX5_places 9 = .ok (.invokestatic 67, 3) := by decide +kernel
theorem dX5_places_12 : decode cX5_places 12 = .ok (.ifCond .ne 5, 3) := by decide +kernel
theorem dX5_places_15 : decode cX5_places 15 = .ok (.iconst (-1), 1) := by decide +kernel
theorem dX5_places_16 : decode cX5_places 16 = .ok (.ireturn, 1) := by decide +kernel
theorem dX5_places_17 : decode cX5_places 17 = .ok (.aload_n 0, 1) := by decide +kernel
theorem dX5_places_18 : decode cX5_places 18 = .ok (.iload_n 2, 1) := by decide +kernel
theorem dX5_places_19 : decode cX5_places 19 = .ok (.invokevirtual 218, 3) := by decide +kernel
theorem dX5_places_22 : decode cX5_places 22 = .ok (.istore_n 3, 1) := by decide +kernel
theorem dX5_places_23 : decode cX5_places 23 = .ok (.iload_n 3, 1) := by decide +kernel
theorem dX5_places_24 : decode cX5_places 24 = .ok (.ifCond .le 9, 3) := by decide +kernel
theorem dX5_places_27 : decode cX5_places 27 = .ok (.aload_n 0, 1) := by decide +kernel
theorem dX5_places_28 : decode cX5_places 28 = .ok (.iload_n 3, 1) := by decide +kernel
theorem dX5_places_29 : decode cX5_places 29 = .ok (.invokevirtual 71, 3) := by decide +kernel
theorem dX5_places_32 : decode cX5_places 32 = .ok (.ireturn, 1) := by decide +kernel
theorem dX5_places_33 : decode cX5_places 33 = .ok (.iconst 0, 1) := by decide +kernel
theorem dX5_places_34 : decode cX5_places 34 = .ok (.istore 4, 2) := by decide +kernel
theorem dX5_places_36 : decode cX5_places 36 = .ok (.iconst 0, 1) := by decide +kernel
theorem dX5_places_37 : decode cX5_places 37 = .ok (.istore 5, 2) := by decide +kernel
theorem dX5_places_39 : decode cX5_places 39 = .ok (.iload 5, 2) := by decide +kernel
theorem dX5_places_41 : decode cX5_places 41 = .ok (.bipush 16, 2) := by decide +kernel
theorem dX5_places_43 : decode cX5_places 43 = .ok (.if_icmp .ge 34, 3) := by decide +kernel
theorem dX5_places_46 : decode cX5_places 46 = .ok (.iload 4, 2) := by decide +kernel
theorem dX5_places_48 : decode cX5_places 48 = .ok (.aload_n 0, 1) := by decide +kernel
theorem dX5_places_49 : decode cX5_places 49 = .ok (.iload_n 2, 1) := by decide +kernel
theorem dX5_places_50 : decode cX5_places 50 = .ok (.iload_n 1, 1) := by decide +kernel
theorem dX5_places_51 : decode cX5_places 51 = .ok (.iconst 1, 1) := by decide +kernel
theorem dX5_places_52 : decode cX5_places 52 = .ok (.iload 5, 2) := by decide +kernel
theorem dX5_places_54 : decode cX5_places 54 = .ok (.invokevirtual 221, 3) := by decide +kernel
theorem dX5_places_57 : decode cX5_places 57 = .ok (.ifCond .eq 10, 3) := by decide +kernel
theorem dX5_places_60 : decode cX5_places 60 = .ok (.iconst 1, 1) := by decide +kernel
theorem dX5_places_61 : decode cX5_places 61 = .ok (.iload 5, 2) := by decide +kernel
theorem dX5_places_63 : decode cX5_places 63 = .ok (.ishl, 1) := by decide +kernel
theorem dX5_places_64 : decode cX5_places 64 = .ok (.goto 4, 3) := by decide +kernel
theorem dX5_places_67 : decode cX5_places 67 = .ok (.iconst 0, 1) := by decide +kernel
theorem dX5_places_68 : decode cX5_places 68 = .ok (.ior, 1) := by decide +kernel
theorem dX5_places_69 : decode cX5_places 69 = .ok (.istore 4, 2) := by decide +kernel
theorem dX5_places_71 : decode cX5_places 71 = .ok (.iinc 5 1, 3) := by decide +kernel
theorem dX5_places_74 : decode cX5_places 74 = .ok (.goto (-35), 3) := by decide +kernel
theorem dX5_places_77 : decode cX5_places 77 = .ok (.iload 4, 2) := by decide +kernel
theorem dX5_places_79 : decode cX5_places 79 = .ok (.ireturn, 1) := by decide +kernel
theorem dX5_kinds_0 : decode cX5_kinds 0 = .ok (.aload_n 0, 1) := by decide +kernel
theorem dX5_kinds_1 : decode cX5_kinds 1 = .ok (.iload_n 1, 1) := by decide +kernel
theorem dX5_kinds_2 : decode cX5_kinds 2 = .ok (.invokevirtual 170, 3) := by decide +kernel
theorem dX5_kinds_5 : decode cX5_kinds 5 = .ok (.ifCond .eq 10, 3) := by decide +kernel
theorem dX5_kinds_8 : decode cX5_kinds 8 = .ok (.iload_n 2, 1) := by decide +kernel
theorem dX5_kinds_9 : decode cX5_kinds 9 = .ok (.invokestatic 67, 3) := by decide +kernel
theorem dX5_kinds_12 : decode cX5_kinds 12 = .ok (.ifCond .ne 5, 3) := by decide +kernel
theorem dX5_kinds_15 : decode cX5_kinds 15 = .ok (.iconst (-1), 1) := by decide +kernel
theorem dX5_kinds_16 : decode cX5_kinds 16 = .ok (.ireturn, 1) := by decide +kernel
theorem dX5_kinds_17 : decode cX5_kinds 17 = .ok (.aload_n 0, 1) := by decide +kernel
theorem dX5_kinds_18 : decode cX5_kinds 18 = .ok (.iload_n 2, 1) := by decide +kernel
theorem dX5_kinds_19 : decode cX5_kinds 19 = .ok (.invokevirtual 218, 3) := by decide +kernel
theorem dX5_kinds_22 : decode cX5_kinds 22 = .ok (.istore_n 3, 1) := by decide +kernel
theorem dX5_kinds_23 : decode cX5_kinds 23 = .ok (.iload_n 3, 1) := by decide +kernel
theorem dX5_kinds_24 : decode cX5_kinds 24 = .ok (.ifCond .le 9, 3) := by decide +kernel
theorem dX5_kinds_27 : decode cX5_kinds 27 = .ok (.aload_n 0, 1) := by decide +kernel
theorem dX5_kinds_28 : decode cX5_kinds 28 = .ok (.iload_n 3, 1) := by decide +kernel
theorem dX5_kinds_29 : decode cX5_kinds 29 = .ok (.invokevirtual 71, 3) := by decide +kernel
theorem dX5_kinds_32 : decode cX5_kinds 32 = .ok (.ireturn, 1) := by decide +kernel
theorem dX5_kinds_33 : decode cX5_kinds 33 = .ok (.iconst 0, 1) := by decide +kernel
theorem dX5_kinds_34 : decode cX5_kinds 34 = .ok (.istore 4, 2) := by decide +kernel
theorem dX5_kinds_36 : decode cX5_kinds 36 = .ok (.iconst 0, 1) := by decide +kernel
theorem dX5_kinds_37 : decode cX5_kinds 37 = .ok (.istore 5, 2) := by decide +kernel
theorem dX5_kinds_39 : decode cX5_kinds 39 = .ok (.iload 5, 2) := by decide +kernel
theorem dX5_kinds_41 : decode cX5_kinds 41 = .ok (.bipush 6, 2) := by decide +kernel
theorem dX5_kinds_43 : decode cX5_kinds 43 = .ok (.if_icmp .ge 34, 3) := by decide +kernel
theorem dX5_kinds_46 : decode cX5_kinds 46 = .ok (.iload 4, 2) := by decide +kernel
theorem dX5_kinds_48 : decode cX5_kinds 48 = .ok (.aload_n 0, 1) := by decide +kernel
theorem dX5_kinds_49 : decode cX5_kinds 49 = .ok (.iload_n 2, 1) := by decide +kernel
theorem dX5_kinds_50 : decode cX5_kinds 50 = .ok (.iload_n 1, 1) := by decide +kernel
theorem dX5_kinds_51 : decode cX5_kinds 51 = .ok (.iconst 0, 1) := by decide +kernel
theorem dX5_kinds_52 : decode cX5_kinds 52 = .ok (.iload 5, 2) := by decide +kernel
theorem dX5_kinds_54 : decode cX5_kinds 54 = .ok (.invokevirtual 221, 3) := by decide +kernel
theorem dX5_kinds_57 : decode cX5_kinds 57 = .ok (.ifCond .eq 10, 3) := by decide +kernel
theorem dX5_kinds_60 : decode cX5_kinds 60 = .ok (.iconst 1, 1) := by decide +kernel
theorem dX5_kinds_61 : decode cX5_kinds 61 = .ok (.iload 5, 2) := by decide +kernel
theorem dX5_kinds_63 : decode cX5_kinds 63 = .ok (.ishl, 1) := by decide +kernel
theorem dX5_kinds_64 : decode cX5_kinds 64 = .ok (.goto 4, 3) := by decide +kernel
theorem dX5_kinds_67 : decode cX5_kinds 67 = .ok (.iconst 0, 1) := by decide +kernel
theorem dX5_kinds_68 : decode cX5_kinds 68 = .ok (.ior, 1) := by decide +kernel
theorem dX5_kinds_69 : decode cX5_kinds 69 = .ok (.istore 4, 2) := by decide +kernel
theorem dX5_kinds_71 : decode cX5_kinds 71 = .ok (.iinc 5 1, 3) := by decide +kernel
theorem dX5_kinds_74 : decode cX5_kinds 74 = .ok (.goto (-35), 3) := by decide +kernel
theorem dX5_kinds_77 : decode cX5_kinds 77 = .ok (.iload 4, 2) := by decide +kernel
theorem dX5_kinds_79 : decode cX5_kinds 79 = .ok (.ireturn, 1) := by decide +kernel
theorem dX5_next_0 : decode cX5_next 0 = .ok (.aload_n 0, 1) := by decide +kernel
theorem dX5_next_1 : decode cX5_next 1 = .ok (.iload_n 1, 1) := by decide +kernel
theorem dX5_next_2 : decode cX5_next 2 = .ok (.invokevirtual 170, 3) := by decide +kernel
theorem dX5_next_5 : decode cX5_next 5 = .ok (.ifCond .eq 10, 3) := by decide +kernel
theorem dX5_next_8 : decode cX5_next 8 = .ok (.iload_n 2, 1) := by decide +kernel
theorem dX5_next_9 : decode cX5_next 9 = .ok (.invokestatic 67, 3) := by decide +kernel
theorem dX5_next_12 : decode cX5_next 12 = .ok (.ifCond .ne 5, 3) := by decide +kernel
theorem dX5_next_15 : decode cX5_next 15 = .ok (.iconst (-1), 1) := by decide +kernel
theorem dX5_next_16 : decode cX5_next 16 = .ok (.ireturn, 1) := by decide +kernel
theorem dX5_next_17 : decode cX5_next 17 = .ok (.aload_n 0, 1) := by decide +kernel
theorem dX5_next_18 : decode cX5_next 18 = .ok (.iload_n 2, 1) := by decide +kernel
theorem dX5_next_19 : decode cX5_next 19 = .ok (.invokevirtual 218, 3) := by decide +kernel
theorem dX5_next_22 : decode cX5_next 22 = .ok (.istore_n 3, 1) := by decide +kernel
theorem dX5_next_23 : decode cX5_next 23 = .ok (.iload_n 3, 1) := by decide +kernel
theorem dX5_next_24 : decode cX5_next 24 = .ok (.ifCond .le 9, 3) := by decide +kernel
theorem dX5_next_27 : decode cX5_next 27 = .ok (.aload_n 0, 1) := by decide +kernel
theorem dX5_next_28 : decode cX5_next 28 = .ok (.iload_n 3, 1) := by decide +kernel
theorem dX5_next_29 : decode cX5_next 29 = .ok (.invokevirtual 71, 3) := by decide +kernel
theorem dX5_next_32 : decode cX5_next 32 = .ok (.ireturn, 1) := by decide +kernel
theorem dX5_next_33 : decode cX5_next 33 = .ok (.bipush (-9), 2) := by decide +kernel
theorem dX5_next_35 : decode cX5_next 35 = .ok (.istore 4, 2) := by decide +kernel
theorem dX5_next_37 : decode cX5_next 37 = .ok (.bipush 17, 2) := by decide +kernel
theorem dX5_next_39 : decode cX5_next 39 = .ok (.istore 5, 2) := by decide +kernel
theorem dX5_next_41 : decode cX5_next 41 = .ok (.iconst 0, 1) := by decide +kernel
theorem dX5_next_42 : decode cX5_next 42 = .ok (.istore 6, 2) := by decide +kernel
theorem dX5_next_44 : decode cX5_next 44 = .ok (.iload 6, 2) := by decide +kernel
theorem dX5_next_46 : decode cX5_next 46 = .ok (.bipush 8, 2) := by decide +kernel
theorem dX5_next_48 : decode cX5_next 48 = .ok (.if_icmp .ge 127, 3) := by decide +kernel
theorem dX5_next_51 : decode cX5_next 51 = .ok (.iconst 0, 1) := by decide +kernel
theorem dX5_next_52 : decode cX5_next 52 = .ok (.istore 7, 2) := by decide +kernel
theorem dX5_next_54 : decode cX5_next 54 = .ok (.iconst 0, 1) := by decide +kernel
theorem dX5_next_55 : decode cX5_next 55 = .ok (.istore 8, 2) := by decide +kernel
theorem dX5_next_57 : decode cX5_next 57 = .ok (.iconst 0, 1) := by decide +kernel
theorem dX5_next_58 : decode cX5_next 58 = .ok (.istore 9, 2) := by decide +kernel
theorem dX5_next_60 : decode cX5_next 60 = .ok (.iload 9, 2) := by decide +kernel
theorem dX5_next_62 : decode cX5_next 62 = .ok (.bipush 16, 2) := by decide +kernel
theorem dX5_next_64 : decode cX5_next 64 = .ok (.if_icmp .ge 41, 3) := by decide +kernel
theorem dX5_next_67 : decode cX5_next 67 = .ok (.aload_n 0, 1) := by decide +kernel
theorem dX5_next_68 : decode cX5_next 68 = .ok (.iload_n 2, 1) := by decide +kernel
theorem dX5_next_69 : decode cX5_next 69 = .ok (.iload_n 1, 1) := by decide +kernel
theorem dX5_next_70 : decode cX5_next 70 = .ok (.iconst 1, 1) := by decide +kernel
theorem dX5_next_71 : decode cX5_next 71 = .ok (.iload 9, 2) := by decide +kernel
theorem dX5_next_73 : decode cX5_next 73 = .ok (.invokevirtual 221, 3) := by decide +kernel
theorem dX5_next_76 : decode cX5_next 76 = .ok (.ifCond .eq 23, 3) := by decide +kernel
theorem dX5_next_79 : decode cX5_next 79 = .ok (.iinc 7 1, 3) := by decide +kernel
theorem dX5_next_82 : decode cX5_next 82 = .ok (.iload 8, 2) := by decide +kernel
theorem dX5_next_84 : decode cX5_next 84 = .ok (.aload_n 0, 1) := by decide +kernel
theorem dX5_next_85 : decode cX5_next 85 = .ok (.getfield 31, 3) := by decide +kernel
theorem dX5_next_88 : decode cX5_next 88 = .ok (.invokestatic 193, 3) := by decide +kernel
theorem dX5_next_91 : decode cX5_next 91 = .ok (.iload 6, 2) := by decide +kernel
theorem dX5_next_93 : decode cX5_next 93 = .ok (.ishr, 1) := by decide +kernel
theorem dX5_next_94 : decode cX5_next 94 = .ok (.iconst 1, 1) := by decide +kernel
theorem dX5_next_95 : decode cX5_next 95 = .ok (.iand, 1) := by decide +kernel
theorem dX5_next_96 : decode cX5_next 96 = .ok (.iadd, 1) := by decide +kernel
theorem dX5_next_97 : decode cX5_next 97 = .ok (.istore 8, 2) := by decide +kernel
theorem dX5_next_99 : decode cX5_next 99 = .ok (.iinc 9 1, 3) := by decide +kernel
theorem dX5_next_102 : decode cX5_next 102 = .ok (.goto (-42), 3) := by decide +kernel
theorem dX5_next_105 : decode cX5_next 105 = .ok (.iload 8, 2) := by decide +kernel
theorem dX5_next_107 : decode cX5_next 107 = .ok (.iload 7, 2) := by decide +kernel
theorem dX5_next_109 : decode cX5_next 109 = .ok (.iload 8, 2) := by decide +kernel
theorem dX5_next_111 : decode cX5_next 111 = .ok (.isub, 1) := by decide +kernel
theorem dX5_next_112 : decode cX5_next 112 = .ok (.if_icmp .le 8, 3) := by decide +kernel
theorem dX5_next_115 : decode cX5_next 115 = .ok (.iload 8, 2) := by decide +kernel
theorem dX5_next_117 : decode cX5_next 117 = .ok (.goto 8, 3) := by decide +kernel
theorem dX5_next_120 : decode cX5_next 120 = .ok (.iload 7, 2) := by decide +kernel
theorem dX5_next_122 : decode cX5_next 122 = .ok (.iload 8, 2) := by decide +kernel
theorem dX5_next_124 : decode cX5_next 124 = .ok (.isub, 1) := by decide +kernel
theorem dX5_next_125 : decode cX5_next 125 = .ok (.istore 9, 2) := by decide +kernel
theorem dX5_next_127 : decode cX5_next 127 = .ok (.iload 7, 2) := by decide +kernel
theorem dX5_next_129 : decode cX5_next 129 = .ok (.ifCond .le 15, 3) := by decide +kernel
theorem dX5_next_132 : decode cX5_next 132 = .ok (.iload 9, 2) := by decide +kernel
theorem dX5_next_134 : decode cX5_next 134 = .ok (.iload 5, 2) := by decide +kernel
theorem dX5_next_136 : decode cX5_next 136 = .ok (.if_icmp .ge 8, 3) := by decide +kernel
theorem dX5_next_139 : decode cX5_next 139 = .ok (.iload 6, 2) := by decide +kernel
theorem dX5_next_141 : decode cX5_next 141 = .ok (.goto 5, 3) := by decide +kernel
theorem dX5_next_144 : decode cX5_next 144 = .ok (.iload 4, 2) := by decide +kernel
theorem dX5_next_146 : decode cX5_next 146 = .ok (.istore 4, 2) := by decide +kernel
theorem dX5_next_148 : decode cX5_next 148 = .ok (.iload 7, 2) := by decide +kernel
theorem dX5_next_150 : decode cX5_next 150 = .ok (.ifCond .le 15, 3) := by decide +kernel
theorem dX5_next_153 : decode cX5_next 153 = .ok (.iload 9, 2) := by decide +kernel
theorem dX5_next_155 : decode cX5_next 155 = .ok (.iload 5, 2) := by decide +kernel
theorem dX5_next_157 : decode cX5_next 157 = .ok (.if_icmp .ge 8, 3) := by decide +kernel
theorem dX5_next_160 : decode cX5_next 160 = .ok (.iload 9, 2) := by decide +kernel
theorem dX5_next_162 : decode cX5_next 162 = .ok (.goto 5, 3) := by decide +kernel
theorem dX5_next_165 : decode cX5_next 165 = .ok (.iload 5, 2) := by decide +kernel
theorem dX5_next_167 : decode cX5_next 167 = .ok (.istore 5, 2) := by decide +kernel
theorem dX5_next_169 : decode cX5_next 169 = .ok (.iinc 6 1, 3) := by decide +kernel
theorem dX5_next_172 : decode cX5_next 172 = .ok (.goto (-128), 3) := by decide +kernel
theorem dX5_next_175 : decode cX5_next 175 = .ok (.iload 4, 2) := by decide +kernel
theorem dX5_next_177 : decode cX5_next 177 = .ok (.bipush (-9), 2) := by decide +kernel
theorem dX5_next_179 : decode cX5_next 179 = .ok (.if_icmp .eq 10, 3) := by decide +kernel
theorem dX5_next_182 : decode cX5_next 182 = .ok (.aload_n 0, 1) := by decide +kernel
theorem dX5_next_183 : decode cX5_next 183 = .ok (.iload 5, 2) := by decide +kernel
theorem dX5_next_185 : decode cX5_next 185 = .ok (.invokevirtual 75, 3) := by decide +kernel
theorem dX5_next_188 : decode cX5_next 188 = .ok (.pop, 1) := by decide +kernel
theorem dX5_next_189 : decode cX5_next 189 = .ok (.iload 4, 2) := by decide +kernel
theorem dX5_next_191 : decode cX5_next 191 = .ok (.ireturn, 1) := by decide +kernel
theorem dX5_lengthOf_0 : decode cX5_lengthOf 0 = .ok (.iconst 0, 1) := by decide +kernel
theorem dX5_lengthOf_1 : decode cX5_lengthOf 1 = .ok (.istore_n 2, 1) := by decide +kernel
theorem dX5_lengthOf_2 : decode cX5_lengthOf 2 = .ok (.iconst 0, 1) := by decide +kernel
theorem dX5_lengthOf_3 : decode cX5_lengthOf 3 = .ok (.istore_n 3, 1) := by decide +kernel
theorem dX5_lengthOf_4 : decode cX5_lengthOf 4 = .ok (.iload_n 3, 1) := by decide +kernel
theorem dX5_lengthOf_5 : decode cX5_lengthOf 5 = .ok (.aload_n 0, 1) := by decide +kernel
theorem dX5_lengthOf_6 : decode cX5_lengthOf 6 = .ok (.getfield 25, 3) := by decide +kernel
theorem dX5_lengthOf_9 : decode cX5_lengthOf 9 = .ok (.iconst 1, 1) := by decide +kernel
theorem dX5_lengthOf_10 : decode cX5_lengthOf 10 = .ok (.iaload, 1) := by decide +kernel
theorem dX5_lengthOf_11 : decode cX5_lengthOf 11 = .ok (.if_icmp .ge 36, 3) := by decide +kernel
theorem dX5_lengthOf_14 : decode cX5_lengthOf 14 = .ok (.iload_n 2, 1) := by decide +kernel
theorem dX5_lengthOf_15 : decode cX5_lengthOf 15 = .ok (.iload_n 1, 1) := by decide +kernel
theorem dX5_lengthOf_16 : decode cX5_lengthOf 16 = .ok (.iload_n 3, 1) := by decide +kernel
theorem dX5_lengthOf_17 : decode cX5_lengthOf 17 = .ok (.invokestatic 140, 3) := by decide +kernel
theorem dX5_lengthOf_20 : decode cX5_lengthOf 20 = .ok (.ifCond .eq 18, 3) := by decide +kernel
theorem dX5_lengthOf_23 : decode cX5_lengthOf 23 = .ok (.aload_n 0, 1) := by decide +kernel
theorem dX5_lengthOf_24 : decode cX5_lengthOf 24 = .ok (.getfield 25, 3) := by decide +kernel
theorem dX5_lengthOf_27 : decode cX5_lengthOf 27 = .ok (.iconst 5, 1) := by decide +kernel
theorem dX5_lengthOf_28 : decode cX5_lengthOf 28 = .ok (.iconst 5, 1) := by decide +kernel
theorem dX5_lengthOf_29 : decode cX5_lengthOf 29 = .ok (.iload_n 3, 1) := by decide +kernel
theorem dX5_lengthOf_30 : decode cX5_lengthOf 30 = .ok (.imul, 1) := by decide +kernel
theorem dX5_lengthOf_31 : decode cX5_lengthOf 31 = .ok (.iadd, 1) := by decide +kernel
theorem dX5_lengthOf_32 : decode cX5_lengthOf 32 = .ok (.iconst 2, 1) := by decide +kernel
theorem dX5_lengthOf_33 : decode cX5_lengthOf 33 = .ok (.iadd, 1) := by decide +kernel
theorem dX5_lengthOf_34 : decode cX5_lengthOf 34 = .ok (.iaload, 1) := by decide +kernel
theorem dX5_lengthOf_35 : decode cX5_lengthOf 35 = .ok (.goto 4, 3) := by decide +kernel
theorem dX5_lengthOf_38 : decode cX5_lengthOf 38 = .ok (.iconst 0, 1) := by decide +kernel
theorem dX5_lengthOf_39 : decode cX5_lengthOf 39 = .ok (.iadd, 1) := by decide +kernel
theorem dX5_lengthOf_40 : decode cX5_lengthOf 40 = .ok (.istore_n 2, 1) := by decide +kernel
theorem dX5_lengthOf_41 : decode cX5_lengthOf 41 = .ok (.iinc 3 1, 3) := by decide +kernel
theorem dX5_lengthOf_44 : decode cX5_lengthOf 44 = .ok (.goto (-40), 3) := by decide +kernel
theorem dX5_lengthOf_47 : decode cX5_lengthOf 47 = .ok (.iload_n 2, 1) := by decide +kernel
theorem dX5_lengthOf_48 : decode cX5_lengthOf 48 = .ok (.ireturn, 1) := by decide +kernel
theorem dX5_sets_0 : decode cX5_sets 0 = .ok (.iload_n 1, 1) := by decide +kernel
theorem dX5_sets_1 : decode cX5_sets 1 = .ok (.iconst 0, 1) := by decide +kernel
theorem dX5_sets_2 : decode cX5_sets 2 = .ok (.bipush 24, 2) := by decide +kernel
theorem dX5_sets_4 : decode cX5_sets 4 = .ok (.invokestatic 63, 3) := by decide +kernel
theorem dX5_sets_7 : decode cX5_sets 7 = .ok (.ifCond .ne 5, 3) := by decide +kernel
theorem dX5_sets_10 : decode cX5_sets 10 = .ok (.iconst (-1), 1) := by decide +kernel
theorem dX5_sets_11 : decode cX5_sets 11 = .ok (.ireturn, 1) := by decide +kernel
theorem dX5_sets_12 : decode cX5_sets 12 = .ok (.aload_n 0, 1) := by decide +kernel
theorem dX5_sets_13 : decode cX5_sets 13 = .ok (.invokevirtual 186, 3) := by decide +kernel
theorem dX5_sets_16 : decode cX5_sets 16 = .ok (.ifCond .ne 6, 3) := by decide +kernel
theorem dX5_sets_19 : decode cX5_sets 19 = .ok (.bipush (-4), 2) := by decide +kernel
theorem dX5_sets_21 : decode cX5_sets 21 = .ok (.ireturn, 1) := by decide +kernel
theorem dX5_sets_22 : decode cX5_sets 22 = .ok (.iconst 0, 1) := by decide +kernel
theorem dX5_sets_23 : decode cX5_sets 23 = .ok (.istore_n 2, 1) := by decide +kernel
theorem dX5_sets_24 : decode cX5_sets 24 = .ok (.bipush (-9), 2) := by decide +kernel
theorem dX5_sets_26 : decode cX5_sets 26 = .ok (.istore_n 3, 1) := by decide +kernel
theorem dX5_sets_27 : decode cX5_sets 27 = .ok (.iconst 0, 1) := by decide +kernel
theorem dX5_sets_28 : decode cX5_sets 28 = .ok (.istore 4, 2) := by decide +kernel
theorem dX5_sets_30 : decode cX5_sets 30 = .ok (.iload 4, 2) := by decide +kernel
theorem dX5_sets_32 : decode cX5_sets 32 = .ok (.iconst 1, 1) := by decide +kernel
theorem dX5_sets_33 : decode cX5_sets 33 = .ok (.aload_n 0, 1) := by decide +kernel
theorem dX5_sets_34 : decode cX5_sets 34 = .ok (.getfield 25, 3) := by decide +kernel
theorem dX5_sets_37 : decode cX5_sets 37 = .ok (.iconst 1, 1) := by decide +kernel
theorem dX5_sets_38 : decode cX5_sets 38 = .ok (.iaload, 1) := by decide +kernel
theorem dX5_sets_39 : decode cX5_sets 39 = .ok (.ishl, 1) := by decide +kernel
theorem dX5_sets_40 : decode cX5_sets 40 = .ok (.if_icmp .ge 33, 3) := by decide +kernel
theorem dX5_sets_43 : decode cX5_sets 43 = .ok (.aload_n 0, 1) := by decide +kernel
theorem dX5_sets_44 : decode cX5_sets 44 = .ok (.iload 4, 2) := by decide +kernel
theorem dX5_sets_46 : decode cX5_sets 46 = .ok (.invokevirtual 225, 3) := by decide +kernel
theorem dX5_sets_49 : decode cX5_sets 49 = .ok (.iload_n 1, 1) := by decide +kernel
theorem dX5_sets_50 : decode cX5_sets 50 = .ok (.if_icmp .ne 17, 3) := by decide +kernel
theorem dX5_sets_53 : decode cX5_sets 53 = .ok (.iload_n 2, 1) := by decide +kernel
theorem dX5_sets_54 : decode cX5_sets 54 = .ok (.ifCond .ne 8, 3) := by decide +kernel
theorem dX5_sets_57 : decode cX5_sets 57 = .ok (.iload 4, 2) := by decide +kernel
theorem dX5_sets_59 : decode cX5_sets 59 = .ok (.goto 4, 3) := by decide +kernel
theorem dX5_sets_62 : decode cX5_sets 62 = .ok (.iload_n 3, 1) := by decide +kernel
theorem dX5_sets_63 : decode cX5_sets 63 = .ok (.istore_n 3, 1) := by decide +kernel
theorem dX5_sets_64 : decode cX5_sets 64 = .ok (.iinc 2 1, 3) := by decide +kernel
theorem dX5_sets_67 : decode cX5_sets 67 = .ok (.iinc 4 1, 3) := by decide +kernel
theorem dX5_sets_70 : decode cX5_sets 70 = .ok (.goto (-40), 3) := by decide +kernel
theorem dX5_sets_73 : decode cX5_sets 73 = .ok (.aload_n 0, 1) := by decide +kernel
theorem dX5_sets_74 : decode cX5_sets 74 = .ok (.iload_n 2, 1) := by decide +kernel
theorem dX5_sets_75 : decode cX5_sets 75 = .ok (.i2l, 1) := by decide +kernel
theorem dX5_sets_76 : decode cX5_sets 76 = .ok (.putfield 215, 3) := by decide +kernel
theorem dX5_sets_79 : decode cX5_sets 79 = .ok (.aload_n 0, 1) := by decide +kernel
theorem dX5_sets_80 : decode cX5_sets 80 = .ok (.lconst 1, 1) := by decide +kernel
theorem dX5_sets_81 : decode cX5_sets 81 = .ok (.putfield 49, 3) := by decide +kernel
theorem dX5_sets_84 : decode cX5_sets 84 = .ok (.aload_n 0, 1) := by decide +kernel
theorem dX5_sets_85 : decode cX5_sets 85 = .ok (.iload_n 3, 1) := by decide +kernel
theorem dX5_sets_86 : decode cX5_sets 86 = .ok (.invokevirtual 75, 3) := by decide +kernel
theorem dX5_sets_89 : decode cX5_sets 89 = .ok (.ireturn, 1) := by decide +kernel
theorem dX5_surely_0 : decode cX5_surely 0 = .ok (.iload_n 1, 1) := by decide +kernel
theorem dX5_surely_1 : decode cX5_surely 1 = .ok (.iconst 0, 1) := by decide +kernel
theorem dX5_surely_2 : decode cX5_surely 2 = .ok (.bipush 24, 2) := by decide +kernel
theorem dX5_surely_4 : decode cX5_surely 4 = .ok (.invokestatic 63, 3) := by decide +kernel
theorem dX5_surely_7 : decode cX5_surely 7 = .ok (.ifCond .ne 5, 3) := by decide +kernel
theorem dX5_surely_10 : decode cX5_surely 10 = .ok (.iconst (-1), 1) := by decide +kernel
theorem dX5_surely_11 : decode cX5_surely 11 = .ok (.ireturn, 1) := by decide +kernel
theorem dX5_surely_12 : decode cX5_surely 12 = .ok (.aload_n 0, 1) := by decide +kernel
theorem dX5_surely_13 : decode cX5_surely 13 = .ok (.invokevirtual 186, 3) := by decide +kernel
theorem dX5_surely_16 : decode cX5_surely 16 = .ok (.ifCond .ne 6, 3) := by decide +kernel
theorem dX5_surely_19 : decode cX5_surely 19 = .ok (.bipush (-4), 2) := by decide +kernel
theorem dX5_surely_21 : decode cX5_surely 21 = .ok (.ireturn, 1) := by decide +kernel
theorem dX5_surely_22 : decode cX5_surely 22 = .ok (.iconst 1, 1) := by decide +kernel
theorem dX5_surely_23 : decode cX5_surely 23 = .ok (.aload_n 0, 1) := by decide +kernel
theorem dX5_surely_24 : decode cX5_surely 24 = .ok (.getfield 25, 3) := by decide +kernel
theorem dX5_surely_27 : decode cX5_surely 27 = .ok (.iconst 1, 1) := by decide +kernel
theorem dX5_surely_28 : decode cX5_surely 28 = .ok (.iaload, 1) := by decide +kernel
theorem dX5_surely_29 : decode cX5_surely 29 = .ok (.ishl, 1) := by decide +kernel
theorem dX5_surely_30 : decode cX5_surely 30 = .ok (.iconst 1, 1) := by decide +kernel
theorem dX5_surely_31 : decode cX5_surely 31 = .ok (.isub, 1) := by decide +kernel
theorem dX5_surely_32 : decode cX5_surely 32 = .ok (.istore_n 2, 1) := by decide +kernel
theorem dX5_surely_33 : decode cX5_surely 33 = .ok (.iload_n 2, 1) := by decide +kernel
theorem dX5_surely_34 : decode cX5_surely 34 = .ok (.istore_n 3, 1) := by decide +kernel
theorem dX5_surely_35 : decode cX5_surely 35 = .ok (.iconst 0, 1) := by decide +kernel
theorem dX5_surely_36 : decode cX5_surely 36 = .ok (.istore 4, 2) := by decide +kernel
theorem dX5_surely_38 : decode cX5_surely 38 = .ok (.iconst 0, 1) := by decide +kernel
theorem dX5_surely_39 : decode cX5_surely 39 = .ok (.istore 5, 2) := by decide +kernel
theorem dX5_surely_41 : decode cX5_surely 41 = .ok (.iconst 0, 1) := by decide +kernel
theorem dX5_surely_42 : decode cX5_surely 42 = .ok (.istore 6, 2) := by decide +kernel
theorem dX5_surely_44 : decode cX5_surely 44 = .ok (.iload 6, 2) := by decide +kernel
theorem dX5_surely_46 : decode cX5_surely 46 = .ok (.iload_n 2, 1) := by decide +kernel
theorem dX5_surely_47 : decode cX5_surely 47 = .ok (.if_icmp .gt 34, 3) := by decide +kernel
theorem dX5_surely_50 : decode cX5_surely 50 = .ok (.aload_n 0, 1) := by decide +kernel
theorem dX5_surely_51 : decode cX5_surely 51 = .ok (.iload 6, 2) := by decide +kernel
theorem dX5_surely_53 : decode cX5_surely 53 = .ok (.invokevirtual 225, 3) := by decide +kernel
theorem dX5_surely_56 : decode cX5_surely 56 = .ok (.iload_n 1, 1) := by decide +kernel
theorem dX5_surely_57 : decode cX5_surely 57 = .ok (.if_icmp .ne 18, 3) := by decide +kernel
theorem dX5_surely_60 : decode cX5_surely 60 = .ok (.iload_n 3, 1) := by decide +kernel
theorem dX5_surely_61 : decode cX5_surely 61 = .ok (.iload 6, 2) := by decide +kernel
theorem dX5_surely_63 : decode cX5_surely 63 = .ok (.iand, 1) := by decide +kernel
theorem dX5_surely_64 : decode cX5_surely 64 = .ok (.istore_n 3, 1) := by decide +kernel
theorem dX5_surely_65 : decode cX5_surely 65 = .ok (.iload 4, 2) := by decide +kernel
theorem dX5_surely_67 : decode cX5_surely 67 = .ok (.iload 6, 2) := by decide +kernel
theorem dX5_surely_69 : decode cX5_surely 69 = .ok (.ior, 1) := by decide +kernel
theorem dX5_surely_70 : decode cX5_surely 70 = .ok (.istore 4, 2) := by decide +kernel
theorem dX5_surely_72 : decode cX5_surely 72 = .ok (.iinc 5 1, 3) := by decide +kernel
theorem dX5_surely_75 : decode cX5_surely 75 = .ok (.iinc 6 1, 3) := by decide +kernel
theorem dX5_surely_78 : decode cX5_surely 78 = .ok (.goto (-34), 3) := by decide +kernel
theorem dX5_surely_81 : decode cX5_surely 81 = .ok (.iload 5, 2) := by decide +kernel
theorem dX5_surely_83 : decode cX5_surely 83 = .ok (.ifCond .ne 9, 3) := by decide +kernel
theorem dX5_surely_86 : decode cX5_surely 86 = .ok (.aload_n 0, 1) := by decide +kernel
theorem dX5_surely_87 : decode cX5_surely 87 = .ok (.iconst 4, 1) := by decide +kernel
theorem dX5_surely_88 : decode cX5_surely 88 = .ok (.invokevirtual 71, 3) := by decide +kernel
theorem dX5_surely_91 : decode cX5_surely 91 = .ok (.ireturn, 1) := by decide +kernel
theorem dX5_surely_92 : decode cX5_surely 92 = .ok (.aload_n 0, 1) := by decide +kernel
theorem dX5_surely_93 : decode cX5_surely 93 = .ok (.iload_n 2, 1) := by decide +kernel
theorem dX5_surely_94 : decode cX5_surely 94 = .ok (.iload 4, 2) := by decide +kernel
theorem dX5_surely_96 : decode cX5_surely 96 = .ok (.iconst (-1), 1) := by decide +kernel
theorem dX5_surely_97 : decode cX5_surely 97 = .ok (.ixor, 1) := by decide +kernel
theorem dX5_surely_98 : decode cX5_surely 98 = .ok (.iand, 1) := by decide +kernel
theorem dX5_surely_99 : decode cX5_surely 99 = .ok (.invokevirtual 75, 3) := by decide +kernel
theorem dX5_surely_102 : decode cX5_surely 102 = .ok (.pop, 1) := by decide +kernel
theorem dX5_surely_103 : decode cX5_surely 103 = .ok (.iload_n 3, 1) := by decide +kernel
theorem dX5_surely_104 : decode cX5_surely 104 = .ok (.ireturn, 1) := by decide +kernel
theorem dX5_comes_0 : decode cX5_comes 0 = .ok (.aload_n 0, 1) := by decide +kernel
theorem dX5_comes_1 : decode cX5_comes 1 = .ok (.getfield 25, 3) := by decide +kernel
theorem dX5_comes_4 : decode cX5_comes 4 = .ok (.iconst 0, 1) := by decide +kernel
theorem dX5_comes_5 : decode cX5_comes 5 = .ok (.aload_n 0, 1) := by decide +kernel
theorem dX5_comes_6 : decode cX5_comes 6 = .ok (.getfield 31, 3) := by decide +kernel
theorem dX5_comes_9 : decode cX5_comes 9 = .ok (.iconst 0, 1) := by decide +kernel
theorem dX5_comes_10 : decode cX5_comes 10 = .ok (.bipush 35, 2) := by decide +kernel
theorem dX5_comes_12 : decode cX5_comes 12 = .ok (.invokestatic 120, 3) := by decide +kernel
theorem dX5_comes_15 : decode cX5_comes 15 = .ok (.iconst 0, 1) := by decide +kernel
theorem dX5_comes_16 : decode cX5_comes 16 = .ok (.istore_n 3, 1) := by decide +kernel
theorem dX5_comes_17 : decode cX5_comes 17 = .ok (.iload_n 3, 1) := by decide +kernel
theorem dX5_comes_18 : decode cX5_comes 18 = .ok (.iload_n 2, 1) := by decide +kernel
theorem dX5_comes_19 : decode cX5_comes 19 = .ok (.if_icmp .ge 106, 3) := by decide +kernel
theorem dX5_comes_22 : decode cX5_comes 22 = .ok (.iload_n 1, 1) := by decide +kernel
theorem dX5_comes_23 : decode cX5_comes 23 = .ok (.istore 4, 2) := by decide +kernel
theorem dX5_comes_25 : decode cX5_comes 25 = .ok (.iload_n 2, 1) := by decide +kernel
theorem dX5_comes_26 : decode cX5_comes 26 = .ok (.iconst 1, 1) := by decide +kernel
theorem dX5_comes_27 : decode cX5_comes 27 = .ok (.isub, 1) := by decide +kernel
theorem dX5_comes_28 : decode cX5_comes 28 = .ok (.istore 5, 2) := by decide +kernel
theorem dX5_comes_30 : decode cX5_comes 30 = .ok (.iload 5, 2) := by decide +kernel
theorem dX5_comes_32 : decode cX5_comes 32 = .ok (.iload_n 3, 1) := by decide +kernel
theorem dX5_comes_33 : decode cX5_comes 33 = .ok (.if_icmp .le 16, 3) := by decide +kernel
theorem dX5_comes_36 : decode cX5_comes 36 = .ok (.iload 4, 2) := by decide +kernel
theorem dX5_comes_38 : decode cX5_comes 38 = .ok (.bipush 7, 2) := by decide +kernel
theorem dX5_comes_40 : decode cX5_comes 40 = .ok (.idiv, 1) := by decide +kernel
theorem dX5_comes_41 : decode cX5_comes 41 = .ok (.istore 4, 2) := by decide +kernel
theorem dX5_comes_43 : decode cX5_comes 43 = .ok (.iinc 5 (-1), 3) := by decide +kernel
theorem dX5_comes_46 : decode cX5_comes 46 = .ok (.goto (-16), 3) := by decide +kernel
theorem dX5_comes_49 : decode cX5_comes 49 = .ok (.iload 4, 2) := by decide +kernel
theorem dX5_comes_51 : decode cX5_comes 51 = .ok (.bipush 7, 2) := by decide +kernel
theorem dX5_comes_53 : decode cX5_comes 53 = .ok (.irem, 1) := by decide +kernel
theorem dX5_comes_54 : decode cX5_comes 54 = .ok (.iconst 1, 1) := by decide +kernel
theorem dX5_comes_55 : decode cX5_comes 55 = .ok (.isub, 1) := by decide +kernel
theorem dX5_comes_56 : decode cX5_comes 56 = .ok (.istore 5, 2) := by decide +kernel
theorem dX5_comes_58 : decode cX5_comes 58 = .ok (.iload 5, 2) := by decide +kernel
theorem dX5_comes_60 : decode cX5_comes 60 = .ok (.aload_n 0, 1) := by decide +kernel
theorem dX5_comes_61 : decode cX5_comes 61 = .ok (.getfield 25, 3) := by decide +kernel
theorem dX5_comes_64 : decode cX5_comes 64 = .ok (.iconst 1, 1) := by decide +kernel
theorem dX5_comes_65 : decode cX5_comes 65 = .ok (.iaload, 1) := by decide +kernel
theorem dX5_comes_66 : decode cX5_comes 66 = .ok (.if_icmp .ge 27, 3) := by decide +kernel
theorem dX5_comes_69 : decode cX5_comes 69 = .ok (.iload 5, 2) := by decide +kernel
theorem dX5_comes_71 : decode cX5_comes 71 = .ok (.ifCond .lt 25, 3) := by decide +kernel
theorem dX5_comes_74 : decode cX5_comes 74 = .ok (.aload_n 0, 1) := by decide +kernel
theorem dX5_comes_75 : decode cX5_comes 75 = .ok (.getfield 31, 3) := by decide +kernel
theorem dX5_comes_78 : decode cX5_comes 78 = .ok (.iconst 5, 1) := by decide +kernel
theorem dX5_comes_79 : decode cX5_comes 79 = .ok (.iconst 5, 1) := by decide +kernel
theorem dX5_comes_80 : decode cX5_comes 80 = .ok (.iload 5, 2) := by decide +kernel
theorem dX5_comes_82 : decode cX5_comes 82 = .ok (.imul, 1) := by decide +kernel
theorem dX5_comes_83 : decode cX5_comes 83 = .ok (.iadd, 1) := by decide +kernel
theorem dX5_comes_84 : decode cX5_comes 84 = .ok (.iconst 4, 1) := by decide +kernel
theorem dX5_comes_85 : decode cX5_comes 85 = .ok (.iadd, 1) := by decide +kernel
theorem dX5_comes_86 : decode cX5_comes 86 = .ok (.iaload, 1) := by decide +kernel
theorem dX5_comes_87 : decode cX5_comes 87 = .ok (.iload_n 3, 1) := by decide +kernel
theorem dX5_comes_88 : decode cX5_comes 88 = .ok (.iconst 2, 1) := by decide +kernel
theorem dX5_comes_89 : decode cX5_comes 89 = .ok (.irem, 1) := by decide +kernel
theorem dX5_comes_90 : decode cX5_comes 90 = .ok (.if_icmp .eq 6, 3) := by decide +kernel
theorem dX5_comes_93 : decode cX5_comes 93 = .ok (.bipush (-9), 2) := by decide +kernel
theorem dX5_comes_95 : decode cX5_comes 95 = .ok (.ireturn, 1) := by decide +kernel
theorem dX5_comes_96 : decode cX5_comes 96 = .ok (.iload 5, 2) := by decide +kernel
theorem dX5_comes_98 : decode cX5_comes 98 = .ok (.ifCond .lt 21, 3) := by decide +kernel
theorem dX5_comes_101 : decode cX5_comes 101 = .ok (.aload_n 0, 1) := by decide +kernel
theorem dX5_comes_102 : decode cX5_comes 102 = .ok (.getfield 31, 3) := by decide +kernel
theorem dX5_comes_105 : decode cX5_comes 105 = .ok (.iconst 5, 1) := by decide +kernel
theorem dX5_comes_106 : decode cX5_comes 106 = .ok (.iconst 5, 1) := by decide +kernel
theorem dX5_comes_107 : decode cX5_comes 107 = .ok (.iload 5, 2) := by decide +kernel
theorem dX5_comes_109 : decode cX5_comes 109 = .ok (.imul, 1) := by decide +kernel
theorem dX5_comes_110 : decode cX5_comes 110 = .ok (.iadd, 1) := by decide +kernel
theorem dX5_comes_111 : decode cX5_comes 111 = .ok (.iconst 4, 1) := by decide +kernel
theorem dX5_comes_112 : decode cX5_comes 112 = .ok (.iadd, 1) := by decide +kernel
theorem dX5_comes_113 : decode cX5_comes 113 = .ok (.iconst 1, 1) := by decide +kernel
theorem dX5_comes_114 : decode cX5_comes 114 = .ok (.iload_n 3, 1) := by decide +kernel
theorem dX5_comes_115 : decode cX5_comes 115 = .ok (.iconst 2, 1) := by decide +kernel
theorem dX5_comes_116 : decode cX5_comes 116 = .ok (.irem, 1) := by decide +kernel
theorem dX5_comes_117 : decode cX5_comes 117 = .ok (.isub, 1) := by decide +kernel
theorem dX5_comes_118 : decode cX5_comes 118 = .ok (.iastore, 1) := by decide +kernel
theorem dX5_comes_119 : decode cX5_comes 119 = .ok (.iinc 3 1, 3) := by decide +kernel
theorem dX5_comes_122 : decode cX5_comes 122 = .ok (.goto (-105), 3) := by decide +kernel
theorem dX5_comes_125 : decode cX5_comes 125 = .ok (.aload_n 0, 1) := by decide +kernel
theorem dX5_comes_126 : decode cX5_comes 126 = .ok (.getfield 31, 3) := by decide +kernel
theorem dX5_comes_129 : decode cX5_comes 129 = .ok (.invokestatic 193, 3) := by decide +kernel
theorem dX5_comes_132 : decode cX5_comes 132 = .ok (.invokestatic 151, 3) := by decide +kernel
theorem dX5_comes_135 : decode cX5_comes 135 = .ok (.ireturn, 1) := by decide +kernel
theorem dX5_duel_0 : decode cX5_duel 0 = .ok (.iload_n 1, 1) := by decide +kernel
theorem dX5_duel_1 : decode cX5_duel 1 = .ok (.iconst 0, 1) := by decide +kernel
theorem dX5_duel_2 : decode cX5_duel 2 = .ok (.iconst 2, 1) := by decide +kernel
theorem dX5_duel_3 : decode cX5_duel 3 = .ok (.invokestatic 63, 3) := by decide +kernel
theorem dX5_duel_6 : decode cX5_duel 6 = .ok (.ifCond .ne 5, 3) := by decide +kernel
theorem dX5_duel_9 : decode cX5_duel 9 = .ok (.iconst (-1), 1) := by decide +kernel
theorem dX5_duel_10 : decode cX5_duel 10 = .ok (.ireturn, 1) := by decide +kernel
theorem dX5_duel_11 : decode cX5_duel 11 = .ok (.aload_n 0, 1) := by decide +kernel
theorem dX5_duel_12 : decode cX5_duel 12 = .ok (.invokevirtual 186, 3) := by decide +kernel
theorem dX5_duel_15 : decode cX5_duel 15 = .ok (.ifCond .ne 6, 3) := by decide +kernel
theorem dX5_duel_18 : decode cX5_duel 18 = .ok (.bipush (-4), 2) := by decide +kernel
theorem dX5_duel_20 : decode cX5_duel 20 = .ok (.ireturn, 1) := by decide +kernel
theorem dX5_duel_21 : decode cX5_duel 21 = .ok (.iconst 1, 1) := by decide +kernel
theorem dX5_duel_22 : decode cX5_duel 22 = .ok (.istore_n 2, 1) := by decide +kernel
theorem dX5_duel_23 : decode cX5_duel 23 = .ok (.iconst 0, 1) := by decide +kernel
theorem dX5_duel_24 : decode cX5_duel 24 = .ok (.istore_n 3, 1) := by decide +kernel
theorem dX5_duel_25 : decode cX5_duel 25 = .ok (.iload_n 3, 1) := by decide +kernel
theorem dX5_duel_26 : decode cX5_duel 26 = .ok (.iconst 2, 1) := by decide +kernel
theorem dX5_duel_27 : decode cX5_duel 27 = .ok (.iload_n 1, 1) := by decide +kernel
theorem dX5_duel_28 : decode cX5_duel 28 = .ok (.imul, 1) := by decide +kernel
theorem dX5_duel_29 : decode cX5_duel 29 = .ok (.if_icmp .ge 14, 3) := by decide +kernel
theorem dX5_duel_32 : decode cX5_duel 32 = .ok (.iload_n 2, 1) := by decide +kernel
theorem dX5_duel_33 : decode cX5_duel 33 = .ok (.bipush 7, 2) := by decide +kernel
theorem dX5_duel_35 : decode cX5_duel 35 = .ok (.imul, 1) := by decide +kernel
theorem dX5_duel_36 : decode cX5_duel 36 = .ok (.istore_n 2, 1) := by decide +kernel
theorem dX5_duel_37 : decode cX5_duel 37 = .ok (.iinc 3 1, 3) := by decide +kernel
theorem dX5_duel_40 : decode cX5_duel 40 = .ok (.goto (-15), 3) := by decide +kernel
theorem dX5_duel_43 : decode cX5_duel 43 = .ok (.iconst 0, 1) := by decide +kernel
theorem dX5_duel_44 : decode cX5_duel 44 = .ok (.istore_n 3, 1) := by decide +kernel
theorem dX5_duel_45 : decode cX5_duel 45 = .ok (.iload_n 3, 1) := by decide +kernel
theorem dX5_duel_46 : decode cX5_duel 46 = .ok (.iload_n 2, 1) := by decide +kernel
theorem dX5_duel_47 : decode cX5_duel 47 = .ok (.if_icmp .ge 23, 3) := by decide +kernel
theorem dX5_duel_50 : decode cX5_duel 50 = .ok (.aload_n 0, 1) := by decide +kernel
theorem dX5_duel_51 : decode cX5_duel 51 = .ok (.getfield 53, 3) := by decide +kernel
theorem dX5_duel_54 : decode cX5_duel 54 = .ok (.iload_n 3, 1) := by decide +kernel
theorem dX5_duel_55 : decode cX5_duel 55 = .ok (.aload_n 0, 1) := by decide +kernel
theorem dX5_duel_56 : decode cX5_duel 56 = .ok (.iload_n 3, 1) := by decide +kernel
theorem dX5_duel_57 : decode cX5_duel 57 = .ok (.iconst 2, 1) := by decide +kernel
theorem dX5_duel_58 : decode cX5_duel 58 = .ok (.iload_n 1, 1) := by decide +kernel
theorem dX5_duel_59 : decode cX5_duel 59 = .ok (.imul, 1) := by decide +kernel
theorem dX5_duel_60 : decode cX5_duel 60 = .ok (.invokevirtual 228, 3) := by decide +kernel
theorem dX5_duel_63 : decode cX5_duel 63 = .ok (.iastore, 1) := by decide +kernel
theorem dX5_duel_64 : decode cX5_duel 64 = .ok (.iinc 3 1, 3) := by decide +kernel
theorem dX5_duel_67 : decode cX5_duel 67 = .ok (.goto (-22), 3) := by decide +kernel
theorem dX5_duel_70 : decode cX5_duel 70 = .ok (.iconst 2, 1) := by decide +kernel
theorem dX5_duel_71 : decode cX5_duel 71 = .ok (.iload_n 1, 1) := by decide +kernel
theorem dX5_duel_72 : decode cX5_duel 72 = .ok (.imul, 1) := by decide +kernel
theorem dX5_duel_73 : decode cX5_duel 73 = .ok (.iconst 1, 1) := by decide +kernel
theorem dX5_duel_74 : decode cX5_duel 74 = .ok (.isub, 1) := by decide +kernel
theorem dX5_duel_75 : decode cX5_duel 75 = .ok (.istore_n 3, 1) := by decide +kernel
theorem dX5_duel_76 : decode cX5_duel 76 = .ok (.iload_n 3, 1) := by decide +kernel
theorem dX5_duel_77 : decode cX5_duel 77 = .ok (.ifCond .lt 133, 3) := by decide +kernel
theorem dX5_duel_80 : decode cX5_duel 80 = .ok (.iload_n 2, 1) := by decide +kernel
theorem dX5_duel_81 : decode cX5_duel 81 = .ok (.bipush 7, 2) := by decide +kernel
theorem dX5_duel_83 : decode cX5_duel 83 = .ok (.idiv, 1) := by decide +kernel
theorem dX5_duel_84 : decode cX5_duel 84 = .ok (.istore_n 2, 1) := by decide +kernel
theorem dX5_duel_85 : decode cX5_duel 85 = .ok (.iconst 0, 1) := by decide +kernel
theorem dX5_duel_86 : decode cX5_duel 86 = .ok (.istore 4, 2) := by decide +kernel
theorem dX5_duel_88 : decode cX5_duel 88 = .ok (.iload 4, 2) := by decide +kernel
theorem dX5_duel_90 : decode cX5_duel 90 = .ok (.iload_n 2, 1) := by decide +kernel
theorem dX5_duel_91 : decode cX5_duel 91 = .ok (.if_icmp .ge 113, 3) := by decide +kernel
theorem dX5_duel_94 : decode cX5_duel 94 = .ok (.aload_n 0, 1) := by decide +kernel
theorem dX5_duel_95 : decode cX5_duel 95 = .ok (.getfield 53, 3) := by decide +kernel
theorem dX5_duel_98 : decode cX5_duel 98 = .ok (.bipush 7, 2) := by decide +kernel
theorem dX5_duel_100 : decode cX5_duel 100 = .ok (.iload 4, 2) := by decide +kernel
theorem dX5_duel_102 : decode cX5_duel 102 = .ok (.imul, 1) := by decide +kernel
theorem dX5_duel_103 : decode cX5_duel 103 = .ok (.iaload, 1) := by decide +kernel
theorem dX5_duel_104 : decode cX5_duel 104 = .ok (.istore 5, 2) := by decide +kernel
theorem dX5_duel_106 : decode cX5_duel 106 = .ok (.iconst 1, 1) := by decide +kernel
theorem dX5_duel_107 : decode cX5_duel 107 = .ok (.istore 6, 2) := by decide +kernel
theorem dX5_duel_109 : decode cX5_duel 109 = .ok (.iload 6, 2) := by decide +kernel
theorem dX5_duel_111 : decode cX5_duel 111 = .ok (.bipush 7, 2) := by decide +kernel
theorem dX5_duel_113 : decode cX5_duel 113 = .ok (.if_icmp .ge 76, 3) := by decide +kernel
theorem dX5_duel_116 : decode cX5_duel 116 = .ok (.aload_n 0, 1) := by decide +kernel
theorem dX5_duel_117 : decode cX5_duel 117 = .ok (.getfield 53, 3) := by decide +kernel
theorem dX5_duel_120 : decode cX5_duel 120 = .ok (.bipush 7, 2) := by decide +kernel
theorem dX5_duel_122 : decode cX5_duel 122 = .ok (.iload 4, 2) := by decide +kernel
theorem dX5_duel_124 : decode cX5_duel 124 = .ok (.imul, 1) := by decide +kernel
theorem dX5_duel_125 : decode cX5_duel 125 = .ok (.iload 6, 2) := by decide +kernel
theorem dX5_duel_127 : decode cX5_duel 127 = .ok (.iadd, 1) := by decide +kernel
theorem dX5_duel_128 : decode cX5_duel 128 = .ok (.iaload, 1) := by decide +kernel
theorem dX5_duel_129 : decode cX5_duel 129 = .ok (.istore 7, 2) := by decide +kernel
theorem dX5_duel_131 : decode cX5_duel 131 = .ok (.iload 7, 2) := by decide +kernel
theorem dX5_duel_133 : decode cX5_duel 133 = .ok (.bipush (-9), 2) := by decide +kernel
theorem dX5_duel_135 : decode cX5_duel 135 = .ok (.if_icmp .eq 31, 3) := by decide +kernel
theorem dX5_duel_138 : decode cX5_duel 138 = .ok (.iload_n 3, 1) := by decide +kernel
theorem dX5_duel_139 : decode cX5_duel 139 = .ok (.iconst 2, 1) := by decide +kernel
theorem dX5_duel_140 : decode cX5_duel 140 = .ok (.irem, 1) := by decide +kernel
theorem dX5_duel_141 : decode cX5_duel 141 = .ok (.iconst 1, 1) := by decide +kernel
theorem dX5_duel_142 : decode cX5_duel 142 = .ok (.if_icmp .ne 13, 3) := by decide +kernel
theorem dX5_duel_145 : decode cX5_duel 145 = .ok (.iload 7, 2) := by decide +kernel
theorem dX5_duel_147 : decode cX5_duel 147 = .ok (.iload 5, 2) := by decide +kernel
theorem dX5_duel_149 : decode cX5_duel 149 = .ok (.if_icmp .le 17, 3) := by decide +kernel
theorem dX5_duel_152 : decode cX5_duel 152 = .ok (.goto 10, 3) := by decide +kernel
theorem dX5_duel_155 : decode cX5_duel 155 = .ok (.iload 7, 2) := by decide +kernel
theorem dX5_duel_157 : decode cX5_duel 157 = .ok (.iload 5, 2) := by decide +kernel
theorem dX5_duel_159 : decode cX5_duel 159 = .ok (.if_icmp .ge 7, 3) := by decide +kernel
theorem dX5_duel_162 : decode cX5_duel 162 = .ok (.iconst 1, 1) := by decide +kernel
theorem dX5_duel_163 : decode cX5_duel 163 = .ok (.goto 4, 3) := by decide +kernel
theorem dX5_duel_166 : decode cX5_duel 166 = .ok (.iconst 0, 1) := by decide +kernel
theorem dX5_duel_167 : decode cX5_duel 167 = .ok (.istore 8, 2) := by decide +kernel
theorem dX5_duel_169 : decode cX5_duel 169 = .ok (.iload 8, 2) := by decide +kernel
theorem dX5_duel_171 : decode cX5_duel 171 = .ok (.ifCond .eq 8, 3) := by decide +kernel
theorem dX5_duel_174 : decode cX5_duel 174 = .ok (.iload 7, 2) := by decide +kernel
theorem dX5_duel_176 : decode cX5_duel 176 = .ok (.goto 5, 3) := by decide +kernel
theorem dX5_duel_179 : decode cX5_duel 179 = .ok (.iload 5, 2) := by decide +kernel
theorem dX5_duel_181 : decode cX5_duel 181 = .ok (.istore 5, 2) := by decide +kernel
theorem dX5_duel_183 : decode cX5_duel 183 = .ok (.iinc 6 1, 3) := by decide +kernel
theorem dX5_duel_186 : decode cX5_duel 186 = .ok (.goto (-77), 3) := by decide +kernel
theorem dX5_duel_189 : decode cX5_duel 189 = .ok (.aload_n 0, 1) := by decide +kernel
theorem dX5_duel_190 : decode cX5_duel 190 = .ok (.getfield 53, 3) := by decide +kernel
theorem dX5_duel_193 : decode cX5_duel 193 = .ok (.iload 4, 2) := by decide +kernel
theorem dX5_duel_195 : decode cX5_duel 195 = .ok (.iload 5, 2) := by decide +kernel
theorem dX5_duel_197 : decode cX5_duel 197 = .ok (.iastore, 1) := by decide +kernel
theorem dX5_duel_198 : decode cX5_duel 198 = .ok (.iinc 4 1, 3) := by decide +kernel
theorem dX5_duel_201 : decode cX5_duel 201 = .ok (.goto (-113), 3) := by decide +kernel
theorem dX5_duel_204 : decode cX5_duel 204 = .ok (.iinc 3 (-1), 3) := by decide +kernel
theorem dX5_duel_207 : decode cX5_duel 207 = .ok (.goto (-131), 3) := by decide +kernel
theorem dX5_duel_210 : decode cX5_duel 210 = .ok (.aload_n 0, 1) := by decide +kernel
theorem dX5_duel_211 : decode cX5_duel 211 = .ok (.aload_n 0, 1) := by decide +kernel
theorem dX5_duel_212 : decode cX5_duel 212 = .ok (.getfield 53, 3) := by decide +kernel
theorem dX5_duel_215 : decode cX5_duel 215 = .ok (.iconst 0, 1) := by decide +kernel
theorem dX5_duel_216 : decode cX5_duel 216 = .ok (.iaload, 1) := by decide +kernel
theorem dX5_duel_217 : decode cX5_duel 217 = .ok (.invokevirtual 75, 3) := by decide +kernel
theorem dX5_duel_220 : decode cX5_duel 220 = .ok (.ireturn, 1) := by decide +kernel
theorem dX5_told_0 : decode cX5_told 0 = .ok (.lload_n 1, 1) := by decide +kernel
theorem dX5_told_1 : decode cX5_told 1 = .ok (.lstore 5, 2) := by decide +kernel
theorem dX5_told_3 : decode cX5_told 3 = .ok (.lload_n 3, 1) := by decide +kernel
theorem dX5_told_4 : decode cX5_told 4 = .ok (.lstore 7, 2) := by decide +kernel
theorem dX5_told_6 : decode cX5_told 6 = .ok (.lload 7, 2) := by decide +kernel
theorem dX5_told_8 : decode cX5_told 8 = .ok (.lconst 0, 1) := by decide +kernel
theorem dX5_told_9 : decode cX5_told 9 = .ok (.lcmp, 1) := by decide +kernel
theorem dX5_told_10 : decode cX5_told 10 = .ok (.ifCond .eq 21, 3) := by decide +kernel
theorem dX5_told_13 : decode cX5_told 13 = .ok (.lload 5, 2) := by decide +kernel
theorem dX5_told_15 : decode cX5_told 15 = .ok (.lload 7, 2) := by decide +kernel
theorem dX5_told_17 : decode cX5_told 17 = .ok (.lrem, 1) := by decide +kernel
theorem dX5_told_18 : decode cX5_told 18 = .ok (.lstore 9, 2) := by decide +kernel
theorem dX5_told_20 : decode cX5_told 20 = .ok (.lload 7, 2) := by decide +kernel
theorem dX5_told_22 : decode cX5_told 22 = .ok (.lstore 5, 2) := by decide +kernel
theorem dX5_told_24 : decode cX5_told 24 = .ok (.lload 9, 2) := by decide +kernel
theorem dX5_told_26 : decode cX5_told 26 = .ok (.lstore 7, 2) := by decide +kernel
theorem dX5_told_28 : decode cX5_told 28 = .ok (.goto (-22), 3) := by decide +kernel
theorem dX5_told_31 : decode cX5_told 31 = .ok (.aload_n 0, 1) := by decide +kernel
theorem dX5_told_32 : decode cX5_told 32 = .ok (.lload_n 1, 1) := by decide +kernel
theorem dX5_told_33 : decode cX5_told 33 = .ok (.lload 5, 2) := by decide +kernel
theorem dX5_told_35 : decode cX5_told 35 = .ok (.ldiv, 1) := by decide +kernel
theorem dX5_told_36 : decode cX5_told 36 = .ok (.putfield 215, 3) := by decide +kernel
theorem dX5_told_39 : decode cX5_told 39 = .ok (.aload_n 0, 1) := by decide +kernel
theorem dX5_told_40 : decode cX5_told 40 = .ok (.lload_n 3, 1) := by decide +kernel
theorem dX5_told_41 : decode cX5_told 41 = .ok (.lload 5, 2) := by decide +kernel
theorem dX5_told_43 : decode cX5_told 43 = .ok (.ldiv, 1) := by decide +kernel
theorem dX5_told_44 : decode cX5_told 44 = .ok (.putfield 49, 3) := by decide +kernel
theorem dX5_told_47 : decode cX5_told 47 = .ok (.iconst 1, 1) := by decide +kernel
theorem dX5_told_48 : decode cX5_told 48 = .ok (.ireturn, 1) := by decide +kernel
theorem dX5_chances_0 : decode cX5_chances 0 = .ok (.lconst 0, 1) := by decide +kernel
theorem dX5_chances_1 : decode cX5_chances 1 = .ok (.lstore_n 3, 1) := by decide +kernel
theorem dX5_chances_2 : decode cX5_chances 2 = .ok (.lconst 1, 1) := by decide +kernel
theorem dX5_chances_3 : decode cX5_chances 3 = .ok (.lstore 5, 2) := by decide +kernel
theorem dX5_chances_5 : decode cX5_chances 5 = .ok (.iconst 0, 1) := by decide +kernel
theorem dX5_chances_6 : decode cX5_chances 6 = .ok (.istore 7, 2) := by decide +kernel
theorem dX5_chances_8 : decode cX5_chances 8 = .ok (.iload 7, 2) := by decide +kernel
theorem dX5_chances_10 : decode cX5_chances 10 = .ok (.aload_n 0, 1) := by decide +kernel
theorem dX5_chances_11 : decode cX5_chances 11 = .ok (.getfield 25, 3) := by decide +kernel
theorem dX5_chances_14 : decode cX5_chances 14 = .ok (.iconst 1, 1) := by decide +kernel
theorem dX5_chances_15 : decode cX5_chances 15 = .ok (.iaload, 1) := by decide +kernel
theorem dX5_chances_16 : decode cX5_chances 16 = .ok (.if_icmp .ge 30, 3) := by decide +kernel
theorem dX5_chances_19 : decode cX5_chances 19 = .ok (.lload 5, 2) := by decide +kernel
theorem dX5_chances_21 : decode cX5_chances 21 = .ok (.aload_n 0, 1) := by decide +kernel
theorem dX5_chances_22 : decode cX5_chances 22 = .ok (.iload 7, 2) := by decide +kernel
theorem dX5_chances_24 : decode cX5_chances 24 = .ok (.invokevirtual 209, 3) := by decide +kernel
theorem dX5_chances_27 : decode cX5_chances 27 = .ok (.ifCond .eq 9, 3) := by decide +kernel
theorem dX5_chances_30 : decode cX5_chances 30 = .ok (.ldc2_w 231, 3) := by decide +kernel
theorem dX5_chances_33 : decode cX5_chances 33 = .ok (.goto 4, 3) := by decide +kernel
theorem dX5_chances_36 : decode cX5_chances 36 = .ok (.lconst 1, 1) := by decide +kernel
theorem dX5_chances_37 : decode cX5_chances 37 = .ok (.lmul, 1) := by decide +kernel
theorem dX5_chances_38 : decode cX5_chances 38 = .ok (.lstore 5, 2) := by decide +kernel
theorem dX5_chances_40 : decode cX5_chances 40 = .ok (.iinc 7 1, 3) := by decide +kernel
theorem dX5_chances_43 : decode cX5_chances 43 = .ok (.goto (-35), 3) := by decide +kernel
theorem dX5_chances_46 : decode cX5_chances 46 = .ok (.iconst 0, 1) := by decide +kernel
theorem dX5_chances_47 : decode cX5_chances 47 = .ok (.istore 7, 2) := by decide +kernel
theorem dX5_chances_49 : decode cX5_chances 49 = .ok (.iload 7, 2) := by decide +kernel
theorem dX5_chances_51 : decode cX5_chances 51 = .ok (.iconst 1, 1) := by decide +kernel
theorem dX5_chances_52 : decode cX5_chances 52 = .ok (.aload_n 0, 1) := by decide +kernel
theorem dX5_chances_53 : decode cX5_chances 53 = .ok (.getfield 25, 3) := by decide +kernel
theorem dX5_chances_56 : decode cX5_chances 56 = .ok (.iconst 1, 1) := by decide +kernel
theorem dX5_chances_57 : decode cX5_chances 57 = .ok (.iaload, 1) := by decide +kernel
theorem dX5_chances_58 : decode cX5_chances 58 = .ok (.ishl, 1) := by decide +kernel
theorem dX5_chances_59 : decode cX5_chances 59 = .ok (.if_icmp .ge 126, 3) := by decide +kernel
theorem dX5_chances_62 : decode cX5_chances 62 = .ok (.iload 7, 2) := by decide +kernel
theorem dX5_chances_64 : decode cX5_chances 64 = .ok (.aload_n 0, 1) := by decide +kernel
theorem dX5_chances_65 : decode cX5_chances 65 = .ok (.getfield 25, 3) := by decide +kernel
theorem dX5_chances_68 : decode cX5_chances 68 = .ok (.invokestatic 233, 3) := by decide +kernel
theorem dX5_chances_71 : decode cX5_chances 71 = .ok (.iand, 1) := by decide +kernel
theorem dX5_chances_72 : decode cX5_chances 72 = .ok (.ifCond .ne 107, 3) := by decide +kernel
theorem dX5_chances_75 : decode cX5_chances 75 = .ok (.lconst 1, 1) := by decide +kernel
theorem dX5_chances_76 : decode cX5_chances 76 = .ok (.lstore 8, 2) := by decide +kernel
theorem dX5_chances_78 : decode cX5_chances 78 = .ok (.iconst 0, 1) := by decide +kernel
theorem dX5_chances_79 : decode cX5_chances 79 = .ok (.istore 10, 2) := by decide +kernel
theorem dX5_chances_81 : decode cX5_chances 81 = .ok (.iload 10, 2) := by decide +kernel
theorem dX5_chances_83 : decode cX5_chances 83 = .ok (.aload_n 0, 1) := by decide +kernel
theorem dX5_chances_84 : decode cX5_chances 84 = .ok (.getfield 25, 3) := by decide +kernel
theorem dX5_chances_87 : decode cX5_chances 87 = .ok (.iconst 1, 1) := by decide +kernel
theorem dX5_chances_88 : decode cX5_chances 88 = .ok (.iaload, 1) := by decide +kernel
theorem dX5_chances_89 : decode cX5_chances 89 = .ok (.if_icmp .ge 47, 3) := by decide +kernel
theorem dX5_chances_92 : decode cX5_chances 92 = .ok (.lload 8, 2) := by decide +kernel
theorem dX5_chances_94 : decode cX5_chances 94 = .ok (.aload_n 0, 1) := by decide +kernel
theorem dX5_chances_95 : decode cX5_chances 95 = .ok (.iload 10, 2) := by decide +kernel
theorem dX5_chances_97 : decode cX5_chances 97 = .ok (.invokevirtual 209, 3) := by decide +kernel
theorem dX5_chances_100 : decode cX5_chances 100 = .ok (.ifCond .ne 7, 3) := by decide +kernel
theorem dX5_chances_103 : decode cX5_chances 103 = .ok (.lconst 1, 1) := by decide +kernel
theorem dX5_chances_104 : decode cX5_chances 104 = .ok (.goto 23, 3) := by decide +kernel
theorem dX5_chances_107 : decode cX5_chances 107 = .ok (.iload 7, 2) := by decide +kernel
theorem dX5_chances_109 : decode cX5_chances 109 = .ok (.iload 10, 2) := by decide +kernel
theorem dX5_chances_111 : decode cX5_chances 111 = .ok (.invokestatic 140, 3) := by decide +kernel
theorem dX5_chances_114 : decode cX5_chances 114 = .ok (.ifCond .eq 8, 3) := by decide +kernel
theorem dX5_chances_117 : decode cX5_chances 117 = .ok (.iload_n 2, 1) := by decide +kernel
theorem dX5_chances_118 : decode cX5_chances 118 = .ok (.i2l, 1) := by decide +kernel
theorem dX5_chances_119 : decode cX5_chances 119 = .ok (.goto 8, 3) := by decide +kernel
theorem dX5_chances_122 : decode cX5_chances 122 = .ok (.bipush 12, 2) := by decide +kernel
theorem dX5_chances_124 : decode cX5_chances 124 = .ok (.iload_n 2, 1) := by decide +kernel
theorem dX5_chances_125 : decode cX5_chances 125 = .ok (.isub, 1) := by decide +kernel
theorem dX5_chances_126 : decode cX5_chances 126 = .ok (.i2l, 1) := by decide +kernel
theorem dX5_chances_127 : decode cX5_chances 127 = .ok (.lmul, 1) := by decide +kernel
theorem dX5_chances_128 : decode cX5_chances 128 = .ok (.lstore 8, 2) := by decide +kernel
theorem dX5_chances_130 : decode cX5_chances 130 = .ok (.iinc 10 1, 3) := by decide +kernel
theorem dX5_chances_133 : decode cX5_chances 133 = .ok (.goto (-52), 3) := by decide +kernel
theorem dX5_chances_136 : decode cX5_chances 136 = .ok (.aload_n 0, 1) := by decide +kernel
theorem dX5_chances_137 : decode cX5_chances 137 = .ok (.getfield 25, 3) := by decide +kernel
theorem dX5_chances_140 : decode cX5_chances 140 = .ok (.aload_n 0, 1) := by decide +kernel
theorem dX5_chances_141 : decode cX5_chances 141 = .ok (.getfield 25, 3) := by decide +kernel
theorem dX5_chances_144 : decode cX5_chances 144 = .ok (.iload 7, 2) := by decide +kernel
theorem dX5_chances_146 : decode cX5_chances 146 = .ok (.invokestatic 154, 3) := by decide +kernel
theorem dX5_chances_149 : decode cX5_chances 149 = .ok (.invokestatic 157, 3) := by decide +kernel
theorem dX5_chances_152 : decode cX5_chances 152 = .ok (.istore 10, 2) := by decide +kernel
theorem dX5_chances_154 : decode cX5_chances 154 = .ok (.lload_n 3, 1) := by decide +kernel
theorem dX5_chances_155 : decode cX5_chances 155 = .ok (.lload 8, 2) := by decide +kernel
theorem dX5_chances_157 : decode cX5_chances 157 = .ok (.iload_n 1, 1) := by decide +kernel
theorem dX5_chances_158 : decode cX5_chances 158 = .ok (.ifCond .ge 11, 3) := by decide +kernel
theorem dX5_chances_161 : decode cX5_chances 161 = .ok (.iload 10, 2) := by decide +kernel
theorem dX5_chances_163 : decode cX5_chances 163 = .ok (.invokestatic 151, 3) := by decide +kernel
theorem dX5_chances_166 : decode cX5_chances 166 = .ok (.goto 9, 3) := by decide +kernel
theorem dX5_chances_169 : decode cX5_chances 169 = .ok (.iload 10, 2) := by decide +kernel
theorem dX5_chances_171 : decode cX5_chances 171 = .ok (.iload_n 1, 1) := by decide +kernel
theorem dX5_chances_172 : decode cX5_chances 172 = .ok (.ishr, 1) := by decide +kernel
theorem dX5_chances_173 : decode cX5_chances 173 = .ok (.iconst 1, 1) := by decide +kernel
theorem dX5_chances_174 : decode cX5_chances 174 = .ok (.iand, 1) := by decide +kernel
theorem dX5_chances_175 : decode cX5_chances 175 = .ok (.i2l, 1) := by decide +kernel
theorem dX5_chances_176 : decode cX5_chances 176 = .ok (.lmul, 1) := by decide +kernel
theorem dX5_chances_177 : decode cX5_chances 177 = .ok (.ladd, 1) := by decide +kernel
theorem dX5_chances_178 : decode cX5_chances 178 = .ok (.lstore_n 3, 1) := by decide +kernel
theorem dX5_chances_179 : decode cX5_chances 179 = .ok (.iinc 7 1, 3) := by decide +kernel
theorem dX5_chances_182 : decode cX5_chances 182 = .ok (.goto (-133), 3) := by decide +kernel
theorem dX5_chances_185 : decode cX5_chances 185 = .ok (.aload_n 0, 1) := by decide +kernel
theorem dX5_chances_186 : decode cX5_chances 186 = .ok (.lload_n 3, 1) := by decide +kernel
theorem dX5_chances_187 : decode cX5_chances 187 = .ok (.lload 5, 2) := by decide +kernel
theorem dX5_chances_189 : decode cX5_chances 189 = .ok (.invokevirtual 236, 3) := by decide +kernel
theorem dX5_chances_192 : decode cX5_chances 192 = .ok (.ireturn, 1) := by decide +kernel
theorem dX5_odds_0 : decode cX5_odds 0 = .ok (.iload_n 1, 1) := by decide +kernel
theorem dX5_odds_1 : decode cX5_odds 1 = .ok (.iconst 0, 1) := by decide +kernel
theorem dX5_odds_2 : decode cX5_odds 2 = .ok (.bipush 7, 2) := by decide +kernel
theorem dX5_odds_4 : decode cX5_odds 4 = .ok (.invokestatic 63, 3) := by decide +kernel
theorem dX5_odds_7 : decode cX5_odds 7 = .ok (.ifCond .eq 13, 3) := by decide +kernel
theorem dX5_odds_10 : decode cX5_odds 10 = .ok (.iload_n 2, 1) := by decide +kernel
theorem dX5_odds_11 : decode cX5_odds 11 = .ok (.iconst 0, 1) := by decide +kernel
theorem dX5_odds_12 : decode cX5_odds 12 = .ok (.bipush 12, 2) := by decide +kernel
theorem dX5_odds_14 : decode cX5_odds 14 = .ok (.invokestatic 63, 3) := by decide +kernel
theorem dX5_odds_17 : decode cX5_odds 17 = .ok (.ifCond .ne 5, 3) := by decide +kernel
theorem dX5_odds_20 : decode cX5_odds 20 = .ok (.iconst (-1), 1) := by decide +kernel
theorem dX5_odds_21 : decode cX5_odds 21 = .ok (.ireturn, 1) := by decide +kernel
theorem dX5_odds_22 : decode cX5_odds 22 = .ok (.aload_n 0, 1) := by decide +kernel
theorem dX5_odds_23 : decode cX5_odds 23 = .ok (.invokevirtual 186, 3) := by decide +kernel
theorem dX5_odds_26 : decode cX5_odds 26 = .ok (.ifCond .eq 12, 3) := by decide +kernel
theorem dX5_odds_29 : decode cX5_odds 29 = .ok (.aload_n 0, 1) := by decide +kernel
theorem dX5_odds_30 : decode cX5_odds 30 = .ok (.iload_n 1, 1) := by decide +kernel
theorem dX5_odds_31 : decode cX5_odds 31 = .ok (.iload_n 2, 1) := by decide +kernel
theorem dX5_odds_32 : decode cX5_odds 32 = .ok (.invokevirtual 240, 3) := by decide +kernel
theorem dX5_odds_35 : decode cX5_odds 35 = .ok (.goto 5, 3) := by decide +kernel
theorem dX5_odds_38 : decode cX5_odds 38 = .ok (.bipush (-4), 2) := by decide +kernel
theorem dX5_odds_40 : decode cX5_odds 40 = .ok (.ireturn, 1) := by decide +kernel
theorem dX5_mid_0 : decode cX5_mid 0 = .ok (.iload_n 1, 1) := by decide +kernel
theorem dX5_mid_1 : decode cX5_mid 1 = .ok (.iconst 0, 1) := by decide +kernel
theorem dX5_mid_2 : decode cX5_mid 2 = .ok (.bipush 12, 2) := by decide +kernel
theorem dX5_mid_4 : decode cX5_mid 4 = .ok (.invokestatic 63, 3) := by decide +kernel
theorem dX5_mid_7 : decode cX5_mid 7 = .ok (.ifCond .ne 5, 3) := by decide +kernel
theorem dX5_mid_10 : decode cX5_mid 10 = .ok (.iconst (-1), 1) := by decide +kernel
theorem dX5_mid_11 : decode cX5_mid 11 = .ok (.ireturn, 1) := by decide +kernel
theorem dX5_mid_12 : decode cX5_mid 12 = .ok (.aload_n 0, 1) := by decide +kernel
theorem dX5_mid_13 : decode cX5_mid 13 = .ok (.invokevirtual 186, 3) := by decide +kernel
theorem dX5_mid_16 : decode cX5_mid 16 = .ok (.ifCond .eq 12, 3) := by decide +kernel
theorem dX5_mid_19 : decode cX5_mid 19 = .ok (.aload_n 0, 1) := by decide +kernel
theorem dX5_mid_20 : decode cX5_mid 20 = .ok (.iconst (-1), 1) := by decide +kernel
theorem dX5_mid_21 : decode cX5_mid 21 = .ok (.iload_n 1, 1) := by decide +kernel
theorem dX5_mid_22 : decode cX5_mid 22 = .ok (.invokevirtual 240, 3) := by decide +kernel
theorem dX5_mid_25 : decode cX5_mid 25 = .ok (.goto 5, 3) := by decide +kernel
theorem dX5_mid_28 : decode cX5_mid 28 = .ok (.bipush (-4), 2) := by decide +kernel
theorem dX5_mid_30 : decode cX5_mid 30 = .ok (.ireturn, 1) := by decide +kernel
theorem dX5_lot_0 : decode cX5_lot 0 = .ok (.lload_n 1, 1) := by decide +kernel
theorem dX5_lot_1 : decode cX5_lot 1 = .ok (.ldc2_w 243, 3) := by decide +kernel
theorem dX5_lot_4 : decode cX5_lot 4 = .ok (.ldiv, 1) := by decide +kernel
theorem dX5_lot_5 : decode cX5_lot 5 = .ok (.ldc2_w 243, 3) := by decide +kernel
theorem dX5_lot_8 : decode cX5_lot 8 = .ok (.lrem, 1) := by decide +kernel
theorem dX5_lot_9 : decode cX5_lot 9 = .ok (.l2i, 1) := by decide +kernel
theorem dX5_lot_10 : decode cX5_lot 10 = .ok (.istore_n 3, 1) := by decide +kernel
theorem dX5_lot_11 : decode cX5_lot 11 = .ok (.iconst 5, 1) := by decide +kernel
theorem dX5_lot_12 : decode cX5_lot 12 = .ok (.iconst 5, 1) := by decide +kernel
theorem dX5_lot_13 : decode cX5_lot 13 = .ok (.lload_n 1, 1) := by decide +kernel
theorem dX5_lot_14 : decode cX5_lot 14 = .ok (.aload_n 0, 1) := by decide +kernel
theorem dX5_lot_15 : decode cX5_lot 15 = .ok (.getfield 25, 3) := by decide +kernel
theorem dX5_lot_18 : decode cX5_lot 18 = .ok (.iconst 1, 1) := by decide +kernel
theorem dX5_lot_19 : decode cX5_lot 19 = .ok (.iaload, 1) := by decide +kernel
theorem dX5_lot_20 : decode cX5_lot 20 = .ok (.i2l, 1) := by decide +kernel
theorem dX5_lot_21 : decode cX5_lot 21 = .ok (.lrem, 1) := by decide +kernel
theorem dX5_lot_22 : decode cX5_lot 22 = .ok (.l2i, 1) := by decide +kernel
theorem dX5_lot_23 : decode cX5_lot 23 = .ok (.imul, 1) := by decide +kernel
theorem dX5_lot_24 : decode cX5_lot 24 = .ok (.iadd, 1) := by decide +kernel
theorem dX5_lot_25 : decode cX5_lot 25 = .ok (.istore 4, 2) := by decide +kernel
theorem dX5_lot_27 : decode cX5_lot 27 = .ok (.lload_n 1, 1) := by decide +kernel
theorem dX5_lot_28 : decode cX5_lot 28 = .ok (.ldc2_w 245, 3) := by decide +kernel
theorem dX5_lot_31 : decode cX5_lot 31 = .ok (.ldiv, 1) := by decide +kernel
theorem dX5_lot_32 : decode cX5_lot 32 = .ok (.ldc2_w 247, 3) := by decide +kernel
theorem dX5_lot_35 : decode cX5_lot 35 = .ok (.lrem, 1) := by decide +kernel
theorem dX5_lot_36 : decode cX5_lot 36 = .ok (.l2i, 1) := by decide +kernel
theorem dX5_lot_37 : decode cX5_lot 37 = .ok (.istore 5, 2) := by decide +kernel
theorem dX5_lot_39 : decode cX5_lot 39 = .ok (.iload_n 3, 1) := by decide +kernel
theorem dX5_lot_40 : decode cX5_lot 40 = .ok (.iconst 4, 1) := by decide +kernel
theorem dX5_lot_41 : decode cX5_lot 41 = .ok (.if_icmp .ge 14, 3) := by decide +kernel
theorem dX5_lot_44 : decode cX5_lot 44 = .ok (.aload_n 0, 1) := by decide +kernel
theorem dX5_lot_45 : decode cX5_lot 45 = .ok (.getfield 25, 3) := by decide +kernel
theorem dX5_lot_48 : decode cX5_lot 48 = .ok (.invokestatic 193, 3) := by decide +kernel
theorem dX5_lot_51 : decode cX5_lot 51 = .ok (.pop, 1) := by decide +kernel
theorem dX5_lot_52 : decode cX5_lot 52 = .ok (.goto 105, 3) := by decide +kernel
theorem dX5_lot_55 : decode cX5_lot 55 = .ok (.iload_n 3, 1) := by decide +kernel
theorem dX5_lot_56 : decode cX5_lot 56 = .ok (.iconst 4, 1) := by decide +kernel
theorem dX5_lot_57 : decode cX5_lot 57 = .ok (.if_icmp .ne 17, 3) := by decide +kernel
theorem dX5_lot_60 : decode cX5_lot 60 = .ok (.aload_n 0, 1) := by decide +kernel
theorem dX5_lot_61 : decode cX5_lot 61 = .ok (.getfield 25, 3) := by decide +kernel
theorem dX5_lot_64 : decode cX5_lot 64 = .ok (.iload 4, 2) := by decide +kernel
theorem dX5_lot_66 : decode cX5_lot 66 = .ok (.iconst 1, 1) := by decide +kernel
theorem dX5_lot_67 : decode cX5_lot 67 = .ok (.iadd, 1) := by decide +kernel
theorem dX5_lot_68 : decode cX5_lot 68 = .ok (.iload 5, 2) := by decide +kernel
theorem dX5_lot_70 : decode cX5_lot 70 = .ok (.iastore, 1) := by decide +kernel
theorem dX5_lot_71 : decode cX5_lot 71 = .ok (.goto 86, 3) := by decide +kernel
theorem dX5_lot_74 : decode cX5_lot 74 = .ok (.iload_n 3, 1) := by decide +kernel
theorem dX5_lot_75 : decode cX5_lot 75 = .ok (.iconst 5, 1) := by decide +kernel
theorem dX5_lot_76 : decode cX5_lot 76 = .ok (.if_icmp .ne 26, 3) := by decide +kernel
theorem dX5_lot_79 : decode cX5_lot 79 = .ok (.aload_n 0, 1) := by decide +kernel
theorem dX5_lot_80 : decode cX5_lot 80 = .ok (.getfield 25, 3) := by decide +kernel
theorem dX5_lot_83 : decode cX5_lot 83 = .ok (.iload 4, 2) := by decide +kernel
theorem dX5_lot_85 : decode cX5_lot 85 = .ok (.iconst 3, 1) := by decide +kernel
theorem dX5_lot_86 : decode cX5_lot 86 = .ok (.iadd, 1) := by decide +kernel
theorem dX5_lot_87 : decode cX5_lot 87 = .ok (.iconst 1, 1) := by decide +kernel
theorem dX5_lot_88 : decode cX5_lot 88 = .ok (.aload_n 0, 1) := by decide +kernel
theorem dX5_lot_89 : decode cX5_lot 89 = .ok (.getfield 25, 3) := by decide +kernel
theorem dX5_lot_92 : decode cX5_lot 92 = .ok (.iload 4, 2) := by decide +kernel
theorem dX5_lot_94 : decode cX5_lot 94 = .ok (.iconst 3, 1) := by decide +kernel
theorem dX5_lot_95 : decode cX5_lot 95 = .ok (.iadd, 1) := by decide +kernel
theorem dX5_lot_96 : decode cX5_lot 96 = .ok (.iaload, 1) := by decide +kernel
theorem dX5_lot_97 : decode cX5_lot 97 = .ok (.isub, 1) := by decide +kernel
theorem dX5_lot_98 : decode cX5_lot 98 = .ok (.iastore, 1) := by decide +kernel
theorem dX5_lot_99 : decode cX5_lot 99 = .ok (.goto 58, 3) := by decide +kernel
theorem dX5_lot_102 : decode cX5_lot 102 = .ok (.iload_n 3, 1) := by decide +kernel
theorem dX5_lot_103 : decode cX5_lot 103 = .ok (.bipush 6, 2) := by decide +kernel
theorem dX5_lot_105 : decode cX5_lot 105 = .ok (.if_icmp .ne 26, 3) := by decide +kernel
theorem dX5_lot_108 : decode cX5_lot 108 = .ok (.aload_n 0, 1) := by decide +kernel
theorem dX5_lot_109 : decode cX5_lot 109 = .ok (.getfield 25, 3) := by decide +kernel
theorem dX5_lot_112 : decode cX5_lot 112 = .ok (.iload 4, 2) := by decide +kernel
theorem dX5_lot_114 : decode cX5_lot 114 = .ok (.iconst 4, 1) := by decide +kernel
theorem dX5_lot_115 : decode cX5_lot 115 = .ok (.iadd, 1) := by decide +kernel
theorem dX5_lot_116 : decode cX5_lot 116 = .ok (.iconst 1, 1) := by decide +kernel
theorem dX5_lot_117 : decode cX5_lot 117 = .ok (.aload_n 0, 1) := by decide +kernel
theorem dX5_lot_118 : decode cX5_lot 118 = .ok (.getfield 25, 3) := by decide +kernel
theorem dX5_lot_121 : decode cX5_lot 121 = .ok (.iload 4, 2) := by decide +kernel
theorem dX5_lot_123 : decode cX5_lot 123 = .ok (.iconst 4, 1) := by decide +kernel
theorem dX5_lot_124 : decode cX5_lot 124 = .ok (.iadd, 1) := by decide +kernel
theorem dX5_lot_125 : decode cX5_lot 125 = .ok (.iaload, 1) := by decide +kernel
theorem dX5_lot_126 : decode cX5_lot 126 = .ok (.isub, 1) := by decide +kernel
theorem dX5_lot_127 : decode cX5_lot 127 = .ok (.iastore, 1) := by decide +kernel
theorem dX5_lot_128 : decode cX5_lot 128 = .ok (.goto 29, 3) := by decide +kernel
theorem dX5_lot_131 : decode cX5_lot 131 = .ok (.aload_n 0, 1) := by decide +kernel
theorem dX5_lot_132 : decode cX5_lot 132 = .ok (.getfield 25, 3) := by decide +kernel
theorem dX5_lot_135 : decode cX5_lot 135 = .ok (.iconst 4, 1) := by decide +kernel
theorem dX5_lot_136 : decode cX5_lot 136 = .ok (.dup2, 1) := by decide +kernel
theorem dX5_lot_137 : decode cX5_lot 137 = .ok (.iaload, 1) := by decide +kernel
theorem dX5_lot_138 : decode cX5_lot 138 = .ok (.aload_n 0, 1) := by decide +kernel
theorem dX5_lot_139 : decode cX5_lot 139 = .ok (.iload 5, 2) := by decide +kernel
theorem dX5_lot_141 : decode cX5_lot 141 = .ok (.invokevirtual 199, 3) := by decide +kernel
theorem dX5_lot_144 : decode cX5_lot 144 = .ok (.ifCond .eq 10, 3) := by decide +kernel
theorem dX5_lot_147 : decode cX5_lot 147 = .ok (.iconst 1, 1) := by decide +kernel
theorem dX5_lot_148 : decode cX5_lot 148 = .ok (.iload 5, 2) := by decide +kernel
theorem dX5_lot_150 : decode cX5_lot 150 = .ok (.ishl, 1) := by decide +kernel
theorem dX5_lot_151 : decode cX5_lot 151 = .ok (.goto 4, 3) := by decide +kernel
theorem dX5_lot_154 : decode cX5_lot 154 = .ok (.iconst 0, 1) := by decide +kernel
theorem dX5_lot_155 : decode cX5_lot 155 = .ok (.ixor, 1) := by decide +kernel
theorem dX5_lot_156 : decode cX5_lot 156 = .ok (.iastore, 1) := by decide +kernel
theorem dX5_lot_157 : decode cX5_lot 157 = .ok (.return_, 1) := by decide +kernel
theorem dX5_lots_0 : decode cX5_lots 0 = .ok (.iload_n 1, 1) := by decide +kernel
theorem dX5_lots_1 : decode cX5_lots 1 = .ok (.iconst 1, 1) := by decide +kernel
theorem dX5_lots_2 : decode cX5_lots 2 = .ok (.bipush 20, 2) := by decide +kernel
theorem dX5_lots_4 : decode cX5_lots 4 = .ok (.invokestatic 63, 3) := by decide +kernel
theorem dX5_lots_7 : decode cX5_lots 7 = .ok (.ifCond .eq 13, 3) := by decide +kernel
theorem dX5_lots_10 : decode cX5_lots 10 = .ok (.iload_n 2, 1) := by decide +kernel
theorem dX5_lots_11 : decode cX5_lots 11 = .ok (.iconst 1, 1) := by decide +kernel
theorem dX5_lots_12 : decode cX5_lots 12 = .ok (.ldc 249, 2) := by decide +kernel
theorem dX5_lots_14 : decode cX5_lots 14 = .ok (.invokestatic 63, 3) := by decide +kernel
theorem dX5_lots_17 : decode cX5_lots 17 = .ok (.ifCond .ne 5, 3) := by decide +kernel
theorem dX5_lots_20 : decode cX5_lots 20 = .ok (.iconst (-1), 1) := by decide +kernel
theorem dX5_lots_21 : decode cX5_lots 21 = .ok (.ireturn, 1) := by decide +kernel
theorem dX5_lots_22 : decode cX5_lots 22 = .ok (.aload_n 0, 1) := by decide +kernel
theorem dX5_lots_23 : decode cX5_lots 23 = .ok (.invokevirtual 186, 3) := by decide +kernel
theorem dX5_lots_26 : decode cX5_lots 26 = .ok (.ifCond .ne 6, 3) := by decide +kernel
theorem dX5_lots_29 : decode cX5_lots 29 = .ok (.bipush (-4), 2) := by decide +kernel
theorem dX5_lots_31 : decode cX5_lots 31 = .ok (.ireturn, 1) := by decide +kernel
theorem dX5_lots_32 : decode cX5_lots 32 = .ok (.aload_n 0, 1) := by decide +kernel
theorem dX5_lots_33 : decode cX5_lots 33 = .ok (.getfield 124, 3) := by decide +kernel
theorem dX5_lots_36 : decode cX5_lots 36 = .ok (.iload_n 1, 1) := by decide +kernel
theorem dX5_lots_37 : decode cX5_lots 37 = .ok (.iadd, 1) := by decide +kernel
theorem dX5_lots_38 : decode cX5_lots 38 = .ok (.bipush 40, 2) := by decide +kernel
theorem dX5_lots_40 : decode cX5_lots 40 = .ok (.if_icmp .le 6, 3) := by decide +kernel
theorem dX5_lots_43 : decode cX5_lots 43 = .ok (.bipush (-2), 2) := by decide +kernel
theorem dX5_lots_45 : decode cX5_lots 45 = .ok (.ireturn, 1) := by decide +kernel
theorem dX5_lots_46 : decode cX5_lots 46 = .ok (.iload_n 2, 1) := by decide +kernel
theorem dX5_lots_47 : decode cX5_lots 47 = .ok (.i2l, 1) := by decide +kernel
theorem dX5_lots_48 : decode cX5_lots 48 = .ok (.lstore_n 3, 1) := by decide +kernel
theorem dX5_lots_49 : decode cX5_lots 49 = .ok (.iconst 0, 1) := by decide +kernel
theorem dX5_lots_50 : decode cX5_lots 50 = .ok (.istore 5, 2) := by decide +kernel
theorem dX5_lots_52 : decode cX5_lots 52 = .ok (.iload 5, 2) := by decide +kernel
theorem dX5_lots_54 : decode cX5_lots 54 = .ok (.iload_n 1, 1) := by decide +kernel
theorem dX5_lots_55 : decode cX5_lots 55 = .ok (.if_icmp .ge 28, 3) := by decide +kernel
theorem dX5_lots_58 : decode cX5_lots 58 = .ok (.lload_n 3, 1) := by decide +kernel
theorem dX5_lots_59 : decode cX5_lots 59 = .ok (.ldc2_w 250, 3) := by decide +kernel
theorem dX5_lots_62 : decode cX5_lots 62 = .ok (.lmul, 1) := by decide +kernel
theorem dX5_lots_63 : decode cX5_lots 63 = .ok (.ldc2_w 252, 3) := by decide +kernel
theorem dX5_lots_66 : decode cX5_lots 66 = .ok (.lrem, 1) := by decide +kernel
theorem dX5_lots_67 : decode cX5_lots 67 = .ok (.lstore_n 3, 1) := by decide +kernel
theorem dX5_lots_68 : decode cX5_lots 68 = .ok (.aload_n 0, 1) := by decide +kernel
theorem dX5_lots_69 : decode cX5_lots 69 = .ok (.invokevirtual 190, 3) := by decide +kernel
theorem dX5_lots_72 : decode cX5_lots 72 = .ok (.aload_n 0, 1) := by decide +kernel
theorem dX5_lots_73 : decode cX5_lots 73 = .ok (.lload_n 3, 1) := by decide +kernel
theorem dX5_lots_74 : decode cX5_lots 74 = .ok (.invokevirtual 254, 3) := by decide +kernel
theorem dX5_lots_77 : decode cX5_lots 77 = .ok (.iinc 5 1, 3) := by decide +kernel
theorem dX5_lots_80 : decode cX5_lots 80 = .ok (.goto (-28), 3) := by decide +kernel
theorem dX5_lots_83 : decode cX5_lots 83 = .ok (.aload_n 0, 1) := by decide +kernel
theorem dX5_lots_84 : decode cX5_lots 84 = .ok (.getfield 25, 3) := by decide +kernel
theorem dX5_lots_87 : decode cX5_lots 87 = .ok (.iconst 3, 1) := by decide +kernel
theorem dX5_lots_88 : decode cX5_lots 88 = .ok (.iaload, 1) := by decide +kernel
theorem dX5_lots_89 : decode cX5_lots 89 = .ok (.ireturn, 1) := by decide +kernel
theorem dX5_asked_0 : decode cX5_asked 0 = .ok (.aload_n 0, 1) := by decide +kernel
theorem dX5_asked_1 : decode cX5_asked 1 = .ok (.getfield 60, 3) := by decide +kernel
theorem dX5_asked_4 : decode cX5_asked 4 = .ok (.ireturn, 1) := by decide +kernel
theorem dX5_upper_0 : decode cX5_upper 0 = .ok (.aload_n 0, 1) := by decide +kernel
theorem dX5_upper_1 : decode cX5_upper 1 = .ok (.getfield 215, 3) := by decide +kernel
theorem dX5_upper_4 : decode cX5_upper 4 = .ok (.lreturn, 1) := by decide +kernel
theorem dX5_lower_0 : decode cX5_lower 0 = .ok (.aload_n 0, 1) := by decide +kernel
theorem dX5_lower_1 : decode cX5_lower 1 = .ok (.getfield 49, 3) := by decide +kernel
theorem dX5_lower_4 : decode cX5_lower 4 = .ok (.lreturn, 1) := by decide +kernel
theorem dX5_kindsThere_0 : decode cX5_kindsThere 0 = .ok (.iconst 0, 1) := by decide +kernel
theorem dX5_kindsThere_1 : decode cX5_kindsThere 1 = .ok (.istore_n 2, 1) := by decide +kernel
theorem dX5_kindsThere_2 : decode cX5_kindsThere 2 = .ok (.iconst 0, 1) := by decide +kernel
theorem dX5_kindsThere_3 : decode cX5_kindsThere 3 = .ok (.istore_n 3, 1) := by decide +kernel
theorem dX5_kindsThere_4 : decode cX5_kindsThere 4 = .ok (.iload_n 3, 1) := by decide +kernel
theorem dX5_kindsThere_5 : decode cX5_kindsThere 5 = .ok (.aload_n 0, 1) := by decide +kernel
theorem dX5_kindsThere_6 : decode cX5_kindsThere 6 = .ok (.getfield 25, 3) := by decide +kernel
theorem dX5_kindsThere_9 : decode cX5_kindsThere 9 = .ok (.iconst 1, 1) := by decide +kernel
theorem dX5_kindsThere_10 : decode cX5_kindsThere 10 = .ok (.iaload, 1) := by decide +kernel
theorem dX5_kindsThere_11 : decode cX5_kindsThere 11 = .ok (.if_icmp .ge 34, 3) := by decide +kernel
theorem dX5_kindsThere_14 : decode cX5_kindsThere 14 = .ok (.iload_n 2, 1) := by decide +kernel
theorem dX5_kindsThere_15 : decode cX5_kindsThere 15 = .ok (.aload_n 0, 1) := by decide +kernel
theorem dX5_kindsThere_16 : decode cX5_kindsThere 16 = .ok (.getfield 25, 3) := by decide +kernel
theorem dX5_kindsThere_19 : decode cX5_kindsThere 19 = .ok (.iconst 5, 1) := by decide +kernel
theorem dX5_kindsThere_20 : decode cX5_kindsThere 20 = .ok (.iconst 5, 1) := by decide +kernel
theorem dX5_kindsThere_21 : decode cX5_kindsThere 21 = .ok (.iload_n 3, 1) := by decide +kernel
theorem dX5_kindsThere_22 : decode cX5_kindsThere 22 = .ok (.imul, 1) := by decide +kernel
theorem dX5_kindsThere_23 : decode cX5_kindsThere 23 = .ok (.iadd, 1) := by decide +kernel
theorem dX5_kindsThere_24 : decode cX5_kindsThere 24 = .ok (.iaload, 1) := by decide +kernel
theorem dX5_kindsThere_25 : decode cX5_kindsThere 25 = .ok (.iload_n 1, 1) := by decide +kernel
theorem dX5_kindsThere_26 : decode cX5_kindsThere 26 = .ok (.invokestatic 177, 3) := by decide +kernel
theorem dX5_kindsThere_29 : decode cX5_kindsThere 29 = .ok (.ifCond .eq 7, 3) := by decide +kernel
theorem dX5_kindsThere_32 : decode cX5_kindsThere 32 = .ok (.iconst 1, 1) := by decide +kernel
theorem dX5_kindsThere_33 : decode cX5_kindsThere 33 = .ok (.goto 4, 3) := by decide +kernel
theorem dX5_kindsThere_36 : decode cX5_kindsThere 36 = .ok (.iconst 0, 1) := by decide +kernel
theorem dX5_kindsThere_37 : decode cX5_kindsThere 37 = .ok (.iadd, 1) := by decide +kernel
theorem dX5_kindsThere_38 : decode cX5_kindsThere 38 = .ok (.istore_n 2, 1) := by decide +kernel
theorem dX5_kindsThere_39 : decode cX5_kindsThere 39 = .ok (.iinc 3 1, 3) := by decide +kernel
theorem dX5_kindsThere_42 : decode cX5_kindsThere 42 = .ok (.goto (-38), 3) := by decide +kernel
theorem dX5_kindsThere_45 : decode cX5_kindsThere 45 = .ok (.iload_n 2, 1) := by decide +kernel
theorem dX5_kindsThere_46 : decode cX5_kindsThere 46 = .ok (.ireturn, 1) := by decide +kernel
theorem dX5_there_0 : decode cX5_there 0 = .ok (.iconst 0, 1) := by decide +kernel
theorem dX5_there_1 : decode cX5_there 1 = .ok (.istore_n 1, 1) := by decide +kernel
theorem dX5_there_2 : decode cX5_there 2 = .ok (.iconst 0, 1) := by decide +kernel
theorem dX5_there_3 : decode cX5_there 3 = .ok (.istore_n 2, 1) := by decide +kernel
theorem dX5_there_4 : decode cX5_there 4 = .ok (.iload_n 2, 1) := by decide +kernel
theorem dX5_there_5 : decode cX5_there 5 = .ok (.aload_n 0, 1) := by decide +kernel
theorem dX5_there_6 : decode cX5_there 6 = .ok (.arraylength, 1) := by decide +kernel
theorem dX5_there_7 : decode cX5_there 7 = .ok (.if_icmp .ge 25, 3) := by decide +kernel
theorem dX5_there_10 : decode cX5_there 10 = .ok (.iload_n 1, 1) := by decide +kernel
theorem dX5_there_11 : decode cX5_there 11 = .ok (.aload_n 0, 1) := by decide +kernel
theorem dX5_there_12 : decode cX5_there 12 = .ok (.iload_n 2, 1) := by decide +kernel
theorem dX5_there_13 : decode cX5_there 13 = .ok (.iaload, 1) := by decide +kernel
theorem dX5_there_14 : decode cX5_there 14 = .ok (.bipush (-9), 2) := by decide +kernel
theorem dX5_there_16 : decode cX5_there 16 = .ok (.if_icmp .ne 7, 3) := by decide +kernel
theorem dX5_there_19 : decode cX5_there 19 = .ok (.iconst 0, 1) := by decide +kernel
theorem dX5_there_20 : decode cX5_there 20 = .ok (.goto 4, 3) := by decide +kernel
theorem dX5_there_23 : decode cX5_there 23 = .ok (.iconst 1, 1) := by decide +kernel
theorem dX5_there_24 : decode cX5_there 24 = .ok (.iadd, 1) := by decide +kernel
theorem dX5_there_25 : decode cX5_there 25 = .ok (.istore_n 1, 1) := by decide +kernel
theorem dX5_there_26 : decode cX5_there 26 = .ok (.iinc 2 1, 3) := by decide +kernel
theorem dX5_there_29 : decode cX5_there 29 = .ok (.goto (-25), 3) := by decide +kernel
theorem dX5_there_32 : decode cX5_there 32 = .ok (.iload_n 1, 1) := by decide +kernel
theorem dX5_there_33 : decode cX5_there 33 = .ok (.ireturn, 1) := by decide +kernel
theorem dX5_count_0 : decode cX5_count 0 = .ok (.iload_n 1, 1) := by decide +kernel
theorem dX5_count_1 : decode cX5_count 1 = .ok (.tableswitch 186 0 13 #[71, 78, 85, 92, 97, 104, 112, 119, 138, 150, 156, 162, 170, 178], 71) := by decide +kernel
theorem dX5_count_72 : decode cX5_count 72 = .ok (.aload_n 0, 1) := by decide +kernel
theorem dX5_count_73 : decode cX5_count 73 = .ok (.getfield 25, 3) := by decide +kernel
theorem dX5_count_76 : decode cX5_count 76 = .ok (.iconst 1, 1) := by decide +kernel
theorem dX5_count_77 : decode cX5_count 77 = .ok (.iaload, 1) := by decide +kernel
theorem dX5_count_78 : decode cX5_count 78 = .ok (.ireturn, 1) := by decide +kernel
theorem dX5_count_79 : decode cX5_count 79 = .ok (.aload_n 0, 1) := by decide +kernel
theorem dX5_count_80 : decode cX5_count 80 = .ok (.getfield 25, 3) := by decide +kernel
theorem dX5_count_83 : decode cX5_count 83 = .ok (.iconst 0, 1) := by decide +kernel
theorem dX5_count_84 : decode cX5_count 84 = .ok (.iaload, 1) := by decide +kernel
theorem dX5_count_85 : decode cX5_count 85 = .ok (.ireturn, 1) := by decide +kernel
theorem dX5_count_86 : decode cX5_count 86 = .ok (.aload_n 0, 1) := by decide +kernel
theorem dX5_count_87 : decode cX5_count 87 = .ok (.getfield 25, 3) := by decide +kernel
theorem dX5_count_90 : decode cX5_count 90 = .ok (.iconst 2, 1) := by decide +kernel
theorem dX5_count_91 : decode cX5_count 91 = .ok (.iaload, 1) := by decide +kernel
theorem dX5_count_92 : decode cX5_count 92 = .ok (.ireturn, 1) := by decide +kernel
theorem dX5_count_93 : decode cX5_count 93 = .ok (.aload_n 0, 1) := by decide +kernel
theorem dX5_count_94 : decode cX5_count 94 = .ok (.getfield 124, 3) := by decide +kernel
theorem dX5_count_97 : decode cX5_count 97 = .ok (.ireturn, 1) := by decide +kernel
theorem dX5_count_98 : decode cX5_count 98 = .ok (.aload_n 0, 1) := by decide +kernel
theorem dX5_count_99 : decode cX5_count 99 = .ok (.getfield 25, 3) := by decide +kernel
theorem dX5_count_102 : decode cX5_count 102 = .ok (.iconst 3, 1) := by decide +kernel
theorem dX5_count_103 : decode cX5_count 103 = .ok (.iaload, 1) := by decide +kernel
theorem dX5_count_104 : decode cX5_count 104 = .ok (.ireturn, 1) := by decide +kernel
theorem dX5_count_105 : decode cX5_count 105 = .ok (.aload_n 0, 1) := by decide +kernel
theorem dX5_count_106 : decode cX5_count 106 = .ok (.getfield 25, 3) := by decide +kernel
theorem dX5_count_109 : decode cX5_count 109 = .ok (.invokestatic 233, 3) := by decide +kernel
theorem dX5_count_112 : decode cX5_count 112 = .ok (.ireturn, 1) := by decide +kernel
theorem dX5_count_113 : decode cX5_count 113 = .ok (.aload_n 0, 1) := by decide +kernel
theorem dX5_count_114 : decode cX5_count 114 = .ok (.getfield 25, 3) := by decide +kernel
theorem dX5_count_117 : decode cX5_count 117 = .ok (.iconst 4, 1) := by decide +kernel
theorem dX5_count_118 : decode cX5_count 118 = .ok (.iaload, 1) := by decide +kernel
theorem dX5_count_119 : decode cX5_count 119 = .ok (.ireturn, 1) := by decide +kernel
theorem dX5_count_120 : decode cX5_count 120 = .ok (.aload_n 0, 1) := by decide +kernel
theorem dX5_count_121 : decode cX5_count 121 = .ok (.invokevirtual 186, 3) := by decide +kernel
theorem dX5_count_124 : decode cX5_count 124 = .ok (.ifCond .eq 13, 3) := by decide +kernel
theorem dX5_count_127 : decode cX5_count 127 = .ok (.aload_n 0, 1) := by decide +kernel
theorem dX5_count_128 : decode cX5_count 128 = .ok (.getfield 25, 3) := by decide +kernel
theorem dX5_count_131 : decode cX5_count 131 = .ok (.invokestatic 163, 3) := by decide +kernel
theorem dX5_count_134 : decode cX5_count 134 = .ok (.goto 4, 3) := by decide +kernel
theorem dX5_count_137 : decode cX5_count 137 = .ok (.iconst 0, 1) := by decide +kernel
theorem dX5_count_138 : decode cX5_count 138 = .ok (.ireturn, 1) := by decide +kernel
theorem dX5_count_139 : decode cX5_count 139 = .ok (.aload_n 0, 1) := by decide +kernel
theorem dX5_count_140 : decode cX5_count 140 = .ok (.getfield 25, 3) := by decide +kernel
theorem dX5_count_143 : decode cX5_count 143 = .ok (.iconst 0, 1) := by decide +kernel
theorem dX5_count_144 : decode cX5_count 144 = .ok (.invokestatic 154, 3) := by decide +kernel
theorem dX5_count_147 : decode cX5_count 147 = .ok (.invokestatic 151, 3) := by decide +kernel
theorem dX5_count_150 : decode cX5_count 150 = .ok (.ireturn, 1) := by decide +kernel
theorem dX5_count_151 : decode cX5_count 151 = .ok (.aload_n 0, 1) := by decide +kernel
theorem dX5_count_152 : decode cX5_count 152 = .ok (.iconst 1, 1) := by decide +kernel
theorem dX5_count_153 : decode cX5_count 153 = .ok (.invokevirtual 258, 3) := by decide +kernel
theorem dX5_count_156 : decode cX5_count 156 = .ok (.ireturn, 1) := by decide +kernel
theorem dX5_count_157 : decode cX5_count 157 = .ok (.aload_n 0, 1) := by decide +kernel
theorem dX5_count_158 : decode cX5_count 158 = .ok (.iconst 2, 1) := by decide +kernel
theorem dX5_count_159 : decode cX5_count 159 = .ok (.invokevirtual 258, 3) := by decide +kernel
theorem dX5_count_162 : decode cX5_count 162 = .ok (.ireturn, 1) := by decide +kernel
theorem dX5_count_163 : decode cX5_count 163 = .ok (.aload_n 0, 1) := by decide +kernel
theorem dX5_count_164 : decode cX5_count 164 = .ok (.getfield 7, 3) := by decide +kernel
theorem dX5_count_167 : decode cX5_count 167 = .ok (.invokestatic 261, 3) := by decide +kernel
theorem dX5_count_170 : decode cX5_count 170 = .ok (.ireturn, 1) := by decide +kernel
theorem dX5_count_171 : decode cX5_count 171 = .ok (.aload_n 0, 1) := by decide +kernel
theorem dX5_count_172 : decode cX5_count 172 = .ok (.getfield 16, 3) := by decide +kernel
theorem dX5_count_175 : decode cX5_count 175 = .ok (.invokestatic 261, 3) := by decide +kernel
theorem dX5_count_178 : decode cX5_count 178 = .ok (.ireturn, 1) := by decide +kernel
theorem dX5_count_179 : decode cX5_count 179 = .ok (.aload_n 0, 1) := by decide +kernel
theorem dX5_count_180 : decode cX5_count 180 = .ok (.getfield 43, 3) := by decide +kernel
theorem dX5_count_183 : decode cX5_count 183 = .ok (.invokestatic 261, 3) := by decide +kernel
theorem dX5_count_186 : decode cX5_count 186 = .ok (.ireturn, 1) := by decide +kernel
theorem dX5_count_187 : decode cX5_count 187 = .ok (.iconst (-1), 1) := by decide +kernel
theorem dX5_count_188 : decode cX5_count 188 = .ok (.ireturn, 1) := by decide +kernel
theorem dX5_finding_0 : decode cX5_finding 0 = .ok (.aload_n 0, 1) := by decide +kernel
theorem dX5_finding_1 : decode cX5_finding 1 = .ok (.getfield 56, 3) := by decide +kernel
theorem dX5_finding_4 : decode cX5_finding 4 = .ok (.ireturn, 1) := by decide +kernel
theorem dX5_findings_0 : decode cX5_findings 0 = .ok (.iload_n 1, 1) := by decide +kernel
theorem dX5_findings_1 : decode cX5_findings 1 = .ok (.iconst 1, 1) := by decide +kernel
theorem dX5_findings_2 : decode cX5_findings 2 = .ok (.iconst 5, 1) := by decide +kernel
theorem dX5_findings_3 : decode cX5_findings 3 = .ok (.invokestatic 63, 3) := by decide +kernel
theorem dX5_findings_6 : decode cX5_findings 6 = .ok (.ifCond .eq 12, 3) := by decide +kernel
theorem dX5_findings_9 : decode cX5_findings 9 = .ok (.aload_n 0, 1) := by decide +kernel
theorem dX5_findings_10 : decode cX5_findings 10 = .ok (.getfield 46, 3) := by decide +kernel
theorem dX5_findings_13 : decode cX5_findings 13 = .ok (.iload_n 1, 1) := by decide +kernel
theorem dX5_findings_14 : decode cX5_findings 14 = .ok (.iaload, 1) := by decide +kernel
theorem dX5_findings_15 : decode cX5_findings 15 = .ok (.goto 4, 3) := by decide +kernel
theorem dX5_findings_18 : decode cX5_findings 18 = .ok (.iconst (-1), 1) := by decide +kernel
theorem dX5_findings_19 : decode cX5_findings 19 = .ok (.ireturn, 1) := by decide +kernel
theorem dX5_summed_0 : decode cX5_summed 0 = .ok (.lload_n 0, 1) := by decide +kernel
theorem dX5_summed_1 : decode cX5_summed 1 = .ok (.lstore 5, 2) := by decide +kernel
theorem dX5_summed_3 : decode cX5_summed 3 = .ok (.iconst 0, 1) := by decide +kernel
theorem dX5_summed_4 : decode cX5_summed 4 = .ok (.istore 7, 2) := by decide +kernel
theorem dX5_summed_6 : decode cX5_summed 6 = .ok (.iload 7, 2) := by decide +kernel
theorem dX5_summed_8 : decode cX5_summed 8 = .ok (.aload_n 2, 1) := by decide +kernel
theorem dX5_summed_9 : decode cX5_summed 9 = .ok (.arraylength, 1) := by decide +kernel
theorem dX5_summed_10 : decode cX5_summed 10 = .ok (.if_icmp .ge 74, 3) := by decide +kernel
theorem dX5_summed_13 : decode cX5_summed 13 = .ok (.ldc2_w 264, 3) := by decide +kernel
theorem dX5_summed_16 : decode cX5_summed 16 = .ok (.lload 5, 2) := by decide +kernel
theorem dX5_summed_18 : decode cX5_summed 18 = .ok (.lmul, 1) := by decide +kernel
theorem dX5_summed_19 : decode cX5_summed 19 = .ok (.aload_n 2, 1) := by decide +kernel
theorem dX5_summed_20 : decode cX5_summed 20 = .ok (.iload 7, 2) := by decide +kernel
theorem dX5_summed_22 : decode cX5_summed 22 = .ok (.iaload, 1) := by decide +kernel
theorem dX5_summed_23 : decode cX5_summed 23 = .ok (.bipush (-9), 2) := by decide +kernel
theorem dX5_summed_25 : decode cX5_summed 25 = .ok (.if_icmp .ne 7, 3) := by decide +kernel
theorem dX5_summed_28 : decode cX5_summed 28 = .ok (.iconst (-1), 1) := by decide +kernel
theorem dX5_summed_29 : decode cX5_summed 29 = .ok (.goto 7, 3) := by decide +kernel
theorem dX5_summed_32 : decode cX5_summed 32 = .ok (.aload_n 2, 1) := by decide +kernel
theorem dX5_summed_33 : decode cX5_summed 33 = .ok (.iload 7, 2) := by decide +kernel
theorem dX5_summed_35 : decode cX5_summed 35 = .ok (.iaload, 1) := by decide +kernel
theorem dX5_summed_36 : decode cX5_summed 36 = .ok (.i2l, 1) := by decide +kernel
theorem dX5_summed_37 : decode cX5_summed 37 = .ok (.ladd, 1) := by decide +kernel
theorem dX5_summed_38 : decode cX5_summed 38 = .ok (.lstore 5, 2) := by decide +kernel
theorem dX5_summed_40 : decode cX5_summed 40 = .ok (.iconst 0, 1) := by decide +kernel
theorem dX5_summed_41 : decode cX5_summed 41 = .ok (.istore 8, 2) := by decide +kernel
theorem dX5_summed_43 : decode cX5_summed 43 = .ok (.iload 8, 2) := by decide +kernel
theorem dX5_summed_45 : decode cX5_summed 45 = .ok (.aload_n 2, 1) := by decide +kernel
theorem dX5_summed_46 : decode cX5_summed 46 = .ok (.iload 7, 2) := by decide +kernel
theorem dX5_summed_48 : decode cX5_summed 48 = .ok (.iaload, 1) := by decide +kernel
theorem dX5_summed_49 : decode cX5_summed 49 = .ok (.if_icmp .ge 29, 3) := by decide +kernel
theorem dX5_summed_52 : decode cX5_summed 52 = .ok (.ldc2_w 264, 3) := by decide +kernel
theorem dX5_summed_55 : decode cX5_summed 55 = .ok (.lload 5, 2) := by decide +kernel
theorem dX5_summed_57 : decode cX5_summed 57 = .ok (.lmul, 1) := by decide +kernel
theorem dX5_summed_58 : decode cX5_summed 58 = .ok (.aload_n 3, 1) := by decide +kernel
theorem dX5_summed_59 : decode cX5_summed 59 = .ok (.iload 4, 2) := by decide +kernel
theorem dX5_summed_61 : decode cX5_summed 61 = .ok (.iload 7, 2) := by decide +kernel
theorem dX5_summed_63 : decode cX5_summed 63 = .ok (.imul, 1) := by decide +kernel
theorem dX5_summed_64 : decode cX5_summed 64 = .ok (.iload 8, 2) := by decide +kernel
theorem dX5_summed_66 : decode cX5_summed 66 = .ok (.iadd, 1) := by decide +kernel
theorem dX5_summed_67 : decode cX5_summed 67 = .ok (.iaload, 1) := by decide +kernel
theorem dX5_summed_68 : decode cX5_summed 68 = .ok (.i2l, 1) := by decide +kernel
theorem dX5_summed_69 : decode cX5_summed 69 = .ok (.ladd, 1) := by decide +kernel
theorem dX5_summed_70 : decode cX5_summed 70 = .ok (.lstore 5, 2) := by decide +kernel
theorem dX5_summed_72 : decode cX5_summed 72 = .ok (.iinc 8 1, 3) := by decide +kernel
theorem dX5_summed_75 : decode cX5_summed 75 = .ok (.goto (-32), 3) := by decide +kernel
theorem dX5_summed_78 : decode cX5_summed 78 = .ok (.iinc 7 1, 3) := by decide +kernel
theorem dX5_summed_81 : decode cX5_summed 81 = .ok (.goto (-75), 3) := by decide +kernel
theorem dX5_summed_84 : decode cX5_summed 84 = .ok (.lload 5, 2) := by decide +kernel
theorem dX5_summed_86 : decode cX5_summed 86 = .ok (.lreturn, 1) := by decide +kernel
theorem dX5_digest_0 : decode cX5_digest 0 = .ok (.ldc2_w 266, 3) := by decide +kernel
theorem dX5_digest_3 : decode cX5_digest 3 = .ok (.lstore_n 1, 1) := by decide +kernel
theorem dX5_digest_4 : decode cX5_digest 4 = .ok (.iconst 0, 1) := by decide +kernel
theorem dX5_digest_5 : decode cX5_digest 5 = .ok (.istore_n 3, 1) := by decide +kernel
theorem dX5_digest_6 : decode cX5_digest 6 = .ok (.iload_n 3, 1) := by decide +kernel
theorem dX5_digest_7 : decode cX5_digest 7 = .ok (.bipush 14, 2) := by decide +kernel
theorem dX5_digest_9 : decode cX5_digest 9 = .ok (.if_icmp .ge 22, 3) := by decide +kernel
theorem dX5_digest_12 : decode cX5_digest 12 = .ok (.ldc2_w 264, 3) := by decide +kernel
theorem dX5_digest_15 : decode cX5_digest 15 = .ok (.lload_n 1, 1) := by decide +kernel
theorem dX5_digest_16 : decode cX5_digest 16 = .ok (.lmul, 1) := by decide +kernel
theorem dX5_digest_17 : decode cX5_digest 17 = .ok (.aload_n 0, 1) := by decide +kernel
theorem dX5_digest_18 : decode cX5_digest 18 = .ok (.iload_n 3, 1) := by decide +kernel
theorem dX5_digest_19 : decode cX5_digest 19 = .ok (.invokevirtual 268, 3) := by decide +kernel
theorem dX5_digest_22 : decode cX5_digest 22 = .ok (.i2l, 1) := by decide +kernel
theorem dX5_digest_23 : decode cX5_digest 23 = .ok (.ladd, 1) := by decide +kernel
theorem dX5_digest_24 : decode cX5_digest 24 = .ok (.lstore_n 1, 1) := by decide +kernel
theorem dX5_digest_25 : decode cX5_digest 25 = .ok (.iinc 3 1, 3) := by decide +kernel
theorem dX5_digest_28 : decode cX5_digest 28 = .ok (.goto (-22), 3) := by decide +kernel
theorem dX5_digest_31 : decode cX5_digest 31 = .ok (.iconst 0, 1) := by decide +kernel
theorem dX5_digest_32 : decode cX5_digest 32 = .ok (.istore_n 3, 1) := by decide +kernel
theorem dX5_digest_33 : decode cX5_digest 33 = .ok (.iload_n 3, 1) := by decide +kernel
theorem dX5_digest_34 : decode cX5_digest 34 = .ok (.aload_n 0, 1) := by decide +kernel
theorem dX5_digest_35 : decode cX5_digest 35 = .ok (.getfield 25, 3) := by decide +kernel
theorem dX5_digest_38 : decode cX5_digest 38 = .ok (.iconst 1, 1) := by decide +kernel
theorem dX5_digest_39 : decode cX5_digest 39 = .ok (.iaload, 1) := by decide +kernel
theorem dX5_digest_40 : decode cX5_digest 40 = .ok (.if_icmp .ge 40, 3) := by decide +kernel
theorem dX5_digest_43 : decode cX5_digest 43 = .ok (.iconst 0, 1) := by decide +kernel
theorem dX5_digest_44 : decode cX5_digest 44 = .ok (.istore 4, 2) := by decide +kernel
theorem dX5_digest_46 : decode cX5_digest 46 = .ok (.iload 4, 2) := by decide +kernel
theorem dX5_digest_48 : decode cX5_digest 48 = .ok (.bipush 7, 2) := by decide +kernel
theorem dX5_digest_50 : decode cX5_digest 50 = .ok (.if_icmp .ge 24, 3) := by decide +kernel
theorem dX5_digest_53 : decode cX5_digest 53 = .ok (.ldc2_w 264, 3) := by decide +kernel
theorem dX5_digest_56 : decode cX5_digest 56 = .ok (.lload_n 1, 1) := by decide +kernel
theorem dX5_digest_57 : decode cX5_digest 57 = .ok (.lmul, 1) := by decide +kernel
theorem dX5_digest_58 : decode cX5_digest 58 = .ok (.aload_n 0, 1) := by decide +kernel
theorem dX5_digest_59 : decode cX5_digest 59 = .ok (.iload_n 3, 1) := by decide +kernel
theorem dX5_digest_60 : decode cX5_digest 60 = .ok (.iload 4, 2) := by decide +kernel
theorem dX5_digest_62 : decode cX5_digest 62 = .ok (.invokevirtual 173, 3) := by decide +kernel
theorem dX5_digest_65 : decode cX5_digest 65 = .ok (.i2l, 1) := by decide +kernel
theorem dX5_digest_66 : decode cX5_digest 66 = .ok (.ladd, 1) := by decide +kernel
theorem dX5_digest_67 : decode cX5_digest 67 = .ok (.lstore_n 1, 1) := by decide +kernel
theorem dX5_digest_68 : decode cX5_digest 68 = .ok (.iinc 4 1, 3) := by decide +kernel
theorem dX5_digest_71 : decode cX5_digest 71 = .ok (.goto (-25), 3) := by decide +kernel
theorem dX5_digest_74 : decode cX5_digest 74 = .ok (.iinc 3 1, 3) := by decide +kernel
theorem dX5_digest_77 : decode cX5_digest 77 = .ok (.goto (-44), 3) := by decide +kernel
theorem dX5_digest_80 : decode cX5_digest 80 = .ok (.iconst 0, 1) := by decide +kernel
theorem dX5_digest_81 : decode cX5_digest 81 = .ok (.istore_n 3, 1) := by decide +kernel
theorem dX5_digest_82 : decode cX5_digest 82 = .ok (.iload_n 3, 1) := by decide +kernel
theorem dX5_digest_83 : decode cX5_digest 83 = .ok (.iconst 3, 1) := by decide +kernel
theorem dX5_digest_84 : decode cX5_digest 84 = .ok (.if_icmp .ge 38, 3) := by decide +kernel
theorem dX5_digest_87 : decode cX5_digest 87 = .ok (.ldc2_w 264, 3) := by decide +kernel
theorem dX5_digest_90 : decode cX5_digest 90 = .ok (.lload_n 1, 1) := by decide +kernel
theorem dX5_digest_91 : decode cX5_digest 91 = .ok (.lmul, 1) := by decide +kernel
theorem dX5_digest_92 : decode cX5_digest 92 = .ok (.aload_n 0, 1) := by decide +kernel
theorem dX5_digest_93 : decode cX5_digest 93 = .ok (.getfield 43, 3) := by decide +kernel
theorem dX5_digest_96 : decode cX5_digest 96 = .ok (.iload_n 3, 1) := by decide +kernel
theorem dX5_digest_97 : decode cX5_digest 97 = .ok (.iaload, 1) := by decide +kernel
theorem dX5_digest_98 : decode cX5_digest 98 = .ok (.bipush (-9), 2) := by decide +kernel
theorem dX5_digest_100 : decode cX5_digest 100 = .ok (.if_icmp .ne 7, 3) := by decide +kernel
theorem dX5_digest_103 : decode cX5_digest 103 = .ok (.iconst (-1), 1) := by decide +kernel
theorem dX5_digest_104 : decode cX5_digest 104 = .ok (.goto 9, 3) := by decide +kernel
theorem dX5_digest_107 : decode cX5_digest 107 = .ok (.aload_n 0, 1) := by decide +kernel
theorem dX5_digest_108 : decode cX5_digest 108 = .ok (.getfield 43, 3) := by decide +kernel
theorem dX5_digest_111 : decode cX5_digest 111 = .ok (.iload_n 3, 1) := by decide +kernel
theorem dX5_digest_112 : decode cX5_digest 112 = .ok (.iaload, 1) := by decide +kernel
theorem dX5_digest_113 : decode cX5_digest 113 = .ok (.i2l, 1) := by decide +kernel
theorem dX5_digest_114 : decode cX5_digest 114 = .ok (.ladd, 1) := by decide +kernel
theorem dX5_digest_115 : decode cX5_digest 115 = .ok (.lstore_n 1, 1) := by decide +kernel
theorem dX5_digest_116 : decode cX5_digest 116 = .ok (.iinc 3 1, 3) := by decide +kernel
theorem dX5_digest_119 : decode cX5_digest 119 = .ok (.goto (-37), 3) := by decide +kernel
theorem dX5_digest_122 : decode cX5_digest 122 = .ok (.lload_n 1, 1) := by decide +kernel
theorem dX5_digest_123 : decode cX5_digest 123 = .ok (.aload_n 0, 1) := by decide +kernel
theorem dX5_digest_124 : decode cX5_digest 124 = .ok (.getfield 7, 3) := by decide +kernel
theorem dX5_digest_127 : decode cX5_digest 127 = .ok (.aload_n 0, 1) := by decide +kernel
theorem dX5_digest_128 : decode cX5_digest 128 = .ok (.getfield 13, 3) := by decide +kernel
theorem dX5_digest_131 : decode cX5_digest 131 = .ok (.bipush 40, 2) := by decide +kernel
theorem dX5_digest_133 : decode cX5_digest 133 = .ok (.invokestatic 271, 3) := by decide +kernel
theorem dX5_digest_136 : decode cX5_digest 136 = .ok (.aload_n 0, 1) := by decide +kernel
theorem dX5_digest_137 : decode cX5_digest 137 = .ok (.getfield 16, 3) := by decide +kernel
theorem dX5_digest_140 : decode cX5_digest 140 = .ok (.aload_n 0, 1) := by decide +kernel
theorem dX5_digest_141 : decode cX5_digest 141 = .ok (.getfield 19, 3) := by decide +kernel
theorem dX5_digest_144 : decode cX5_digest 144 = .ok (.bipush 60, 2) := by decide +kernel
theorem dX5_digest_146 : decode cX5_digest 146 = .ok (.invokestatic 271, 3) := by decide +kernel
theorem dX5_digest_149 : decode cX5_digest 149 = .ok (.lreturn, 1) := by decide +kernel
