theorem dX3_init_0 : decode cX3_init 0 = .ok (.aload_n 0, 1) := by decide +kernel
theorem dX3_init_1 : decode cX3_init 1 = .ok (.invokespecial 3, 3) := by decide +kernel
theorem dX3_init_4 : decode cX3_init 4 = .ok (.aload_n 0, 1) := by decide +kernel
theorem dX3_init_5 : decode cX3_init 5 = .ok (.bipush 6, 2) := by decide +kernel
theorem dX3_init_7 : decode cX3_init 7 = .ok (.newarray .int, 2) := by decide +kernel
theorem dX3_init_9 : decode cX3_init 9 = .ok (.putfield 9, 3) := by decide +kernel
theorem dX3_init_12 : decode cX3_init 12 = .ok (.aload_n 0, 1) := by decide +kernel
theorem dX3_init_13 : decode cX3_init 13 = .ok (.bipush 6, 2) := by decide +kernel
theorem dX3_init_15 : decode cX3_init 15 = .ok (.newarray .int, 2) := by decide +kernel
theorem dX3_init_17 : decode cX3_init 17 = .ok (.putfield 15, 3) := by decide +kernel
theorem dX3_init_20 : decode cX3_init 20 = .ok (.aload_n 0, 1) := by decide +kernel
theorem dX3_init_21 : decode cX3_init 21 = .ok (.bipush 6, 2) := by decide +kernel
theorem dX3_init_23 : decode cX3_init 23 = .ok (.newarray .int, 2) := by decide +kernel
theorem dX3_init_25 : decode cX3_init 25 = .ok (.putfield 18, 3) := by decide +kernel
theorem dX3_init_28 : decode cX3_init 28 = .ok (.aload_n 0, 1) := by decide +kernel
theorem dX3_init_29 : decode cX3_init 29 = .ok (.bipush 6, 2) := by decide +kernel
theorem dX3_init_31 : decode cX3_init 31 = .ok (.newarray .int, 2) := by decide +kernel
theorem dX3_init_33 : decode cX3_init 33 = .ok (.putfield 21, 3) := by decide +kernel
theorem dX3_init_36 : decode cX3_init 36 = .ok (.aload_n 0, 1) := by decide +kernel
theorem dX3_init_37 : decode cX3_init 37 = .ok (.bipush 6, 2) := by decide +kernel
theorem dX3_init_39 : decode cX3_init 39 = .ok (.newarray .int, 2) := by decide +kernel
theorem dX3_init_41 : decode cX3_init 41 = .ok (.putfield 24, 3) := by decide +kernel
theorem dX3_init_44 : decode cX3_init 44 = .ok (.return_, 1) := by decide +kernel
theorem dX3_clear_0 : decode cX3_clear 0 = .ok (.aload_n 0, 1) := by decide +kernel
theorem dX3_clear_1 : decode cX3_clear 1 = .ok (.iconst 0, 1) := by decide +kernel
theorem dX3_clear_2 : decode cX3_clear 2 = .ok (.putfield 27, 3) := by decide +kernel
theorem dX3_clear_5 : decode cX3_clear 5 = .ok (.aload_n 0, 1) := by decide +kernel
theorem dX3_clear_6 : decode cX3_clear 6 = .ok (.iconst 0, 1) := by decide +kernel
theorem dX3_clear_7 : decode cX3_clear 7 = .ok (.putfield 31, 3) := by decide +kernel
theorem dX3_clear_10 : decode cX3_clear 10 = .ok (.aload_n 0, 1) := by decide +kernel
theorem dX3_clear_11 : decode cX3_clear 11 = .ok (.iconst 0, 1) := by decide +kernel
theorem dX3_clear_12 : decode cX3_clear 12 = .ok (.putfield 34, 3) := by decide +kernel
theorem dX3_clear_15 : decode cX3_clear 15 = .ok (.aload_n 0, 1) := by decide +kernel
theorem dX3_clear_16 : decode cX3_clear 16 = .ok (.iconst 0, 1) := by decide +kernel
theorem dX3_clear_17 : decode cX3_clear 17 = .ok (.putfield 37, 3) := by decide +kernel
theorem dX3_clear_20 : decode cX3_clear 20 = .ok (.aload_n 0, 1) := by decide +kernel
theorem dX3_clear_21 : decode cX3_clear 21 = .ok (.iconst 0, 1) := by decide +kernel
theorem dX3_clear_22 : decode cX3_clear 22 = .ok (.putfield 40, 3) := by decide +kernel
theorem dX3_clear_25 : decode cX3_clear 25 = .ok (.aload_n 0, 1) := by decide +kernel
theorem dX3_clear_26 : decode cX3_clear 26 = .ok (.iconst 0, 1) := by decide +kernel
theorem dX3_clear_27 : decode cX3_clear 27 = .ok (.putfield 43, 3) := by decide +kernel
theorem dX3_clear_30 : decode cX3_clear 30 = .ok (.return_, 1) := by decide +kernel
theorem dX3_take_0 : decode cX3_take 0 = .ok (.iconst 0, 1) := by decide +kernel
theorem dX3_take_1 : decode cX3_take 1 = .ok (.istore_n 2, 1) := by decide +kernel
theorem dX3_take_2 : decode cX3_take 2 = .ok (.iload_n 2, 1) := by decide +kernel
theorem dX3_take_3 : decode cX3_take 3 = .ok (.bipush 6, 2) := by decide +kernel
theorem dX3_take_5 : decode cX3_take 5 = .ok (.if_icmp .ge 69, 3) := by decide +kernel
theorem dX3_take_8 : decode cX3_take 8 = .ok (.aload_n 0, 1) := by decide +kernel
theorem dX3_take_9 : decode cX3_take 9 = .ok (.getfield 9, 3) := by decide +kernel
theorem dX3_take_12 : decode cX3_take 12 = .ok (.iload_n 2, 1) := by decide +kernel
theorem dX3_take_13 : decode cX3_take 13 = .ok (.aload_n 1, 1) := by decide +kernel
theorem dX3_take_14 : decode cX3_take 14 = .ok (.getfield 9, 3) := by decide +kernel
theorem dX3_take_17 : decode cX3_take 17 = .ok (.iload_n 2, 1) := by decide +kernel
theorem dX3_take_18 : decode cX3_take 18 = .ok (.iaload, 1) := by decide +kernel
theorem dX3_take_19 : decode cX3_take 19 = .ok (.iastore, 1) := by decide +kernel
theorem dX3_take_20 : decode cX3_take 20 = .ok (.aload_n 0, 1) := by decide +kernel
theorem dX3_take_21 : decode cX3_take 21 = .ok (.getfield 15, 3) := by decide +kernel
theorem dX3_take_24 : decode cX3_take 24 = .ok (.iload_n 2, 1) := by decide +kernel
theorem dX3_take_25 : decode cX3_take 25 = .ok (.aload_n 1, 1) := by decide +kernel
theorem dX3_take_26 : decode cX3_take 26 = .ok (.getfield 15, 3) := by decide +kernel
theorem dX3_take_29 : decode cX3_take 29 = .ok (.iload_n 2, 1) := by decide +kernel
theorem dX3_take_30 : decode cX3_take 30 = .ok (.iaload, 1) := by decide +kernel
theorem dX3_take_31 : decode cX3_take 31 = .ok (.iastore, 1) := by decide +kernel
theorem dX3_take_32 : decode cX3_take 32 = .ok (.aload_n 0, 1) := by decide +kernel
theorem dX3_take_33 : decode cX3_take 33 = .ok (.getfield 18, 3) := by decide +kernel
theorem dX3_take_36 : decode cX3_take 36 = .ok (.iload_n 2, 1) := by decide +kernel
theorem dX3_take_37 : decode cX3_take 37 = .ok (.aload_n 1, 1) := by decide +kernel
theorem dX3_take_38 : decode cX3_take 38 = .ok (.getfield 18, 3) := by decide +kernel
theorem dX3_take_41 : decode cX3_take 41 = .ok (.iload_n 2, 1) := by decide +kernel
theorem dX3_take_42 : decode cX3_take 42 = .ok (.iaload, 1) := by decide +kernel
theorem dX3_take_43 : decode cX3_take 43 = .ok (.iastore, 1) := by decide +kernel
theorem dX3_take_44 : decode cX3_take 44 = .ok (.aload_n 0, 1) := by decide +kernel
theorem dX3_take_45 : decode cX3_take 45 = .ok (.getfield 21, 3) := by decide +kernel
theorem dX3_take_48 : decode cX3_take 48 = .ok (.iload_n 2, 1) := by decide +kernel
theorem dX3_take_49 : decode cX3_take 49 = .ok (.aload_n 1, 1) := by decide +kernel
theorem dX3_take_50 : decode cX3_take 50 = .ok (.getfield 21, 3) := by decide +kernel
theorem dX3_take_53 : decode cX3_take 53 = .ok (.iload_n 2, 1) := by decide +kernel
theorem dX3_take_54 : decode cX3_take 54 = .ok (.iaload, 1) := by decide +kernel
theorem dX3_take_55 : decode cX3_take 55 = .ok (.iastore, 1) := by decide +kernel
theorem dX3_take_56 : decode cX3_take 56 = .ok (.aload_n 0, 1) := by decide +kernel
theorem dX3_take_57 : decode cX3_take 57 = .ok (.getfield 24, 3) := by decide +kernel
theorem dX3_take_60 : decode cX3_take 60 = .ok (.iload_n 2, 1) := by decide +kernel
theorem dX3_take_61 : decode cX3_take 61 = .ok (.aload_n 1, 1) := by decide +kernel
theorem dX3_take_62 : decode cX3_take 62 = .ok (.getfield 24, 3) := by decide +kernel
theorem dX3_take_65 : decode cX3_take 65 = .ok (.iload_n 2, 1) := by decide +kernel
theorem dX3_take_66 : decode cX3_take 66 = .ok (.iaload, 1) := by decide +kernel
theorem dX3_take_67 : decode cX3_take 67 = .ok (.iastore, 1) := by decide +kernel
theorem dX3_take_68 : decode cX3_take 68 = .ok (.iinc 2 1, 3) := by decide +kernel
theorem dX3_take_71 : decode cX3_take 71 = .ok (.goto (-69), 3) := by decide +kernel
theorem dX3_take_74 : decode cX3_take 74 = .ok (.aload_n 0, 1) := by decide +kernel
theorem dX3_take_75 : decode cX3_take 75 = .ok (.aload_n 1, 1) := by decide +kernel
theorem dX3_take_76 : decode cX3_take 76 = .ok (.getfield 27, 3) := by decide +kernel
theorem dX3_take_79 : decode cX3_take 79 = .ok (.putfield 27, 3) := by decide +kernel
theorem dX3_take_82 : decode cX3_take 82 = .ok (.aload_n 0, 1) := by decide +kernel
theorem dX3_take_83 : decode cX3_take 83 = .ok (.aload_n 1, 1) := by decide +kernel
theorem dX3_take_84 : decode cX3_take 84 = .ok (.getfield 31, 3) := by decide +kernel
theorem dX3_take_87 : decode cX3_take 87 = .ok (.putfield 31, 3) := by decide +kernel
theorem dX3_take_90 : decode cX3_take 90 = .ok (.aload_n 0, 1) := by decide +kernel
theorem dX3_take_91 : decode cX3_take 91 = .ok (.aload_n 1, 1) := by decide +kernel
theorem dX3_take_92 : decode cX3_take 92 = .ok (.getfield 34, 3) := by decide +kernel
theorem dX3_take_95 : decode cX3_take 95 = .ok (.putfield 34, 3) := by decide +kernel
theorem dX3_take_98 : decode cX3_take 98 = .ok (.aload_n 0, 1) := by decide +kernel
theorem dX3_take_99 : decode cX3_take 99 = .ok (.aload_n 1, 1) := by decide +kernel
theorem dX3_take_100 : decode cX3_take 100 = .ok (.getfield 37, 3) := by decide +kernel
theorem dX3_take_103 : decode cX3_take 103 = .ok (.putfield 37, 3) := by decide +kernel
theorem dX3_take_106 : decode cX3_take 106 = .ok (.aload_n 0, 1) := by decide +kernel
theorem dX3_take_107 : decode cX3_take 107 = .ok (.aload_n 1, 1) := by decide +kernel
theorem dX3_take_108 : decode cX3_take 108 = .ok (.getfield 40, 3) := by decide +kernel
theorem dX3_take_111 : decode cX3_take 111 = .ok (.putfield 40, 3) := by decide +kernel
theorem dX3_take_114 : decode cX3_take 114 = .ok (.aload_n 0, 1) := by decide +kernel
theorem dX3_take_115 : decode cX3_take 115 = .ok (.aload_n 1, 1) := by decide +kernel
theorem dX3_take_116 : decode cX3_take 116 = .ok (.getfield 43, 3) := by decide +kernel
theorem dX3_take_119 : decode cX3_take 119 = .ok (.putfield 43, 3) := by decide +kernel
theorem dX3_take_122 : decode cX3_take 122 = .ok (.return_, 1) := by decide +kernel
theorem dX3_add_0 : decode cX3_add 0 = .ok (.aload_n 0, 1) := by decide +kernel
theorem dX3_add_1 : decode cX3_add 1 = .ok (.getfield 27, 3) := by decide +kernel
theorem dX3_add_4 : decode cX3_add 4 = .ok (.ifCond .lt 55, 3) := by decide +kernel
theorem dX3_add_7 : decode cX3_add 7 = .ok (.aload_n 0, 1) := by decide +kernel
theorem dX3_add_8 : decode cX3_add 8 = .ok (.getfield 27, 3) := by decide +kernel
theorem dX3_add_11 : decode cX3_add 11 = .ok (.bipush 6, 2) := by decide +kernel
theorem dX3_add_13 : decode cX3_add 13 = .ok (.if_icmp .ge 46, 3) := by decide +kernel
theorem dX3_add_16 : decode cX3_add 16 = .ok (.aload_n 0, 1) := by decide +kernel
theorem dX3_add_17 : decode cX3_add 17 = .ok (.getfield 9, 3) := by decide +kernel
theorem dX3_add_20 : decode cX3_add 20 = .ok (.aload_n 0, 1) := by decide +kernel
theorem dX3_add_21 : decode cX3_add 21 = .ok (.getfield 27, 3) := by decide +kernel
theorem dX3_add_24 : decode cX3_add 24 = .ok (.iload_n 1, 1) := by decide +kernel
theorem dX3_add_25 : decode cX3_add 25 = .ok (.iastore, 1) := by decide +kernel
theorem dX3_add_26 : decode cX3_add 26 = .ok (.aload_n 0, 1) := by decide +kernel
theorem dX3_add_27 : decode cX3_add 27 = .ok (.getfield 18, 3) := by decide +kernel
theorem dX3_add_30 : decode cX3_add 30 = .ok (.aload_n 0, 1) := by decide +kernel
theorem dX3_add_31 : decode cX3_add 31 = .ok (.getfield 27, 3) := by decide +kernel
theorem dX3_add_34 : decode cX3_add 34 = .ok (.iload_n 3, 1) := by decide +kernel
theorem dX3_add_35 : decode cX3_add 35 = .ok (.iastore, 1) := by decide +kernel
theorem dX3_add_36 : decode cX3_add 36 = .ok (.aload_n 0, 1) := by decide +kernel
theorem dX3_add_37 : decode cX3_add 37 = .ok (.dup, 1) := by decide +kernel
theorem dX3_add_38 : decode cX3_add 38 = .ok (.getfield 27, 3) := by decide +kernel
theorem dX3_add_41 : decode cX3_add 41 = .ok (.iconst 1, 1) := by decide +kernel
theorem dX3_add_42 : decode cX3_add 42 = .ok (.iadd, 1) := by decide +kernel
theorem dX3_add_43 : decode cX3_add 43 = .ok (.putfield 27, 3) := by decide +kernel
theorem dX3_add_46 : decode cX3_add 46 = .ok (.aload_n 0, 1) := by decide +kernel
theorem dX3_add_47 : decode cX3_add 47 = .ok (.aload_n 0, 1) := by decide +kernel
theorem dX3_add_48 : decode cX3_add 48 = .ok (.getfield 27, 3) := by decide +kernel
theorem dX3_add_51 : decode cX3_add 51 = .ok (.iconst 1, 1) := by decide +kernel
theorem dX3_add_52 : decode cX3_add 52 = .ok (.isub, 1) := by decide +kernel
theorem dX3_add_53 : decode cX3_add 53 = .ok (.iload_n 2, 1) := by decide +kernel
theorem dX3_add_54 : decode cX3_add 54 = .ok (.iload 4, 2) := by decide +kernel
theorem dX3_add_56 : decode cX3_add 56 = .ok (.invokevirtual 46, 3) := by decide +kernel
theorem dX3_add_59 : decode cX3_add 59 = .ok (.return_, 1) := by decide +kernel
theorem dX3_has_0 : decode cX3_has 0 = .ok (.iload_n 1, 1) := by decide +kernel
theorem dX3_has_1 : decode cX3_has 1 = .ok (.ifCond .lt 21, 3) := by decide +kernel
theorem dX3_has_4 : decode cX3_has 4 = .ok (.iload_n 1, 1) := by decide +kernel
theorem dX3_has_5 : decode cX3_has 5 = .ok (.aload_n 0, 1) := by decide +kernel
theorem dX3_has_6 : decode cX3_has 6 = .ok (.getfield 27, 3) := by decide +kernel
theorem dX3_has_9 : decode cX3_has 9 = .ok (.if_icmp .ge 13, 3) := by decide +kernel
theorem dX3_has_12 : decode cX3_has 12 = .ok (.iload_n 1, 1) := by decide +kernel
theorem dX3_has_13 : decode cX3_has 13 = .ok (.bipush 6, 2) := by decide +kernel
theorem dX3_has_15 : decode cX3_has 15 = .ok (.if_icmp .ge 7, 3) := by decide +kernel
theorem dX3_has_18 : decode cX3_has 18 = .ok (.iconst 1, 1) := by decide +kernel
theorem dX3_has_19 : decode cX3_has 19 = .ok (.goto 4, 3) := by decide +kernel
theorem dX3_has_22 : decode cX3_has 22 = .ok (.iconst 0, 1) := by decide +kernel
theorem dX3_has_23 : decode cX3_has 23 = .ok (.ireturn, 1) := by decide +kernel
theorem dX3_placeOf_0 : decode cX3_placeOf 0 = .ok (.aload_n 0, 1) := by decide +kernel
theorem dX3_placeOf_1 : decode cX3_placeOf 1 = .ok (.iload_n 1, 1) := by decide +kernel
theorem dX3_placeOf_2 : decode cX3_placeOf 2 = .ok (.invokevirtual 50, 3) := by decide +kernel
theorem dX3_placeOf_5 : decode cX3_placeOf 5 = .ok (.ifCond .eq 12, 3) := by decide +kernel
theorem dX3_placeOf_8 : decode cX3_placeOf 8 = .ok (.aload_n 0, 1) := by decide +kernel
theorem dX3_placeOf_9 : decode cX3_placeOf 9 = .ok (.getfield 15, 3) := by decide +kernel
theorem dX3_placeOf_12 : decode cX3_placeOf 12 = .ok (.iload_n 1, 1) := by decide +kernel
theorem dX3_placeOf_13 : decode cX3_placeOf 13 = .ok (.iaload, 1) := by decide +kernel
theorem dX3_placeOf_14 : decode cX3_placeOf 14 = .ok (.goto 5, 3) := by decide +kernel
theorem dX3_placeOf_17 : decode cX3_placeOf 17 = .ok (.bipush (-9), 2) := by decide +kernel
theorem dX3_placeOf_19 : decode cX3_placeOf 19 = .ok (.ireturn, 1) := by decide +kernel
theorem dX3_downOf_0 : decode cX3_downOf 0 = .ok (.aload_n 0, 1) := by decide +kernel
theorem dX3_downOf_1 : decode cX3_downOf 1 = .ok (.iload_n 1, 1) := by decide +kernel
theorem dX3_downOf_2 : decode cX3_downOf 2 = .ok (.invokevirtual 50, 3) := by decide +kernel
theorem dX3_downOf_5 : decode cX3_downOf 5 = .ok (.ifCond .eq 12, 3) := by decide +kernel
theorem dX3_downOf_8 : decode cX3_downOf 8 = .ok (.aload_n 0, 1) := by decide +kernel
theorem dX3_downOf_9 : decode cX3_downOf 9 = .ok (.getfield 21, 3) := by decide +kernel
theorem dX3_downOf_12 : decode cX3_downOf 12 = .ok (.iload_n 1, 1) := by decide +kernel
theorem dX3_downOf_13 : decode cX3_downOf 13 = .ok (.iaload, 1) := by decide +kernel
theorem dX3_downOf_14 : decode cX3_downOf 14 = .ok (.goto 5, 3) := by decide +kernel
theorem dX3_downOf_17 : decode cX3_downOf 17 = .ok (.bipush (-9), 2) := by decide +kernel
theorem dX3_downOf_19 : decode cX3_downOf 19 = .ok (.ireturn, 1) := by decide +kernel
theorem dX3_isLifted_0 : decode cX3_isLifted 0 = .ok (.aload_n 0, 1) := by decide +kernel
theorem dX3_isLifted_1 : decode cX3_isLifted 1 = .ok (.getfield 34, 3) := by decide +kernel
theorem dX3_isLifted_4 : decode cX3_isLifted 4 = .ok (.iload_n 1, 1) := by decide +kernel
theorem dX3_isLifted_5 : decode cX3_isLifted 5 = .ok (.ishr, 1) := by decide +kernel
theorem dX3_isLifted_6 : decode cX3_isLifted 6 = .ok (.iconst 1, 1) := by decide +kernel
theorem dX3_isLifted_7 : decode cX3_isLifted 7 = .ok (.iand, 1) := by decide +kernel
theorem dX3_isLifted_8 : decode cX3_isLifted 8 = .ok (.iconst 1, 1) := by decide +kernel
theorem dX3_isLifted_9 : decode cX3_isLifted 9 = .ok (.if_icmp .ne 7, 3) := by decide +kernel
theorem dX3_isLifted_12 : decode cX3_isLifted 12 = .ok (.iconst 1, 1) := by decide +kernel
theorem dX3_isLifted_13 : decode cX3_isLifted 13 = .ok (.goto 4, 3) := by decide +kernel
theorem dX3_isLifted_16 : decode cX3_isLifted 16 = .ok (.iconst 0, 1) := by decide +kernel
theorem dX3_isLifted_17 : decode cX3_isLifted 17 = .ok (.ireturn, 1) := by decide +kernel
theorem dX3_allPeels_0 : decode cX3_allPeels 0 = .ok (.iconst 1, 1) := by decide +kernel
theorem dX3_allPeels_1 : decode cX3_allPeels 1 = .ok (.aload_n 0, 1) := by decide +kernel
theorem dX3_allPeels_2 : decode cX3_allPeels 2 = .ok (.getfield 27, 3) := by decide +kernel
theorem dX3_allPeels_5 : decode cX3_allPeels 5 = .ok (.ishl, 1) := by decide +kernel
theorem dX3_allPeels_6 : decode cX3_allPeels 6 = .ok (.iconst 1, 1) := by decide +kernel
theorem dX3_allPeels_7 : decode cX3_allPeels 7 = .ok (.isub, 1) := by decide +kernel
theorem dX3_allPeels_8 : decode cX3_allPeels 8 = .ok (.ireturn, 1) := by decide +kernel
theorem dX3_trait_0 : decode cX3_trait 0 = .ok (.aload_n 0, 1) := by decide +kernel
theorem dX3_trait_1 : decode cX3_trait 1 = .ok (.iload_n 1, 1) := by decide +kernel
theorem dX3_trait_2 : decode cX3_trait 2 = .ok (.invokevirtual 50, 3) := by decide +kernel
theorem dX3_trait_5 : decode cX3_trait 5 = .ok (.ifCond .ne 5, 3) := by decide +kernel
theorem dX3_trait_8 : decode cX3_trait 8 = .ok (.iconst (-1), 1) := by decide +kernel
theorem dX3_trait_9 : decode cX3_trait 9 = .ok (.ireturn, 1) := by decide +kernel
theorem dX3_trait_10 : decode cX3_trait 10 = .ok (.iload_n 2, 1) := by decide +kernel
theorem dX3_trait_11 : decode cX3_trait 11 = .ok (.tableswitch 95 0 6 #[41, 48, 55, 62, 69, 78, 85], 41) := by decide +kernel
theorem dX3_trait_52 : decode cX3_trait 52 = .ok (.aload_n 0, 1) := by decide +kernel
theorem dX3_trait_53 : decode cX3_trait 53 = .ok (.getfield 9, 3) := by decide +kernel
theorem dX3_trait_56 : decode cX3_trait 56 = .ok (.iload_n 1, 1) := by decide +kernel
theorem dX3_trait_57 : decode cX3_trait 57 = .ok (.iaload, 1) := by decide +kernel
theorem dX3_trait_58 : decode cX3_trait 58 = .ok (.ireturn, 1) := by decide +kernel
theorem dX3_trait_59 : decode cX3_trait 59 = .ok (.aload_n 0, 1) := by decide +kernel
theorem dX3_trait_60 : decode cX3_trait 60 = .ok (.getfield 15, 3) := by decide +kernel
theorem dX3_trait_63 : decode cX3_trait 63 = .ok (.iload_n 1, 1) := by decide +kernel
theorem dX3_trait_64 : decode cX3_trait 64 = .ok (.iaload, 1) := by decide +kernel
theorem dX3_trait_65 : decode cX3_trait 65 = .ok (.ireturn, 1) := by decide +kernel
theorem dX3_trait_66 : decode cX3_trait 66 = .ok (.aload_n 0, 1) := by decide +kernel
theorem dX3_trait_67 : decode cX3_trait 67 = .ok (.getfield 18, 3) := by decide +kernel
theorem dX3_trait_70 : decode cX3_trait 70 = .ok (.iload_n 1, 1) := by decide +kernel
theorem dX3_trait_71 : decode cX3_trait 71 = .ok (.iaload, 1) := by decide +kernel
theorem dX3_trait_72 : decode cX3_trait 72 = .ok (.ireturn, 1) := by decide +kernel
theorem dX3_trait_73 : decode cX3_trait 73 = .ok (.aload_n 0, 1) := by decide +kernel
theorem dX3_trait_74 : decode cX3_trait 74 = .ok (.getfield 21, 3) := by decide +kernel
theorem dX3_trait_77 : decode cX3_trait 77 = .ok (.iload_n 1, 1) := by decide +kernel
theorem dX3_trait_78 : decode cX3_trait 78 = .ok (.iaload, 1) := by decide +kernel
theorem dX3_trait_79 : decode cX3_trait 79 = .ok (.ireturn, 1) := by decide +kernel
theorem dX3_trait_80 : decode cX3_trait 80 = .ok (.aload_n 0, 1) := by decide +kernel
theorem dX3_trait_81 : decode cX3_trait 81 = .ok (.getfield 34, 3) := by decide +kernel
theorem dX3_trait_84 : decode cX3_trait 84 = .ok (.iload_n 1, 1) := by decide +kernel
theorem dX3_trait_85 : decode cX3_trait 85 = .ok (.invokestatic 54, 3) := by decide +kernel
theorem dX3_trait_88 : decode cX3_trait 88 = .ok (.ireturn, 1) := by decide +kernel
theorem dX3_trait_89 : decode cX3_trait 89 = .ok (.aload_n 0, 1) := by decide +kernel
theorem dX3_trait_90 : decode cX3_trait 90 = .ok (.getfield 24, 3) := by decide +kernel
theorem dX3_trait_93 : decode cX3_trait 93 = .ok (.iload_n 1, 1) := by decide +kernel
theorem dX3_trait_94 : decode cX3_trait 94 = .ok (.iaload, 1) := by decide +kernel
theorem dX3_trait_95 : decode cX3_trait 95 = .ok (.ireturn, 1) := by decide +kernel
theorem dX3_trait_96 : decode cX3_trait 96 = .ok (.aload_n 0, 1) := by decide +kernel
theorem dX3_trait_97 : decode cX3_trait 97 = .ok (.getfield 9, 3) := by decide +kernel
theorem dX3_trait_100 : decode cX3_trait 100 = .ok (.iload_n 1, 1) := by decide +kernel
theorem dX3_trait_101 : decode cX3_trait 101 = .ok (.iaload, 1) := by decide +kernel
theorem dX3_trait_102 : decode cX3_trait 102 = .ok (.invokestatic 58, 3) := by decide +kernel
theorem dX3_trait_105 : decode cX3_trait 105 = .ok (.ireturn, 1) := by decide +kernel
theorem dX3_trait_106 : decode cX3_trait 106 = .ok (.iconst (-1), 1) := by decide +kernel
theorem dX3_trait_107 : decode cX3_trait 107 = .ok (.ireturn, 1) := by decide +kernel
theorem dX3_weightBy_0 : decode cX3_weightBy 0 = .ok (.iload_n 0, 1) := by decide +kernel
theorem dX3_weightBy_1 : decode cX3_weightBy 1 = .ok (.tableswitch 37 2 5 #[31, 35, 37, 33], 31) := by decide +kernel
theorem dX3_weightBy_32 : decode cX3_weightBy 32 = .ok (.iconst 3, 1) := by decide +kernel
theorem dX3_weightBy_33 : decode cX3_weightBy 33 = .ok (.ireturn, 1) := by decide +kernel
theorem dX3_weightBy_34 : decode cX3_weightBy 34 = .ok (.iconst 3, 1) := by decide +kernel
theorem dX3_weightBy_35 : decode cX3_weightBy 35 = .ok (.ireturn, 1) := by decide +kernel
theorem dX3_weightBy_36 : decode cX3_weightBy 36 = .ok (.iconst 2, 1) := by decide +kernel
theorem dX3_weightBy_37 : decode cX3_weightBy 37 = .ok (.ireturn, 1) := by decide +kernel
theorem dX3_weightBy_38 : decode cX3_weightBy 38 = .ok (.iconst 1, 1) := by decide +kernel
theorem dX3_weightBy_39 : decode cX3_weightBy 39 = .ok (.ireturn, 1) := by decide +kernel
theorem dX3_isOf_0 : decode cX3_isOf 0 = .ok (.aload_n 0, 1) := by decide +kernel
theorem dX3_isOf_1 : decode cX3_isOf 1 = .ok (.iload_n 1, 1) := by decide +kernel
theorem dX3_isOf_2 : decode cX3_isOf 2 = .ok (.invokevirtual 50, 3) := by decide +kernel
theorem dX3_isOf_5 : decode cX3_isOf 5 = .ok (.ifCond .eq 12, 3) := by decide +kernel
theorem dX3_isOf_8 : decode cX3_isOf 8 = .ok (.aload_n 0, 1) := by decide +kernel
theorem dX3_isOf_9 : decode cX3_isOf 9 = .ok (.getfield 9, 3) := by decide +kernel
theorem dX3_isOf_12 : decode cX3_isOf 12 = .ok (.iload_n 1, 1) := by decide +kernel
theorem dX3_isOf_13 : decode cX3_isOf 13 = .ok (.iaload, 1) := by decide +kernel
theorem dX3_isOf_14 : decode cX3_isOf 14 = .ok (.goto 5, 3) := by decide +kernel
theorem dX3_isOf_17 : decode cX3_isOf 17 = .ok (.bipush (-9), 2) := by decide +kernel
theorem dX3_isOf_19 : decode cX3_isOf 19 = .ok (.istore_n 3, 1) := by decide +kernel
theorem dX3_isOf_20 : decode cX3_isOf 20 = .ok (.iload_n 3, 1) := by decide +kernel
theorem dX3_isOf_21 : decode cX3_isOf 21 = .ok (.iload_n 2, 1) := by decide +kernel
theorem dX3_isOf_22 : decode cX3_isOf 22 = .ok (.if_icmp .eq 23, 3) := by decide +kernel
theorem dX3_isOf_25 : decode cX3_isOf 25 = .ok (.iload_n 3, 1) := by decide +kernel
theorem dX3_isOf_26 : decode cX3_isOf 26 = .ok (.iconst 4, 1) := by decide +kernel
theorem dX3_isOf_27 : decode cX3_isOf 27 = .ok (.if_icmp .ne 8, 3) := by decide +kernel
theorem dX3_isOf_30 : decode cX3_isOf 30 = .ok (.iload_n 2, 1) := by decide +kernel
theorem dX3_isOf_31 : decode cX3_isOf 31 = .ok (.iconst 1, 1) := by decide +kernel
theorem dX3_isOf_32 : decode cX3_isOf 32 = .ok (.if_icmp .eq 13, 3) := by decide +kernel
theorem dX3_isOf_35 : decode cX3_isOf 35 = .ok (.iload_n 3, 1) := by decide +kernel
theorem dX3_isOf_36 : decode cX3_isOf 36 = .ok (.iconst 5, 1) := by decide +kernel
theorem dX3_isOf_37 : decode cX3_isOf 37 = .ok (.if_icmp .ne 12, 3) := by decide +kernel
theorem dX3_isOf_40 : decode cX3_isOf 40 = .ok (.iload_n 2, 1) := by decide +kernel
theorem dX3_isOf_41 : decode cX3_isOf 41 = .ok (.iconst 2, 1) := by decide +kernel
theorem dX3_isOf_42 : decode cX3_isOf 42 = .ok (.if_icmp .ne 7, 3) := by decide +kernel
theorem dX3_isOf_45 : decode cX3_isOf 45 = .ok (.iconst 1, 1) := by decide +kernel
theorem dX3_isOf_46 : decode cX3_isOf 46 = .ok (.goto 4, 3) := by decide +kernel
theorem dX3_isOf_49 : decode cX3_isOf 49 = .ok (.iconst 0, 1) := by decide +kernel
theorem dX3_isOf_50 : decode cX3_isOf 50 = .ok (.ireturn, 1) := by decide +kernel
theorem dX3_amountOf_0 : decode cX3_amountOf 0 = .ok (.iconst 0, 1) := by decide +kernel
theorem dX3_amountOf_1 : decode cX3_amountOf 1 = .ok (.istore_n 2, 1) := by decide +kernel
theorem dX3_amountOf_2 : decode cX3_amountOf 2 = .ok (.iconst 0, 1) := by decide +kernel
theorem dX3_amountOf_3 : decode cX3_amountOf 3 = .ok (.istore_n 3, 1) := by decide +kernel
theorem dX3_amountOf_4 : decode cX3_amountOf 4 = .ok (.iload_n 3, 1) := by decide +kernel
theorem dX3_amountOf_5 : decode cX3_amountOf 5 = .ok (.aload_n 0, 1) := by decide +kernel
theorem dX3_amountOf_6 : decode cX3_amountOf 6 = .ok (.getfield 27, 3) := by decide +kernel
theorem dX3_amountOf_9 : decode cX3_amountOf 9 = .ok (.if_icmp .ge 21, 3) := by decide +kernel
theorem dX3_amountOf_12 : decode cX3_amountOf 12 = .ok (.aload_n 0, 1) := by decide +kernel
theorem dX3_amountOf_13 : decode cX3_amountOf 13 = .ok (.iload_n 3, 1) := by decide +kernel
theorem dX3_amountOf_14 : decode cX3_amountOf 14 = .ok (.iload_n 1, 1) := by decide +kernel
theorem dX3_amountOf_15 : decode cX3_amountOf 15 = .ok (.invokevirtual 62, 3) := by decide +kernel
theorem dX3_amountOf_18 : decode cX3_amountOf 18 = .ok (.ifCond .eq 6, 3) := by decide +kernel
theorem dX3_amountOf_21 : decode cX3_amountOf 21 = .ok (.iinc 2 1, 3) := by decide +kernel
theorem dX3_amountOf_24 : decode cX3_amountOf 24 = .ok (.iinc 3 1, 3) := by decide +kernel
theorem dX3_amountOf_27 : decode cX3_amountOf 27 = .ok (.goto (-23), 3) := by decide +kernel
theorem dX3_amountOf_30 : decode cX3_amountOf 30 = .ok (.iload_n 2, 1) := by decide +kernel
theorem dX3_amountOf_31 : decode cX3_amountOf 31 = .ok (.ireturn, 1) := by decide +kernel
theorem dX3_amountOfWeight_0 : decode cX3_amountOfWeight 0 = .ok (.iconst 0, 1) := by decide +kernel
theorem dX3_amountOfWeight_1 : decode cX3_amountOfWeight 1 = .ok (.istore_n 2, 1) := by decide +kernel
theorem dX3_amountOfWeight_2 : decode cX3_amountOfWeight 2 = .ok (.iconst 0, 1) := by decide +kernel
theorem dX3_amountOfWeight_3 : decode cX3_amountOfWeight 3 = .ok (.istore_n 3, 1) := by decide +kernel
theorem dX3_amountOfWeight_4 : decode cX3_amountOfWeight 4 = .ok (.iload_n 3, 1) := by decide +kernel
theorem dX3_amountOfWeight_5 : decode cX3_amountOfWeight 5 = .ok (.aload_n 0, 1) := by decide +kernel
theorem dX3_amountOfWeight_6 : decode cX3_amountOfWeight 6 = .ok (.getfield 27, 3) := by decide +kernel
theorem dX3_amountOfWeight_9 : decode cX3_amountOfWeight 9 = .ok (.if_icmp .ge 31, 3) := by decide +kernel
theorem dX3_amountOfWeight_12 : decode cX3_amountOfWeight 12 = .ok (.iload_n 3, 1) := by decide +kernel
theorem dX3_amountOfWeight_13 : decode cX3_amountOfWeight 13 = .ok (.bipush 6, 2) := by decide +kernel
theorem dX3_amountOfWeight_15 : decode cX3_amountOfWeight 15 = .ok (.if_icmp .ge 25, 3) := by decide +kernel
theorem dX3_amountOfWeight_18 : decode cX3_amountOfWeight 18 = .ok (.aload_n 0, 1) := by decide +kernel
theorem dX3_amountOfWeight_19 : decode cX3_amountOfWeight 19 = .ok (.getfield 9, 3) := by decide +kernel
theorem dX3_amountOfWeight_22 : decode cX3_amountOfWeight 22 = .ok (.iload_n 3, 1) := by decide +kernel
theorem dX3_amountOfWeight_23 : decode cX3_amountOfWeight 23 = .ok (.iaload, 1) := by decide +kernel
theorem dX3_amountOfWeight_24 : decode cX3_amountOfWeight 24 = .ok (.invokestatic 58, 3) := by decide +kernel
theorem dX3_amountOfWeight_27 : decode cX3_amountOfWeight 27 = .ok (.iload_n 1, 1) := by decide +kernel
theorem dX3_amountOfWeight_28 : decode cX3_amountOfWeight 28 = .ok (.if_icmp .ne 6, 3) := by decide +kernel
theorem dX3_amountOfWeight_31 : decode cX3_amountOfWeight 31 = .ok (.iinc 2 1, 3) := by decide +kernel
theorem dX3_amountOfWeight_34 : decode cX3_amountOfWeight 34 = .ok (.iinc 3 1, 3) := by decide +kernel
theorem dX3_amountOfWeight_37 : decode cX3_amountOfWeight 37 = .ok (.goto (-33), 3) := by decide +kernel
theorem dX3_amountOfWeight_40 : decode cX3_amountOfWeight 40 = .ok (.iload_n 2, 1) := by decide +kernel
theorem dX3_amountOfWeight_41 : decode cX3_amountOfWeight 41 = .ok (.ireturn, 1) := by decide +kernel
theorem dX3_tells_0 : decode cX3_tells 0 = .ok (.aload_n 0, 1) := by decide +kernel
theorem dX3_tells_1 : decode cX3_tells 1 = .ok (.iload_n 1, 1) := by decide +kernel
theorem dX3_tells_2 : decode cX3_tells 2 = .ok (.invokevirtual 50, 3) := by decide +kernel
theorem dX3_tells_5 : decode cX3_tells 5 = .ok (.ifCond .ne 5, 3) := by decide +kernel
theorem dX3_tells_8 : decode cX3_tells 8 = .ok (.iconst (-1), 1) := by decide +kernel
theorem dX3_tells_9 : decode cX3_tells 9 = .ok (.ireturn, 1) := by decide +kernel
theorem dX3_tells_10 : decode cX3_tells 10 = .ok (.aload_n 0, 1) := by decide +kernel
theorem dX3_tells_11 : decode cX3_tells 11 = .ok (.getfield 24, 3) := by decide +kernel
theorem dX3_tells_14 : decode cX3_tells 14 = .ok (.iload_n 1, 1) := by decide +kernel
theorem dX3_tells_15 : decode cX3_tells 15 = .ok (.iaload, 1) := by decide +kernel
theorem dX3_tells_16 : decode cX3_tells 16 = .ok (.istore_n 3, 1) := by decide +kernel
theorem dX3_tells_17 : decode cX3_tells 17 = .ok (.iload_n 2, 1) := by decide +kernel
theorem dX3_tells_18 : decode cX3_tells 18 = .ok (.tableswitch 105 1 5 #[34, 48, 62, 76, 90], 34) := by decide +kernel
theorem dX3_tells_52 : decode cX3_tells 52 = .ok (.aload_n 0, 1) := by decide +kernel
theorem dX3_tells_53 : decode cX3_tells 53 = .ok (.iconst 0, 1) := by decide +kernel
theorem dX3_tells_54 : decode cX3_tells 54 = .ok (.iload_n 1, 1) := by decide +kernel
theorem dX3_tells_55 : decode cX3_tells 55 = .ok (.invokevirtual 66, 3) := by decide +kernel
theorem dX3_tells_58 : decode cX3_tells 58 = .ok (.iload_n 3, 1) := by decide +kernel
theorem dX3_tells_59 : decode cX3_tells 59 = .ok (.iconst (-1), 1) := by decide +kernel
theorem dX3_tells_60 : decode cX3_tells 60 = .ok (.ixor, 1) := by decide +kernel
theorem dX3_tells_61 : decode cX3_tells 61 = .ok (.iand, 1) := by decide +kernel
theorem dX3_tells_62 : decode cX3_tells 62 = .ok (.invokestatic 69, 3) := by decide +kernel
theorem dX3_tells_65 : decode cX3_tells 65 = .ok (.ireturn, 1) := by decide +kernel
theorem dX3_tells_66 : decode cX3_tells 66 = .ok (.aload_n 0, 1) := by decide +kernel
theorem dX3_tells_67 : decode cX3_tells 67 = .ok (.aload_n 0, 1) := by decide +kernel
theorem dX3_tells_68 : decode cX3_tells 68 = .ok (.getfield 9, 3) := by decide +kernel
theorem dX3_tells_71 : decode cX3_tells 71 = .ok (.iload_n 1, 1) := by decide +kernel
theorem dX3_tells_72 : decode cX3_tells 72 = .ok (.iaload, 1) := by decide +kernel
theorem dX3_tells_73 : decode cX3_tells 73 = .ok (.invokestatic 58, 3) := by decide +kernel
theorem dX3_tells_76 : decode cX3_tells 76 = .ok (.invokevirtual 74, 3) := by decide +kernel
theorem dX3_tells_79 : decode cX3_tells 79 = .ok (.ireturn, 1) := by decide +kernel
theorem dX3_tells_80 : decode cX3_tells 80 = .ok (.iload_n 3, 1) := by decide +kernel
theorem dX3_tells_81 : decode cX3_tells 81 = .ok (.aload_n 0, 1) := by decide +kernel
theorem dX3_tells_82 : decode cX3_tells 82 = .ok (.iconst 0, 1) := by decide +kernel
theorem dX3_tells_83 : decode cX3_tells 83 = .ok (.iload_n 1, 1) := by decide +kernel
theorem dX3_tells_84 : decode cX3_tells 84 = .ok (.invokevirtual 66, 3) := by decide +kernel
theorem dX3_tells_87 : decode cX3_tells 87 = .ok (.iconst (-1), 1) := by decide +kernel
theorem dX3_tells_88 : decode cX3_tells 88 = .ok (.ixor, 1) := by decide +kernel
theorem dX3_tells_89 : decode cX3_tells 89 = .ok (.iand, 1) := by decide +kernel
theorem dX3_tells_90 : decode cX3_tells 90 = .ok (.invokestatic 69, 3) := by decide +kernel
theorem dX3_tells_93 : decode cX3_tells 93 = .ok (.ireturn, 1) := by decide +kernel
theorem dX3_tells_94 : decode cX3_tells 94 = .ok (.iload_n 3, 1) := by decide +kernel
theorem dX3_tells_95 : decode cX3_tells 95 = .ok (.aload_n 0, 1) := by decide +kernel
theorem dX3_tells_96 : decode cX3_tells 96 = .ok (.iconst 1, 1) := by decide +kernel
theorem dX3_tells_97 : decode cX3_tells 97 = .ok (.iload_n 1, 1) := by decide +kernel
theorem dX3_tells_98 : decode cX3_tells 98 = .ok (.invokevirtual 66, 3) := by decide +kernel
theorem dX3_tells_101 : decode cX3_tells 101 = .ok (.iconst (-1), 1) := by decide +kernel
theorem dX3_tells_102 : decode cX3_tells 102 = .ok (.ixor, 1) := by decide +kernel
theorem dX3_tells_103 : decode cX3_tells 103 = .ok (.iand, 1) := by decide +kernel
theorem dX3_tells_104 : decode cX3_tells 104 = .ok (.invokestatic 69, 3) := by decide +kernel
theorem dX3_tells_107 : decode cX3_tells 107 = .ok (.ireturn, 1) := by decide +kernel
theorem dX3_tells_108 : decode cX3_tells 108 = .ok (.aload_n 0, 1) := by decide +kernel
theorem dX3_tells_109 : decode cX3_tells 109 = .ok (.iconst 2, 1) := by decide +kernel
theorem dX3_tells_110 : decode cX3_tells 110 = .ok (.iload_n 1, 1) := by decide +kernel
theorem dX3_tells_111 : decode cX3_tells 111 = .ok (.invokevirtual 66, 3) := by decide +kernel
theorem dX3_tells_114 : decode cX3_tells 114 = .ok (.invokestatic 69, 3) := by decide +kernel
theorem dX3_tells_117 : decode cX3_tells 117 = .ok (.iload_n 3, 1) := by decide +kernel
theorem dX3_tells_118 : decode cX3_tells 118 = .ok (.invokestatic 69, 3) := by decide +kernel
theorem dX3_tells_121 : decode cX3_tells 121 = .ok (.isub, 1) := by decide +kernel
theorem dX3_tells_122 : decode cX3_tells 122 = .ok (.ireturn, 1) := by decide +kernel
theorem dX3_tells_123 : decode cX3_tells 123 = .ok (.iconst (-1), 1) := by decide +kernel
theorem dX3_tells_124 : decode cX3_tells 124 = .ok (.ireturn, 1) := by decide +kernel
theorem dX3_reach_0 : decode cX3_reach 0 = .ok (.iload_n 2, 1) := by decide +kernel
theorem dX3_reach_1 : decode cX3_reach 1 = .ok (.iconst 1, 1) := by decide +kernel
theorem dX3_reach_2 : decode cX3_reach 2 = .ok (.if_icmp .ne 35, 3) := by decide +kernel
theorem dX3_reach_5 : decode cX3_reach 5 = .ok (.iload_n 1, 1) := by decide +kernel
theorem dX3_reach_6 : decode cX3_reach 6 = .ok (.iconst 1, 1) := by decide +kernel
theorem dX3_reach_7 : decode cX3_reach 7 = .ok (.iand, 1) := by decide +kernel
theorem dX3_reach_8 : decode cX3_reach 8 = .ok (.iload_n 1, 1) := by decide +kernel
theorem dX3_reach_9 : decode cX3_reach 9 = .ok (.iconst 2, 1) := by decide +kernel
theorem dX3_reach_10 : decode cX3_reach 10 = .ok (.iand, 1) := by decide +kernel
theorem dX3_reach_11 : decode cX3_reach 11 = .ok (.iconst 3, 1) := by decide +kernel
theorem dX3_reach_12 : decode cX3_reach 12 = .ok (.ishl, 1) := by decide +kernel
theorem dX3_reach_13 : decode cX3_reach 13 = .ok (.ior, 1) := by decide +kernel
theorem dX3_reach_14 : decode cX3_reach 14 = .ok (.iload_n 1, 1) := by decide +kernel
theorem dX3_reach_15 : decode cX3_reach 15 = .ok (.iconst 4, 1) := by decide +kernel
theorem dX3_reach_16 : decode cX3_reach 16 = .ok (.iand, 1) := by decide +kernel
theorem dX3_reach_17 : decode cX3_reach 17 = .ok (.bipush 6, 2) := by decide +kernel
theorem dX3_reach_19 : decode cX3_reach 19 = .ok (.ishl, 1) := by decide +kernel
theorem dX3_reach_20 : decode cX3_reach 20 = .ok (.ior, 1) := by decide +kernel
theorem dX3_reach_21 : decode cX3_reach 21 = .ok (.iload_n 1, 1) := by decide +kernel
theorem dX3_reach_22 : decode cX3_reach 22 = .ok (.bipush 8, 2) := by decide +kernel
theorem dX3_reach_24 : decode cX3_reach 24 = .ok (.iand, 1) := by decide +kernel
theorem dX3_reach_25 : decode cX3_reach 25 = .ok (.bipush 9, 2) := by decide +kernel
theorem dX3_reach_27 : decode cX3_reach 27 = .ok (.ishl, 1) := by decide +kernel
theorem dX3_reach_28 : decode cX3_reach 28 = .ok (.ior, 1) := by decide +kernel
theorem dX3_reach_29 : decode cX3_reach 29 = .ok (.istore_n 3, 1) := by decide +kernel
theorem dX3_reach_30 : decode cX3_reach 30 = .ok (.iload_n 3, 1) := by decide +kernel
theorem dX3_reach_31 : decode cX3_reach 31 = .ok (.iload_n 0, 1) := by decide +kernel
theorem dX3_reach_32 : decode cX3_reach 32 = .ok (.ishl, 1) := by decide +kernel
theorem dX3_reach_33 : decode cX3_reach 33 = .ok (.ldc 77, 2) := by decide +kernel
theorem dX3_reach_35 : decode cX3_reach 35 = .ok (.iand, 1) := by decide +kernel
theorem dX3_reach_36 : decode cX3_reach 36 = .ok (.ireturn, 1) := by decide +kernel
theorem dX3_reach_37 : decode cX3_reach 37 = .ok (.iload_n 1, 1) := by decide +kernel
theorem dX3_reach_38 : decode cX3_reach 38 = .ok (.iload_n 0, 1) := by decide +kernel
theorem dX3_reach_39 : decode cX3_reach 39 = .ok (.iconst 4, 1) := by decide +kernel
theorem dX3_reach_40 : decode cX3_reach 40 = .ok (.irem, 1) := by decide +kernel
theorem dX3_reach_41 : decode cX3_reach 41 = .ok (.ishl, 1) := by decide +kernel
theorem dX3_reach_42 : decode cX3_reach 42 = .ok (.bipush 15, 2) := by decide +kernel
theorem dX3_reach_44 : decode cX3_reach 44 = .ok (.iand, 1) := by decide +kernel
theorem dX3_reach_45 : decode cX3_reach 45 = .ok (.iload_n 0, 1) := by decide +kernel
theorem dX3_reach_46 : decode cX3_reach 46 = .ok (.iconst 4, 1) := by decide +kernel
theorem dX3_reach_47 : decode cX3_reach 47 = .ok (.idiv, 1) := by decide +kernel
theorem dX3_reach_48 : decode cX3_reach 48 = .ok (.iconst 4, 1) := by decide +kernel
theorem dX3_reach_49 : decode cX3_reach 49 = .ok (.imul, 1) := by decide +kernel
theorem dX3_reach_50 : decode cX3_reach 50 = .ok (.ishl, 1) := by decide +kernel
theorem dX3_reach_51 : decode cX3_reach 51 = .ok (.ireturn, 1) := by decide +kernel
theorem dX3_coverBy_0 : decode cX3_coverBy 0 = .ok (.iconst 1, 1) := by decide +kernel
theorem dX3_coverBy_1 : decode cX3_coverBy 1 = .ok (.iload_n 2, 1) := by decide +kernel
theorem dX3_coverBy_2 : decode cX3_coverBy 2 = .ok (.ishl, 1) := by decide +kernel
theorem dX3_coverBy_3 : decode cX3_coverBy 3 = .ok (.iconst 1, 1) := by decide +kernel
theorem dX3_coverBy_4 : decode cX3_coverBy 4 = .ok (.isub, 1) := by decide +kernel
theorem dX3_coverBy_5 : decode cX3_coverBy 5 = .ok (.istore 4, 2) := by decide +kernel
theorem dX3_coverBy_7 : decode cX3_coverBy 7 = .ok (.iload 4, 2) := by decide +kernel
theorem dX3_coverBy_9 : decode cX3_coverBy 9 = .ok (.iconst 5, 1) := by decide +kernel
theorem dX3_coverBy_10 : decode cX3_coverBy 10 = .ok (.iand, 1) := by decide +kernel
theorem dX3_coverBy_11 : decode cX3_coverBy 11 = .ok (.istore 5, 2) := by decide +kernel
theorem dX3_coverBy_13 : decode cX3_coverBy 13 = .ok (.iload_n 0, 1) := by decide +kernel
theorem dX3_coverBy_14 : decode cX3_coverBy 14 = .ok (.tableswitch 98 1 5 #[34, 42, 61, 78, 94], 34) := by decide +kernel
theorem dX3_coverBy_48 : decode cX3_coverBy 48 = .ok (.iload_n 1, 1) := by decide +kernel
theorem dX3_coverBy_49 : decode cX3_coverBy 49 = .ok (.iload 5, 2) := by decide +kernel
theorem dX3_coverBy_51 : decode cX3_coverBy 51 = .ok (.iload_n 3, 1) := by decide +kernel
theorem dX3_coverBy_52 : decode cX3_coverBy 52 = .ok (.invokestatic 78, 3) := by decide +kernel
theorem dX3_coverBy_55 : decode cX3_coverBy 55 = .ok (.ireturn, 1) := by decide +kernel
theorem dX3_coverBy_56 : decode cX3_coverBy 56 = .ok (.iload_n 1, 1) := by decide +kernel
theorem dX3_coverBy_57 : decode cX3_coverBy 57 = .ok (.iconst 3, 1) := by decide +kernel
theorem dX3_coverBy_58 : decode cX3_coverBy 58 = .ok (.iconst 0, 1) := by decide +kernel
theorem dX3_coverBy_59 : decode cX3_coverBy 59 = .ok (.invokestatic 78, 3) := by decide +kernel
theorem dX3_coverBy_62 : decode cX3_coverBy 62 = .ok (.iload_n 1, 1) := by decide +kernel
theorem dX3_coverBy_63 : decode cX3_coverBy 63 = .ok (.iconst 3, 1) := by decide +kernel
theorem dX3_coverBy_64 : decode cX3_coverBy 64 = .ok (.iconst 0, 1) := by decide +kernel
theorem dX3_coverBy_65 : decode cX3_coverBy 65 = .ok (.invokestatic 78, 3) := by decide +kernel
theorem dX3_coverBy_68 : decode cX3_coverBy 68 = .ok (.iconst 4, 1) := by decide +kernel
theorem dX3_coverBy_69 : decode cX3_coverBy 69 = .ok (.ishl, 1) := by decide +kernel
theorem dX3_coverBy_70 : decode cX3_coverBy 70 = .ok (.ior, 1) := by decide +kernel
theorem dX3_coverBy_71 : decode cX3_coverBy 71 = .ok (.ldc 77, 2) := by decide +kernel
theorem dX3_coverBy_73 : decode cX3_coverBy 73 = .ok (.iand, 1) := by decide +kernel
theorem dX3_coverBy_74 : decode cX3_coverBy 74 = .ok (.ireturn, 1) := by decide +kernel
theorem dX3_coverBy_75 : decode cX3_coverBy 75 = .ok (.iload_n 1, 1) := by decide +kernel
theorem dX3_coverBy_76 : decode cX3_coverBy 76 = .ok (.iload 4, 2) := by decide +kernel
theorem dX3_coverBy_78 : decode cX3_coverBy 78 = .ok (.iload_n 3, 1) := by decide +kernel
theorem dX3_coverBy_79 : decode cX3_coverBy 79 = .ok (.invokestatic 78, 3) := by decide +kernel
theorem dX3_coverBy_82 : decode cX3_coverBy 82 = .ok (.iload_n 1, 1) := by decide +kernel
theorem dX3_coverBy_83 : decode cX3_coverBy 83 = .ok (.iconst 3, 1) := by decide +kernel
theorem dX3_coverBy_84 : decode cX3_coverBy 84 = .ok (.iconst 1, 1) := by decide +kernel
theorem dX3_coverBy_85 : decode cX3_coverBy 85 = .ok (.iload_n 3, 1) := by decide +kernel
theorem dX3_coverBy_86 : decode cX3_coverBy 86 = .ok (.isub, 1) := by decide +kernel
theorem dX3_coverBy_87 : decode cX3_coverBy 87 = .ok (.invokestatic 78, 3) := by decide +kernel
theorem dX3_coverBy_90 : decode cX3_coverBy 90 = .ok (.ior, 1) := by decide +kernel
theorem dX3_coverBy_91 : decode cX3_coverBy 91 = .ok (.ireturn, 1) := by decide +kernel
theorem dX3_coverBy_92 : decode cX3_coverBy 92 = .ok (.iload_n 1, 1) := by decide +kernel
theorem dX3_coverBy_93 : decode cX3_coverBy 93 = .ok (.iload 5, 2) := by decide +kernel
theorem dX3_coverBy_95 : decode cX3_coverBy 95 = .ok (.iconst 0, 1) := by decide +kernel
theorem dX3_coverBy_96 : decode cX3_coverBy 96 = .ok (.invokestatic 78, 3) := by decide +kernel
theorem dX3_coverBy_99 : decode cX3_coverBy 99 = .ok (.iload_n 1, 1) := by decide +kernel
theorem dX3_coverBy_100 : decode cX3_coverBy 100 = .ok (.iload 5, 2) := by decide +kernel
theorem dX3_coverBy_102 : decode cX3_coverBy 102 = .ok (.iconst 1, 1) := by decide +kernel
theorem dX3_coverBy_103 : decode cX3_coverBy 103 = .ok (.invokestatic 78, 3) := by decide +kernel
theorem dX3_coverBy_106 : decode cX3_coverBy 106 = .ok (.ior, 1) := by decide +kernel
theorem dX3_coverBy_107 : decode cX3_coverBy 107 = .ok (.ireturn, 1) := by decide +kernel
theorem dX3_coverBy_108 : decode cX3_coverBy 108 = .ok (.iconst 1, 1) := by decide +kernel
theorem dX3_coverBy_109 : decode cX3_coverBy 109 = .ok (.iload_n 1, 1) := by decide +kernel
theorem dX3_coverBy_110 : decode cX3_coverBy 110 = .ok (.ishl, 1) := by decide +kernel
theorem dX3_coverBy_111 : decode cX3_coverBy 111 = .ok (.ireturn, 1) := by decide +kernel
theorem dX3_coverBy_112 : decode cX3_coverBy 112 = .ok (.iload_n 1, 1) := by decide +kernel
theorem dX3_coverBy_113 : decode cX3_coverBy 113 = .ok (.iload 4, 2) := by decide +kernel
theorem dX3_coverBy_115 : decode cX3_coverBy 115 = .ok (.iload_n 3, 1) := by decide +kernel
theorem dX3_coverBy_116 : decode cX3_coverBy 116 = .ok (.invokestatic 78, 3) := by decide +kernel
theorem dX3_coverBy_119 : decode cX3_coverBy 119 = .ok (.ireturn, 1) := by decide +kernel
theorem dX3_coverAs_0 : decode cX3_coverAs 0 = .ok (.aload_n 0, 1) := by decide +kernel
theorem dX3_coverAs_1 : decode cX3_coverAs 1 = .ok (.iload_n 2, 1) := by decide +kernel
theorem dX3_coverAs_2 : decode cX3_coverAs 2 = .ok (.invokevirtual 50, 3) := by decide +kernel
theorem dX3_coverAs_5 : decode cX3_coverAs 5 = .ok (.ifCond .eq 28, 3) := by decide +kernel
theorem dX3_coverAs_8 : decode cX3_coverAs 8 = .ok (.iload_n 1, 1) := by decide +kernel
theorem dX3_coverAs_9 : decode cX3_coverAs 9 = .ok (.aload_n 0, 1) := by decide +kernel
theorem dX3_coverAs_10 : decode cX3_coverAs 10 = .ok (.getfield 15, 3) := by decide +kernel
theorem dX3_coverAs_13 : decode cX3_coverAs 13 = .ok (.iload_n 2, 1) := by decide +kernel
theorem dX3_coverAs_14 : decode cX3_coverAs 14 = .ok (.iaload, 1) := by decide +kernel
theorem dX3_coverAs_15 : decode cX3_coverAs 15 = .ok (.aload_n 0, 1) := by decide +kernel
theorem dX3_coverAs_16 : decode cX3_coverAs 16 = .ok (.getfield 18, 3) := by decide +kernel
theorem dX3_coverAs_19 : decode cX3_coverAs 19 = .ok (.iload_n 2, 1) := by decide +kernel
theorem dX3_coverAs_20 : decode cX3_coverAs 20 = .ok (.iaload, 1) := by decide +kernel
theorem dX3_coverAs_21 : decode cX3_coverAs 21 = .ok (.aload_n 0, 1) := by decide +kernel
theorem dX3_coverAs_22 : decode cX3_coverAs 22 = .ok (.getfield 21, 3) := by decide +kernel
theorem dX3_coverAs_25 : decode cX3_coverAs 25 = .ok (.iload_n 2, 1) := by decide +kernel
theorem dX3_coverAs_26 : decode cX3_coverAs 26 = .ok (.iaload, 1) := by decide +kernel
theorem dX3_coverAs_27 : decode cX3_coverAs 27 = .ok (.invokestatic 82, 3) := by decide +kernel
theorem dX3_coverAs_30 : decode cX3_coverAs 30 = .ok (.goto 4, 3) := by decide +kernel
theorem dX3_coverAs_33 : decode cX3_coverAs 33 = .ok (.iconst 0, 1) := by decide +kernel
theorem dX3_coverAs_34 : decode cX3_coverAs 34 = .ok (.ireturn, 1) := by decide +kernel
theorem dX3_coverAt_0 : decode cX3_coverAt 0 = .ok (.aload_n 0, 1) := by decide +kernel
theorem dX3_coverAt_1 : decode cX3_coverAt 1 = .ok (.iload_n 1, 1) := by decide +kernel
theorem dX3_coverAt_2 : decode cX3_coverAt 2 = .ok (.invokevirtual 50, 3) := by decide +kernel
theorem dX3_coverAt_5 : decode cX3_coverAt 5 = .ok (.ifCond .eq 23, 3) := by decide +kernel
theorem dX3_coverAt_8 : decode cX3_coverAt 8 = .ok (.aload_n 0, 1) := by decide +kernel
theorem dX3_coverAt_9 : decode cX3_coverAt 9 = .ok (.getfield 9, 3) := by decide +kernel
theorem dX3_coverAt_12 : decode cX3_coverAt 12 = .ok (.iload_n 1, 1) := by decide +kernel
theorem dX3_coverAt_13 : decode cX3_coverAt 13 = .ok (.iaload, 1) := by decide +kernel
theorem dX3_coverAt_14 : decode cX3_coverAt 14 = .ok (.iload_n 2, 1) := by decide +kernel
theorem dX3_coverAt_15 : decode cX3_coverAt 15 = .ok (.aload_n 0, 1) := by decide +kernel
theorem dX3_coverAt_16 : decode cX3_coverAt 16 = .ok (.getfield 18, 3) := by decide +kernel
theorem dX3_coverAt_19 : decode cX3_coverAt 19 = .ok (.iload_n 1, 1) := by decide +kernel
theorem dX3_coverAt_20 : decode cX3_coverAt 20 = .ok (.iaload, 1) := by decide +kernel
theorem dX3_coverAt_21 : decode cX3_coverAt 21 = .ok (.iload_n 3, 1) := by decide +kernel
theorem dX3_coverAt_22 : decode cX3_coverAt 22 = .ok (.invokestatic 82, 3) := by decide +kernel
theorem dX3_coverAt_25 : decode cX3_coverAt 25 = .ok (.goto 4, 3) := by decide +kernel
theorem dX3_coverAt_28 : decode cX3_coverAt 28 = .ok (.iconst 0, 1) := by decide +kernel
theorem dX3_coverAt_29 : decode cX3_coverAt 29 = .ok (.ireturn, 1) := by decide +kernel
theorem dX3_coverOfAllBut_0 : decode cX3_coverOfAllBut 0 = .ok (.iconst 0, 1) := by decide +kernel
theorem dX3_coverOfAllBut_1 : decode cX3_coverOfAllBut 1 = .ok (.istore_n 3, 1) := by decide +kernel
theorem dX3_coverOfAllBut_2 : decode cX3_coverOfAllBut 2 = .ok (.iconst 0, 1) := by decide +kernel
theorem dX3_coverOfAllBut_3 : decode cX3_coverOfAllBut 3 = .ok (.istore 4, 2) := by decide +kernel
theorem dX3_coverOfAllBut_5 : decode cX3_coverOfAllBut 5 = .ok (.iload 4, 2) := by decide +kernel
theorem dX3_coverOfAllBut_7 : decode cX3_coverOfAllBut 7 = .ok (.aload_n 0, 1) := by decide +kernel
theorem dX3_coverOfAllBut_8 : decode cX3_coverOfAllBut 8 = .ok (.getfield 27, 3) := by decide +kernel
theorem dX3_coverOfAllBut_11 : decode cX3_coverOfAllBut 11 = .ok (.if_icmp .ge 47, 3) := by decide +kernel
theorem dX3_coverOfAllBut_14 : decode cX3_coverOfAllBut 14 = .ok (.iload 4, 2) := by decide +kernel
theorem dX3_coverOfAllBut_16 : decode cX3_coverOfAllBut 16 = .ok (.bipush 6, 2) := by decide +kernel
theorem dX3_coverOfAllBut_18 : decode cX3_coverOfAllBut 18 = .ok (.if_icmp .ge 40, 3) := by decide +kernel
theorem dX3_coverOfAllBut_21 : decode cX3_coverOfAllBut 21 = .ok (.iload 4, 2) := by decide +kernel
theorem dX3_coverOfAllBut_23 : decode cX3_coverOfAllBut 23 = .ok (.iload_n 1, 1) := by decide +kernel
theorem dX3_coverOfAllBut_24 : decode cX3_coverOfAllBut 24 = .ok (.if_icmp .eq 28, 3) := by decide +kernel
theorem dX3_coverOfAllBut_27 : decode cX3_coverOfAllBut 27 = .ok (.iload 4, 2) := by decide +kernel
theorem dX3_coverOfAllBut_29 : decode cX3_coverOfAllBut 29 = .ok (.iload_n 2, 1) := by decide +kernel
theorem dX3_coverOfAllBut_30 : decode cX3_coverOfAllBut 30 = .ok (.if_icmp .eq 22, 3) := by decide +kernel
theorem dX3_coverOfAllBut_33 : decode cX3_coverOfAllBut 33 = .ok (.aload_n 0, 1) := by decide +kernel
theorem dX3_coverOfAllBut_34 : decode cX3_coverOfAllBut 34 = .ok (.iload 4, 2) := by decide +kernel
theorem dX3_coverOfAllBut_36 : decode cX3_coverOfAllBut 36 = .ok (.invokevirtual 86, 3) := by decide +kernel
theorem dX3_coverOfAllBut_39 : decode cX3_coverOfAllBut 39 = .ok (.ifCond .ne 13, 3) := by decide +kernel
theorem dX3_coverOfAllBut_42 : decode cX3_coverOfAllBut 42 = .ok (.iload_n 3, 1) := by decide +kernel
theorem dX3_coverOfAllBut_43 : decode cX3_coverOfAllBut 43 = .ok (.aload_n 0, 1) := by decide +kernel
theorem dX3_coverOfAllBut_44 : decode cX3_coverOfAllBut 44 = .ok (.getfield 24, 3) := by decide +kernel
theorem dX3_coverOfAllBut_47 : decode cX3_coverOfAllBut 47 = .ok (.iload 4, 2) := by decide +kernel
theorem dX3_coverOfAllBut_49 : decode cX3_coverOfAllBut 49 = .ok (.iaload, 1) := by decide +kernel
theorem dX3_coverOfAllBut_50 : decode cX3_coverOfAllBut 50 = .ok (.ior, 1) := by decide +kernel
theorem dX3_coverOfAllBut_51 : decode cX3_coverOfAllBut 51 = .ok (.istore_n 3, 1) := by decide +kernel
theorem dX3_coverOfAllBut_52 : decode cX3_coverOfAllBut 52 = .ok (.iinc 4 1, 3) := by decide +kernel
theorem dX3_coverOfAllBut_55 : decode cX3_coverOfAllBut 55 = .ok (.goto (-50), 3) := by decide +kernel
theorem dX3_coverOfAllBut_58 : decode cX3_coverOfAllBut 58 = .ok (.iload_n 3, 1) := by decide +kernel
theorem dX3_coverOfAllBut_59 : decode cX3_coverOfAllBut 59 = .ok (.ireturn, 1) := by decide +kernel
theorem dX3_coveredNow_0 : decode cX3_coveredNow 0 = .ok (.aload_n 0, 1) := by decide +kernel
theorem dX3_coveredNow_1 : decode cX3_coveredNow 1 = .ok (.bipush (-9), 2) := by decide +kernel
theorem dX3_coveredNow_3 : decode cX3_coveredNow 3 = .ok (.bipush (-9), 2) := by decide +kernel
theorem dX3_coveredNow_5 : decode cX3_coveredNow 5 = .ok (.invokevirtual 89, 3) := by decide +kernel
theorem dX3_coveredNow_8 : decode cX3_coveredNow 8 = .ok (.aload_n 0, 1) := by decide +kernel
theorem dX3_coveredNow_9 : decode cX3_coveredNow 9 = .ok (.getfield 37, 3) := by decide +kernel
theorem dX3_coveredNow_12 : decode cX3_coveredNow 12 = .ok (.iconst (-1), 1) := by decide +kernel
theorem dX3_coveredNow_13 : decode cX3_coveredNow 13 = .ok (.ixor, 1) := by decide +kernel
theorem dX3_coveredNow_14 : decode cX3_coveredNow 14 = .ok (.iand, 1) := by decide +kernel
theorem dX3_coveredNow_15 : decode cX3_coveredNow 15 = .ok (.ireturn, 1) := by decide +kernel
theorem dX3_linesBy_0 : decode cX3_linesBy 0 = .ok (.iconst 0, 1) := by decide +kernel
theorem dX3_linesBy_1 : decode cX3_linesBy 1 = .ok (.istore_n 2, 1) := by decide +kernel
theorem dX3_linesBy_2 : decode cX3_linesBy 2 = .ok (.iconst 0, 1) := by decide +kernel
theorem dX3_linesBy_3 : decode cX3_linesBy 3 = .ok (.istore_n 3, 1) := by decide +kernel
theorem dX3_linesBy_4 : decode cX3_linesBy 4 = .ok (.iload_n 3, 1) := by decide +kernel
theorem dX3_linesBy_5 : decode cX3_linesBy 5 = .ok (.bipush 8, 2) := by decide +kernel
theorem dX3_linesBy_7 : decode cX3_linesBy 7 = .ok (.if_icmp .ge 39, 3) := by decide +kernel
theorem dX3_linesBy_10 : decode cX3_linesBy 10 = .ok (.aload_n 0, 1) := by decide +kernel
theorem dX3_linesBy_11 : decode cX3_linesBy 11 = .ok (.getfield 27, 3) := by decide +kernel
theorem dX3_linesBy_14 : decode cX3_linesBy 14 = .ok (.ifCond .le 32, 3) := by decide +kernel
theorem dX3_linesBy_17 : decode cX3_linesBy 17 = .ok (.iload_n 1, 1) := by decide +kernel
theorem dX3_linesBy_18 : decode cX3_linesBy 18 = .ok (.getstatic 92, 3) := by decide +kernel
theorem dX3_linesBy_21 : decode cX3_linesBy 21 = .ok (.iload_n 3, 1) := by decide +kernel
theorem dX3_linesBy_22 : decode cX3_linesBy 22 = .ok (.iaload, 1) := by decide +kernel
theorem dX3_linesBy_23 : decode cX3_linesBy 23 = .ok (.iand, 1) := by decide +kernel
theorem dX3_linesBy_24 : decode cX3_linesBy 24 = .ok (.invokestatic 69, 3) := by decide +kernel
theorem dX3_linesBy_27 : decode cX3_linesBy 27 = .ok (.aload_n 0, 1) := by decide +kernel
theorem dX3_linesBy_28 : decode cX3_linesBy 28 = .ok (.getfield 31, 3) := by decide +kernel
theorem dX3_linesBy_31 : decode cX3_linesBy 31 = .ok (.if_icmp .lt 9, 3) := by decide +kernel
theorem dX3_linesBy_34 : decode cX3_linesBy 34 = .ok (.iload_n 2, 1) := by decide +kernel
theorem dX3_linesBy_35 : decode cX3_linesBy 35 = .ok (.iconst 1, 1) := by decide +kernel
theorem dX3_linesBy_36 : decode cX3_linesBy 36 = .ok (.iload_n 3, 1) := by decide +kernel
theorem dX3_linesBy_37 : decode cX3_linesBy 37 = .ok (.ishl, 1) := by decide +kernel
theorem dX3_linesBy_38 : decode cX3_linesBy 38 = .ok (.ior, 1) := by decide +kernel
theorem dX3_linesBy_39 : decode cX3_linesBy 39 = .ok (.istore_n 2, 1) := by decide +kernel
theorem dX3_linesBy_40 : decode cX3_linesBy 40 = .ok (.iinc 3 1, 3) := by decide +kernel
theorem dX3_linesBy_43 : decode cX3_linesBy 43 = .ok (.goto (-39), 3) := by decide +kernel
theorem dX3_linesBy_46 : decode cX3_linesBy 46 = .ok (.iload_n 2, 1) := by decide +kernel
theorem dX3_linesBy_47 : decode cX3_linesBy 47 = .ok (.ireturn, 1) := by decide +kernel
theorem dX3_linesNow_0 : decode cX3_linesNow 0 = .ok (.aload_n 0, 1) := by decide +kernel
theorem dX3_linesNow_1 : decode cX3_linesNow 1 = .ok (.aload_n 0, 1) := by decide +kernel
theorem dX3_linesNow_2 : decode cX3_linesNow 2 = .ok (.bipush (-9), 2) := by decide +kernel
theorem dX3_linesNow_4 : decode cX3_linesNow 4 = .ok (.bipush (-9), 2) := by decide +kernel
theorem dX3_linesNow_6 : decode cX3_linesNow 6 = .ok (.invokevirtual 89, 3) := by decide +kernel
theorem dX3_linesNow_9 : decode cX3_linesNow 9 = .ok (.aload_n 0, 1) := by decide +kernel
theorem dX3_linesNow_10 : decode cX3_linesNow 10 = .ok (.getfield 37, 3) := by decide +kernel
theorem dX3_linesNow_13 : decode cX3_linesNow 13 = .ok (.iconst (-1), 1) := by decide +kernel
theorem dX3_linesNow_14 : decode cX3_linesNow 14 = .ok (.ixor, 1) := by decide +kernel
theorem dX3_linesNow_15 : decode cX3_linesNow 15 = .ok (.iand, 1) := by decide +kernel
theorem dX3_linesNow_16 : decode cX3_linesNow 16 = .ok (.invokevirtual 95, 3) := by decide +kernel
theorem dX3_linesNow_19 : decode cX3_linesNow 19 = .ok (.ireturn, 1) := by decide +kernel
theorem dX3_areRead_0 : decode cX3_areRead 0 = .ok (.iconst 0, 1) := by decide +kernel
theorem dX3_areRead_1 : decode cX3_areRead 1 = .ok (.istore_n 3, 1) := by decide +kernel
theorem dX3_areRead_2 : decode cX3_areRead 2 = .ok (.iload_n 3, 1) := by decide +kernel
theorem dX3_areRead_3 : decode cX3_areRead 3 = .ok (.bipush 8, 2) := by decide +kernel
theorem dX3_areRead_5 : decode cX3_areRead 5 = .ok (.if_icmp .ge 37, 3) := by decide +kernel
theorem dX3_areRead_8 : decode cX3_areRead 8 = .ok (.iload_n 1, 1) := by decide +kernel
theorem dX3_areRead_9 : decode cX3_areRead 9 = .ok (.iload_n 3, 1) := by decide +kernel
theorem dX3_areRead_10 : decode cX3_areRead 10 = .ok (.invokestatic 54, 3) := by decide +kernel
theorem dX3_areRead_13 : decode cX3_areRead 13 = .ok (.iconst 1, 1) := by decide +kernel
theorem dX3_areRead_14 : decode cX3_areRead 14 = .ok (.if_icmp .ne 22, 3) := by decide +kernel
theorem dX3_areRead_17 : decode cX3_areRead 17 = .ok (.iload_n 2, 1) := by decide +kernel
theorem dX3_areRead_18 : decode cX3_areRead 18 = .ok (.getstatic 92, 3) := by decide +kernel
theorem dX3_areRead_21 : decode cX3_areRead 21 = .ok (.iload_n 3, 1) := by decide +kernel
theorem dX3_areRead_22 : decode cX3_areRead 22 = .ok (.iaload, 1) := by decide +kernel
theorem dX3_areRead_23 : decode cX3_areRead 23 = .ok (.iand, 1) := by decide +kernel
theorem dX3_areRead_24 : decode cX3_areRead 24 = .ok (.invokestatic 69, 3) := by decide +kernel
theorem dX3_areRead_27 : decode cX3_areRead 27 = .ok (.aload_n 0, 1) := by decide +kernel
theorem dX3_areRead_28 : decode cX3_areRead 28 = .ok (.getfield 31, 3) := by decide +kernel
theorem dX3_areRead_31 : decode cX3_areRead 31 = .ok (.if_icmp .ge 5, 3) := by decide +kernel
theorem dX3_areRead_34 : decode cX3_areRead 34 = .ok (.iconst 0, 1) := by decide +kernel
theorem dX3_areRead_35 : decode cX3_areRead 35 = .ok (.ireturn, 1) := by decide +kernel
theorem dX3_areRead_36 : decode cX3_areRead 36 = .ok (.iinc 3 1, 3) := by decide +kernel
theorem dX3_areRead_39 : decode cX3_areRead 39 = .ok (.goto (-37), 3) := by decide +kernel
theorem dX3_areRead_42 : decode cX3_areRead 42 = .ok (.iconst 1, 1) := by decide +kernel
theorem dX3_areRead_43 : decode cX3_areRead 43 = .ok (.ireturn, 1) := by decide +kernel
theorem dX3_weightOn_0 : decode cX3_weightOn 0 = .ok (.iconst 0, 1) := by decide +kernel
theorem dX3_weightOn_1 : decode cX3_weightOn 1 = .ok (.istore_n 2, 1) := by decide +kernel
theorem dX3_weightOn_2 : decode cX3_weightOn 2 = .ok (.iload_n 1, 1) := by decide +kernel
theorem dX3_weightOn_3 : decode cX3_weightOn 3 = .ok (.ifCond .lt 17, 3) := by decide +kernel
theorem dX3_weightOn_6 : decode cX3_weightOn 6 = .ok (.iload_n 1, 1) := by decide +kernel
theorem dX3_weightOn_7 : decode cX3_weightOn 7 = .ok (.bipush 8, 2) := by decide +kernel
theorem dX3_weightOn_9 : decode cX3_weightOn 9 = .ok (.if_icmp .ge 11, 3) := by decide +kernel
theorem dX3_weightOn_12 : decode cX3_weightOn 12 = .ok (.getstatic 92, 3) := by decide +kernel
theorem dX3_weightOn_15 : decode cX3_weightOn 15 = .ok (.iload_n 1, 1) := by decide +kernel
theorem dX3_weightOn_16 : decode cX3_weightOn 16 = .ok (.iaload, 1) := by decide +kernel
theorem dX3_weightOn_17 : decode cX3_weightOn 17 = .ok (.goto 4, 3) := by decide +kernel
theorem dX3_weightOn_20 : decode cX3_weightOn 20 = .ok (.iconst 0, 1) := by decide +kernel
theorem dX3_weightOn_21 : decode cX3_weightOn 21 = .ok (.istore_n 3, 1) := by decide +kernel
theorem dX3_weightOn_22 : decode cX3_weightOn 22 = .ok (.iconst 0, 1) := by decide +kernel
theorem dX3_weightOn_23 : decode cX3_weightOn 23 = .ok (.istore 4, 2) := by decide +kernel
theorem dX3_weightOn_25 : decode cX3_weightOn 25 = .ok (.iload 4, 2) := by decide +kernel
theorem dX3_weightOn_27 : decode cX3_weightOn 27 = .ok (.aload_n 0, 1) := by decide +kernel
theorem dX3_weightOn_28 : decode cX3_weightOn 28 = .ok (.getfield 27, 3) := by decide +kernel
theorem dX3_weightOn_31 : decode cX3_weightOn 31 = .ok (.if_icmp .ge 50, 3) := by decide +kernel
theorem dX3_weightOn_34 : decode cX3_weightOn 34 = .ok (.iload 4, 2) := by decide +kernel
theorem dX3_weightOn_36 : decode cX3_weightOn 36 = .ok (.bipush 6, 2) := by decide +kernel
theorem dX3_weightOn_38 : decode cX3_weightOn 38 = .ok (.if_icmp .ge 43, 3) := by decide +kernel
theorem dX3_weightOn_41 : decode cX3_weightOn 41 = .ok (.aload_n 0, 1) := by decide +kernel
theorem dX3_weightOn_42 : decode cX3_weightOn 42 = .ok (.iload 4, 2) := by decide +kernel
theorem dX3_weightOn_44 : decode cX3_weightOn 44 = .ok (.invokevirtual 86, 3) := by decide +kernel
theorem dX3_weightOn_47 : decode cX3_weightOn 47 = .ok (.ifCond .ne 28, 3) := by decide +kernel
theorem dX3_weightOn_50 : decode cX3_weightOn 50 = .ok (.aload_n 0, 1) := by decide +kernel
theorem dX3_weightOn_51 : decode cX3_weightOn 51 = .ok (.getfield 24, 3) := by decide +kernel
theorem dX3_weightOn_54 : decode cX3_weightOn 54 = .ok (.iload 4, 2) := by decide +kernel
theorem dX3_weightOn_56 : decode cX3_weightOn 56 = .ok (.iaload, 1) := by decide +kernel
theorem dX3_weightOn_57 : decode cX3_weightOn 57 = .ok (.iload_n 3, 1) := by decide +kernel
theorem dX3_weightOn_58 : decode cX3_weightOn 58 = .ok (.iand, 1) := by decide +kernel
theorem dX3_weightOn_59 : decode cX3_weightOn 59 = .ok (.ifCond .eq 16, 3) := by decide +kernel
theorem dX3_weightOn_62 : decode cX3_weightOn 62 = .ok (.iload_n 2, 1) := by decide +kernel
theorem dX3_weightOn_63 : decode cX3_weightOn 63 = .ok (.aload_n 0, 1) := by decide +kernel
theorem dX3_weightOn_64 : decode cX3_weightOn 64 = .ok (.getfield 9, 3) := by decide +kernel
theorem dX3_weightOn_67 : decode cX3_weightOn 67 = .ok (.iload 4, 2) := by decide +kernel
theorem dX3_weightOn_69 : decode cX3_weightOn 69 = .ok (.iaload, 1) := by decide +kernel
theorem dX3_weightOn_70 : decode cX3_weightOn 70 = .ok (.invokestatic 58, 3) := by decide +kernel
theorem dX3_weightOn_73 : decode cX3_weightOn 73 = .ok (.iadd, 1) := by decide +kernel
theorem dX3_weightOn_74 : decode cX3_weightOn 74 = .ok (.istore_n 2, 1) := by decide +kernel
theorem dX3_weightOn_75 : decode cX3_weightOn 75 = .ok (.iinc 4 1, 3) := by decide +kernel
theorem dX3_weightOn_78 : decode cX3_weightOn 78 = .ok (.goto (-53), 3) := by decide +kernel
theorem dX3_weightOn_81 : decode cX3_weightOn 81 = .ok (.iload_n 2, 1) := by decide +kernel
theorem dX3_weightOn_82 : decode cX3_weightOn 82 = .ok (.ireturn, 1) := by decide +kernel
theorem dX3_lengthOfAll_0 : decode cX3_lengthOfAll 0 = .ok (.iconst 0, 1) := by decide +kernel
theorem dX3_lengthOfAll_1 : decode cX3_lengthOfAll 1 = .ok (.istore_n 2, 1) := by decide +kernel
theorem dX3_lengthOfAll_2 : decode cX3_lengthOfAll 2 = .ok (.iconst 0, 1) := by decide +kernel
theorem dX3_lengthOfAll_3 : decode cX3_lengthOfAll 3 = .ok (.istore_n 3, 1) := by decide +kernel
theorem dX3_lengthOfAll_4 : decode cX3_lengthOfAll 4 = .ok (.iload_n 3, 1) := by decide +kernel
theorem dX3_lengthOfAll_5 : decode cX3_lengthOfAll 5 = .ok (.aload_n 0, 1) := by decide +kernel
theorem dX3_lengthOfAll_6 : decode cX3_lengthOfAll 6 = .ok (.getfield 27, 3) := by decide +kernel
theorem dX3_lengthOfAll_9 : decode cX3_lengthOfAll 9 = .ok (.if_icmp .ge 30, 3) := by decide +kernel
theorem dX3_lengthOfAll_12 : decode cX3_lengthOfAll 12 = .ok (.iload_n 3, 1) := by decide +kernel
theorem dX3_lengthOfAll_13 : decode cX3_lengthOfAll 13 = .ok (.bipush 6, 2) := by decide +kernel
theorem dX3_lengthOfAll_15 : decode cX3_lengthOfAll 15 = .ok (.if_icmp .ge 24, 3) := by decide +kernel
theorem dX3_lengthOfAll_18 : decode cX3_lengthOfAll 18 = .ok (.iload_n 2, 1) := by decide +kernel
theorem dX3_lengthOfAll_19 : decode cX3_lengthOfAll 19 = .ok (.iload_n 1, 1) := by decide +kernel
theorem dX3_lengthOfAll_20 : decode cX3_lengthOfAll 20 = .ok (.iload_n 3, 1) := by decide +kernel
theorem dX3_lengthOfAll_21 : decode cX3_lengthOfAll 21 = .ok (.invokestatic 54, 3) := by decide +kernel
theorem dX3_lengthOfAll_24 : decode cX3_lengthOfAll 24 = .ok (.aload_n 0, 1) := by decide +kernel
theorem dX3_lengthOfAll_25 : decode cX3_lengthOfAll 25 = .ok (.getfield 18, 3) := by decide +kernel
theorem dX3_lengthOfAll_28 : decode cX3_lengthOfAll 28 = .ok (.iload_n 3, 1) := by decide +kernel
theorem dX3_lengthOfAll_29 : decode cX3_lengthOfAll 29 = .ok (.iaload, 1) := by decide +kernel
theorem dX3_lengthOfAll_30 : decode cX3_lengthOfAll 30 = .ok (.imul, 1) := by decide +kernel
theorem dX3_lengthOfAll_31 : decode cX3_lengthOfAll 31 = .ok (.iadd, 1) := by decide +kernel
theorem dX3_lengthOfAll_32 : decode cX3_lengthOfAll 32 = .ok (.istore_n 2, 1) := by decide +kernel
theorem dX3_lengthOfAll_33 : decode cX3_lengthOfAll 33 = .ok (.iinc 3 1, 3) := by decide +kernel
theorem dX3_lengthOfAll_36 : decode cX3_lengthOfAll 36 = .ok (.goto (-32), 3) := by decide +kernel
theorem dX3_lengthOfAll_39 : decode cX3_lengthOfAll 39 = .ok (.iload_n 2, 1) := by decide +kernel
theorem dX3_lengthOfAll_40 : decode cX3_lengthOfAll 40 = .ok (.ireturn, 1) := by decide +kernel
theorem dX3_settle_0 : decode cX3_settle 0 = .ok (.aload_n 0, 1) := by decide +kernel
theorem dX3_settle_1 : decode cX3_settle 1 = .ok (.iload_n 1, 1) := by decide +kernel
theorem dX3_settle_2 : decode cX3_settle 2 = .ok (.invokevirtual 50, 3) := by decide +kernel
theorem dX3_settle_5 : decode cX3_settle 5 = .ok (.ifCond .eq 40, 3) := by decide +kernel
theorem dX3_settle_8 : decode cX3_settle 8 = .ok (.aload_n 0, 1) := by decide +kernel
theorem dX3_settle_9 : decode cX3_settle 9 = .ok (.getfield 15, 3) := by decide +kernel
theorem dX3_settle_12 : decode cX3_settle 12 = .ok (.iload_n 1, 1) := by decide +kernel
theorem dX3_settle_13 : decode cX3_settle 13 = .ok (.iload_n 2, 1) := by decide +kernel
theorem dX3_settle_14 : decode cX3_settle 14 = .ok (.iastore, 1) := by decide +kernel
theorem dX3_settle_15 : decode cX3_settle 15 = .ok (.aload_n 0, 1) := by decide +kernel
theorem dX3_settle_16 : decode cX3_settle 16 = .ok (.getfield 21, 3) := by decide +kernel
theorem dX3_settle_19 : decode cX3_settle 19 = .ok (.iload_n 1, 1) := by decide +kernel
theorem dX3_settle_20 : decode cX3_settle 20 = .ok (.iload_n 3, 1) := by decide +kernel
theorem dX3_settle_21 : decode cX3_settle 21 = .ok (.iastore, 1) := by decide +kernel
theorem dX3_settle_22 : decode cX3_settle 22 = .ok (.aload_n 0, 1) := by decide +kernel
theorem dX3_settle_23 : decode cX3_settle 23 = .ok (.getfield 24, 3) := by decide +kernel
theorem dX3_settle_26 : decode cX3_settle 26 = .ok (.iload_n 1, 1) := by decide +kernel
theorem dX3_settle_27 : decode cX3_settle 27 = .ok (.aload_n 0, 1) := by decide +kernel
theorem dX3_settle_28 : decode cX3_settle 28 = .ok (.getfield 9, 3) := by decide +kernel
theorem dX3_settle_31 : decode cX3_settle 31 = .ok (.iload_n 1, 1) := by decide +kernel
theorem dX3_settle_32 : decode cX3_settle 32 = .ok (.iaload, 1) := by decide +kernel
theorem dX3_settle_33 : decode cX3_settle 33 = .ok (.iload_n 2, 1) := by decide +kernel
theorem dX3_settle_34 : decode cX3_settle 34 = .ok (.aload_n 0, 1) := by decide +kernel
theorem dX3_settle_35 : decode cX3_settle 35 = .ok (.getfield 18, 3) := by decide +kernel
theorem dX3_settle_38 : decode cX3_settle 38 = .ok (.iload_n 1, 1) := by decide +kernel
theorem dX3_settle_39 : decode cX3_settle 39 = .ok (.iaload, 1) := by decide +kernel
theorem dX3_settle_40 : decode cX3_settle 40 = .ok (.iload_n 3, 1) := by decide +kernel
theorem dX3_settle_41 : decode cX3_settle 41 = .ok (.invokestatic 82, 3) := by decide +kernel
theorem dX3_settle_44 : decode cX3_settle 44 = .ok (.iastore, 1) := by decide +kernel
theorem dX3_settle_45 : decode cX3_settle 45 = .ok (.return_, 1) := by decide +kernel
theorem dX3_setKind_0 : decode cX3_setKind 0 = .ok (.aload_n 0, 1) := by decide +kernel
theorem dX3_setKind_1 : decode cX3_setKind 1 = .ok (.iload_n 1, 1) := by decide +kernel
theorem dX3_setKind_2 : decode cX3_setKind 2 = .ok (.invokevirtual 50, 3) := by decide +kernel
theorem dX3_setKind_5 : decode cX3_setKind 5 = .ok (.ifCond .eq 38, 3) := by decide +kernel
theorem dX3_setKind_8 : decode cX3_setKind 8 = .ok (.aload_n 0, 1) := by decide +kernel
theorem dX3_setKind_9 : decode cX3_setKind 9 = .ok (.getfield 9, 3) := by decide +kernel
theorem dX3_setKind_12 : decode cX3_setKind 12 = .ok (.iload_n 1, 1) := by decide +kernel
theorem dX3_setKind_13 : decode cX3_setKind 13 = .ok (.iload_n 2, 1) := by decide +kernel
theorem dX3_setKind_14 : decode cX3_setKind 14 = .ok (.iastore, 1) := by decide +kernel
theorem dX3_setKind_15 : decode cX3_setKind 15 = .ok (.aload_n 0, 1) := by decide +kernel
theorem dX3_setKind_16 : decode cX3_setKind 16 = .ok (.getfield 24, 3) := by decide +kernel
theorem dX3_setKind_19 : decode cX3_setKind 19 = .ok (.iload_n 1, 1) := by decide +kernel
theorem dX3_setKind_20 : decode cX3_setKind 20 = .ok (.iload_n 2, 1) := by decide +kernel
theorem dX3_setKind_21 : decode cX3_setKind 21 = .ok (.aload_n 0, 1) := by decide +kernel
theorem dX3_setKind_22 : decode cX3_setKind 22 = .ok (.getfield 15, 3) := by decide +kernel
theorem dX3_setKind_25 : decode cX3_setKind 25 = .ok (.iload_n 1, 1) := by decide +kernel
theorem dX3_setKind_26 : decode cX3_setKind 26 = .ok (.iaload, 1) := by decide +kernel
theorem dX3_setKind_27 : decode cX3_setKind 27 = .ok (.aload_n 0, 1) := by decide +kernel
theorem dX3_setKind_28 : decode cX3_setKind 28 = .ok (.getfield 18, 3) := by decide +kernel
theorem dX3_setKind_31 : decode cX3_setKind 31 = .ok (.iload_n 1, 1) := by decide +kernel
theorem dX3_setKind_32 : decode cX3_setKind 32 = .ok (.iaload, 1) := by decide +kernel
theorem dX3_setKind_33 : decode cX3_setKind 33 = .ok (.aload_n 0, 1) := by decide +kernel
theorem dX3_setKind_34 : decode cX3_setKind 34 = .ok (.getfield 21, 3) := by decide +kernel
theorem dX3_setKind_37 : decode cX3_setKind 37 = .ok (.iload_n 1, 1) := by decide +kernel
theorem dX3_setKind_38 : decode cX3_setKind 38 = .ok (.iaload, 1) := by decide +kernel
theorem dX3_setKind_39 : decode cX3_setKind 39 = .ok (.invokestatic 82, 3) := by decide +kernel
theorem dX3_setKind_42 : decode cX3_setKind 42 = .ok (.iastore, 1) := by decide +kernel
theorem dX3_setKind_43 : decode cX3_setKind 43 = .ok (.return_, 1) := by decide +kernel
theorem dX3_fall_0 : decode cX3_fall 0 = .ok (.aload_n 0, 1) := by decide +kernel
theorem dX3_fall_1 : decode cX3_fall 1 = .ok (.getfield 40, 3) := by decide +kernel
theorem dX3_fall_4 : decode cX3_fall 4 = .ok (.iconst 3, 1) := by decide +kernel
theorem dX3_fall_5 : decode cX3_fall 5 = .ok (.irem, 1) := by decide +kernel
theorem dX3_fall_6 : decode cX3_fall 6 = .ok (.iconst 2, 1) := by decide +kernel
theorem dX3_fall_7 : decode cX3_fall 7 = .ok (.if_icmp .ne 7, 3) := by decide +kernel
theorem dX3_fall_10 : decode cX3_fall 10 = .ok (.iconst 1, 1) := by decide +kernel
theorem dX3_fall_11 : decode cX3_fall 11 = .ok (.goto 4, 3) := by decide +kernel
theorem dX3_fall_14 : decode cX3_fall 14 = .ok (.iconst 0, 1) := by decide +kernel
theorem dX3_fall_15 : decode cX3_fall 15 = .ok (.istore_n 1, 1) := by decide +kernel
theorem dX3_fall_16 : decode cX3_fall 16 = .ok (.iconst 0, 1) := by decide +kernel
theorem dX3_fall_17 : decode cX3_fall 17 = .ok (.istore_n 2, 1) := by decide +kernel
theorem dX3_fall_18 : decode cX3_fall 18 = .ok (.iload_n 2, 1) := by decide +kernel
theorem dX3_fall_19 : decode cX3_fall 19 = .ok (.aload_n 0, 1) := by decide +kernel
theorem dX3_fall_20 : decode cX3_fall 20 = .ok (.getfield 27, 3) := by decide +kernel
theorem dX3_fall_23 : decode cX3_fall 23 = .ok (.if_icmp .ge 74, 3) := by decide +kernel
theorem dX3_fall_26 : decode cX3_fall 26 = .ok (.iload_n 2, 1) := by decide +kernel
theorem dX3_fall_27 : decode cX3_fall 27 = .ok (.bipush 6, 2) := by decide +kernel
theorem dX3_fall_29 : decode cX3_fall 29 = .ok (.if_icmp .ge 68, 3) := by decide +kernel
theorem dX3_fall_32 : decode cX3_fall 32 = .ok (.aload_n 0, 1) := by decide +kernel
theorem dX3_fall_33 : decode cX3_fall 33 = .ok (.iload_n 2, 1) := by decide +kernel
theorem dX3_fall_34 : decode cX3_fall 34 = .ok (.invokevirtual 86, 3) := by decide +kernel
theorem dX3_fall_37 : decode cX3_fall 37 = .ok (.ifCond .ne 54, 3) := by decide +kernel
theorem dX3_fall_40 : decode cX3_fall 40 = .ok (.iconst 5, 1) := by decide +kernel
theorem dX3_fall_41 : decode cX3_fall 41 = .ok (.aload_n 0, 1) := by decide +kernel
theorem dX3_fall_42 : decode cX3_fall 42 = .ok (.getfield 15, 3) := by decide +kernel
theorem dX3_fall_45 : decode cX3_fall 45 = .ok (.iload_n 2, 1) := by decide +kernel
theorem dX3_fall_46 : decode cX3_fall 46 = .ok (.iaload, 1) := by decide +kernel
theorem dX3_fall_47 : decode cX3_fall 47 = .ok (.imul, 1) := by decide +kernel
theorem dX3_fall_48 : decode cX3_fall 48 = .ok (.aload_n 0, 1) := by decide +kernel
theorem dX3_fall_49 : decode cX3_fall 49 = .ok (.getfield 18, 3) := by decide +kernel
theorem dX3_fall_52 : decode cX3_fall 52 = .ok (.iload_n 2, 1) := by decide +kernel
theorem dX3_fall_53 : decode cX3_fall 53 = .ok (.iaload, 1) := by decide +kernel
theorem dX3_fall_54 : decode cX3_fall 54 = .ok (.iadd, 1) := by decide +kernel
theorem dX3_fall_55 : decode cX3_fall 55 = .ok (.aload_n 0, 1) := by decide +kernel
theorem dX3_fall_56 : decode cX3_fall 56 = .ok (.getfield 40, 3) := by decide +kernel
theorem dX3_fall_59 : decode cX3_fall 59 = .ok (.iadd, 1) := by decide +kernel
theorem dX3_fall_60 : decode cX3_fall 60 = .ok (.bipush 16, 2) := by decide +kernel
theorem dX3_fall_62 : decode cX3_fall 62 = .ok (.irem, 1) := by decide +kernel
theorem dX3_fall_63 : decode cX3_fall 63 = .ok (.istore_n 3, 1) := by decide +kernel
theorem dX3_fall_64 : decode cX3_fall 64 = .ok (.aload_n 0, 1) := by decide +kernel
theorem dX3_fall_65 : decode cX3_fall 65 = .ok (.iload_n 2, 1) := by decide +kernel
theorem dX3_fall_66 : decode cX3_fall 66 = .ok (.iload_n 3, 1) := by decide +kernel
theorem dX3_fall_67 : decode cX3_fall 67 = .ok (.iload_n 1, 1) := by decide +kernel
theorem dX3_fall_68 : decode cX3_fall 68 = .ok (.ifCond .eq 14, 3) := by decide +kernel
theorem dX3_fall_71 : decode cX3_fall 71 = .ok (.iconst 1, 1) := by decide +kernel
theorem dX3_fall_72 : decode cX3_fall 72 = .ok (.aload_n 0, 1) := by decide +kernel
theorem dX3_fall_73 : decode cX3_fall 73 = .ok (.getfield 21, 3) := by decide +kernel
theorem dX3_fall_76 : decode cX3_fall 76 = .ok (.iload_n 2, 1) := by decide +kernel
theorem dX3_fall_77 : decode cX3_fall 77 = .ok (.iaload, 1) := by decide +kernel
theorem dX3_fall_78 : decode cX3_fall 78 = .ok (.isub, 1) := by decide +kernel
theorem dX3_fall_79 : decode cX3_fall 79 = .ok (.goto 9, 3) := by decide +kernel
theorem dX3_fall_82 : decode cX3_fall 82 = .ok (.aload_n 0, 1) := by decide +kernel
theorem dX3_fall_83 : decode cX3_fall 83 = .ok (.getfield 21, 3) := by decide +kernel
theorem dX3_fall_86 : decode cX3_fall 86 = .ok (.iload_n 2, 1) := by decide +kernel
theorem dX3_fall_87 : decode cX3_fall 87 = .ok (.iaload, 1) := by decide +kernel
theorem dX3_fall_88 : decode cX3_fall 88 = .ok (.invokevirtual 46, 3) := by decide +kernel
theorem dX3_fall_91 : decode cX3_fall 91 = .ok (.iinc 2 1, 3) := by decide +kernel
theorem dX3_fall_94 : decode cX3_fall 94 = .ok (.goto (-76), 3) := by decide +kernel
theorem dX3_fall_97 : decode cX3_fall 97 = .ok (.aload_n 0, 1) := by decide +kernel
theorem dX3_fall_98 : decode cX3_fall 98 = .ok (.dup, 1) := by decide +kernel
theorem dX3_fall_99 : decode cX3_fall 99 = .ok (.getfield 43, 3) := by decide +kernel
theorem dX3_fall_102 : decode cX3_fall 102 = .ok (.aload_n 0, 1) := by decide +kernel
theorem dX3_fall_103 : decode cX3_fall 103 = .ok (.invokevirtual 98, 3) := by decide +kernel
theorem dX3_fall_106 : decode cX3_fall 106 = .ok (.invokestatic 69, 3) := by decide +kernel
theorem dX3_fall_109 : decode cX3_fall 109 = .ok (.iadd, 1) := by decide +kernel
theorem dX3_fall_110 : decode cX3_fall 110 = .ok (.putfield 43, 3) := by decide +kernel
theorem dX3_fall_113 : decode cX3_fall 113 = .ok (.aload_n 0, 1) := by decide +kernel
theorem dX3_fall_114 : decode cX3_fall 114 = .ok (.dup, 1) := by decide +kernel
theorem dX3_fall_115 : decode cX3_fall 115 = .ok (.getfield 40, 3) := by decide +kernel
theorem dX3_fall_118 : decode cX3_fall 118 = .ok (.iconst 1, 1) := by decide +kernel
theorem dX3_fall_119 : decode cX3_fall 119 = .ok (.iadd, 1) := by decide +kernel
theorem dX3_fall_120 : decode cX3_fall 120 = .ok (.putfield 40, 3) := by decide +kernel
theorem dX3_fall_123 : decode cX3_fall 123 = .ok (.return_, 1) := by decide +kernel
theorem dX3_fallTimes_0 : decode cX3_fallTimes 0 = .ok (.iconst 0, 1) := by decide +kernel
theorem dX3_fallTimes_1 : decode cX3_fallTimes 1 = .ok (.istore_n 2, 1) := by decide +kernel
theorem dX3_fallTimes_2 : decode cX3_fallTimes 2 = .ok (.iload_n 2, 1) := by decide +kernel
theorem dX3_fallTimes_3 : decode cX3_fallTimes 3 = .ok (.iload_n 1, 1) := by decide +kernel
theorem dX3_fallTimes_4 : decode cX3_fallTimes 4 = .ok (.if_icmp .ge 13, 3) := by decide +kernel
theorem dX3_fallTimes_7 : decode cX3_fallTimes 7 = .ok (.aload_n 0, 1) := by decide +kernel
theorem dX3_fallTimes_8 : decode cX3_fallTimes 8 = .ok (.invokevirtual 102, 3) := by decide +kernel
theorem dX3_fallTimes_11 : decode cX3_fallTimes 11 = .ok (.iinc 2 1, 3) := by decide +kernel
theorem dX3_fallTimes_14 : decode cX3_fallTimes 14 = .ok (.goto (-12), 3) := by decide +kernel
theorem dX3_fallTimes_17 : decode cX3_fallTimes 17 = .ok (.return_, 1) := by decide +kernel
theorem dX3_canLick_0 : decode cX3_canLick 0 = .ok (.aload_n 0, 1) := by decide +kernel
theorem dX3_canLick_1 : decode cX3_canLick 1 = .ok (.getfield 37, 3) := by decide +kernel
theorem dX3_canLick_4 : decode cX3_canLick 4 = .ok (.iload_n 1, 1) := by decide +kernel
theorem dX3_canLick_5 : decode cX3_canLick 5 = .ok (.invokestatic 54, 3) := by decide +kernel
theorem dX3_canLick_8 : decode cX3_canLick 8 = .ok (.iconst 1, 1) := by decide +kernel
theorem dX3_canLick_9 : decode cX3_canLick 9 = .ok (.if_icmp .eq 15, 3) := by decide +kernel
theorem dX3_canLick_12 : decode cX3_canLick 12 = .ok (.aload_n 0, 1) := by decide +kernel
theorem dX3_canLick_13 : decode cX3_canLick 13 = .ok (.getfield 37, 3) := by decide +kernel
theorem dX3_canLick_16 : decode cX3_canLick 16 = .ok (.invokestatic 69, 3) := by decide +kernel
theorem dX3_canLick_19 : decode cX3_canLick 19 = .ok (.bipush 8, 2) := by decide +kernel
theorem dX3_canLick_21 : decode cX3_canLick 21 = .ok (.if_icmp .ge 7, 3) := by decide +kernel
theorem dX3_canLick_24 : decode cX3_canLick 24 = .ok (.iconst 1, 1) := by decide +kernel
theorem dX3_canLick_25 : decode cX3_canLick 25 = .ok (.goto 4, 3) := by decide +kernel
theorem dX3_canLick_28 : decode cX3_canLick 28 = .ok (.iconst 0, 1) := by decide +kernel
theorem dX3_canLick_29 : decode cX3_canLick 29 = .ok (.ireturn, 1) := by decide +kernel
theorem dX3_perform_0 : decode cX3_perform 0 = .ok (.iload_n 1, 1) := by decide +kernel
theorem dX3_perform_1 : decode cX3_perform 1 = .ok (.tableswitch 118 0 4 #[35, 42, 56, 76, 91], 35) := by decide +kernel
theorem dX3_perform_36 : decode cX3_perform 36 = .ok (.aload_n 0, 1) := by decide +kernel
theorem dX3_perform_37 : decode cX3_perform 37 = .ok (.invokevirtual 102, 3) := by decide +kernel
theorem dX3_perform_40 : decode cX3_perform 40 = .ok (.goto 79, 3) := by decide +kernel
theorem dX3_perform_43 : decode cX3_perform 43 = .ok (.aload_n 0, 1) := by decide +kernel
theorem dX3_perform_44 : decode cX3_perform 44 = .ok (.iload_n 2, 1) := by decide +kernel
theorem dX3_perform_45 : decode cX3_perform 45 = .ok (.iload_n 3, 1) := by decide +kernel
theorem dX3_perform_46 : decode cX3_perform 46 = .ok (.aload_n 0, 1) := by decide +kernel
theorem dX3_perform_47 : decode cX3_perform 47 = .ok (.iload_n 2, 1) := by decide +kernel
theorem dX3_perform_48 : decode cX3_perform 48 = .ok (.invokevirtual 105, 3) := by decide +kernel
theorem dX3_perform_51 : decode cX3_perform 51 = .ok (.invokevirtual 46, 3) := by decide +kernel
theorem dX3_perform_54 : decode cX3_perform 54 = .ok (.goto 65, 3) := by decide +kernel
theorem dX3_perform_57 : decode cX3_perform 57 = .ok (.aload_n 0, 1) := by decide +kernel
theorem dX3_perform_58 : decode cX3_perform 58 = .ok (.iload_n 2, 1) := by decide +kernel
theorem dX3_perform_59 : decode cX3_perform 59 = .ok (.aload_n 0, 1) := by decide +kernel
theorem dX3_perform_60 : decode cX3_perform 60 = .ok (.iload_n 2, 1) := by decide +kernel
theorem dX3_perform_61 : decode cX3_perform 61 = .ok (.invokevirtual 108, 3) := by decide +kernel
theorem dX3_perform_64 : decode cX3_perform 64 = .ok (.iconst 1, 1) := by decide +kernel
theorem dX3_perform_65 : decode cX3_perform 65 = .ok (.aload_n 0, 1) := by decide +kernel
theorem dX3_perform_66 : decode cX3_perform 66 = .ok (.iload_n 2, 1) := by decide +kernel
theorem dX3_perform_67 : decode cX3_perform 67 = .ok (.invokevirtual 105, 3) := by decide +kernel
theorem dX3_perform_70 : decode cX3_perform 70 = .ok (.isub, 1) := by decide +kernel
theorem dX3_perform_71 : decode cX3_perform 71 = .ok (.invokevirtual 46, 3) := by decide +kernel
theorem dX3_perform_74 : decode cX3_perform 74 = .ok (.goto 45, 3) := by decide +kernel
theorem dX3_perform_77 : decode cX3_perform 77 = .ok (.aload_n 0, 1) := by decide +kernel
theorem dX3_perform_78 : decode cX3_perform 78 = .ok (.dup, 1) := by decide +kernel
theorem dX3_perform_79 : decode cX3_perform 79 = .ok (.getfield 34, 3) := by decide +kernel
theorem dX3_perform_82 : decode cX3_perform 82 = .ok (.iconst 1, 1) := by decide +kernel
theorem dX3_perform_83 : decode cX3_perform 83 = .ok (.iload_n 2, 1) := by decide +kernel
theorem dX3_perform_84 : decode cX3_perform 84 = .ok (.ishl, 1) := by decide +kernel
theorem dX3_perform_85 : decode cX3_perform 85 = .ok (.ixor, 1) := by decide +kernel
theorem dX3_perform_86 : decode cX3_perform 86 = .ok (.putfield 34, 3) := by decide +kernel
theorem dX3_perform_89 : decode cX3_perform 89 = .ok (.goto 30, 3) := by decide +kernel
theorem dX3_perform_92 : decode cX3_perform 92 = .ok (.aload_n 0, 1) := by decide +kernel
theorem dX3_perform_93 : decode cX3_perform 93 = .ok (.dup, 1) := by decide +kernel
theorem dX3_perform_94 : decode cX3_perform 94 = .ok (.getfield 37, 3) := by decide +kernel
theorem dX3_perform_97 : decode cX3_perform 97 = .ok (.aload_n 0, 1) := by decide +kernel
theorem dX3_perform_98 : decode cX3_perform 98 = .ok (.iload_n 3, 1) := by decide +kernel
theorem dX3_perform_99 : decode cX3_perform 99 = .ok (.invokevirtual 111, 3) := by decide +kernel
theorem dX3_perform_102 : decode cX3_perform 102 = .ok (.ifCond .eq 9, 3) := by decide +kernel
theorem dX3_perform_105 : decode cX3_perform 105 = .ok (.iconst 1, 1) := by decide +kernel
theorem dX3_perform_106 : decode cX3_perform 106 = .ok (.iload_n 3, 1) := by decide +kernel
theorem dX3_perform_107 : decode cX3_perform 107 = .ok (.ishl, 1) := by decide +kernel
theorem dX3_perform_108 : decode cX3_perform 108 = .ok (.goto 4, 3) := by decide +kernel
theorem dX3_perform_111 : decode cX3_perform 111 = .ok (.iconst 0, 1) := by decide +kernel
theorem dX3_perform_112 : decode cX3_perform 112 = .ok (.ixor, 1) := by decide +kernel
theorem dX3_perform_113 : decode cX3_perform 113 = .ok (.putfield 37, 3) := by decide +kernel
theorem dX3_perform_116 : decode cX3_perform 116 = .ok (.goto 3, 3) := by decide +kernel
theorem dX3_perform_119 : decode cX3_perform 119 = .ok (.return_, 1) := by decide +kernel
