theorem dX10_isIn_0 : decode cX10_isIn 0 = .ok (.iload_n 0, 1) := by decide +kernel
theorem dX10_isIn_1 : decode cX10_isIn 1 = .ok (.iload_n 1, 1) := by decide +kernel
theorem dX10_isIn_2 : decode cX10_isIn 2 = .ok (.if_icmp .lt 12, 3) := by decide +kernel
theorem dX10_isIn_5 : decode cX10_isIn 5 = .ok (.iload_n 0, 1) := by decide +kernel
theorem dX10_isIn_6 : decode cX10_isIn 6 = .ok (.iload_n 2, 1) := by decide +kernel
theorem dX10_isIn_7 : decode cX10_isIn 7 = .ok (.if_icmp .gt 7, 3) := by decide +kernel
theorem dX10_isIn_10 : decode cX10_isIn 10 = .ok (.iconst 1, 1) := by decide +kernel
theorem dX10_isIn_11 : decode cX10_isIn 11 = .ok (.goto 4, 3) := by decide +kernel
theorem dX10_isIn_14 : decode cX10_isIn 14 = .ok (.iconst 0, 1) := by decide +kernel
theorem dX10_isIn_15 : decode cX10_isIn 15 = .ok (.ireturn, 1) := by decide +kernel
theorem dX10_get_0 : decode cX10_get 0 = .ok (.aload_n 0, 1) := by decide +kernel
theorem dX10_get_1 : decode cX10_get 1 = .ok (.getfield 1, 3) := by decide +kernel
theorem dX10_get_4 : decode cX10_get 4 = .ok (.aload_n 0, 1) := by decide +kernel
theorem dX10_get_5 : decode cX10_get 5 = .ok (.getfield 7, 3) := by decide +kernel
theorem dX10_get_8 : decode cX10_get 8 = .ok (.iload_n 1, 1) := by decide +kernel
theorem dX10_get_9 : decode cX10_get 9 = .ok (.iadd, 1) := by decide +kernel
theorem dX10_get_10 : decode cX10_get 10 = .ok (.iaload, 1) := by decide +kernel
theorem dX10_get_11 : decode cX10_get 11 = .ok (.ireturn, 1) := by decide +kernel
theorem dX10_put_0 : decode cX10_put 0 = .ok (.aload_n 0, 1) := by decide +kernel
theorem dX10_put_1 : decode cX10_put 1 = .ok (.getfield 1, 3) := by decide +kernel
theorem dX10_put_4 : decode cX10_put 4 = .ok (.aload_n 0, 1) := by decide +kernel
theorem dX10_put_5 : decode cX10_put 5 = .ok (.getfield 7, 3) := by decide +kernel
theorem dX10_put_8 : decode cX10_put 8 = .ok (.iload_n 1, 1) := by decide +kernel
theorem dX10_put_9 : decode cX10_put 9 = .ok (.iadd, 1) := by decide +kernel
theorem dX10_put_10 : decode cX10_put 10 = .ok (.iload_n 2, 1) := by decide +kernel
theorem dX10_put_11 : decode cX10_put 11 = .ok (.iastore, 1) := by decide +kernel
theorem dX10_put_12 : decode cX10_put 12 = .ok (.return_, 1) := by decide +kernel
theorem dX10_more_0 : decode cX10_more 0 = .ok (.aload_n 0, 1) := by decide +kernel
theorem dX10_more_1 : decode cX10_more 1 = .ok (.getfield 1, 3) := by decide +kernel
theorem dX10_more_4 : decode cX10_more 4 = .ok (.aload_n 0, 1) := by decide +kernel
theorem dX10_more_5 : decode cX10_more 5 = .ok (.getfield 7, 3) := by decide +kernel
theorem dX10_more_8 : decode cX10_more 8 = .ok (.iload_n 1, 1) := by decide +kernel
theorem dX10_more_9 : decode cX10_more 9 = .ok (.iadd, 1) := by decide +kernel
theorem dX10_more_10 : decode cX10_more 10 = .ok (.dup2, 1) := by decide +kernel
theorem dX10_more_11 : decode cX10_more 11 = .ok (.iaload, 1) := by decide +kernel
theorem dX10_more_12 : decode cX10_more 12 = .ok (.iload_n 2, 1) := by decide +kernel
theorem dX10_more_13 : decode cX10_more 13 = .ok (.iadd, 1) := by decide +kernel
theorem dX10_more_14 : decode cX10_more 14 = .ok (.iastore, 1) := by decide +kernel
theorem dX10_more_15 : decode cX10_more 15 = .ok (.return_, 1) := by decide +kernel
theorem dX10_copyRow_0 : decode cX10_copyRow 0 = .ok (.iconst 0, 1) := by decide +kernel
theorem dX10_copyRow_1 : decode cX10_copyRow 1 = .ok (.istore_n 3, 1) := by decide +kernel
theorem dX10_copyRow_2 : decode cX10_copyRow 2 = .ok (.iload_n 3, 1) := by decide +kernel
theorem dX10_copyRow_3 : decode cX10_copyRow 3 = .ok (.sipush 366, 3) := by decide +kernel
theorem dX10_copyRow_6 : decode cX10_copyRow 6 = .ok (.if_icmp .ge 33, 3) := by decide +kernel
theorem dX10_copyRow_9 : decode cX10_copyRow 9 = .ok (.aload_n 0, 1) := by decide +kernel
theorem dX10_copyRow_10 : decode cX10_copyRow 10 = .ok (.getfield 1, 3) := by decide +kernel
theorem dX10_copyRow_13 : decode cX10_copyRow 13 = .ok (.sipush 366, 3) := by decide +kernel
theorem dX10_copyRow_16 : decode cX10_copyRow 16 = .ok (.iload_n 2, 1) := by decide +kernel
theorem dX10_copyRow_17 : decode cX10_copyRow 17 = .ok (.imul, 1) := by decide +kernel
theorem dX10_copyRow_18 : decode cX10_copyRow 18 = .ok (.iload_n 3, 1) := by decide +kernel
theorem dX10_copyRow_19 : decode cX10_copyRow 19 = .ok (.iadd, 1) := by decide +kernel
theorem dX10_copyRow_20 : decode cX10_copyRow 20 = .ok (.aload_n 0, 1) := by decide +kernel
theorem dX10_copyRow_21 : decode cX10_copyRow 21 = .ok (.getfield 1, 3) := by decide +kernel
theorem dX10_copyRow_24 : decode cX10_copyRow 24 = .ok (.sipush 366, 3) := by decide +kernel
theorem dX10_copyRow_27 : decode cX10_copyRow 27 = .ok (.iload_n 1, 1) := by decide +kernel
theorem dX10_copyRow_28 : decode cX10_copyRow 28 = .ok (.imul, 1) := by decide +kernel
theorem dX10_copyRow_29 : decode cX10_copyRow 29 = .ok (.iload_n 3, 1) := by decide +kernel
theorem dX10_copyRow_30 : decode cX10_copyRow 30 = .ok (.iadd, 1) := by decide +kernel
theorem dX10_copyRow_31 : decode cX10_copyRow 31 = .ok (.iaload, 1) := by decide +kernel
theorem dX10_copyRow_32 : decode cX10_copyRow 32 = .ok (.iastore, 1) := by decide +kernel
theorem dX10_copyRow_33 : decode cX10_copyRow 33 = .ok (.iinc 3 1, 3) := by decide +kernel
theorem dX10_copyRow_36 : decode cX10_copyRow 36 = .ok (.goto (-34), 3) := by decide +kernel
theorem dX10_copyRow_39 : decode cX10_copyRow 39 = .ok (.return_, 1) := by decide +kernel
theorem dX10_init_0 : decode cX10_init 0 = .ok (.aload_n 0, 1) := by decide +kernel
theorem dX10_init_1 : decode cX10_init 1 = .ok (.invokespecial 11, 3) := by decide +kernel
theorem dX10_init_4 : decode cX10_init 4 = .ok (.aload_n 0, 1) := by decide +kernel
theorem dX10_init_5 : decode cX10_init 5 = .ok (.sipush 5856, 3) := by decide +kernel
theorem dX10_init_8 : decode cX10_init 8 = .ok (.newarray .int, 2) := by decide +kernel
theorem dX10_init_10 : decode cX10_init 10 = .ok (.putfield 1, 3) := by decide +kernel
theorem dX10_init_13 : decode cX10_init 13 = .ok (.aload_n 0, 1) := by decide +kernel
theorem dX10_init_14 : decode cX10_init 14 = .ok (.iconst 2, 1) := by decide +kernel
theorem dX10_init_15 : decode cX10_init 15 = .ok (.newarray .boolean, 2) := by decide +kernel
theorem dX10_init_17 : decode cX10_init 17 = .ok (.putfield 17, 3) := by decide +kernel
theorem dX10_init_20 : decode cX10_init 20 = .ok (.aload_n 0, 1) := by decide +kernel
theorem dX10_init_21 : decode cX10_init 21 = .ok (.sipush 400, 3) := by decide +kernel
theorem dX10_init_24 : decode cX10_init 24 = .ok (.newarray .byte, 2) := by decide +kernel
theorem dX10_init_26 : decode cX10_init 26 = .ok (.putfield 21, 3) := by decide +kernel
theorem dX10_init_29 : decode cX10_init 29 = .ok (.aload_n 0, 1) := by decide +kernel
theorem dX10_init_30 : decode cX10_init 30 = .ok (.iconst (-1), 1) := by decide +kernel
theorem dX10_init_31 : decode cX10_init 31 = .ok (.putfield 25, 3) := by decide +kernel
theorem dX10_init_34 : decode cX10_init 34 = .ok (.aload_n 0, 1) := by decide +kernel
theorem dX10_init_35 : decode cX10_init 35 = .ok (.bipush 81, 2) := by decide +kernel
theorem dX10_init_37 : decode cX10_init 37 = .ok (.newarray .int, 2) := by decide +kernel
theorem dX10_init_39 : decode cX10_init 39 = .ok (.putfield 28, 3) := by decide +kernel
theorem dX10_init_42 : decode cX10_init 42 = .ok (.aload_n 0, 1) := by decide +kernel
theorem dX10_init_43 : decode cX10_init 43 = .ok (.bipush 8, 2) := by decide +kernel
theorem dX10_init_45 : decode cX10_init 45 = .ok (.newarray .long, 2) := by decide +kernel
theorem dX10_init_47 : decode cX10_init 47 = .ok (.putfield 31, 3) := by decide +kernel
theorem dX10_init_50 : decode cX10_init 50 = .ok (.aload_n 0, 1) := by decide +kernel
theorem dX10_init_51 : decode cX10_init 51 = .ok (.bipush 8, 2) := by decide +kernel
theorem dX10_init_53 : decode cX10_init 53 = .ok (.newarray .int, 2) := by decide +kernel
theorem dX10_init_55 : decode cX10_init 55 = .ok (.putfield 35, 3) := by decide +kernel
theorem dX10_init_58 : decode cX10_init 58 = .ok (.aload_n 0, 1) := by decide +kernel
theorem dX10_init_59 : decode cX10_init 59 = .ok (.bipush 8, 2) := by decide +kernel
theorem dX10_init_61 : decode cX10_init 61 = .ok (.newarray .int, 2) := by decide +kernel
theorem dX10_init_63 : decode cX10_init 63 = .ok (.putfield 38, 3) := by decide +kernel
theorem dX10_init_66 : decode cX10_init 66 = .ok (.aload_n 0, 1) := by decide +kernel
theorem dX10_init_67 : decode cX10_init 67 = .ok (.bipush 8, 2) := by decide +kernel
theorem dX10_init_69 : decode cX10_init 69 = .ok (.newarray .int, 2) := by decide +kernel
theorem dX10_init_71 : decode cX10_init 71 = .ok (.putfield 41, 3) := by decide +kernel
theorem dX10_init_74 : decode cX10_init 74 = .ok (.aload_n 0, 1) := by decide +kernel
theorem dX10_init_75 : decode cX10_init 75 = .ok (.bipush 8, 2) := by decide +kernel
theorem dX10_init_77 : decode cX10_init 77 = .ok (.newarray .int, 2) := by decide +kernel
theorem dX10_init_79 : decode cX10_init 79 = .ok (.putfield 44, 3) := by decide +kernel
theorem dX10_init_82 : decode cX10_init 82 = .ok (.aload_n 0, 1) := by decide +kernel
theorem dX10_init_83 : decode cX10_init 83 = .ok (.bipush 48, 2) := by decide +kernel
theorem dX10_init_85 : decode cX10_init 85 = .ok (.newarray .int, 2) := by decide +kernel
theorem dX10_init_87 : decode cX10_init 87 = .ok (.putfield 47, 3) := by decide +kernel
theorem dX10_init_90 : decode cX10_init 90 = .ok (.aload_n 0, 1) := by decide +kernel
theorem dX10_init_91 : decode cX10_init 91 = .ok (.bipush 100, 2) := by decide +kernel
theorem dX10_init_93 : decode cX10_init 93 = .ok (.newarray .int, 2) := by decide +kernel
theorem dX10_init_95 : decode cX10_init 95 = .ok (.putfield 50, 3) := by decide +kernel
theorem dX10_init_98 : decode cX10_init 98 = .ok (.aload_n 0, 1) := by decide +kernel
theorem dX10_init_99 : decode cX10_init 99 = .ok (.bipush 44, 2) := by decide +kernel
theorem dX10_init_101 : decode cX10_init 101 = .ok (.newarray .int, 2) := by decide +kernel
theorem dX10_init_103 : decode cX10_init 103 = .ok (.putfield 53, 3) := by decide +kernel
theorem dX10_init_106 : decode cX10_init 106 = .ok (.aload_n 0, 1) := by decide +kernel
theorem dX10_init_107 : decode cX10_init 107 = .ok (.bipush 90, 2) := by decide +kernel
theorem dX10_init_109 : decode cX10_init 109 = .ok (.newarray .int, 2) := by decide +kernel
theorem dX10_init_111 : decode cX10_init 111 = .ok (.putfield 56, 3) := by decide +kernel
theorem dX10_init_114 : decode cX10_init 114 = .ok (.aload_n 0, 1) := by decide +kernel
theorem dX10_init_115 : decode cX10_init 115 = .ok (.bipush 30, 2) := by decide +kernel
theorem dX10_init_117 : decode cX10_init 117 = .ok (.newarray .int, 2) := by decide +kernel
theorem dX10_init_119 : decode cX10_init 119 = .ok (.putfield 59, 3) := by decide +kernel
theorem dX10_init_122 : decode cX10_init 122 = .ok (.aload_n 0, 1) := by decide +kernel
theorem dX10_init_123 : decode cX10_init 123 = .ok (.iconst (-1), 1) := by decide +kernel
theorem dX10_init_124 : decode cX10_init 124 = .ok (.putfield 62, 3) := by decide +kernel
theorem dX10_init_127 : decode cX10_init 127 = .ok (.aload_n 0, 1) := by decide +kernel
theorem dX10_init_128 : decode cX10_init 128 = .ok (.sipush 400, 3) := by decide +kernel
theorem dX10_init_131 : decode cX10_init 131 = .ok (.newarray .byte, 2) := by decide +kernel
theorem dX10_init_133 : decode cX10_init 133 = .ok (.putfield 65, 3) := by decide +kernel
theorem dX10_init_136 : decode cX10_init 136 = .ok (.aload_n 0, 1) := by decide +kernel
theorem dX10_init_137 : decode cX10_init 137 = .ok (.invokevirtual 68, 3) := by decide +kernel
theorem dX10_init_140 : decode cX10_init 140 = .ok (.return_, 1) := by decide +kernel
theorem dX10_layPlainTiers_0 : decode cX10_layPlainTiers 0 = .ok (.aload_n 0, 1) := by decide +kernel
theorem dX10_layPlainTiers_1 : decode cX10_layPlainTiers 1 = .ok (.bipush 77, 2) := by decide +kernel
theorem dX10_layPlainTiers_3 : decode cX10_layPlainTiers 3 = .ok (.iconst 0, 1) := by decide +kernel
theorem dX10_layPlainTiers_4 : decode cX10_layPlainTiers 4 = .ok (.invokevirtual 71, 3) := by decide +kernel
theorem dX10_layPlainTiers_7 : decode cX10_layPlainTiers 7 = .ok (.aload_n 0, 1) := by decide +kernel
theorem dX10_layPlainTiers_8 : decode cX10_layPlainTiers 8 = .ok (.bipush 78, 2) := by decide +kernel
theorem dX10_layPlainTiers_10 : decode cX10_layPlainTiers 10 = .ok (.iconst (-1), 1) := by decide +kernel
theorem dX10_layPlainTiers_11 : decode cX10_layPlainTiers 11 = .ok (.invokevirtual 71, 3) := by decide +kernel
theorem dX10_layPlainTiers_14 : decode cX10_layPlainTiers 14 = .ok (.iconst 0, 1) := by decide +kernel
theorem dX10_layPlainTiers_15 : decode cX10_layPlainTiers 15 = .ok (.istore_n 1, 1) := by decide +kernel
theorem dX10_layPlainTiers_16 : decode cX10_layPlainTiers 16 = .ok (.iload_n 1, 1) := by decide +kernel
theorem dX10_layPlainTiers_17 : decode cX10_layPlainTiers 17 = .ok (.bipush 8, 2) := by decide +kernel
theorem dX10_layPlainTiers_19 : decode cX10_layPlainTiers 19 = .ok (.if_icmp .ge 18, 3) := by decide +kernel
theorem dX10_layPlainTiers_22 : decode cX10_layPlainTiers 22 = .ok (.aload_n 0, 1) := by decide +kernel
theorem dX10_layPlainTiers_23 : decode cX10_layPlainTiers 23 = .ok (.bipush 79, 2) := by decide +kernel
theorem dX10_layPlainTiers_25 : decode cX10_layPlainTiers 25 = .ok (.iload_n 1, 1) := by decide +kernel
theorem dX10_layPlainTiers_26 : decode cX10_layPlainTiers 26 = .ok (.iadd, 1) := by decide +kernel
theorem dX10_layPlainTiers_27 : decode cX10_layPlainTiers 27 = .ok (.iconst 1, 1) := by decide +kernel
theorem dX10_layPlainTiers_28 : decode cX10_layPlainTiers 28 = .ok (.invokevirtual 71, 3) := by decide +kernel
theorem dX10_layPlainTiers_31 : decode cX10_layPlainTiers 31 = .ok (.iinc 1 1, 3) := by decide +kernel
theorem dX10_layPlainTiers_34 : decode cX10_layPlainTiers 34 = .ok (.goto (-18), 3) := by decide +kernel
theorem dX10_layPlainTiers_37 : decode cX10_layPlainTiers 37 = .ok (.return_, 1) := by decide +kernel
theorem dX10_deed_0 : decode cX10_deed 0 = .ok (.aload_n 0, 1) := by decide +kernel
theorem dX10_deed_1 : decode cX10_deed 1 = .ok (.getfield 75, 3) := by decide +kernel
theorem dX10_deed_4 : decode cX10_deed 4 = .ok (.bipush 12, 2) := by decide +kernel
theorem dX10_deed_6 : decode cX10_deed 6 = .ok (.if_icmp .ne 39, 3) := by decide +kernel
theorem dX10_deed_9 : decode cX10_deed 9 = .ok (.iconst 1, 1) := by decide +kernel
theorem dX10_deed_10 : decode cX10_deed 10 = .ok (.istore_n 1, 1) := by decide +kernel
theorem dX10_deed_11 : decode cX10_deed 11 = .ok (.iload_n 1, 1) := by decide +kernel
theorem dX10_deed_12 : decode cX10_deed 12 = .ok (.bipush 12, 2) := by decide +kernel
theorem dX10_deed_14 : decode cX10_deed 14 = .ok (.if_icmp .ge 21, 3) := by decide +kernel
theorem dX10_deed_17 : decode cX10_deed 17 = .ok (.aload_n 0, 1) := by decide +kernel
theorem dX10_deed_18 : decode cX10_deed 18 = .ok (.iconst 3, 1) := by decide +kernel
theorem dX10_deed_19 : decode cX10_deed 19 = .ok (.iload_n 1, 1) := by decide +kernel
theorem dX10_deed_20 : decode cX10_deed 20 = .ok (.iadd, 1) := by decide +kernel
theorem dX10_deed_21 : decode cX10_deed 21 = .ok (.iconst 3, 1) := by decide +kernel
theorem dX10_deed_22 : decode cX10_deed 22 = .ok (.iload_n 1, 1) := by decide +kernel
theorem dX10_deed_23 : decode cX10_deed 23 = .ok (.iadd, 1) := by decide +kernel
theorem dX10_deed_24 : decode cX10_deed 24 = .ok (.iconst 1, 1) := by decide +kernel
theorem dX10_deed_25 : decode cX10_deed 25 = .ok (.isub, 1) := by decide +kernel
theorem dX10_deed_26 : decode cX10_deed 26 = .ok (.invokevirtual 78, 3) := by decide +kernel
theorem dX10_deed_29 : decode cX10_deed 29 = .ok (.iinc 1 1, 3) := by decide +kernel
theorem dX10_deed_32 : decode cX10_deed 32 = .ok (.goto (-21), 3) := by decide +kernel
theorem dX10_deed_35 : decode cX10_deed 35 = .ok (.aload_n 0, 1) := by decide +kernel
theorem dX10_deed_36 : decode cX10_deed 36 = .ok (.dup, 1) := by decide +kernel
theorem dX10_deed_37 : decode cX10_deed 37 = .ok (.getfield 75, 3) := by decide +kernel
theorem dX10_deed_40 : decode cX10_deed 40 = .ok (.iconst 1, 1) := by decide +kernel
theorem dX10_deed_41 : decode cX10_deed 41 = .ok (.isub, 1) := by decide +kernel
theorem dX10_deed_42 : decode cX10_deed 42 = .ok (.putfield 75, 3) := by decide +kernel
theorem dX10_deed_45 : decode cX10_deed 45 = .ok (.aload_n 0, 1) := by decide +kernel
theorem dX10_deed_46 : decode cX10_deed 46 = .ok (.iconst 0, 1) := by decide +kernel
theorem dX10_deed_47 : decode cX10_deed 47 = .ok (.iconst 3, 1) := by decide +kernel
theorem dX10_deed_48 : decode cX10_deed 48 = .ok (.aload_n 0, 1) := by decide +kernel
theorem dX10_deed_49 : decode cX10_deed 49 = .ok (.getfield 75, 3) := by decide +kernel
theorem dX10_deed_52 : decode cX10_deed 52 = .ok (.iadd, 1) := by decide +kernel
theorem dX10_deed_53 : decode cX10_deed 53 = .ok (.invokevirtual 78, 3) := by decide +kernel
theorem dX10_deed_56 : decode cX10_deed 56 = .ok (.aload_n 0, 1) := by decide +kernel
theorem dX10_deed_57 : decode cX10_deed 57 = .ok (.dup, 1) := by decide +kernel
theorem dX10_deed_58 : decode cX10_deed 58 = .ok (.getfield 75, 3) := by decide +kernel
theorem dX10_deed_61 : decode cX10_deed 61 = .ok (.iconst 1, 1) := by decide +kernel
theorem dX10_deed_62 : decode cX10_deed 62 = .ok (.iadd, 1) := by decide +kernel
theorem dX10_deed_63 : decode cX10_deed 63 = .ok (.putfield 75, 3) := by decide +kernel
theorem dX10_deed_66 : decode cX10_deed 66 = .ok (.return_, 1) := by decide +kernel
theorem dX10_back_0 : decode cX10_back 0 = .ok (.aload_n 0, 1) := by decide +kernel
theorem dX10_back_1 : decode cX10_back 1 = .ok (.getfield 75, 3) := by decide +kernel
theorem dX10_back_4 : decode cX10_back 4 = .ok (.ifCond .ne 5, 3) := by decide +kernel
theorem dX10_back_7 : decode cX10_back 7 = .ok (.iconst (-1), 1) := by decide +kernel
theorem dX10_back_8 : decode cX10_back 8 = .ok (.ireturn, 1) := by decide +kernel
theorem dX10_back_9 : decode cX10_back 9 = .ok (.aload_n 0, 1) := by decide +kernel
theorem dX10_back_10 : decode cX10_back 10 = .ok (.dup, 1) := by decide +kernel
theorem dX10_back_11 : decode cX10_back 11 = .ok (.getfield 75, 3) := by decide +kernel
theorem dX10_back_14 : decode cX10_back 14 = .ok (.iconst 1, 1) := by decide +kernel
theorem dX10_back_15 : decode cX10_back 15 = .ok (.isub, 1) := by decide +kernel
theorem dX10_back_16 : decode cX10_back 16 = .ok (.putfield 75, 3) := by decide +kernel
theorem dX10_back_19 : decode cX10_back 19 = .ok (.aload_n 0, 1) := by decide +kernel
theorem dX10_back_20 : decode cX10_back 20 = .ok (.iconst 3, 1) := by decide +kernel
theorem dX10_back_21 : decode cX10_back 21 = .ok (.aload_n 0, 1) := by decide +kernel
theorem dX10_back_22 : decode cX10_back 22 = .ok (.getfield 75, 3) := by decide +kernel
theorem dX10_back_25 : decode cX10_back 25 = .ok (.iadd, 1) := by decide +kernel
theorem dX10_back_26 : decode cX10_back 26 = .ok (.iconst 0, 1) := by decide +kernel
theorem dX10_back_27 : decode cX10_back 27 = .ok (.invokevirtual 78, 3) := by decide +kernel
theorem dX10_back_30 : decode cX10_back 30 = .ok (.aload_n 0, 1) := by decide +kernel
theorem dX10_back_31 : decode cX10_back 31 = .ok (.getfield 75, 3) := by decide +kernel
theorem dX10_back_34 : decode cX10_back 34 = .ok (.ireturn, 1) := by decide +kernel
theorem dX10_keep_0 : decode cX10_keep 0 = .ok (.iload_n 1, 1) := by decide +kernel
theorem dX10_keep_1 : decode cX10_keep 1 = .ok (.iconst 0, 1) := by decide +kernel
theorem dX10_keep_2 : decode cX10_keep 2 = .ok (.iconst 1, 1) := by decide +kernel
theorem dX10_keep_3 : decode cX10_keep 3 = .ok (.invokestatic 81, 3) := by decide +kernel
theorem dX10_keep_6 : decode cX10_keep 6 = .ok (.ifCond .ne 5, 3) := by decide +kernel
theorem dX10_keep_9 : decode cX10_keep 9 = .ok (.iconst 0, 1) := by decide +kernel
theorem dX10_keep_10 : decode cX10_keep 10 = .ok (.ireturn, 1) := by decide +kernel
theorem dX10_keep_11 : decode cX10_keep 11 = .ok (.aload_n 0, 1) := by decide +kernel
theorem dX10_keep_12 : decode cX10_keep 12 = .ok (.iconst 0, 1) := by decide +kernel
theorem dX10_keep_13 : decode cX10_keep 13 = .ok (.iconst 1, 1) := by decide +kernel
theorem dX10_keep_14 : decode cX10_keep 14 = .ok (.iload_n 1, 1) := by decide +kernel
theorem dX10_keep_15 : decode cX10_keep 15 = .ok (.iadd, 1) := by decide +kernel
theorem dX10_keep_16 : decode cX10_keep 16 = .ok (.invokevirtual 78, 3) := by decide +kernel
theorem dX10_keep_19 : decode cX10_keep 19 = .ok (.aload_n 0, 1) := by decide +kernel
theorem dX10_keep_20 : decode cX10_keep 20 = .ok (.getfield 17, 3) := by decide +kernel
theorem dX10_keep_23 : decode cX10_keep 23 = .ok (.iload_n 1, 1) := by decide +kernel
theorem dX10_keep_24 : decode cX10_keep 24 = .ok (.iconst 1, 1) := by decide +kernel
theorem dX10_keep_25 : decode cX10_keep 25 = .ok (.bastore, 1) := by decide +kernel
theorem dX10_keep_26 : decode cX10_keep 26 = .ok (.iconst 1, 1) := by decide +kernel
theorem dX10_keep_27 : decode cX10_keep 27 = .ok (.ireturn, 1) := by decide +kernel
theorem dX10_restore_0 : decode cX10_restore 0 = .ok (.iload_n 1, 1) := by decide +kernel
theorem dX10_restore_1 : decode cX10_restore 1 = .ok (.iconst 0, 1) := by decide +kernel
theorem dX10_restore_2 : decode cX10_restore 2 = .ok (.iconst 1, 1) := by decide +kernel
theorem dX10_restore_3 : decode cX10_restore 3 = .ok (.invokestatic 81, 3) := by decide +kernel
theorem dX10_restore_6 : decode cX10_restore 6 = .ok (.ifCond .eq 12, 3) := by decide +kernel
theorem dX10_restore_9 : decode cX10_restore 9 = .ok (.aload_n 0, 1) := by decide +kernel
theorem dX10_restore_10 : decode cX10_restore 10 = .ok (.getfield 17, 3) := by decide +kernel
theorem dX10_restore_13 : decode cX10_restore 13 = .ok (.iload_n 1, 1) := by decide +kernel
theorem dX10_restore_14 : decode cX10_restore 14 = .ok (.baload, 1) := by decide +kernel
theorem dX10_restore_15 : decode cX10_restore 15 = .ok (.ifCond .ne 5, 3) := by decide +kernel
theorem dX10_restore_18 : decode cX10_restore 18 = .ok (.iconst 0, 1) := by decide +kernel
theorem dX10_restore_19 : decode cX10_restore 19 = .ok (.ireturn, 1) := by decide +kernel
theorem dX10_restore_20 : decode cX10_restore 20 = .ok (.aload_n 0, 1) := by decide +kernel
theorem dX10_restore_21 : decode cX10_restore 21 = .ok (.invokevirtual 85, 3) := by decide +kernel
theorem dX10_restore_24 : decode cX10_restore 24 = .ok (.aload_n 0, 1) := by decide +kernel
theorem dX10_restore_25 : decode cX10_restore 25 = .ok (.iconst 1, 1) := by decide +kernel
theorem dX10_restore_26 : decode cX10_restore 26 = .ok (.iload_n 1, 1) := by decide +kernel
theorem dX10_restore_27 : decode cX10_restore 27 = .ok (.iadd, 1) := by decide +kernel
theorem dX10_restore_28 : decode cX10_restore 28 = .ok (.iconst 0, 1) := by decide +kernel
theorem dX10_restore_29 : decode cX10_restore 29 = .ok (.invokevirtual 78, 3) := by decide +kernel
theorem dX10_restore_32 : decode cX10_restore 32 = .ok (.iconst 1, 1) := by decide +kernel
theorem dX10_restore_33 : decode cX10_restore 33 = .ok (.ireturn, 1) := by decide +kernel
theorem dX10_four_0 : decode cX10_four 0 = .ok (.bipush 24, 2) := by decide +kernel
theorem dX10_four_2 : decode cX10_four 2 = .ok (.istore_n 2, 1) := by decide +kernel
theorem dX10_four_3 : decode cX10_four 3 = .ok (.iload_n 2, 1) := by decide +kernel
theorem dX10_four_4 : decode cX10_four 4 = .ok (.ifCond .lt 32, 3) := by decide +kernel
theorem dX10_four_7 : decode cX10_four 7 = .ok (.aload_n 0, 1) := by decide +kernel
theorem dX10_four_8 : decode cX10_four 8 = .ok (.getfield 21, 3) := by decide +kernel
theorem dX10_four_11 : decode cX10_four 11 = .ok (.aload_n 0, 1) := by decide +kernel
theorem dX10_four_12 : decode cX10_four 12 = .ok (.getfield 88, 3) := by decide +kernel
theorem dX10_four_15 : decode cX10_four 15 = .ok (.iload_n 1, 1) := by decide +kernel
theorem dX10_four_16 : decode cX10_four 16 = .ok (.iload_n 2, 1) := by decide +kernel
theorem dX10_four_17 : decode cX10_four 17 = .ok (.ishr, 1) := by decide +kernel
theorem dX10_four_18 : decode cX10_four 18 = .ok (.i2b, 1) := by decide +kernel
theorem dX10_four_19 : decode cX10_four 19 = .ok (.bastore, 1) := by decide +kernel
theorem dX10_four_20 : decode cX10_four 20 = .ok (.aload_n 0, 1) := by decide +kernel
theorem dX10_four_21 : decode cX10_four 21 = .ok (.dup, 1) := by decide +kernel
theorem dX10_four_22 : decode cX10_four 22 = .ok (.getfield 88, 3) := by decide +kernel
theorem dX10_four_25 : decode cX10_four 25 = .ok (.iconst 1, 1) := by decide +kernel
theorem dX10_four_26 : decode cX10_four 26 = .ok (.iadd, 1) := by decide +kernel
theorem dX10_four_27 : decode cX10_four 27 = .ok (.putfield 88, 3) := by decide +kernel
theorem dX10_four_30 : decode cX10_four 30 = .ok (.iinc 2 (-8), 3) := by decide +kernel
theorem dX10_four_33 : decode cX10_four 33 = .ok (.goto (-30), 3) := by decide +kernel
theorem dX10_four_36 : decode cX10_four 36 = .ok (.return_, 1) := by decide +kernel
theorem dX10_feed_0 : decode cX10_feed 0 = .ok (.aload_n 0, 1) := by decide +kernel
theorem dX10_feed_1 : decode cX10_feed 1 = .ok (.getfield 88, 3) := by decide +kernel
theorem dX10_feed_4 : decode cX10_feed 4 = .ok (.bipush 20, 2) := by decide +kernel
theorem dX10_feed_6 : decode cX10_feed 6 = .ok (.iadd, 1) := by decide +kernel
theorem dX10_feed_7 : decode cX10_feed 7 = .ok (.sipush 400, 3) := by decide +kernel
theorem dX10_feed_10 : decode cX10_feed 10 = .ok (.if_icmp .le 5, 3) := by decide +kernel
theorem dX10_feed_13 : decode cX10_feed 13 = .ok (.iconst (-1), 1) := by decide +kernel
theorem dX10_feed_14 : decode cX10_feed 14 = .ok (.ireturn, 1) := by decide +kernel
theorem dX10_feed_15 : decode cX10_feed 15 = .ok (.aload_n 0, 1) := by decide +kernel
theorem dX10_feed_16 : decode cX10_feed 16 = .ok (.iload_n 1, 1) := by decide +kernel
theorem dX10_feed_17 : decode cX10_feed 17 = .ok (.invokevirtual 91, 3) := by decide +kernel
theorem dX10_feed_20 : decode cX10_feed 20 = .ok (.aload_n 0, 1) := by decide +kernel
theorem dX10_feed_21 : decode cX10_feed 21 = .ok (.iload_n 2, 1) := by decide +kernel
theorem dX10_feed_22 : decode cX10_feed 22 = .ok (.invokevirtual 91, 3) := by decide +kernel
theorem dX10_feed_25 : decode cX10_feed 25 = .ok (.aload_n 0, 1) := by decide +kernel
theorem dX10_feed_26 : decode cX10_feed 26 = .ok (.iload_n 3, 1) := by decide +kernel
theorem dX10_feed_27 : decode cX10_feed 27 = .ok (.invokevirtual 91, 3) := by decide +kernel
theorem dX10_feed_30 : decode cX10_feed 30 = .ok (.aload_n 0, 1) := by decide +kernel
theorem dX10_feed_31 : decode cX10_feed 31 = .ok (.iload 4, 2) := by decide +kernel
theorem dX10_feed_33 : decode cX10_feed 33 = .ok (.invokevirtual 91, 3) := by decide +kernel
theorem dX10_feed_36 : decode cX10_feed 36 = .ok (.aload_n 0, 1) := by decide +kernel
theorem dX10_feed_37 : decode cX10_feed 37 = .ok (.iload 5, 2) := by decide +kernel
theorem dX10_feed_39 : decode cX10_feed 39 = .ok (.invokevirtual 91, 3) := by decide +kernel
theorem dX10_feed_42 : decode cX10_feed 42 = .ok (.aload_n 0, 1) := by decide +kernel
theorem dX10_feed_43 : decode cX10_feed 43 = .ok (.getfield 88, 3) := by decide +kernel
theorem dX10_feed_46 : decode cX10_feed 46 = .ok (.ireturn, 1) := by decide +kernel
theorem dX10_end_0 : decode cX10_end 0 = .ok (.iload_n 1, 1) := by decide +kernel
theorem dX10_end_1 : decode cX10_end 1 = .ok (.iconst 0, 1) := by decide +kernel
theorem dX10_end_2 : decode cX10_end 2 = .ok (.aload_n 0, 1) := by decide +kernel
theorem dX10_end_3 : decode cX10_end 3 = .ok (.getfield 88, 3) := by decide +kernel
theorem dX10_end_6 : decode cX10_end 6 = .ok (.invokestatic 81, 3) := by decide +kernel
theorem dX10_end_9 : decode cX10_end 9 = .ok (.ifCond .ne 5, 3) := by decide +kernel
theorem dX10_end_12 : decode cX10_end 12 = .ok (.iconst (-1), 1) := by decide +kernel
theorem dX10_end_13 : decode cX10_end 13 = .ok (.ireturn, 1) := by decide +kernel
theorem dX10_end_14 : decode cX10_end 14 = .ok (.aload_n 0, 1) := by decide +kernel
theorem dX10_end_15 : decode cX10_end 15 = .ok (.iload_n 1, 1) := by decide +kernel
theorem dX10_end_16 : decode cX10_end 16 = .ok (.putfield 88, 3) := by decide +kernel
theorem dX10_end_19 : decode cX10_end 19 = .ok (.iload_n 1, 1) := by decide +kernel
theorem dX10_end_20 : decode cX10_end 20 = .ok (.ireturn, 1) := by decide +kernel
theorem dX10_fault_0 : decode cX10_fault 0 = .ok (.aload_n 0, 1) := by decide +kernel
theorem dX10_fault_1 : decode cX10_fault 1 = .ok (.getfield 25, 3) := by decide +kernel
theorem dX10_fault_4 : decode cX10_fault 4 = .ok (.ireturn, 1) := by decide +kernel
theorem dX10_here_0 : decode cX10_here 0 = .ok (.aload_n 0, 1) := by decide +kernel
theorem dX10_here_1 : decode cX10_here 1 = .ok (.getfield 95, 3) := by decide +kernel
theorem dX10_here_4 : decode cX10_here 4 = .ok (.aload_n 0, 1) := by decide +kernel
theorem dX10_here_5 : decode cX10_here 5 = .ok (.getfield 88, 3) := by decide +kernel
theorem dX10_here_8 : decode cX10_here 8 = .ok (.if_icmp .ge 19, 3) := by decide +kernel
theorem dX10_here_11 : decode cX10_here 11 = .ok (.aload_n 0, 1) := by decide +kernel
theorem dX10_here_12 : decode cX10_here 12 = .ok (.getfield 21, 3) := by decide +kernel
theorem dX10_here_15 : decode cX10_here 15 = .ok (.aload_n 0, 1) := by decide +kernel
theorem dX10_here_16 : decode cX10_here 16 = .ok (.getfield 95, 3) := by decide +kernel
theorem dX10_here_19 : decode cX10_here 19 = .ok (.baload, 1) := by decide +kernel
theorem dX10_here_20 : decode cX10_here 20 = .ok (.sipush 255, 3) := by decide +kernel
theorem dX10_here_23 : decode cX10_here 23 = .ok (.iand, 1) := by decide +kernel
theorem dX10_here_24 : decode cX10_here 24 = .ok (.goto 4, 3) := by decide +kernel
theorem dX10_here_27 : decode cX10_here 27 = .ok (.iconst (-1), 1) := by decide +kernel
theorem dX10_here_28 : decode cX10_here 28 = .ok (.ireturn, 1) := by decide +kernel
theorem dX10_isFigure_0 : decode cX10_isFigure 0 = .ok (.iload_n 0, 1) := by decide +kernel
theorem dX10_isFigure_1 : decode cX10_isFigure 1 = .ok (.bipush 48, 2) := by decide +kernel
theorem dX10_isFigure_3 : decode cX10_isFigure 3 = .ok (.if_icmp .lt 13, 3) := by decide +kernel
theorem dX10_isFigure_6 : decode cX10_isFigure 6 = .ok (.iload_n 0, 1) := by decide +kernel
theorem dX10_isFigure_7 : decode cX10_isFigure 7 = .ok (.bipush 57, 2) := by decide +kernel
theorem dX10_isFigure_9 : decode cX10_isFigure 9 = .ok (.if_icmp .gt 7, 3) := by decide +kernel
theorem dX10_isFigure_12 : decode cX10_isFigure 12 = .ok (.iconst 1, 1) := by decide +kernel
theorem dX10_isFigure_13 : decode cX10_isFigure 13 = .ok (.goto 4, 3) := by decide +kernel
theorem dX10_isFigure_16 : decode cX10_isFigure 16 = .ok (.iconst 0, 1) := by decide +kernel
theorem dX10_isFigure_17 : decode cX10_isFigure 17 = .ok (.ireturn, 1) := by decide +kernel
theorem dX10_isLetter_0 : decode cX10_isLetter 0 = .ok (.iload_n 0, 1) := by decide +kernel
theorem dX10_isLetter_1 : decode cX10_isLetter 1 = .ok (.bipush 97, 2) := by decide +kernel
theorem dX10_isLetter_3 : decode cX10_isLetter 3 = .ok (.if_icmp .lt 13, 3) := by decide +kernel
theorem dX10_isLetter_6 : decode cX10_isLetter 6 = .ok (.iload_n 0, 1) := by decide +kernel
theorem dX10_isLetter_7 : decode cX10_isLetter 7 = .ok (.bipush 122, 2) := by decide +kernel
theorem dX10_isLetter_9 : decode cX10_isLetter 9 = .ok (.if_icmp .gt 7, 3) := by decide +kernel
theorem dX10_isLetter_12 : decode cX10_isLetter 12 = .ok (.iconst 1, 1) := by decide +kernel
theorem dX10_isLetter_13 : decode cX10_isLetter 13 = .ok (.goto 4, 3) := by decide +kernel
theorem dX10_isLetter_16 : decode cX10_isLetter 16 = .ok (.iconst 0, 1) := by decide +kernel
theorem dX10_isLetter_17 : decode cX10_isLetter 17 = .ok (.ireturn, 1) := by decide +kernel
theorem dX10_letter_0 : decode cX10_letter 0 = .ok (.lload_n 0, 1) := by decide +kernel
theorem dX10_letter_1 : decode cX10_letter 1 = .ok (.lconst 0, 1) := by decide +kernel
theorem dX10_letter_2 : decode cX10_letter 2 = .ok (.lcmp, 1) := by decide +kernel
theorem dX10_letter_3 : decode cX10_letter 3 = .ok (.ifCond .lt 11, 3) := by decide +kernel
theorem dX10_letter_6 : decode cX10_letter 6 = .ok (.lload_n 0, 1) := by decide +kernel
theorem dX10_letter_7 : decode cX10_letter 7 = .ok (.ldc2_w 98, 3) := by decide +kernel
theorem dX10_letter_10 : decode cX10_letter 10 = .ok (.lcmp, 1) := by decide +kernel
theorem dX10_letter_11 : decode cX10_letter 11 = .ok (.ifCond .lt 9, 3) := by decide +kernel
theorem dX10_letter_14 : decode cX10_letter 14 = .ok (.ldc2_w 100, 3) := by decide +kernel
theorem dX10_letter_17 : decode cX10_letter 17 = .ok (.goto 15, 3) := by decide +kernel
theorem dX10_letter_20 : decode cX10_letter 20 = .ok (.lload_n 0, 1) := by decide +kernel
theorem dX10_letter_21 : decode cX10_letter 21 = .ok (.ldc2_w 102, 3) := by decide +kernel
theorem dX10_letter_24 : decode cX10_letter 24 = .ok (.lmul, 1) := by decide +kernel
theorem dX10_letter_25 : decode cX10_letter 25 = .ok (.iload_n 2, 1) := by decide +kernel
theorem dX10_letter_26 : decode cX10_letter 26 = .ok (.i2l, 1) := by decide +kernel
theorem dX10_letter_27 : decode cX10_letter 27 = .ok (.ladd, 1) := by decide +kernel
theorem dX10_letter_28 : decode cX10_letter 28 = .ok (.ldc2_w 104, 3) := by decide +kernel
theorem dX10_letter_31 : decode cX10_letter 31 = .ok (.lsub, 1) := by decide +kernel
theorem dX10_letter_32 : decode cX10_letter 32 = .ok (.lreturn, 1) := by decide +kernel
theorem dX10_w3_0 : decode cX10_w3 0 = .ok (.lconst 0, 1) := by decide +kernel
theorem dX10_w3_1 : decode cX10_w3 1 = .ok (.iload_n 0, 1) := by decide +kernel
theorem dX10_w3_2 : decode cX10_w3 2 = .ok (.invokestatic 106, 3) := by decide +kernel
theorem dX10_w3_5 : decode cX10_w3 5 = .ok (.iload_n 1, 1) := by decide +kernel
theorem dX10_w3_6 : decode cX10_w3 6 = .ok (.invokestatic 106, 3) := by decide +kernel
theorem dX10_w3_9 : decode cX10_w3 9 = .ok (.iload_n 2, 1) := by decide +kernel
theorem dX10_w3_10 : decode cX10_w3 10 = .ok (.invokestatic 106, 3) := by decide +kernel
theorem dX10_w3_13 : decode cX10_w3 13 = .ok (.lreturn, 1) := by decide +kernel
theorem dX10_w4_0 : decode cX10_w4 0 = .ok (.iload_n 0, 1) := by decide +kernel
theorem dX10_w4_1 : decode cX10_w4 1 = .ok (.iload_n 1, 1) := by decide +kernel
theorem dX10_w4_2 : decode cX10_w4 2 = .ok (.iload_n 2, 1) := by decide +kernel
theorem dX10_w4_3 : decode cX10_w4 3 = .ok (.invokestatic 110, 3) := by decide +kernel
theorem dX10_w4_6 : decode cX10_w4 6 = .ok (.iload_n 3, 1) := by decide +kernel
theorem dX10_w4_7 : decode cX10_w4 7 = .ok (.invokestatic 106, 3) := by decide +kernel
theorem dX10_w4_10 : decode cX10_w4 10 = .ok (.lreturn, 1) := by decide +kernel
theorem dX10_w5_0 : decode cX10_w5 0 = .ok (.iload_n 0, 1) := by decide +kernel
theorem dX10_w5_1 : decode cX10_w5 1 = .ok (.iload_n 1, 1) := by decide +kernel
theorem dX10_w5_2 : decode cX10_w5 2 = .ok (.iload_n 2, 1) := by decide +kernel
theorem dX10_w5_3 : decode cX10_w5 3 = .ok (.iload_n 3, 1) := by decide +kernel
theorem dX10_w5_4 : decode cX10_w5 4 = .ok (.invokestatic 114, 3) := by decide +kernel
theorem dX10_w5_7 : decode cX10_w5 7 = .ok (.iload 4, 2) := by decide +kernel
theorem dX10_w5_9 : decode cX10_w5 9 = .ok (.invokestatic 106, 3) := by decide +kernel
theorem dX10_w5_12 : decode cX10_w5 12 = .ok (.lreturn, 1) := by decide +kernel
theorem dX10_w6_0 : decode cX10_w6 0 = .ok (.iload_n 0, 1) := by decide +kernel
theorem dX10_w6_1 : decode cX10_w6 1 = .ok (.iload_n 1, 1) := by decide +kernel
theorem dX10_w6_2 : decode cX10_w6 2 = .ok (.iload_n 2, 1) := by decide +kernel
theorem dX10_w6_3 : decode cX10_w6 3 = .ok (.iload_n 3, 1) := by decide +kernel
theorem dX10_w6_4 : decode cX10_w6 4 = .ok (.iload 4, 2) := by decide +kernel
theorem dX10_w6_6 : decode cX10_w6 6 = .ok (.invokestatic 118, 3) := by decide +kernel
theorem dX10_w6_9 : decode cX10_w6 9 = .ok (.iload 5, 2) := by decide +kernel
theorem dX10_w6_11 : decode cX10_w6 11 = .ok (.invokestatic 106, 3) := by decide +kernel
theorem dX10_w6_14 : decode cX10_w6 14 = .ok (.lreturn, 1) := by decide +kernel
theorem dX10_nextToken_0 : decode cX10_nextToken 0 = .ok (.aload_n 0, 1) := by decide +kernel
theorem dX10_nextToken_1 : decode cX10_nextToken 1 = .ok (.invokevirtual 122, 3) := by decide +kernel
theorem dX10_nextToken_4 : decode cX10_nextToken 4 = .ok (.bipush 32, 2) := by decide +kernel
theorem dX10_nextToken_6 : decode cX10_nextToken 6 = .ok (.if_icmp .ne 16, 3) := by decide +kernel
theorem dX10_nextToken_9 : decode cX10_nextToken 9 = .ok (.aload_n 0, 1) := by decide +kernel
theorem dX10_nextToken_10 : decode cX10_nextToken 10 = .ok (.dup, 1) := by decide +kernel
theorem dX10_nextToken_11 : decode cX10_nextToken 11 = .ok (.getfield 95, 3) := by decide +kernel
theorem dX10_nextToken_14 : decode cX10_nextToken 14 = .ok (.iconst 1, 1) := by decide +kernel
theorem dX10_nextToken_15 : decode cX10_nextToken 15 = .ok (.iadd, 1) := by decide +kernel
theorem dX10_nextToken_16 : decode cX10_nextToken 16 = .ok (.putfield 95, 3) := by decide +kernel
theorem dX10_nextToken_19 : decode cX10_nextToken 19 = .ok (.goto (-19), 3) := by decide +kernel
theorem dX10_nextToken_22 : decode cX10_nextToken 22 = .ok (.aload_n 0, 1) := by decide +kernel
theorem dX10_nextToken_23 : decode cX10_nextToken 23 = .ok (.aload_n 0, 1) := by decide +kernel
theorem dX10_nextToken_24 : decode cX10_nextToken 24 = .ok (.getfield 95, 3) := by decide +kernel
theorem dX10_nextToken_27 : decode cX10_nextToken 27 = .ok (.putfield 126, 3) := by decide +kernel
theorem dX10_nextToken_30 : decode cX10_nextToken 30 = .ok (.aload_n 0, 1) := by decide +kernel
theorem dX10_nextToken_31 : decode cX10_nextToken 31 = .ok (.invokevirtual 122, 3) := by decide +kernel
theorem dX10_nextToken_34 : decode cX10_nextToken 34 = .ok (.istore_n 1, 1) := by decide +kernel
theorem dX10_nextToken_35 : decode cX10_nextToken 35 = .ok (.iload_n 1, 1) := by decide +kernel
theorem dX10_nextToken_36 : decode cX10_nextToken 36 = .ok (.iconst (-1), 1) := by decide +kernel
theorem dX10_nextToken_37 : decode cX10_nextToken 37 = .ok (.if_icmp .ne 11, 3) := by decide +kernel
theorem dX10_nextToken_40 : decode cX10_nextToken 40 = .ok (.aload_n 0, 1) := by decide +kernel
theorem dX10_nextToken_41 : decode cX10_nextToken 41 = .ok (.iconst 0, 1) := by decide +kernel
theorem dX10_nextToken_42 : decode cX10_nextToken 42 = .ok (.putfield 129, 3) := by decide +kernel
theorem dX10_nextToken_45 : decode cX10_nextToken 45 = .ok (.goto 194, 3) := by decide +kernel
theorem dX10_nextToken_48 : decode cX10_nextToken 48 = .ok (.iload_n 1, 1) := by decide +kernel
theorem dX10_nextToken_49 : decode cX10_nextToken 49 = .ok (.invokestatic 132, 3) := by decide +kernel
theorem dX10_nextToken_52 : decode cX10_nextToken 52 = .ok (.ifCond .eq 51, 3) := by decide +kernel
theorem dX10_nextToken_55 : decode cX10_nextToken 55 = .ok (.aload_n 0, 1) := by decide +kernel
theorem dX10_nextToken_56 : decode cX10_nextToken 56 = .ok (.iconst 1, 1) := by decide +kernel
theorem dX10_nextToken_57 : decode cX10_nextToken 57 = .ok (.putfield 129, 3) := by decide +kernel
theorem dX10_nextToken_60 : decode cX10_nextToken 60 = .ok (.aload_n 0, 1) := by decide +kernel
theorem dX10_nextToken_61 : decode cX10_nextToken 61 = .ok (.lconst 0, 1) := by decide +kernel
theorem dX10_nextToken_62 : decode cX10_nextToken 62 = .ok (.putfield 136, 3) := by decide +kernel
theorem dX10_nextToken_65 : decode cX10_nextToken 65 = .ok (.aload_n 0, 1) := by decide +kernel
theorem dX10_nextToken_66 : decode cX10_nextToken 66 = .ok (.invokevirtual 122, 3) := by decide +kernel
theorem dX10_nextToken_69 : decode cX10_nextToken 69 = .ok (.invokestatic 132, 3) := by decide +kernel
theorem dX10_nextToken_72 : decode cX10_nextToken 72 = .ok (.ifCond .eq 167, 3) := by decide +kernel
theorem dX10_nextToken_75 : decode cX10_nextToken 75 = .ok (.aload_n 0, 1) := by decide +kernel
theorem dX10_nextToken_76 : decode cX10_nextToken 76 = .ok (.aload_n 0, 1) := by decide +kernel
theorem dX10_nextToken_77 : decode cX10_nextToken 77 = .ok (.getfield 136, 3) := by decide +kernel
theorem dX10_nextToken_80 : decode cX10_nextToken 80 = .ok (.aload_n 0, 1) := by decide +kernel
theorem dX10_nextToken_81 : decode cX10_nextToken 81 = .ok (.invokevirtual 122, 3) := by decide +kernel
theorem dX10_nextToken_84 : decode cX10_nextToken 84 = .ok (.invokestatic 106, 3) := by decide +kernel
theorem dX10_nextToken_87 : decode cX10_nextToken 87 = .ok (.putfield 136, 3) := by decide +kernel
theorem dX10_nextToken_90 : decode cX10_nextToken 90 = .ok (.aload_n 0, 1) := by decide +kernel
theorem dX10_nextToken_91 : decode cX10_nextToken 91 = .ok (.dup, 1) := by decide +kernel
theorem dX10_nextToken_92 : decode cX10_nextToken 92 = .ok (.getfield 95, 3) := by decide +kernel
theorem dX10_nextToken_95 : decode cX10_nextToken 95 = .ok (.iconst 1, 1) := by decide +kernel
theorem dX10_nextToken_96 : decode cX10_nextToken 96 = .ok (.iadd, 1) := by decide +kernel
theorem dX10_nextToken_97 : decode cX10_nextToken 97 = .ok (.putfield 95, 3) := by decide +kernel
theorem dX10_nextToken_100 : decode cX10_nextToken 100 = .ok (.goto (-35), 3) := by decide +kernel
theorem dX10_nextToken_103 : decode cX10_nextToken 103 = .ok (.iload_n 1, 1) := by decide +kernel
theorem dX10_nextToken_104 : decode cX10_nextToken 104 = .ok (.invokestatic 140, 3) := by decide +kernel
theorem dX10_nextToken_107 : decode cX10_nextToken 107 = .ok (.ifCond .eq 71, 3) := by decide +kernel
theorem dX10_nextToken_110 : decode cX10_nextToken 110 = .ok (.aload_n 0, 1) := by decide +kernel
theorem dX10_nextToken_111 : decode cX10_nextToken 111 = .ok (.iconst 2, 1) := by decide +kernel
theorem dX10_nextToken_112 : decode cX10_nextToken 112 = .ok (.putfield 129, 3) := by decide +kernel
theorem dX10_nextToken_115 : decode cX10_nextToken 115 = .ok (.aload_n 0, 1) := by decide +kernel
theorem dX10_nextToken_116 : decode cX10_nextToken 116 = .ok (.iconst 0, 1) := by decide +kernel
theorem dX10_nextToken_117 : decode cX10_nextToken 117 = .ok (.putfield 143, 3) := by decide +kernel
theorem dX10_nextToken_120 : decode cX10_nextToken 120 = .ok (.aload_n 0, 1) := by decide +kernel
theorem dX10_nextToken_121 : decode cX10_nextToken 121 = .ok (.invokevirtual 122, 3) := by decide +kernel
theorem dX10_nextToken_124 : decode cX10_nextToken 124 = .ok (.invokestatic 140, 3) := by decide +kernel
theorem dX10_nextToken_127 : decode cX10_nextToken 127 = .ok (.ifCond .eq 112, 3) := by decide +kernel
theorem dX10_nextToken_130 : decode cX10_nextToken 130 = .ok (.aload_n 0, 1) := by decide +kernel
theorem dX10_nextToken_131 : decode cX10_nextToken 131 = .ok (.aload_n 0, 1) := by decide +kernel
theorem dX10_nextToken_132 : decode cX10_nextToken 132 = .ok (.getfield 143, 3) := by decide +kernel
theorem dX10_nextToken_135 : decode cX10_nextToken 135 = .ok (.ldc 146, 2) := by decide +kernel
theorem dX10_nextToken_137 : decode cX10_nextToken 137 = .ok (.if_icmp .le 10, 3) := by decide +kernel
theorem dX10_nextToken_140 : decode cX10_nextToken 140 = .ok (.aload_n 0, 1) := by decide +kernel
theorem dX10_nextToken_141 : decode cX10_nextToken 141 = .ok (.getfield 143, 3) := by decide +kernel
theorem dX10_nextToken_144 : decode cX10_nextToken 144 = .ok (.goto 18, 3) := by decide +kernel
theorem dX10_nextToken_147 : decode cX10_nextToken 147 = .ok (.bipush 10, 2) := by decide +kernel
theorem dX10_nextToken_149 : decode cX10_nextToken 149 = .ok (.aload_n 0, 1) := by decide +kernel
theorem dX10_nextToken_150 : decode cX10_nextToken 150 = .ok (.getfield 143, 3) := by decide +kernel
theorem dX10_nextToken_153 : decode cX10_nextToken 153 = .ok (.imul, 1) := by decide +kernel
theorem dX10_nextToken_154 : decode cX10_nextToken 154 = .ok (.aload_n 0, 1) := by decide +kernel
theorem dX10_nextToken_155 : decode cX10_nextToken 155 = .ok (.invokevirtual 122, 3) := by decide +kernel
theorem dX10_nextToken_158 : decode cX10_nextToken 158 = .ok (.iadd, 1) := by decide +kernel
theorem dX10_nextToken_159 : decode cX10_nextToken 159 = .ok (.bipush 48, 2) := by decide +kernel
theorem dX10_nextToken_161 : decode cX10_nextToken 161 = .ok (.isub, 1) := by decide +kernel
theorem dX10_nextToken_162 : decode cX10_nextToken 162 = .ok (.putfield 143, 3) := by decide +kernel
theorem dX10_nextToken_165 : decode cX10_nextToken 165 = .ok (.aload_n 0, 1) := by decide +kernel
theorem dX10_nextToken_166 : decode cX10_nextToken 166 = .ok (.dup, 1) := by decide +kernel
theorem dX10_nextToken_167 : decode cX10_nextToken 167 = .ok (.getfield 95, 3) := by decide +kernel
theorem dX10_nextToken_170 : decode cX10_nextToken 170 = .ok (.iconst 1, 1) := by decide +kernel
theorem dX10_nextToken_171 : decode cX10_nextToken 171 = .ok (.iadd, 1) := by decide +kernel
theorem dX10_nextToken_172 : decode cX10_nextToken 172 = .ok (.putfield 95, 3) := by decide +kernel
theorem dX10_nextToken_175 : decode cX10_nextToken 175 = .ok (.goto (-55), 3) := by decide +kernel
theorem dX10_nextToken_178 : decode cX10_nextToken 178 = .ok (.aload_n 0, 1) := by decide +kernel
theorem dX10_nextToken_179 : decode cX10_nextToken 179 = .ok (.iload_n 1, 1) := by decide +kernel
theorem dX10_nextToken_180 : decode cX10_nextToken 180 = .ok (.bipush 59, 2) := by decide +kernel
theorem dX10_nextToken_182 : decode cX10_nextToken 182 = .ok (.if_icmp .eq 39, 3) := by decide +kernel
theorem dX10_nextToken_185 : decode cX10_nextToken 185 = .ok (.iload_n 1, 1) := by decide +kernel
theorem dX10_nextToken_186 : decode cX10_nextToken 186 = .ok (.bipush 43, 2) := by decide +kernel
theorem dX10_nextToken_188 : decode cX10_nextToken 188 = .ok (.if_icmp .eq 33, 3) := by decide +kernel
theorem dX10_nextToken_191 : decode cX10_nextToken 191 = .ok (.iload_n 1, 1) := by decide +kernel
theorem dX10_nextToken_192 : decode cX10_nextToken 192 = .ok (.bipush 45, 2) := by decide +kernel
theorem dX10_nextToken_194 : decode cX10_nextToken 194 = .ok (.if_icmp .eq 27, 3) := by decide +kernel
theorem dX10_nextToken_197 : decode cX10_nextToken 197 = .ok (.iload_n 1, 1) := by decide +kernel
theorem dX10_nextToken_198 : decode cX10_nextToken 198 = .ok (.bipush 42, 2) := by decide +kernel
theorem dX10_nextToken_200 : decode cX10_nextToken 200 = .ok (.if_icmp .eq 21, 3) := by decide +kernel
theorem dX10_nextToken_203 : decode cX10_nextToken 203 = .ok (.iload_n 1, 1) := by decide +kernel
theorem dX10_nextToken_204 : decode cX10_nextToken 204 = .ok (.bipush 47, 2) := by decide +kernel
theorem dX10_nextToken_206 : decode cX10_nextToken 206 = .ok (.if_icmp .eq 15, 3) := by decide +kernel
theorem dX10_nextToken_209 : decode cX10_nextToken 209 = .ok (.iload_n 1, 1) := by decide +kernel
theorem dX10_nextToken_210 : decode cX10_nextToken 210 = .ok (.bipush 60, 2) := by decide +kernel
theorem dX10_nextToken_212 : decode cX10_nextToken 212 = .ok (.if_icmp .eq 9, 3) := by decide +kernel
theorem dX10_nextToken_215 : decode cX10_nextToken 215 = .ok (.iload_n 1, 1) := by decide +kernel
theorem dX10_nextToken_216 : decode cX10_nextToken 216 = .ok (.bipush 62, 2) := by decide +kernel
theorem dX10_nextToken_218 : decode cX10_nextToken 218 = .ok (.if_icmp .ne 7, 3) := by decide +kernel
theorem dX10_nextToken_221 : decode cX10_nextToken 221 = .ok (.iload_n 1, 1) := by decide +kernel
theorem dX10_nextToken_222 : decode cX10_nextToken 222 = .ok (.goto 4, 3) := by decide +kernel
theorem dX10_nextToken_225 : decode cX10_nextToken 225 = .ok (.iconst 3, 1) := by decide +kernel
theorem dX10_nextToken_226 : decode cX10_nextToken 226 = .ok (.putfield 129, 3) := by decide +kernel
theorem dX10_nextToken_229 : decode cX10_nextToken 229 = .ok (.aload_n 0, 1) := by decide +kernel
theorem dX10_nextToken_230 : decode cX10_nextToken 230 = .ok (.dup, 1) := by decide +kernel
theorem dX10_nextToken_231 : decode cX10_nextToken 231 = .ok (.getfield 95, 3) := by decide +kernel
theorem dX10_nextToken_234 : decode cX10_nextToken 234 = .ok (.iconst 1, 1) := by decide +kernel
theorem dX10_nextToken_235 : decode cX10_nextToken 235 = .ok (.iadd, 1) := by decide +kernel
theorem dX10_nextToken_236 : decode cX10_nextToken 236 = .ok (.putfield 95, 3) := by decide +kernel
theorem dX10_nextToken_239 : decode cX10_nextToken 239 = .ok (.return_, 1) := by decide +kernel
theorem dX10_beginText_0 : decode cX10_beginText 0 = .ok (.aload_n 0, 1) := by decide +kernel
theorem dX10_beginText_1 : decode cX10_beginText 1 = .ok (.iconst 0, 1) := by decide +kernel
theorem dX10_beginText_2 : decode cX10_beginText 2 = .ok (.putfield 95, 3) := by decide +kernel
theorem dX10_beginText_5 : decode cX10_beginText 5 = .ok (.aload_n 0, 1) := by decide +kernel
theorem dX10_beginText_6 : decode cX10_beginText 6 = .ok (.iconst (-1), 1) := by decide +kernel
theorem dX10_beginText_7 : decode cX10_beginText 7 = .ok (.putfield 25, 3) := by decide +kernel
theorem dX10_beginText_10 : decode cX10_beginText 10 = .ok (.aload_n 0, 1) := by decide +kernel
theorem dX10_beginText_11 : decode cX10_beginText 11 = .ok (.invokevirtual 147, 3) := by decide +kernel
theorem dX10_beginText_14 : decode cX10_beginText 14 = .ok (.return_, 1) := by decide +kernel
theorem dX10_fails_0 : decode cX10_fails 0 = .ok (.aload_n 0, 1) := by decide +kernel
theorem dX10_fails_1 : decode cX10_fails 1 = .ok (.aload_n 0, 1) := by decide +kernel
theorem dX10_fails_2 : decode cX10_fails 2 = .ok (.getfield 126, 3) := by decide +kernel
theorem dX10_fails_5 : decode cX10_fails 5 = .ok (.putfield 25, 3) := by decide +kernel
theorem dX10_fails_8 : decode cX10_fails 8 = .ok (.iconst 0, 1) := by decide +kernel
theorem dX10_fails_9 : decode cX10_fails 9 = .ok (.ireturn, 1) := by decide +kernel
theorem dX10_isWord_0 : decode cX10_isWord 0 = .ok (.aload_n 0, 1) := by decide +kernel
theorem dX10_isWord_1 : decode cX10_isWord 1 = .ok (.getfield 129, 3) := by decide +kernel
theorem dX10_isWord_4 : decode cX10_isWord 4 = .ok (.iconst 1, 1) := by decide +kernel
theorem dX10_isWord_5 : decode cX10_isWord 5 = .ok (.if_icmp .ne 16, 3) := by decide +kernel
theorem dX10_isWord_8 : decode cX10_isWord 8 = .ok (.aload_n 0, 1) := by decide +kernel
theorem dX10_isWord_9 : decode cX10_isWord 9 = .ok (.getfield 136, 3) := by decide +kernel
theorem dX10_isWord_12 : decode cX10_isWord 12 = .ok (.lload_n 1, 1) := by decide +kernel
theorem dX10_isWord_13 : decode cX10_isWord 13 = .ok (.lcmp, 1) := by decide +kernel
theorem dX10_isWord_14 : decode cX10_isWord 14 = .ok (.ifCond .ne 7, 3) := by decide +kernel
theorem dX10_isWord_17 : decode cX10_isWord 17 = .ok (.iconst 1, 1) := by decide +kernel
theorem dX10_isWord_18 : decode cX10_isWord 18 = .ok (.goto 4, 3) := by decide +kernel
theorem dX10_isWord_21 : decode cX10_isWord 21 = .ok (.iconst 0, 1) := by decide +kernel
theorem dX10_isWord_22 : decode cX10_isWord 22 = .ok (.ireturn, 1) := by decide +kernel
theorem dX10_takesWord_0 : decode cX10_takesWord 0 = .ok (.aload_n 0, 1) := by decide +kernel
theorem dX10_takesWord_1 : decode cX10_takesWord 1 = .ok (.lload_n 1, 1) := by decide +kernel
theorem dX10_takesWord_2 : decode cX10_takesWord 2 = .ok (.invokevirtual 150, 3) := by decide +kernel
theorem dX10_takesWord_5 : decode cX10_takesWord 5 = .ok (.ifCond .ne 8, 3) := by decide +kernel
theorem dX10_takesWord_8 : decode cX10_takesWord 8 = .ok (.aload_n 0, 1) := by decide +kernel
theorem dX10_takesWord_9 : decode cX10_takesWord 9 = .ok (.invokevirtual 154, 3) := by decide +kernel
theorem dX10_takesWord_12 : decode cX10_takesWord 12 = .ok (.ireturn, 1) := by decide +kernel
theorem dX10_takesWord_13 : decode cX10_takesWord 13 = .ok (.aload_n 0, 1) := by decide +kernel
theorem dX10_takesWord_14 : decode cX10_takesWord 14 = .ok (.invokevirtual 147, 3) := by decide +kernel
theorem dX10_takesWord_17 : decode cX10_takesWord 17 = .ok (.iconst 1, 1) := by decide +kernel
theorem dX10_takesWord_18 : decode cX10_takesWord 18 = .ok (.ireturn, 1) := by decide +kernel
theorem dX10_takes_0 : decode cX10_takes 0 = .ok (.aload_n 0, 1) := by decide +kernel
theorem dX10_takes_1 : decode cX10_takes 1 = .ok (.getfield 129, 3) := by decide +kernel
theorem dX10_takes_4 : decode cX10_takes 4 = .ok (.iload_n 1, 1) := by decide +kernel
theorem dX10_takes_5 : decode cX10_takes 5 = .ok (.if_icmp .eq 8, 3) := by decide +kernel
theorem dX10_takes_8 : decode cX10_takes 8 = .ok (.aload_n 0, 1) := by decide +kernel
theorem dX10_takes_9 : decode cX10_takes 9 = .ok (.invokevirtual 154, 3) := by decide +kernel
theorem dX10_takes_12 : decode cX10_takes 12 = .ok (.ireturn, 1) := by decide +kernel
theorem dX10_takes_13 : decode cX10_takes 13 = .ok (.aload_n 0, 1) := by decide +kernel
theorem dX10_takes_14 : decode cX10_takes 14 = .ok (.invokevirtual 147, 3) := by decide +kernel
theorem dX10_takes_17 : decode cX10_takes 17 = .ok (.iconst 1, 1) := by decide +kernel
theorem dX10_takes_18 : decode cX10_takes 18 = .ok (.ireturn, 1) := by decide +kernel
theorem dX10_takesNumber_0 : decode cX10_takesNumber 0 = .ok (.aload_n 0, 1) := by decide +kernel
theorem dX10_takesNumber_1 : decode cX10_takesNumber 1 = .ok (.getfield 129, 3) := by decide +kernel
theorem dX10_takesNumber_4 : decode cX10_takesNumber 4 = .ok (.iconst 2, 1) := by decide +kernel
theorem dX10_takesNumber_5 : decode cX10_takesNumber 5 = .ok (.if_icmp .ne 15, 3) := by decide +kernel
theorem dX10_takesNumber_8 : decode cX10_takesNumber 8 = .ok (.aload_n 0, 1) := by decide +kernel
theorem dX10_takesNumber_9 : decode cX10_takesNumber 9 = .ok (.getfield 143, 3) := by decide +kernel
theorem dX10_takesNumber_12 : decode cX10_takesNumber 12 = .ok (.iload_n 1, 1) := by decide +kernel
theorem dX10_takesNumber_13 : decode cX10_takesNumber 13 = .ok (.iload_n 2, 1) := by decide +kernel
theorem dX10_takesNumber_14 : decode cX10_takesNumber 14 = .ok (.invokestatic 81, 3) := by decide +kernel
theorem dX10_takesNumber_17 : decode cX10_takesNumber 17 = .ok (.ifCond .ne 8, 3) := by decide +kernel
theorem dX10_takesNumber_20 : decode cX10_takesNumber 20 = .ok (.aload_n 0, 1) := by decide +kernel
theorem dX10_takesNumber_21 : decode cX10_takesNumber 21 = .ok (.invokevirtual 154, 3) := by decide +kernel
theorem dX10_takesNumber_24 : decode cX10_takesNumber 24 = .ok (.ireturn, 1) := by decide +kernel
theorem dX10_takesNumber_25 : decode cX10_takesNumber 25 = .ok (.aload_n 0, 1) := by decide +kernel
theorem dX10_takesNumber_26 : decode cX10_takesNumber 26 = .ok (.aload_n 0, 1) := by decide +kernel
theorem dX10_takesNumber_27 : decode cX10_takesNumber 27 = .ok (.getfield 143, 3) := by decide +kernel
theorem dX10_takesNumber_30 : decode cX10_takesNumber 30 = .ok (.putfield 158, 3) := by decide +kernel
theorem dX10_takesNumber_33 : decode cX10_takesNumber 33 = .ok (.aload_n 0, 1) := by decide +kernel
theorem dX10_takesNumber_34 : decode cX10_takesNumber 34 = .ok (.invokevirtual 147, 3) := by decide +kernel
theorem dX10_takesNumber_37 : decode cX10_takesNumber 37 = .ok (.iconst 1, 1) := by decide +kernel
theorem dX10_takesNumber_38 : decode cX10_takesNumber 38 = .ok (.ireturn, 1) := by decide +kernel
theorem dX10_partnerHere_0 : decode cX10_partnerHere 0 = .ok (.aload_n 0, 1) := by decide +kernel
theorem dX10_partnerHere_1 : decode cX10_partnerHere 1 = .ok (.getfield 129, 3) := by decide +kernel
theorem dX10_partnerHere_4 : decode cX10_partnerHere 4 = .ok (.iconst 1, 1) := by decide +kernel
theorem dX10_partnerHere_5 : decode cX10_partnerHere 5 = .ok (.if_icmp .ne 33, 3) := by decide +kernel
theorem dX10_partnerHere_8 : decode cX10_partnerHere 8 = .ok (.aload_n 0, 1) := by decide +kernel
theorem dX10_partnerHere_9 : decode cX10_partnerHere 9 = .ok (.getfield 136, 3) := by decide +kernel
theorem dX10_partnerHere_12 : decode cX10_partnerHere 12 = .ok (.lconst 1, 1) := by decide +kernel
theorem dX10_partnerHere_13 : decode cX10_partnerHere 13 = .ok (.lcmp, 1) := by decide +kernel
theorem dX10_partnerHere_14 : decode cX10_partnerHere 14 = .ok (.ifCond .lt 24, 3) := by decide +kernel
theorem dX10_partnerHere_17 : decode cX10_partnerHere 17 = .ok (.aload_n 0, 1) := by decide +kernel
theorem dX10_partnerHere_18 : decode cX10_partnerHere 18 = .ok (.getfield 136, 3) := by decide +kernel
theorem dX10_partnerHere_21 : decode cX10_partnerHere 21 = .ok (.ldc2_w 161, 3) := by decide +kernel
theorem dX10_partnerHere_24 : decode cX10_partnerHere 24 = .ok (.lcmp, 1) := by decide +kernel
theorem dX10_partnerHere_25 : decode cX10_partnerHere 25 = .ok (.ifCond .gt 13, 3) := by decide +kernel
theorem dX10_partnerHere_28 : decode cX10_partnerHere 28 = .ok (.aload_n 0, 1) := by decide +kernel
theorem dX10_partnerHere_29 : decode cX10_partnerHere 29 = .ok (.getfield 136, 3) := by decide +kernel
theorem dX10_partnerHere_32 : decode cX10_partnerHere 32 = .ok (.l2i, 1) := by decide +kernel
theorem dX10_partnerHere_33 : decode cX10_partnerHere 33 = .ok (.iconst 1, 1) := by decide +kernel
theorem dX10_partnerHere_34 : decode cX10_partnerHere 34 = .ok (.isub, 1) := by decide +kernel
theorem dX10_partnerHere_35 : decode cX10_partnerHere 35 = .ok (.goto 4, 3) := by decide +kernel
theorem dX10_partnerHere_38 : decode cX10_partnerHere 38 = .ok (.iconst (-1), 1) := by decide +kernel
theorem dX10_partnerHere_39 : decode cX10_partnerHere 39 = .ok (.ireturn, 1) := by decide +kernel
theorem dX10_takesPartner_0 : decode cX10_takesPartner 0 = .ok (.aload_n 0, 1) := by decide +kernel
theorem dX10_takesPartner_1 : decode cX10_takesPartner 1 = .ok (.aload_n 0, 1) := by decide +kernel
theorem dX10_takesPartner_2 : decode cX10_takesPartner 2 = .ok (.invokevirtual 163, 3) := by decide +kernel
theorem dX10_takesPartner_5 : decode cX10_takesPartner 5 = .ok (.putfield 158, 3) := by decide +kernel
theorem dX10_takesPartner_8 : decode cX10_takesPartner 8 = .ok (.aload_n 0, 1) := by decide +kernel
theorem dX10_takesPartner_9 : decode cX10_takesPartner 9 = .ok (.getfield 158, 3) := by decide +kernel
theorem dX10_takesPartner_12 : decode cX10_takesPartner 12 = .ok (.iconst (-1), 1) := by decide +kernel
theorem dX10_takesPartner_13 : decode cX10_takesPartner 13 = .ok (.if_icmp .ne 8, 3) := by decide +kernel
theorem dX10_takesPartner_16 : decode cX10_takesPartner 16 = .ok (.aload_n 0, 1) := by decide +kernel
theorem dX10_takesPartner_17 : decode cX10_takesPartner 17 = .ok (.invokevirtual 154, 3) := by decide +kernel
theorem dX10_takesPartner_20 : decode cX10_takesPartner 20 = .ok (.ireturn, 1) := by decide +kernel
theorem dX10_takesPartner_21 : decode cX10_takesPartner 21 = .ok (.aload_n 0, 1) := by decide +kernel
theorem dX10_takesPartner_22 : decode cX10_takesPartner 22 = .ok (.invokevirtual 147, 3) := by decide +kernel
theorem dX10_takesPartner_25 : decode cX10_takesPartner 25 = .ok (.iconst 1, 1) := by decide +kernel
theorem dX10_takesPartner_26 : decode cX10_takesPartner 26 = .ok (.ireturn, 1) := by decide +kernel
theorem dX10_readGives_0 : decode cX10_readGives 0 = .ok (.iconst 0, 1) := by decide +kernel
theorem dX10_readGives_1 : decode cX10_readGives 1 = .ok (.istore_n 2, 1) := by decide +kernel
theorem dX10_readGives_2 : decode cX10_readGives 2 = .ok (.iload_n 2, 1) := by decide +kernel
theorem dX10_readGives_3 : decode cX10_readGives 3 = .ok (.bipush 8, 2) := by decide +kernel
theorem dX10_readGives_5 : decode cX10_readGives 5 = .ok (.if_icmp .ge 20, 3) := by decide +kernel
theorem dX10_readGives_8 : decode cX10_readGives 8 = .ok (.aload_n 0, 1) := by decide +kernel
theorem dX10_readGives_9 : decode cX10_readGives 9 = .ok (.getfield 28, 3) := by decide +kernel
theorem dX10_readGives_12 : decode cX10_readGives 12 = .ok (.iload_n 1, 1) := by decide +kernel
theorem dX10_readGives_13 : decode cX10_readGives 13 = .ok (.iconst 1, 1) := by decide +kernel
theorem dX10_readGives_14 : decode cX10_readGives 14 = .ok (.iadd, 1) := by decide +kernel
theorem dX10_readGives_15 : decode cX10_readGives 15 = .ok (.iload_n 2, 1) := by decide +kernel
theorem dX10_readGives_16 : decode cX10_readGives 16 = .ok (.iadd, 1) := by decide +kernel
theorem dX10_readGives_17 : decode cX10_readGives 17 = .ok (.iconst 0, 1) := by decide +kernel
theorem dX10_readGives_18 : decode cX10_readGives 18 = .ok (.iastore, 1) := by decide +kernel
theorem dX10_readGives_19 : decode cX10_readGives 19 = .ok (.iinc 2 1, 3) := by decide +kernel
theorem dX10_readGives_22 : decode cX10_readGives 22 = .ok (.goto (-20), 3) := by decide +kernel
theorem dX10_readGives_25 : decode cX10_readGives 25 = .ok (.iconst 1, 1) := by decide +kernel
theorem dX10_readGives_26 : decode cX10_readGives 26 = .ok (.istore_n 2, 1) := by decide +kernel
theorem dX10_readGives_27 : decode cX10_readGives 27 = .ok (.iload_n 2, 1) := by decide +kernel
theorem dX10_readGives_28 : decode cX10_readGives 28 = .ok (.ifCond .eq 87, 3) := by decide +kernel
theorem dX10_readGives_31 : decode cX10_readGives 31 = .ok (.aload_n 0, 1) := by decide +kernel
theorem dX10_readGives_32 : decode cX10_readGives 32 = .ok (.invokevirtual 163, 3) := by decide +kernel
theorem dX10_readGives_35 : decode cX10_readGives 35 = .ok (.istore_n 3, 1) := by decide +kernel
theorem dX10_readGives_36 : decode cX10_readGives 36 = .ok (.iload_n 3, 1) := by decide +kernel
theorem dX10_readGives_37 : decode cX10_readGives 37 = .ok (.iconst (-1), 1) := by decide +kernel
theorem dX10_readGives_38 : decode cX10_readGives 38 = .ok (.if_icmp .eq 16, 3) := by decide +kernel
theorem dX10_readGives_41 : decode cX10_readGives 41 = .ok (.aload_n 0, 1) := by decide +kernel
theorem dX10_readGives_42 : decode cX10_readGives 42 = .ok (.getfield 28, 3) := by decide +kernel
theorem dX10_readGives_45 : decode cX10_readGives 45 = .ok (.iload_n 1, 1) := by decide +kernel
theorem dX10_readGives_46 : decode cX10_readGives 46 = .ok (.iconst 1, 1) := by decide +kernel
theorem dX10_readGives_47 : decode cX10_readGives 47 = .ok (.iadd, 1) := by decide +kernel
theorem dX10_readGives_48 : decode cX10_readGives 48 = .ok (.iload_n 3, 1) := by decide +kernel
theorem dX10_readGives_49 : decode cX10_readGives 49 = .ok (.iadd, 1) := by decide +kernel
theorem dX10_readGives_50 : decode cX10_readGives 50 = .ok (.iaload, 1) := by decide +kernel
theorem dX10_readGives_51 : decode cX10_readGives 51 = .ok (.ifCond .le 8, 3) := by decide +kernel
theorem dX10_readGives_54 : decode cX10_readGives 54 = .ok (.aload_n 0, 1) := by decide +kernel
theorem dX10_readGives_55 : decode cX10_readGives 55 = .ok (.invokevirtual 154, 3) := by decide +kernel
theorem dX10_readGives_58 : decode cX10_readGives 58 = .ok (.ireturn, 1) := by decide +kernel
theorem dX10_readGives_59 : decode cX10_readGives 59 = .ok (.aload_n 0, 1) := by decide +kernel
theorem dX10_readGives_60 : decode cX10_readGives 60 = .ok (.invokevirtual 147, 3) := by decide +kernel
theorem dX10_readGives_63 : decode cX10_readGives 63 = .ok (.aload_n 0, 1) := by decide +kernel
theorem dX10_readGives_64 : decode cX10_readGives 64 = .ok (.iconst 1, 1) := by decide +kernel
theorem dX10_readGives_65 : decode cX10_readGives 65 = .ok (.bipush 99, 2) := by decide +kernel
theorem dX10_readGives_67 : decode cX10_readGives 67 = .ok (.invokevirtual 166, 3) := by decide +kernel
theorem dX10_readGives_70 : decode cX10_readGives 70 = .ok (.ifCond .ne 5, 3) := by decide +kernel
theorem dX10_readGives_73 : decode cX10_readGives 73 = .ok (.iconst 0, 1) := by decide +kernel
theorem dX10_readGives_74 : decode cX10_readGives 74 = .ok (.ireturn, 1) := by decide +kernel
theorem dX10_readGives_75 : decode cX10_readGives 75 = .ok (.aload_n 0, 1) := by decide +kernel
theorem dX10_readGives_76 : decode cX10_readGives 76 = .ok (.getfield 28, 3) := by decide +kernel
theorem dX10_readGives_79 : decode cX10_readGives 79 = .ok (.iload_n 1, 1) := by decide +kernel
theorem dX10_readGives_80 : decode cX10_readGives 80 = .ok (.iconst 1, 1) := by decide +kernel
theorem dX10_readGives_81 : decode cX10_readGives 81 = .ok (.iadd, 1) := by decide +kernel
theorem dX10_readGives_82 : decode cX10_readGives 82 = .ok (.iload_n 3, 1) := by decide +kernel
theorem dX10_readGives_83 : decode cX10_readGives 83 = .ok (.iadd, 1) := by decide +kernel
theorem dX10_readGives_84 : decode cX10_readGives 84 = .ok (.aload_n 0, 1) := by decide +kernel
theorem dX10_readGives_85 : decode cX10_readGives 85 = .ok (.getfield 158, 3) := by decide +kernel
theorem dX10_readGives_88 : decode cX10_readGives 88 = .ok (.iastore, 1) := by decide +kernel
theorem dX10_readGives_89 : decode cX10_readGives 89 = .ok (.aload_n 0, 1) := by decide +kernel
theorem dX10_readGives_90 : decode cX10_readGives 90 = .ok (.getfield 129, 3) := by decide +kernel
theorem dX10_readGives_93 : decode cX10_readGives 93 = .ok (.bipush 43, 2) := by decide +kernel
theorem dX10_readGives_95 : decode cX10_readGives 95 = .ok (.if_icmp .ne 7, 3) := by decide +kernel
theorem dX10_readGives_98 : decode cX10_readGives 98 = .ok (.iconst 1, 1) := by decide +kernel
theorem dX10_readGives_99 : decode cX10_readGives 99 = .ok (.goto 4, 3) := by decide +kernel
theorem dX10_readGives_102 : decode cX10_readGives 102 = .ok (.iconst 0, 1) := by decide +kernel
theorem dX10_readGives_103 : decode cX10_readGives 103 = .ok (.istore_n 2, 1) := by decide +kernel
theorem dX10_readGives_104 : decode cX10_readGives 104 = .ok (.iload_n 2, 1) := by decide +kernel
theorem dX10_readGives_105 : decode cX10_readGives 105 = .ok (.ifCond .eq 7, 3) := by decide +kernel
theorem dX10_readGives_108 : decode cX10_readGives 108 = .ok (.aload_n 0, 1) := by decide +kernel
theorem dX10_readGives_109 : decode cX10_readGives 109 = .ok (.invokevirtual 147, 3) := by decide +kernel
theorem dX10_readGives_112 : decode cX10_readGives 112 = .ok (.goto (-85), 3) := by decide +kernel
theorem dX10_readGives_115 : decode cX10_readGives 115 = .ok (.aload_n 0, 1) := by decide +kernel
theorem dX10_readGives_116 : decode cX10_readGives 116 = .ok (.bipush 59, 2) := by decide +kernel
theorem dX10_readGives_118 : decode cX10_readGives 118 = .ok (.invokevirtual 170, 3) := by decide +kernel
theorem dX10_readGives_121 : decode cX10_readGives 121 = .ok (.ireturn, 1) := by decide +kernel
theorem dX10_readTiers_0 : decode cX10_readTiers 0 = .ok (.aload_n 0, 1) := by decide +kernel
theorem dX10_readTiers_1 : decode cX10_readTiers 1 = .ok (.invokevirtual 173, 3) := by decide +kernel
theorem dX10_readTiers_4 : decode cX10_readTiers 4 = .ok (.aload_n 0, 1) := by decide +kernel
theorem dX10_readTiers_5 : decode cX10_readTiers 5 = .ok (.iconst (-1), 1) := by decide +kernel
theorem dX10_readTiers_6 : decode cX10_readTiers 6 = .ok (.putfield 176, 3) := by decide +kernel
theorem dX10_readTiers_9 : decode cX10_readTiers 9 = .ok (.aload_n 0, 1) := by decide +kernel
theorem dX10_readTiers_10 : decode cX10_readTiers 10 = .ok (.getfield 129, 3) := by decide +kernel
theorem dX10_readTiers_13 : decode cX10_readTiers 13 = .ok (.ifCond .ne 5, 3) := by decide +kernel
theorem dX10_readTiers_16 : decode cX10_readTiers 16 = .ok (.iconst 1, 1) := by decide +kernel
theorem dX10_readTiers_17 : decode cX10_readTiers 17 = .ok (.ireturn, 1) := by decide +kernel
theorem dX10_readTiers_18 : decode cX10_readTiers 18 = .ok (.aload_n 0, 1) := by decide +kernel
theorem dX10_readTiers_19 : decode cX10_readTiers 19 = .ok (.iconst 0, 1) := by decide +kernel
theorem dX10_readTiers_20 : decode cX10_readTiers 20 = .ok (.putfield 176, 3) := by decide +kernel
theorem dX10_readTiers_23 : decode cX10_readTiers 23 = .ok (.aload_n 0, 1) := by decide +kernel
theorem dX10_readTiers_24 : decode cX10_readTiers 24 = .ok (.bipush 102, 2) := by decide +kernel
theorem dX10_readTiers_26 : decode cX10_readTiers 26 = .ok (.bipush 105, 2) := by decide +kernel
theorem dX10_readTiers_28 : decode cX10_readTiers 28 = .ok (.bipush 114, 2) := by decide +kernel
theorem dX10_readTiers_30 : decode cX10_readTiers 30 = .ok (.bipush 115, 2) := by decide +kernel
theorem dX10_readTiers_32 : decode cX10_readTiers 32 = .ok (.bipush 116, 2) := by decide +kernel
theorem dX10_readTiers_34 : decode cX10_readTiers 34 = .ok (.invokestatic 118, 3) := by decide +kernel
theorem dX10_readTiers_37 : decode cX10_readTiers 37 = .ok (.invokevirtual 150, 3) := by decide +kernel
theorem dX10_readTiers_40 : decode cX10_readTiers 40 = .ok (.ifCond .eq 88, 3) := by decide +kernel
theorem dX10_readTiers_43 : decode cX10_readTiers 43 = .ok (.aload_n 0, 1) := by decide +kernel
theorem dX10_readTiers_44 : decode cX10_readTiers 44 = .ok (.getfield 176, 3) := by decide +kernel
theorem dX10_readTiers_47 : decode cX10_readTiers 47 = .ok (.bipush 8, 2) := by decide +kernel
theorem dX10_readTiers_49 : decode cX10_readTiers 49 = .ok (.if_icmp .ne 8, 3) := by decide +kernel
theorem dX10_readTiers_52 : decode cX10_readTiers 52 = .ok (.aload_n 0, 1) := by decide +kernel
theorem dX10_readTiers_53 : decode cX10_readTiers 53 = .ok (.invokevirtual 154, 3) := by decide +kernel
theorem dX10_readTiers_56 : decode cX10_readTiers 56 = .ok (.ireturn, 1) := by decide +kernel
theorem dX10_readTiers_57 : decode cX10_readTiers 57 = .ok (.aload_n 0, 1) := by decide +kernel
theorem dX10_readTiers_58 : decode cX10_readTiers 58 = .ok (.invokevirtual 147, 3) := by decide +kernel
theorem dX10_readTiers_61 : decode cX10_readTiers 61 = .ok (.aload_n 0, 1) := by decide +kernel
theorem dX10_readTiers_62 : decode cX10_readTiers 62 = .ok (.iconst 1, 1) := by decide +kernel
theorem dX10_readTiers_63 : decode cX10_readTiers 63 = .ok (.ldc 179, 2) := by decide +kernel
theorem dX10_readTiers_65 : decode cX10_readTiers 65 = .ok (.invokevirtual 166, 3) := by decide +kernel
theorem dX10_readTiers_68 : decode cX10_readTiers 68 = .ok (.ifCond .ne 5, 3) := by decide +kernel
theorem dX10_readTiers_71 : decode cX10_readTiers 71 = .ok (.iconst 0, 1) := by decide +kernel
theorem dX10_readTiers_72 : decode cX10_readTiers 72 = .ok (.ireturn, 1) := by decide +kernel
theorem dX10_readTiers_73 : decode cX10_readTiers 73 = .ok (.aload_n 0, 1) := by decide +kernel
theorem dX10_readTiers_74 : decode cX10_readTiers 74 = .ok (.getfield 28, 3) := by decide +kernel
theorem dX10_readTiers_77 : decode cX10_readTiers 77 = .ok (.bipush 9, 2) := by decide +kernel
theorem dX10_readTiers_79 : decode cX10_readTiers 79 = .ok (.aload_n 0, 1) := by decide +kernel
theorem dX10_readTiers_80 : decode cX10_readTiers 80 = .ok (.getfield 176, 3) := by decide +kernel
theorem dX10_readTiers_83 : decode cX10_readTiers 83 = .ok (.imul, 1) := by decide +kernel
theorem dX10_readTiers_84 : decode cX10_readTiers 84 = .ok (.aload_n 0, 1) := by decide +kernel
theorem dX10_readTiers_85 : decode cX10_readTiers 85 = .ok (.getfield 158, 3) := by decide +kernel
theorem dX10_readTiers_88 : decode cX10_readTiers 88 = .ok (.iastore, 1) := by decide +kernel
theorem dX10_readTiers_89 : decode cX10_readTiers 89 = .ok (.aload_n 0, 1) := by decide +kernel
theorem dX10_readTiers_90 : decode cX10_readTiers 90 = .ok (.invokestatic 180, 3) := by decide +kernel
theorem dX10_readTiers_93 : decode cX10_readTiers 93 = .ok (.invokevirtual 184, 3) := by decide +kernel
theorem dX10_readTiers_96 : decode cX10_readTiers 96 = .ok (.ifCond .eq 17, 3) := by decide +kernel
theorem dX10_readTiers_99 : decode cX10_readTiers 99 = .ok (.aload_n 0, 1) := by decide +kernel
theorem dX10_readTiers_100 : decode cX10_readTiers 100 = .ok (.bipush 9, 2) := by decide +kernel
theorem dX10_readTiers_102 : decode cX10_readTiers 102 = .ok (.aload_n 0, 1) := by decide +kernel
theorem dX10_readTiers_103 : decode cX10_readTiers 103 = .ok (.getfield 176, 3) := by decide +kernel
theorem dX10_readTiers_106 : decode cX10_readTiers 106 = .ok (.imul, 1) := by decide +kernel
theorem dX10_readTiers_107 : decode cX10_readTiers 107 = .ok (.invokevirtual 187, 3) := by decide +kernel
theorem dX10_readTiers_110 : decode cX10_readTiers 110 = .ok (.ifCond .ne 5, 3) := by decide +kernel
theorem dX10_readTiers_113 : decode cX10_readTiers 113 = .ok (.iconst 0, 1) := by decide +kernel
theorem dX10_readTiers_114 : decode cX10_readTiers 114 = .ok (.ireturn, 1) := by decide +kernel
theorem dX10_readTiers_115 : decode cX10_readTiers 115 = .ok (.aload_n 0, 1) := by decide +kernel
theorem dX10_readTiers_116 : decode cX10_readTiers 116 = .ok (.dup, 1) := by decide +kernel
theorem dX10_readTiers_117 : decode cX10_readTiers 117 = .ok (.getfield 176, 3) := by decide +kernel
theorem dX10_readTiers_120 : decode cX10_readTiers 120 = .ok (.iconst 1, 1) := by decide +kernel
theorem dX10_readTiers_121 : decode cX10_readTiers 121 = .ok (.iadd, 1) := by decide +kernel
theorem dX10_readTiers_122 : decode cX10_readTiers 122 = .ok (.putfield 176, 3) := by decide +kernel
theorem dX10_readTiers_125 : decode cX10_readTiers 125 = .ok (.goto (-102), 3) := by decide +kernel
theorem dX10_readTiers_128 : decode cX10_readTiers 128 = .ok (.aload_n 0, 1) := by decide +kernel
theorem dX10_readTiers_129 : decode cX10_readTiers 129 = .ok (.bipush 114, 2) := by decide +kernel
theorem dX10_readTiers_131 : decode cX10_readTiers 131 = .ok (.bipush 101, 2) := by decide +kernel
theorem dX10_readTiers_133 : decode cX10_readTiers 133 = .ok (.bipush 115, 2) := by decide +kernel
theorem dX10_readTiers_135 : decode cX10_readTiers 135 = .ok (.bipush 116, 2) := by decide +kernel
theorem dX10_readTiers_137 : decode cX10_readTiers 137 = .ok (.invokestatic 114, 3) := by decide +kernel
theorem dX10_readTiers_140 : decode cX10_readTiers 140 = .ok (.invokevirtual 184, 3) := by decide +kernel
theorem dX10_readTiers_143 : decode cX10_readTiers 143 = .ok (.ifCond .eq 13, 3) := by decide +kernel
theorem dX10_readTiers_146 : decode cX10_readTiers 146 = .ok (.aload_n 0, 1) := by decide +kernel
theorem dX10_readTiers_147 : decode cX10_readTiers 147 = .ok (.invokestatic 180, 3) := by decide +kernel
theorem dX10_readTiers_150 : decode cX10_readTiers 150 = .ok (.invokevirtual 184, 3) := by decide +kernel
theorem dX10_readTiers_153 : decode cX10_readTiers 153 = .ok (.ifCond .ne 5, 3) := by decide +kernel
theorem dX10_readTiers_156 : decode cX10_readTiers 156 = .ok (.iconst 0, 1) := by decide +kernel
theorem dX10_readTiers_157 : decode cX10_readTiers 157 = .ok (.ireturn, 1) := by decide +kernel
theorem dX10_readTiers_158 : decode cX10_readTiers 158 = .ok (.aload_n 0, 1) := by decide +kernel
theorem dX10_readTiers_159 : decode cX10_readTiers 159 = .ok (.getfield 28, 3) := by decide +kernel
theorem dX10_readTiers_162 : decode cX10_readTiers 162 = .ok (.bipush 9, 2) := by decide +kernel
theorem dX10_readTiers_164 : decode cX10_readTiers 164 = .ok (.aload_n 0, 1) := by decide +kernel
theorem dX10_readTiers_165 : decode cX10_readTiers 165 = .ok (.getfield 176, 3) := by decide +kernel
theorem dX10_readTiers_168 : decode cX10_readTiers 168 = .ok (.imul, 1) := by decide +kernel
theorem dX10_readTiers_169 : decode cX10_readTiers 169 = .ok (.iconst (-1), 1) := by decide +kernel
theorem dX10_readTiers_170 : decode cX10_readTiers 170 = .ok (.iastore, 1) := by decide +kernel
theorem dX10_readTiers_171 : decode cX10_readTiers 171 = .ok (.aload_n 0, 1) := by decide +kernel
theorem dX10_readTiers_172 : decode cX10_readTiers 172 = .ok (.bipush 9, 2) := by decide +kernel
theorem dX10_readTiers_174 : decode cX10_readTiers 174 = .ok (.aload_n 0, 1) := by decide +kernel
theorem dX10_readTiers_175 : decode cX10_readTiers 175 = .ok (.getfield 176, 3) := by decide +kernel
theorem dX10_readTiers_178 : decode cX10_readTiers 178 = .ok (.imul, 1) := by decide +kernel
theorem dX10_readTiers_179 : decode cX10_readTiers 179 = .ok (.invokevirtual 187, 3) := by decide +kernel
theorem dX10_readTiers_182 : decode cX10_readTiers 182 = .ok (.ifCond .eq 21, 3) := by decide +kernel
theorem dX10_readTiers_185 : decode cX10_readTiers 185 = .ok (.aload_n 0, 1) := by decide +kernel
theorem dX10_readTiers_186 : decode cX10_readTiers 186 = .ok (.getfield 129, 3) := by decide +kernel
theorem dX10_readTiers_189 : decode cX10_readTiers 189 = .ok (.ifCond .eq 10, 3) := by decide +kernel
theorem dX10_readTiers_192 : decode cX10_readTiers 192 = .ok (.aload_n 0, 1) := by decide +kernel
theorem dX10_readTiers_193 : decode cX10_readTiers 193 = .ok (.invokevirtual 154, 3) := by decide +kernel
theorem dX10_readTiers_196 : decode cX10_readTiers 196 = .ok (.ifCond .eq 7, 3) := by decide +kernel
theorem dX10_readTiers_199 : decode cX10_readTiers 199 = .ok (.iconst 1, 1) := by decide +kernel
theorem dX10_readTiers_200 : decode cX10_readTiers 200 = .ok (.goto 4, 3) := by decide +kernel
theorem dX10_readTiers_203 : decode cX10_readTiers 203 = .ok (.iconst 0, 1) := by decide +kernel
theorem dX10_readTiers_204 : decode cX10_readTiers 204 = .ok (.ireturn, 1) := by decide +kernel
theorem dX10_toWord_0 : decode cX10_toWord 0 = .ok (.lconst 0, 1) := by decide +kernel
theorem dX10_toWord_1 : decode cX10_toWord 1 = .ok (.bipush 116, 2) := by decide +kernel
theorem dX10_toWord_3 : decode cX10_toWord 3 = .ok (.invokestatic 106, 3) := by decide +kernel
theorem dX10_toWord_6 : decode cX10_toWord 6 = .ok (.bipush 111, 2) := by decide +kernel
theorem dX10_toWord_8 : decode cX10_toWord 8 = .ok (.invokestatic 106, 3) := by decide +kernel
theorem dX10_toWord_11 : decode cX10_toWord 11 = .ok (.lreturn, 1) := by decide +kernel
theorem dX10_tiers_0 : decode cX10_tiers 0 = .ok (.aload_n 0, 1) := by decide +kernel
theorem dX10_tiers_1 : decode cX10_tiers 1 = .ok (.invokevirtual 190, 3) := by decide +kernel
theorem dX10_tiers_4 : decode cX10_tiers 4 = .ok (.istore_n 1, 1) := by decide +kernel
theorem dX10_tiers_5 : decode cX10_tiers 5 = .ok (.aload_n 0, 1) := by decide +kernel
theorem dX10_tiers_6 : decode cX10_tiers 6 = .ok (.iconst 0, 1) := by decide +kernel
theorem dX10_tiers_7 : decode cX10_tiers 7 = .ok (.putfield 88, 3) := by decide +kernel
theorem dX10_tiers_10 : decode cX10_tiers 10 = .ok (.iload_n 1, 1) := by decide +kernel
theorem dX10_tiers_11 : decode cX10_tiers 11 = .ok (.ifCond .ne 5, 3) := by decide +kernel
theorem dX10_tiers_14 : decode cX10_tiers 14 = .ok (.iconst (-1), 1) := by decide +kernel
theorem dX10_tiers_15 : decode cX10_tiers 15 = .ok (.ireturn, 1) := by decide +kernel
theorem dX10_tiers_16 : decode cX10_tiers 16 = .ok (.aload_n 0, 1) := by decide +kernel
theorem dX10_tiers_17 : decode cX10_tiers 17 = .ok (.invokevirtual 85, 3) := by decide +kernel
theorem dX10_tiers_20 : decode cX10_tiers 20 = .ok (.aload_n 0, 1) := by decide +kernel
theorem dX10_tiers_21 : decode cX10_tiers 21 = .ok (.getfield 176, 3) := by decide +kernel
theorem dX10_tiers_24 : decode cX10_tiers 24 = .ok (.iconst (-1), 1) := by decide +kernel
theorem dX10_tiers_25 : decode cX10_tiers 25 = .ok (.if_icmp .ne 9, 3) := by decide +kernel
theorem dX10_tiers_28 : decode cX10_tiers 28 = .ok (.aload_n 0, 1) := by decide +kernel
theorem dX10_tiers_29 : decode cX10_tiers 29 = .ok (.invokevirtual 68, 3) := by decide +kernel
theorem dX10_tiers_32 : decode cX10_tiers 32 = .ok (.iconst 0, 1) := by decide +kernel
theorem dX10_tiers_33 : decode cX10_tiers 33 = .ok (.ireturn, 1) := by decide +kernel
theorem dX10_tiers_34 : decode cX10_tiers 34 = .ok (.aload_n 0, 1) := by decide +kernel
theorem dX10_tiers_35 : decode cX10_tiers 35 = .ok (.bipush 77, 2) := by decide +kernel
theorem dX10_tiers_37 : decode cX10_tiers 37 = .ok (.aload_n 0, 1) := by decide +kernel
theorem dX10_tiers_38 : decode cX10_tiers 38 = .ok (.getfield 176, 3) := by decide +kernel
theorem dX10_tiers_41 : decode cX10_tiers 41 = .ok (.invokevirtual 71, 3) := by decide +kernel
theorem dX10_tiers_44 : decode cX10_tiers 44 = .ok (.iconst 0, 1) := by decide +kernel
theorem dX10_tiers_45 : decode cX10_tiers 45 = .ok (.istore_n 2, 1) := by decide +kernel
theorem dX10_tiers_46 : decode cX10_tiers 46 = .ok (.iload_n 2, 1) := by decide +kernel
theorem dX10_tiers_47 : decode cX10_tiers 47 = .ok (.bipush 9, 2) := by decide +kernel
theorem dX10_tiers_49 : decode cX10_tiers 49 = .ok (.aload_n 0, 1) := by decide +kernel
theorem dX10_tiers_50 : decode cX10_tiers 50 = .ok (.getfield 176, 3) := by decide +kernel
theorem dX10_tiers_53 : decode cX10_tiers 53 = .ok (.iconst 1, 1) := by decide +kernel
theorem dX10_tiers_54 : decode cX10_tiers 54 = .ok (.iadd, 1) := by decide +kernel
theorem dX10_tiers_55 : decode cX10_tiers 55 = .ok (.imul, 1) := by decide +kernel
theorem dX10_tiers_56 : decode cX10_tiers 56 = .ok (.if_icmp .ge 23, 3) := by decide +kernel
theorem dX10_tiers_59 : decode cX10_tiers 59 = .ok (.aload_n 0, 1) := by decide +kernel
theorem dX10_tiers_60 : decode cX10_tiers 60 = .ok (.bipush 78, 2) := by decide +kernel
theorem dX10_tiers_62 : decode cX10_tiers 62 = .ok (.iload_n 2, 1) := by decide +kernel
theorem dX10_tiers_63 : decode cX10_tiers 63 = .ok (.iadd, 1) := by decide +kernel
theorem dX10_tiers_64 : decode cX10_tiers 64 = .ok (.aload_n 0, 1) := by decide +kernel
theorem dX10_tiers_65 : decode cX10_tiers 65 = .ok (.getfield 28, 3) := by decide +kernel
theorem dX10_tiers_68 : decode cX10_tiers 68 = .ok (.iload_n 2, 1) := by decide +kernel
theorem dX10_tiers_69 : decode cX10_tiers 69 = .ok (.iaload, 1) := by decide +kernel
theorem dX10_tiers_70 : decode cX10_tiers 70 = .ok (.invokevirtual 71, 3) := by decide +kernel
theorem dX10_tiers_73 : decode cX10_tiers 73 = .ok (.iinc 2 1, 3) := by decide +kernel
theorem dX10_tiers_76 : decode cX10_tiers 76 = .ok (.goto (-30), 3) := by decide +kernel
theorem dX10_tiers_79 : decode cX10_tiers 79 = .ok (.aload_n 0, 1) := by decide +kernel
theorem dX10_tiers_80 : decode cX10_tiers 80 = .ok (.getfield 176, 3) := by decide +kernel
theorem dX10_tiers_83 : decode cX10_tiers 83 = .ok (.iconst 1, 1) := by decide +kernel
theorem dX10_tiers_84 : decode cX10_tiers 84 = .ok (.iadd, 1) := by decide +kernel
theorem dX10_tiers_85 : decode cX10_tiers 85 = .ok (.ireturn, 1) := by decide +kernel
theorem dX10_tier_0 : decode cX10_tier 0 = .ok (.iload_n 1, 1) := by decide +kernel
theorem dX10_tier_1 : decode cX10_tier 1 = .ok (.iconst 0, 1) := by decide +kernel
theorem dX10_tier_2 : decode cX10_tier 2 = .ok (.aload_n 0, 1) := by decide +kernel
theorem dX10_tier_3 : decode cX10_tier 3 = .ok (.bipush 77, 2) := by decide +kernel
theorem dX10_tier_5 : decode cX10_tier 5 = .ok (.invokevirtual 193, 3) := by decide +kernel
theorem dX10_tier_8 : decode cX10_tier 8 = .ok (.invokestatic 81, 3) := by decide +kernel
theorem dX10_tier_11 : decode cX10_tier 11 = .ok (.ifCond .eq 29, 3) := by decide +kernel
theorem dX10_tier_14 : decode cX10_tier 14 = .ok (.iload_n 2, 1) := by decide +kernel
theorem dX10_tier_15 : decode cX10_tier 15 = .ok (.iconst 0, 1) := by decide +kernel
theorem dX10_tier_16 : decode cX10_tier 16 = .ok (.bipush 8, 2) := by decide +kernel
theorem dX10_tier_18 : decode cX10_tier 18 = .ok (.invokestatic 81, 3) := by decide +kernel
theorem dX10_tier_21 : decode cX10_tier 21 = .ok (.ifCond .eq 19, 3) := by decide +kernel
theorem dX10_tier_24 : decode cX10_tier 24 = .ok (.aload_n 0, 1) := by decide +kernel
theorem dX10_tier_25 : decode cX10_tier 25 = .ok (.bipush 78, 2) := by decide +kernel
theorem dX10_tier_27 : decode cX10_tier 27 = .ok (.bipush 9, 2) := by decide +kernel
theorem dX10_tier_29 : decode cX10_tier 29 = .ok (.iload_n 1, 1) := by decide +kernel
theorem dX10_tier_30 : decode cX10_tier 30 = .ok (.imul, 1) := by decide +kernel
theorem dX10_tier_31 : decode cX10_tier 31 = .ok (.iadd, 1) := by decide +kernel
theorem dX10_tier_32 : decode cX10_tier 32 = .ok (.iload_n 2, 1) := by decide +kernel
theorem dX10_tier_33 : decode cX10_tier 33 = .ok (.iadd, 1) := by decide +kernel
theorem dX10_tier_34 : decode cX10_tier 34 = .ok (.invokevirtual 193, 3) := by decide +kernel
theorem dX10_tier_37 : decode cX10_tier 37 = .ok (.goto 5, 3) := by decide +kernel
theorem dX10_tier_40 : decode cX10_tier 40 = .ok (.bipush (-2), 2) := by decide +kernel
theorem dX10_tier_42 : decode cX10_tier 42 = .ok (.ireturn, 1) := by decide +kernel
theorem dX10_isThere_0 : decode cX10_isThere 0 = .ok (.iload_n 1, 1) := by decide +kernel
theorem dX10_isThere_1 : decode cX10_isThere 1 = .ok (.iconst 0, 1) := by decide +kernel
theorem dX10_isThere_2 : decode cX10_isThere 2 = .ok (.bipush 7, 2) := by decide +kernel
theorem dX10_isThere_4 : decode cX10_isThere 4 = .ok (.invokestatic 81, 3) := by decide +kernel
theorem dX10_isThere_7 : decode cX10_isThere 7 = .ok (.ifCond .eq 20, 3) := by decide +kernel
theorem dX10_isThere_10 : decode cX10_isThere 10 = .ok (.aload_n 0, 1) := by decide +kernel
theorem dX10_isThere_11 : decode cX10_isThere 11 = .ok (.iconst 0, 1) := by decide +kernel
theorem dX10_isThere_12 : decode cX10_isThere 12 = .ok (.invokevirtual 193, 3) := by decide +kernel
theorem dX10_isThere_15 : decode cX10_isThere 15 = .ok (.iload_n 1, 1) := by decide +kernel
theorem dX10_isThere_16 : decode cX10_isThere 16 = .ok (.ishr, 1) := by decide +kernel
theorem dX10_isThere_17 : decode cX10_isThere 17 = .ok (.iconst 1, 1) := by decide +kernel
theorem dX10_isThere_18 : decode cX10_isThere 18 = .ok (.iand, 1) := by decide +kernel
theorem dX10_isThere_19 : decode cX10_isThere 19 = .ok (.iconst 1, 1) := by decide +kernel
theorem dX10_isThere_20 : decode cX10_isThere 20 = .ok (.if_icmp .ne 7, 3) := by decide +kernel
theorem dX10_isThere_23 : decode cX10_isThere 23 = .ok (.iconst 1, 1) := by decide +kernel
theorem dX10_isThere_24 : decode cX10_isThere 24 = .ok (.goto 4, 3) := by decide +kernel
theorem dX10_isThere_27 : decode cX10_isThere 27 = .ok (.iconst 0, 1) := by decide +kernel
theorem dX10_isThere_28 : decode cX10_isThere 28 = .ok (.ireturn, 1) := by decide +kernel
theorem dX10_sumWeights_0 : decode cX10_sumWeights 0 = .ok (.lconst 0, 1) := by decide +kernel
theorem dX10_sumWeights_1 : decode cX10_sumWeights 1 = .ok (.lstore_n 1, 1) := by decide +kernel
theorem dX10_sumWeights_2 : decode cX10_sumWeights 2 = .ok (.iconst 0, 1) := by decide +kernel
theorem dX10_sumWeights_3 : decode cX10_sumWeights 3 = .ok (.istore_n 3, 1) := by decide +kernel
theorem dX10_sumWeights_4 : decode cX10_sumWeights 4 = .ok (.iload_n 3, 1) := by decide +kernel
theorem dX10_sumWeights_5 : decode cX10_sumWeights 5 = .ok (.bipush 8, 2) := by decide +kernel
theorem dX10_sumWeights_7 : decode cX10_sumWeights 7 = .ok (.if_icmp .ge 18, 3) := by decide +kernel
theorem dX10_sumWeights_10 : decode cX10_sumWeights 10 = .ok (.lload_n 1, 1) := by decide +kernel
theorem dX10_sumWeights_11 : decode cX10_sumWeights 11 = .ok (.aload_n 0, 1) := by decide +kernel
theorem dX10_sumWeights_12 : decode cX10_sumWeights 12 = .ok (.getfield 31, 3) := by decide +kernel
theorem dX10_sumWeights_15 : decode cX10_sumWeights 15 = .ok (.iload_n 3, 1) := by decide +kernel
theorem dX10_sumWeights_16 : decode cX10_sumWeights 16 = .ok (.laload, 1) := by decide +kernel
theorem dX10_sumWeights_17 : decode cX10_sumWeights 17 = .ok (.ladd, 1) := by decide +kernel
theorem dX10_sumWeights_18 : decode cX10_sumWeights 18 = .ok (.lstore_n 1, 1) := by decide +kernel
theorem dX10_sumWeights_19 : decode cX10_sumWeights 19 = .ok (.iinc 3 1, 3) := by decide +kernel
theorem dX10_sumWeights_22 : decode cX10_sumWeights 22 = .ok (.goto (-18), 3) := by decide +kernel
theorem dX10_sumWeights_25 : decode cX10_sumWeights 25 = .ok (.lload_n 1, 1) := by decide +kernel
theorem dX10_sumWeights_26 : decode cX10_sumWeights 26 = .ok (.lreturn, 1) := by decide +kernel
theorem dX10_dealOut_0 : decode cX10_dealOut 0 = .ok (.aload_n 0, 1) := by decide +kernel
theorem dX10_dealOut_1 : decode cX10_dealOut 1 = .ok (.invokevirtual 197, 3) := by decide +kernel
theorem dX10_dealOut_4 : decode cX10_dealOut 4 = .ok (.lstore_n 2, 1) := by decide +kernel
theorem dX10_dealOut_5 : decode cX10_dealOut 5 = .ok (.iload_n 1, 1) := by decide +kernel
theorem dX10_dealOut_6 : decode cX10_dealOut 6 = .ok (.istore 4, 2) := by decide +kernel
theorem dX10_dealOut_8 : decode cX10_dealOut 8 = .ok (.iconst 0, 1) := by decide +kernel
theorem dX10_dealOut_9 : decode cX10_dealOut 9 = .ok (.istore 5, 2) := by decide +kernel
theorem dX10_dealOut_11 : decode cX10_dealOut 11 = .ok (.iload 5, 2) := by decide +kernel
theorem dX10_dealOut_13 : decode cX10_dealOut 13 = .ok (.bipush 8, 2) := by decide +kernel
theorem dX10_dealOut_15 : decode cX10_dealOut 15 = .ok (.if_icmp .ge 51, 3) := by decide +kernel
theorem dX10_dealOut_18 : decode cX10_dealOut 18 = .ok (.aload_n 0, 1) := by decide +kernel
theorem dX10_dealOut_19 : decode cX10_dealOut 19 = .ok (.getfield 35, 3) := by decide +kernel
theorem dX10_dealOut_22 : decode cX10_dealOut 22 = .ok (.iload 5, 2) := by decide +kernel
theorem dX10_dealOut_24 : decode cX10_dealOut 24 = .ok (.lload_n 2, 1) := by decide +kernel
theorem dX10_dealOut_25 : decode cX10_dealOut 25 = .ok (.lconst 0, 1) := by decide +kernel
theorem dX10_dealOut_26 : decode cX10_dealOut 26 = .ok (.lcmp, 1) := by decide +kernel
theorem dX10_dealOut_27 : decode cX10_dealOut 27 = .ok (.ifCond .ne 7, 3) := by decide +kernel
theorem dX10_dealOut_30 : decode cX10_dealOut 30 = .ok (.iconst 0, 1) := by decide +kernel
theorem dX10_dealOut_31 : decode cX10_dealOut 31 = .ok (.goto 16, 3) := by decide +kernel
theorem dX10_dealOut_34 : decode cX10_dealOut 34 = .ok (.iload_n 1, 1) := by decide +kernel
theorem dX10_dealOut_35 : decode cX10_dealOut 35 = .ok (.i2l, 1) := by decide +kernel
theorem dX10_dealOut_36 : decode cX10_dealOut 36 = .ok (.aload_n 0, 1) := by decide +kernel
theorem dX10_dealOut_37 : decode cX10_dealOut 37 = .ok (.getfield 31, 3) := by decide +kernel
theorem dX10_dealOut_40 : decode cX10_dealOut 40 = .ok (.iload 5, 2) := by decide +kernel
theorem dX10_dealOut_42 : decode cX10_dealOut 42 = .ok (.laload, 1) := by decide +kernel
theorem dX10_dealOut_43 : decode cX10_dealOut 43 = .ok (.lmul, 1) := by decide +kernel
theorem dX10_dealOut_44 : decode cX10_dealOut 44 = .ok (.lload_n 2, 1) := by decide +kernel
theorem dX10_dealOut_45 : decode cX10_dealOut 45 = .ok (.ldiv, 1) := by decide +kernel
theorem dX10_dealOut_46 : decode cX10_dealOut 46 = .ok (.l2i, 1) := by decide +kernel
theorem dX10_dealOut_47 : decode cX10_dealOut 47 = .ok (.iastore, 1) := by decide +kernel
theorem dX10_dealOut_48 : decode cX10_dealOut 48 = .ok (.iload 4, 2) := by decide +kernel
theorem dX10_dealOut_50 : decode cX10_dealOut 50 = .ok (.aload_n 0, 1) := by decide +kernel
theorem dX10_dealOut_51 : decode cX10_dealOut 51 = .ok (.getfield 35, 3) := by decide +kernel
theorem dX10_dealOut_54 : decode cX10_dealOut 54 = .ok (.iload 5, 2) := by decide +kernel
theorem dX10_dealOut_56 : decode cX10_dealOut 56 = .ok (.iaload, 1) := by decide +kernel
theorem dX10_dealOut_57 : decode cX10_dealOut 57 = .ok (.isub, 1) := by decide +kernel
theorem dX10_dealOut_58 : decode cX10_dealOut 58 = .ok (.istore 4, 2) := by decide +kernel
theorem dX10_dealOut_60 : decode cX10_dealOut 60 = .ok (.iinc 5 1, 3) := by decide +kernel
theorem dX10_dealOut_63 : decode cX10_dealOut 63 = .ok (.goto (-52), 3) := by decide +kernel
theorem dX10_dealOut_66 : decode cX10_dealOut 66 = .ok (.iconst 0, 1) := by decide +kernel
theorem dX10_dealOut_67 : decode cX10_dealOut 67 = .ok (.istore 5, 2) := by decide +kernel
theorem dX10_dealOut_69 : decode cX10_dealOut 69 = .ok (.iload 5, 2) := by decide +kernel
theorem dX10_dealOut_71 : decode cX10_dealOut 71 = .ok (.bipush 8, 2) := by decide +kernel
theorem dX10_dealOut_73 : decode cX10_dealOut 73 = .ok (.if_icmp .ge 49, 3) := by decide +kernel
theorem dX10_dealOut_76 : decode cX10_dealOut 76 = .ok (.lload_n 2, 1) := by decide +kernel
theorem dX10_dealOut_77 : decode cX10_dealOut 77 = .ok (.lconst 0, 1) := by decide +kernel
theorem dX10_dealOut_78 : decode cX10_dealOut 78 = .ok (.lcmp, 1) := by decide +kernel
theorem dX10_dealOut_79 : decode cX10_dealOut 79 = .ok (.ifCond .le 43, 3) := by decide +kernel
theorem dX10_dealOut_82 : decode cX10_dealOut 82 = .ok (.aload_n 0, 1) := by decide +kernel
theorem dX10_dealOut_83 : decode cX10_dealOut 83 = .ok (.getfield 31, 3) := by decide +kernel
theorem dX10_dealOut_86 : decode cX10_dealOut 86 = .ok (.iload 5, 2) := by decide +kernel
theorem dX10_dealOut_88 : decode cX10_dealOut 88 = .ok (.laload, 1) := by decide +kernel
theorem dX10_dealOut_89 : decode cX10_dealOut 89 = .ok (.lconst 0, 1) := by decide +kernel
theorem dX10_dealOut_90 : decode cX10_dealOut 90 = .ok (.lcmp, 1) := by decide +kernel
theorem dX10_dealOut_91 : decode cX10_dealOut 91 = .ok (.ifCond .eq 25, 3) := by decide +kernel
theorem dX10_dealOut_94 : decode cX10_dealOut 94 = .ok (.iload 4, 2) := by decide +kernel
theorem dX10_dealOut_96 : decode cX10_dealOut 96 = .ok (.ifCond .ne 6, 3) := by decide +kernel
theorem dX10_dealOut_99 : decode cX10_dealOut 99 = .ok (.goto 17, 3) := by decide +kernel
theorem dX10_dealOut_102 : decode cX10_dealOut 102 = .ok (.aload_n 0, 1) := by decide +kernel
theorem dX10_dealOut_103 : decode cX10_dealOut 103 = .ok (.getfield 35, 3) := by decide +kernel
theorem dX10_dealOut_106 : decode cX10_dealOut 106 = .ok (.iload 5, 2) := by decide +kernel
theorem dX10_dealOut_108 : decode cX10_dealOut 108 = .ok (.dup2, 1) := by decide +kernel
theorem dX10_dealOut_109 : decode cX10_dealOut 109 = .ok (.iaload, 1) := by decide +kernel
theorem dX10_dealOut_110 : decode cX10_dealOut 110 = .ok (.iconst 1, 1) := by decide +kernel
theorem dX10_dealOut_111 : decode cX10_dealOut 111 = .ok (.iadd, 1) := by decide +kernel
theorem dX10_dealOut_112 : decode cX10_dealOut 112 = .ok (.iastore, 1) := by decide +kernel
theorem dX10_dealOut_113 : decode cX10_dealOut 113 = .ok (.iinc 4 (-1), 3) := by decide +kernel
theorem dX10_dealOut_116 : decode cX10_dealOut 116 = .ok (.iinc 5 1, 3) := by decide +kernel
theorem dX10_dealOut_119 : decode cX10_dealOut 119 = .ok (.goto (-50), 3) := by decide +kernel
theorem dX10_dealOut_122 : decode cX10_dealOut 122 = .ok (.return_, 1) := by decide +kernel
theorem dX10_weighAlike_0 : decode cX10_weighAlike 0 = .ok (.aload_n 0, 1) := by decide +kernel
theorem dX10_weighAlike_1 : decode cX10_weighAlike 1 = .ok (.invokevirtual 197, 3) := by decide +kernel
theorem dX10_weighAlike_4 : decode cX10_weighAlike 4 = .ok (.lconst 0, 1) := by decide +kernel
theorem dX10_weighAlike_5 : decode cX10_weighAlike 5 = .ok (.lcmp, 1) := by decide +kernel
theorem dX10_weighAlike_6 : decode cX10_weighAlike 6 = .ok (.ifCond .ne 29, 3) := by decide +kernel
theorem dX10_weighAlike_9 : decode cX10_weighAlike 9 = .ok (.iconst 0, 1) := by decide +kernel
theorem dX10_weighAlike_10 : decode cX10_weighAlike 10 = .ok (.istore_n 2, 1) := by decide +kernel
theorem dX10_weighAlike_11 : decode cX10_weighAlike 11 = .ok (.iload_n 2, 1) := by decide +kernel
theorem dX10_weighAlike_12 : decode cX10_weighAlike 12 = .ok (.bipush 8, 2) := by decide +kernel
theorem dX10_weighAlike_14 : decode cX10_weighAlike 14 = .ok (.if_icmp .ge 21, 3) := by decide +kernel
theorem dX10_weighAlike_17 : decode cX10_weighAlike 17 = .ok (.aload_n 0, 1) := by decide +kernel
theorem dX10_weighAlike_18 : decode cX10_weighAlike 18 = .ok (.getfield 31, 3) := by decide +kernel
theorem dX10_weighAlike_21 : decode cX10_weighAlike 21 = .ok (.iload_n 2, 1) := by decide +kernel
theorem dX10_weighAlike_22 : decode cX10_weighAlike 22 = .ok (.iload_n 1, 1) := by decide +kernel
theorem dX10_weighAlike_23 : decode cX10_weighAlike 23 = .ok (.iload_n 2, 1) := by decide +kernel
theorem dX10_weighAlike_24 : decode cX10_weighAlike 24 = .ok (.ishr, 1) := by decide +kernel
theorem dX10_weighAlike_25 : decode cX10_weighAlike 25 = .ok (.iconst 1, 1) := by decide +kernel
theorem dX10_weighAlike_26 : decode cX10_weighAlike 26 = .ok (.iand, 1) := by decide +kernel
theorem dX10_weighAlike_27 : decode cX10_weighAlike 27 = .ok (.i2l, 1) := by decide +kernel
theorem dX10_weighAlike_28 : decode cX10_weighAlike 28 = .ok (.lastore, 1) := by decide +kernel
theorem dX10_weighAlike_29 : decode cX10_weighAlike 29 = .ok (.iinc 2 1, 3) := by decide +kernel
theorem dX10_weighAlike_32 : decode cX10_weighAlike 32 = .ok (.goto (-21), 3) := by decide +kernel
theorem dX10_weighAlike_35 : decode cX10_weighAlike 35 = .ok (.return_, 1) := by decide +kernel
theorem dX10_weighRatio_0 : decode cX10_weighRatio 0 = .ok (.iconst 0, 1) := by decide +kernel
theorem dX10_weighRatio_1 : decode cX10_weighRatio 1 = .ok (.istore_n 2, 1) := by decide +kernel
theorem dX10_weighRatio_2 : decode cX10_weighRatio 2 = .ok (.iload_n 2, 1) := by decide +kernel
theorem dX10_weighRatio_3 : decode cX10_weighRatio 3 = .ok (.bipush 8, 2) := by decide +kernel
theorem dX10_weighRatio_5 : decode cX10_weighRatio 5 = .ok (.if_icmp .ge 30, 3) := by decide +kernel
theorem dX10_weighRatio_8 : decode cX10_weighRatio 8 = .ok (.aload_n 0, 1) := by decide +kernel
theorem dX10_weighRatio_9 : decode cX10_weighRatio 9 = .ok (.getfield 31, 3) := by decide +kernel
theorem dX10_weighRatio_12 : decode cX10_weighRatio 12 = .ok (.iload_n 2, 1) := by decide +kernel
theorem dX10_weighRatio_13 : decode cX10_weighRatio 13 = .ok (.iload_n 1, 1) := by decide +kernel
theorem dX10_weighRatio_14 : decode cX10_weighRatio 14 = .ok (.iload_n 2, 1) := by decide +kernel
theorem dX10_weighRatio_15 : decode cX10_weighRatio 15 = .ok (.ishr, 1) := by decide +kernel
theorem dX10_weighRatio_16 : decode cX10_weighRatio 16 = .ok (.iconst 1, 1) := by decide +kernel
theorem dX10_weighRatio_17 : decode cX10_weighRatio 17 = .ok (.iand, 1) := by decide +kernel
theorem dX10_weighRatio_18 : decode cX10_weighRatio 18 = .ok (.aload_n 0, 1) := by decide +kernel
theorem dX10_weighRatio_19 : decode cX10_weighRatio 19 = .ok (.bipush 21, 2) := by decide +kernel
theorem dX10_weighRatio_21 : decode cX10_weighRatio 21 = .ok (.iload_n 2, 1) := by decide +kernel
theorem dX10_weighRatio_22 : decode cX10_weighRatio 22 = .ok (.iadd, 1) := by decide +kernel
theorem dX10_weighRatio_23 : decode cX10_weighRatio 23 = .ok (.invokevirtual 193, 3) := by decide +kernel
theorem dX10_weighRatio_26 : decode cX10_weighRatio 26 = .ok (.imul, 1) := by decide +kernel
theorem dX10_weighRatio_27 : decode cX10_weighRatio 27 = .ok (.i2l, 1) := by decide +kernel
theorem dX10_weighRatio_28 : decode cX10_weighRatio 28 = .ok (.lastore, 1) := by decide +kernel
theorem dX10_weighRatio_29 : decode cX10_weighRatio 29 = .ok (.iinc 2 1, 3) := by decide +kernel
theorem dX10_weighRatio_32 : decode cX10_weighRatio 32 = .ok (.goto (-30), 3) := by decide +kernel
theorem dX10_weighRatio_35 : decode cX10_weighRatio 35 = .ok (.aload_n 0, 1) := by decide +kernel
theorem dX10_weighRatio_36 : decode cX10_weighRatio 36 = .ok (.iload_n 1, 1) := by decide +kernel
theorem dX10_weighRatio_37 : decode cX10_weighRatio 37 = .ok (.invokevirtual 200, 3) := by decide +kernel
theorem dX10_weighRatio_40 : decode cX10_weighRatio 40 = .ok (.return_, 1) := by decide +kernel
theorem dX10_weighTier_0 : decode cX10_weighTier 0 = .ok (.iconst 0, 1) := by decide +kernel
theorem dX10_weighTier_1 : decode cX10_weighTier 1 = .ok (.istore_n 2, 1) := by decide +kernel
theorem dX10_weighTier_2 : decode cX10_weighTier 2 = .ok (.iload_n 2, 1) := by decide +kernel
theorem dX10_weighTier_3 : decode cX10_weighTier 3 = .ok (.bipush 8, 2) := by decide +kernel
theorem dX10_weighTier_5 : decode cX10_weighTier 5 = .ok (.if_icmp .ge 43, 3) := by decide +kernel
theorem dX10_weighTier_8 : decode cX10_weighTier 8 = .ok (.aload_n 0, 1) := by decide +kernel
theorem dX10_weighTier_9 : decode cX10_weighTier 9 = .ok (.getfield 31, 3) := by decide +kernel
theorem dX10_weighTier_12 : decode cX10_weighTier 12 = .ok (.iload_n 2, 1) := by decide +kernel
theorem dX10_weighTier_13 : decode cX10_weighTier 13 = .ok (.aload_n 0, 1) := by decide +kernel
theorem dX10_weighTier_14 : decode cX10_weighTier 14 = .ok (.iload_n 2, 1) := by decide +kernel
theorem dX10_weighTier_15 : decode cX10_weighTier 15 = .ok (.invokevirtual 203, 3) := by decide +kernel
theorem dX10_weighTier_18 : decode cX10_weighTier 18 = .ok (.ifCond .eq 22, 3) := by decide +kernel
theorem dX10_weighTier_21 : decode cX10_weighTier 21 = .ok (.aload_n 0, 1) := by decide +kernel
theorem dX10_weighTier_22 : decode cX10_weighTier 22 = .ok (.bipush 78, 2) := by decide +kernel
theorem dX10_weighTier_24 : decode cX10_weighTier 24 = .ok (.bipush 9, 2) := by decide +kernel
theorem dX10_weighTier_26 : decode cX10_weighTier 26 = .ok (.iload_n 1, 1) := by decide +kernel
theorem dX10_weighTier_27 : decode cX10_weighTier 27 = .ok (.imul, 1) := by decide +kernel
theorem dX10_weighTier_28 : decode cX10_weighTier 28 = .ok (.iadd, 1) := by decide +kernel
theorem dX10_weighTier_29 : decode cX10_weighTier 29 = .ok (.iconst 1, 1) := by decide +kernel
theorem dX10_weighTier_30 : decode cX10_weighTier 30 = .ok (.iadd, 1) := by decide +kernel
theorem dX10_weighTier_31 : decode cX10_weighTier 31 = .ok (.iload_n 2, 1) := by decide +kernel
theorem dX10_weighTier_32 : decode cX10_weighTier 32 = .ok (.iadd, 1) := by decide +kernel
theorem dX10_weighTier_33 : decode cX10_weighTier 33 = .ok (.invokevirtual 193, 3) := by decide +kernel
theorem dX10_weighTier_36 : decode cX10_weighTier 36 = .ok (.i2l, 1) := by decide +kernel
theorem dX10_weighTier_37 : decode cX10_weighTier 37 = .ok (.goto 4, 3) := by decide +kernel
theorem dX10_weighTier_40 : decode cX10_weighTier 40 = .ok (.lconst 0, 1) := by decide +kernel
theorem dX10_weighTier_41 : decode cX10_weighTier 41 = .ok (.lastore, 1) := by decide +kernel
theorem dX10_weighTier_42 : decode cX10_weighTier 42 = .ok (.iinc 2 1, 3) := by decide +kernel
theorem dX10_weighTier_45 : decode cX10_weighTier 45 = .ok (.goto (-43), 3) := by decide +kernel
theorem dX10_weighTier_48 : decode cX10_weighTier 48 = .ok (.return_, 1) := by decide +kernel
theorem dX10_laySale_0 : decode cX10_laySale 0 = .ok (.iconst 0, 1) := by decide +kernel
theorem dX10_laySale_1 : decode cX10_laySale 1 = .ok (.istore_n 2, 1) := by decide +kernel
theorem dX10_laySale_2 : decode cX10_laySale 2 = .ok (.iload_n 2, 1) := by decide +kernel
theorem dX10_laySale_3 : decode cX10_laySale 3 = .ok (.bipush 8, 2) := by decide +kernel
theorem dX10_laySale_5 : decode cX10_laySale 5 = .ok (.if_icmp .ge 16, 3) := by decide +kernel
theorem dX10_laySale_8 : decode cX10_laySale 8 = .ok (.aload_n 0, 1) := by decide +kernel
theorem dX10_laySale_9 : decode cX10_laySale 9 = .ok (.getfield 38, 3) := by decide +kernel
theorem dX10_laySale_12 : decode cX10_laySale 12 = .ok (.iload_n 2, 1) := by decide +kernel
theorem dX10_laySale_13 : decode cX10_laySale 13 = .ok (.iconst 0, 1) := by decide +kernel
theorem dX10_laySale_14 : decode cX10_laySale 14 = .ok (.iastore, 1) := by decide +kernel
theorem dX10_laySale_15 : decode cX10_laySale 15 = .ok (.iinc 2 1, 3) := by decide +kernel
theorem dX10_laySale_18 : decode cX10_laySale 18 = .ok (.goto (-16), 3) := by decide +kernel
theorem dX10_laySale_21 : decode cX10_laySale 21 = .ok (.iload_n 1, 1) := by decide +kernel
theorem dX10_laySale_22 : decode cX10_laySale 22 = .ok (.istore_n 2, 1) := by decide +kernel
theorem dX10_laySale_23 : decode cX10_laySale 23 = .ok (.iconst 0, 1) := by decide +kernel
theorem dX10_laySale_24 : decode cX10_laySale 24 = .ok (.istore_n 3, 1) := by decide +kernel
theorem dX10_laySale_25 : decode cX10_laySale 25 = .ok (.iload_n 3, 1) := by decide +kernel
theorem dX10_laySale_26 : decode cX10_laySale 26 = .ok (.aload_n 0, 1) := by decide +kernel
theorem dX10_laySale_27 : decode cX10_laySale 27 = .ok (.bipush 77, 2) := by decide +kernel
theorem dX10_laySale_29 : decode cX10_laySale 29 = .ok (.invokevirtual 193, 3) := by decide +kernel
theorem dX10_laySale_32 : decode cX10_laySale 32 = .ok (.if_icmp .ge 106, 3) := by decide +kernel
theorem dX10_laySale_35 : decode cX10_laySale 35 = .ok (.iload_n 2, 1) := by decide +kernel
theorem dX10_laySale_36 : decode cX10_laySale 36 = .ok (.ifCond .le 102, 3) := by decide +kernel
theorem dX10_laySale_39 : decode cX10_laySale 39 = .ok (.aload_n 0, 1) := by decide +kernel
theorem dX10_laySale_40 : decode cX10_laySale 40 = .ok (.iload_n 3, 1) := by decide +kernel
theorem dX10_laySale_41 : decode cX10_laySale 41 = .ok (.invokevirtual 206, 3) := by decide +kernel
theorem dX10_laySale_44 : decode cX10_laySale 44 = .ok (.aload_n 0, 1) := by decide +kernel
theorem dX10_laySale_45 : decode cX10_laySale 45 = .ok (.invokevirtual 197, 3) := by decide +kernel
theorem dX10_laySale_48 : decode cX10_laySale 48 = .ok (.lconst 0, 1) := by decide +kernel
theorem dX10_laySale_49 : decode cX10_laySale 49 = .ok (.lcmp, 1) := by decide +kernel
theorem dX10_laySale_50 : decode cX10_laySale 50 = .ok (.ifCond .ne 6, 3) := by decide +kernel
theorem dX10_laySale_53 : decode cX10_laySale 53 = .ok (.goto 79, 3) := by decide +kernel
theorem dX10_laySale_56 : decode cX10_laySale 56 = .ok (.iload_n 2, 1) := by decide +kernel
theorem dX10_laySale_57 : decode cX10_laySale 57 = .ok (.aload_n 0, 1) := by decide +kernel
theorem dX10_laySale_58 : decode cX10_laySale 58 = .ok (.bipush 78, 2) := by decide +kernel
theorem dX10_laySale_60 : decode cX10_laySale 60 = .ok (.bipush 9, 2) := by decide +kernel
theorem dX10_laySale_62 : decode cX10_laySale 62 = .ok (.iload_n 3, 1) := by decide +kernel
theorem dX10_laySale_63 : decode cX10_laySale 63 = .ok (.imul, 1) := by decide +kernel
theorem dX10_laySale_64 : decode cX10_laySale 64 = .ok (.iadd, 1) := by decide +kernel
theorem dX10_laySale_65 : decode cX10_laySale 65 = .ok (.invokevirtual 193, 3) := by decide +kernel
theorem dX10_laySale_68 : decode cX10_laySale 68 = .ok (.if_icmp .ge 7, 3) := by decide +kernel
theorem dX10_laySale_71 : decode cX10_laySale 71 = .ok (.iload_n 2, 1) := by decide +kernel
theorem dX10_laySale_72 : decode cX10_laySale 72 = .ok (.goto 14, 3) := by decide +kernel
theorem dX10_laySale_75 : decode cX10_laySale 75 = .ok (.aload_n 0, 1) := by decide +kernel
theorem dX10_laySale_76 : decode cX10_laySale 76 = .ok (.bipush 78, 2) := by decide +kernel
theorem dX10_laySale_78 : decode cX10_laySale 78 = .ok (.bipush 9, 2) := by decide +kernel
theorem dX10_laySale_80 : decode cX10_laySale 80 = .ok (.iload_n 3, 1) := by decide +kernel
theorem dX10_laySale_81 : decode cX10_laySale 81 = .ok (.imul, 1) := by decide +kernel
theorem dX10_laySale_82 : decode cX10_laySale 82 = .ok (.iadd, 1) := by decide +kernel
theorem dX10_laySale_83 : decode cX10_laySale 83 = .ok (.invokevirtual 193, 3) := by decide +kernel
theorem dX10_laySale_86 : decode cX10_laySale 86 = .ok (.istore 4, 2) := by decide +kernel
theorem dX10_laySale_88 : decode cX10_laySale 88 = .ok (.aload_n 0, 1) := by decide +kernel
theorem dX10_laySale_89 : decode cX10_laySale 89 = .ok (.iload 4, 2) := by decide +kernel
theorem dX10_laySale_91 : decode cX10_laySale 91 = .ok (.invokevirtual 209, 3) := by decide +kernel
theorem dX10_laySale_94 : decode cX10_laySale 94 = .ok (.iconst 0, 1) := by decide +kernel
theorem dX10_laySale_95 : decode cX10_laySale 95 = .ok (.istore 5, 2) := by decide +kernel
theorem dX10_laySale_97 : decode cX10_laySale 97 = .ok (.iload 5, 2) := by decide +kernel
theorem dX10_laySale_99 : decode cX10_laySale 99 = .ok (.bipush 8, 2) := by decide +kernel
theorem dX10_laySale_101 : decode cX10_laySale 101 = .ok (.if_icmp .ge 26, 3) := by decide +kernel
theorem dX10_laySale_104 : decode cX10_laySale 104 = .ok (.aload_n 0, 1) := by decide +kernel
theorem dX10_laySale_105 : decode cX10_laySale 105 = .ok (.getfield 38, 3) := by decide +kernel
theorem dX10_laySale_108 : decode cX10_laySale 108 = .ok (.iload 5, 2) := by decide +kernel
theorem dX10_laySale_110 : decode cX10_laySale 110 = .ok (.dup2, 1) := by decide +kernel
theorem dX10_laySale_111 : decode cX10_laySale 111 = .ok (.iaload, 1) := by decide +kernel
theorem dX10_laySale_112 : decode cX10_laySale 112 = .ok (.aload_n 0, 1) := by decide +kernel
theorem dX10_laySale_113 : decode cX10_laySale 113 = .ok (.getfield 35, 3) := by decide +kernel
theorem dX10_laySale_116 : decode cX10_laySale 116 = .ok (.iload 5, 2) := by decide +kernel
theorem dX10_laySale_118 : decode cX10_laySale 118 = .ok (.iaload, 1) := by decide +kernel
theorem dX10_laySale_119 : decode cX10_laySale 119 = .ok (.iadd, 1) := by decide +kernel
theorem dX10_laySale_120 : decode cX10_laySale 120 = .ok (.iastore, 1) := by decide +kernel
theorem dX10_laySale_121 : decode cX10_laySale 121 = .ok (.iinc 5 1, 3) := by decide +kernel
theorem dX10_laySale_124 : decode cX10_laySale 124 = .ok (.goto (-27), 3) := by decide +kernel
theorem dX10_laySale_127 : decode cX10_laySale 127 = .ok (.iload_n 2, 1) := by decide +kernel
theorem dX10_laySale_128 : decode cX10_laySale 128 = .ok (.iload 4, 2) := by decide +kernel
theorem dX10_laySale_130 : decode cX10_laySale 130 = .ok (.isub, 1) := by decide +kernel
theorem dX10_laySale_131 : decode cX10_laySale 131 = .ok (.istore_n 2, 1) := by decide +kernel
theorem dX10_laySale_132 : decode cX10_laySale 132 = .ok (.iinc 3 1, 3) := by decide +kernel
theorem dX10_laySale_135 : decode cX10_laySale 135 = .ok (.goto (-110), 3) := by decide +kernel
theorem dX10_laySale_138 : decode cX10_laySale 138 = .ok (.aload_n 0, 1) := by decide +kernel
theorem dX10_laySale_139 : decode cX10_laySale 139 = .ok (.aload_n 0, 1) := by decide +kernel
theorem dX10_laySale_140 : decode cX10_laySale 140 = .ok (.bipush 77, 2) := by decide +kernel
theorem dX10_laySale_142 : decode cX10_laySale 142 = .ok (.invokevirtual 193, 3) := by decide +kernel
theorem dX10_laySale_145 : decode cX10_laySale 145 = .ok (.invokevirtual 206, 3) := by decide +kernel
theorem dX10_laySale_148 : decode cX10_laySale 148 = .ok (.aload_n 0, 1) := by decide +kernel
theorem dX10_laySale_149 : decode cX10_laySale 149 = .ok (.aload_n 0, 1) := by decide +kernel
theorem dX10_laySale_150 : decode cX10_laySale 150 = .ok (.iconst 0, 1) := by decide +kernel
theorem dX10_laySale_151 : decode cX10_laySale 151 = .ok (.invokevirtual 193, 3) := by decide +kernel
theorem dX10_laySale_154 : decode cX10_laySale 154 = .ok (.invokevirtual 200, 3) := by decide +kernel
theorem dX10_laySale_157 : decode cX10_laySale 157 = .ok (.aload_n 0, 1) := by decide +kernel
theorem dX10_laySale_158 : decode cX10_laySale 158 = .ok (.iload_n 2, 1) := by decide +kernel
theorem dX10_laySale_159 : decode cX10_laySale 159 = .ok (.ifCond .ge 8, 3) := by decide +kernel
theorem dX10_laySale_162 : decode cX10_laySale 162 = .ok (.iload_n 2, 1) := by decide +kernel
theorem dX10_laySale_163 : decode cX10_laySale 163 = .ok (.ineg, 1) := by decide +kernel
theorem dX10_laySale_164 : decode cX10_laySale 164 = .ok (.goto 4, 3) := by decide +kernel
theorem dX10_laySale_167 : decode cX10_laySale 167 = .ok (.iload_n 2, 1) := by decide +kernel
theorem dX10_laySale_168 : decode cX10_laySale 168 = .ok (.invokevirtual 209, 3) := by decide +kernel
theorem dX10_laySale_171 : decode cX10_laySale 171 = .ok (.iconst 0, 1) := by decide +kernel
theorem dX10_laySale_172 : decode cX10_laySale 172 = .ok (.istore_n 3, 1) := by decide +kernel
theorem dX10_laySale_173 : decode cX10_laySale 173 = .ok (.iload_n 3, 1) := by decide +kernel
theorem dX10_laySale_174 : decode cX10_laySale 174 = .ok (.bipush 8, 2) := by decide +kernel
theorem dX10_laySale_176 : decode cX10_laySale 176 = .ok (.if_icmp .ge 38, 3) := by decide +kernel
theorem dX10_laySale_179 : decode cX10_laySale 179 = .ok (.aload_n 0, 1) := by decide +kernel
theorem dX10_laySale_180 : decode cX10_laySale 180 = .ok (.getfield 38, 3) := by decide +kernel
theorem dX10_laySale_183 : decode cX10_laySale 183 = .ok (.iload_n 3, 1) := by decide +kernel
theorem dX10_laySale_184 : decode cX10_laySale 184 = .ok (.dup2, 1) := by decide +kernel
theorem dX10_laySale_185 : decode cX10_laySale 185 = .ok (.iaload, 1) := by decide +kernel
theorem dX10_laySale_186 : decode cX10_laySale 186 = .ok (.iload_n 2, 1) := by decide +kernel
theorem dX10_laySale_187 : decode cX10_laySale 187 = .ok (.ifCond .ge 13, 3) := by decide +kernel
theorem dX10_laySale_190 : decode cX10_laySale 190 = .ok (.aload_n 0, 1) := by decide +kernel
theorem dX10_laySale_191 : decode cX10_laySale 191 = .ok (.getfield 35, 3) := by decide +kernel
theorem dX10_laySale_194 : decode cX10_laySale 194 = .ok (.iload_n 3, 1) := by decide +kernel
theorem dX10_laySale_195 : decode cX10_laySale 195 = .ok (.iaload, 1) := by decide +kernel
theorem dX10_laySale_196 : decode cX10_laySale 196 = .ok (.ineg, 1) := by decide +kernel
theorem dX10_laySale_197 : decode cX10_laySale 197 = .ok (.goto 9, 3) := by decide +kernel
theorem dX10_laySale_200 : decode cX10_laySale 200 = .ok (.aload_n 0, 1) := by decide +kernel
theorem dX10_laySale_201 : decode cX10_laySale 201 = .ok (.getfield 35, 3) := by decide +kernel
theorem dX10_laySale_204 : decode cX10_laySale 204 = .ok (.iload_n 3, 1) := by decide +kernel
theorem dX10_laySale_205 : decode cX10_laySale 205 = .ok (.iaload, 1) := by decide +kernel
theorem dX10_laySale_206 : decode cX10_laySale 206 = .ok (.iadd, 1) := by decide +kernel
theorem dX10_laySale_207 : decode cX10_laySale 207 = .ok (.iastore, 1) := by decide +kernel
theorem dX10_laySale_208 : decode cX10_laySale 208 = .ok (.iinc 3 1, 3) := by decide +kernel
theorem dX10_laySale_211 : decode cX10_laySale 211 = .ok (.goto (-38), 3) := by decide +kernel
theorem dX10_laySale_214 : decode cX10_laySale 214 = .ok (.return_, 1) := by decide +kernel
theorem dX10_sale_0 : decode cX10_sale 0 = .ok (.iload_n 1, 1) := by decide +kernel
theorem dX10_sale_1 : decode cX10_sale 1 = .ok (.ldc 212, 2) := by decide +kernel
theorem dX10_sale_3 : decode cX10_sale 3 = .ok (.ldc 213, 2) := by decide +kernel
theorem dX10_sale_5 : decode cX10_sale 5 = .ok (.invokestatic 81, 3) := by decide +kernel
theorem dX10_sale_8 : decode cX10_sale 8 = .ok (.ifCond .eq 11, 3) := by decide +kernel
theorem dX10_sale_11 : decode cX10_sale 11 = .ok (.aload_n 0, 1) := by decide +kernel
theorem dX10_sale_12 : decode cX10_sale 12 = .ok (.iload_n 2, 1) := by decide +kernel
theorem dX10_sale_13 : decode cX10_sale 13 = .ok (.invokevirtual 203, 3) := by decide +kernel
theorem dX10_sale_16 : decode cX10_sale 16 = .ok (.ifCond .ne 6, 3) := by decide +kernel
theorem dX10_sale_19 : decode cX10_sale 19 = .ok (.ldc 214, 2) := by decide +kernel
theorem dX10_sale_21 : decode cX10_sale 21 = .ok (.ireturn, 1) := by decide +kernel
theorem dX10_sale_22 : decode cX10_sale 22 = .ok (.aload_n 0, 1) := by decide +kernel
theorem dX10_sale_23 : decode cX10_sale 23 = .ok (.iload_n 1, 1) := by decide +kernel
theorem dX10_sale_24 : decode cX10_sale 24 = .ok (.invokevirtual 215, 3) := by decide +kernel
theorem dX10_sale_27 : decode cX10_sale 27 = .ok (.aload_n 0, 1) := by decide +kernel
theorem dX10_sale_28 : decode cX10_sale 28 = .ok (.getfield 38, 3) := by decide +kernel
theorem dX10_sale_31 : decode cX10_sale 31 = .ok (.iload_n 2, 1) := by decide +kernel
theorem dX10_sale_32 : decode cX10_sale 32 = .ok (.iaload, 1) := by decide +kernel
theorem dX10_sale_33 : decode cX10_sale 33 = .ok (.ireturn, 1) := by decide +kernel
theorem dX10_sumOf_0 : decode cX10_sumOf 0 = .ok (.iconst 0, 1) := by decide +kernel
theorem dX10_sumOf_1 : decode cX10_sumOf 1 = .ok (.istore_n 2, 1) := by decide +kernel
theorem dX10_sumOf_2 : decode cX10_sumOf 2 = .ok (.iconst 0, 1) := by decide +kernel
theorem dX10_sumOf_3 : decode cX10_sumOf 3 = .ok (.istore_n 3, 1) := by decide +kernel
theorem dX10_sumOf_4 : decode cX10_sumOf 4 = .ok (.iload_n 3, 1) := by decide +kernel
theorem dX10_sumOf_5 : decode cX10_sumOf 5 = .ok (.bipush 8, 2) := by decide +kernel
theorem dX10_sumOf_7 : decode cX10_sumOf 7 = .ok (.if_icmp .ge 19, 3) := by decide +kernel
theorem dX10_sumOf_10 : decode cX10_sumOf 10 = .ok (.iload_n 2, 1) := by decide +kernel
theorem dX10_sumOf_11 : decode cX10_sumOf 11 = .ok (.aload_n 0, 1) := by decide +kernel
theorem dX10_sumOf_12 : decode cX10_sumOf 12 = .ok (.iload_n 1, 1) := by decide +kernel
theorem dX10_sumOf_13 : decode cX10_sumOf 13 = .ok (.iload_n 3, 1) := by decide +kernel
theorem dX10_sumOf_14 : decode cX10_sumOf 14 = .ok (.iadd, 1) := by decide +kernel
theorem dX10_sumOf_15 : decode cX10_sumOf 15 = .ok (.invokevirtual 193, 3) := by decide +kernel
theorem dX10_sumOf_18 : decode cX10_sumOf 18 = .ok (.iadd, 1) := by decide +kernel
theorem dX10_sumOf_19 : decode cX10_sumOf 19 = .ok (.istore_n 2, 1) := by decide +kernel
theorem dX10_sumOf_20 : decode cX10_sumOf 20 = .ok (.iinc 3 1, 3) := by decide +kernel
theorem dX10_sumOf_23 : decode cX10_sumOf 23 = .ok (.goto (-19), 3) := by decide +kernel
theorem dX10_sumOf_26 : decode cX10_sumOf 26 = .ok (.iload_n 2, 1) := by decide +kernel
theorem dX10_sumOf_27 : decode cX10_sumOf 27 = .ok (.ireturn, 1) := by decide +kernel
theorem dX10_assetAt_0 : decode cX10_assetAt 0 = .ok (.bipush 45, 2) := by decide +kernel
theorem dX10_assetAt_2 : decode cX10_assetAt 2 = .ok (.iconst 4, 1) := by decide +kernel
theorem dX10_assetAt_3 : decode cX10_assetAt 3 = .ok (.iload_n 0, 1) := by decide +kernel
theorem dX10_assetAt_4 : decode cX10_assetAt 4 = .ok (.imul, 1) := by decide +kernel
theorem dX10_assetAt_5 : decode cX10_assetAt 5 = .ok (.iadd, 1) := by decide +kernel
theorem dX10_assetAt_6 : decode cX10_assetAt 6 = .ok (.ireturn, 1) := by decide +kernel
theorem dX10_isAsset_0 : decode cX10_isAsset 0 = .ok (.iload_n 1, 1) := by decide +kernel
theorem dX10_isAsset_1 : decode cX10_isAsset 1 = .ok (.iconst 0, 1) := by decide +kernel
theorem dX10_isAsset_2 : decode cX10_isAsset 2 = .ok (.bipush 7, 2) := by decide +kernel
theorem dX10_isAsset_4 : decode cX10_isAsset 4 = .ok (.invokestatic 81, 3) := by decide +kernel
theorem dX10_isAsset_7 : decode cX10_isAsset 7 = .ok (.ifCond .eq 19, 3) := by decide +kernel
theorem dX10_isAsset_10 : decode cX10_isAsset 10 = .ok (.aload_n 0, 1) := by decide +kernel
theorem dX10_isAsset_11 : decode cX10_isAsset 11 = .ok (.iload_n 1, 1) := by decide +kernel
theorem dX10_isAsset_12 : decode cX10_isAsset 12 = .ok (.invokestatic 218, 3) := by decide +kernel
theorem dX10_isAsset_15 : decode cX10_isAsset 15 = .ok (.invokevirtual 193, 3) := by decide +kernel
theorem dX10_isAsset_18 : decode cX10_isAsset 18 = .ok (.iconst 1, 1) := by decide +kernel
theorem dX10_isAsset_19 : decode cX10_isAsset 19 = .ok (.if_icmp .ne 7, 3) := by decide +kernel
theorem dX10_isAsset_22 : decode cX10_isAsset 22 = .ok (.iconst 1, 1) := by decide +kernel
theorem dX10_isAsset_23 : decode cX10_isAsset 23 = .ok (.goto 4, 3) := by decide +kernel
theorem dX10_isAsset_26 : decode cX10_isAsset 26 = .ok (.iconst 0, 1) := by decide +kernel
theorem dX10_isAsset_27 : decode cX10_isAsset 27 = .ok (.ireturn, 1) := by decide +kernel
theorem dX10_held_0 : decode cX10_held 0 = .ok (.iconst 0, 1) := by decide +kernel
theorem dX10_held_1 : decode cX10_held 1 = .ok (.istore_n 1, 1) := by decide +kernel
theorem dX10_held_2 : decode cX10_held 2 = .ok (.iconst 0, 1) := by decide +kernel
theorem dX10_held_3 : decode cX10_held 3 = .ok (.istore_n 2, 1) := by decide +kernel
theorem dX10_held_4 : decode cX10_held 4 = .ok (.iload_n 2, 1) := by decide +kernel
theorem dX10_held_5 : decode cX10_held 5 = .ok (.bipush 8, 2) := by decide +kernel
theorem dX10_held_7 : decode cX10_held 7 = .ok (.if_icmp .ge 49, 3) := by decide +kernel
theorem dX10_held_10 : decode cX10_held 10 = .ok (.iload_n 1, 1) := by decide +kernel
theorem dX10_held_11 : decode cX10_held 11 = .ok (.aload_n 0, 1) := by decide +kernel
theorem dX10_held_12 : decode cX10_held 12 = .ok (.iload_n 2, 1) := by decide +kernel
theorem dX10_held_13 : decode cX10_held 13 = .ok (.invokevirtual 221, 3) := by decide +kernel
theorem dX10_held_16 : decode cX10_held 16 = .ok (.ifCond .eq 31, 3) := by decide +kernel
theorem dX10_held_19 : decode cX10_held 19 = .ok (.iconst 0, 1) := by decide +kernel
theorem dX10_held_20 : decode cX10_held 20 = .ok (.aload_n 0, 1) := by decide +kernel
theorem dX10_held_21 : decode cX10_held 21 = .ok (.iload_n 2, 1) := by decide +kernel
theorem dX10_held_22 : decode cX10_held 22 = .ok (.invokestatic 218, 3) := by decide +kernel
theorem dX10_held_25 : decode cX10_held 25 = .ok (.iconst 3, 1) := by decide +kernel
theorem dX10_held_26 : decode cX10_held 26 = .ok (.iadd, 1) := by decide +kernel
theorem dX10_held_27 : decode cX10_held 27 = .ok (.invokevirtual 193, 3) := by decide +kernel
theorem dX10_held_30 : decode cX10_held 30 = .ok (.aload_n 0, 1) := by decide +kernel
theorem dX10_held_31 : decode cX10_held 31 = .ok (.iload_n 2, 1) := by decide +kernel
theorem dX10_held_32 : decode cX10_held 32 = .ok (.invokestatic 218, 3) := by decide +kernel
theorem dX10_held_35 : decode cX10_held 35 = .ok (.iconst 1, 1) := by decide +kernel
theorem dX10_held_36 : decode cX10_held 36 = .ok (.iadd, 1) := by decide +kernel
theorem dX10_held_37 : decode cX10_held 37 = .ok (.invokevirtual 193, 3) := by decide +kernel
theorem dX10_held_40 : decode cX10_held 40 = .ok (.isub, 1) := by decide +kernel
theorem dX10_held_41 : decode cX10_held 41 = .ok (.invokestatic 224, 3) := by decide +kernel
theorem dX10_held_44 : decode cX10_held 44 = .ok (.goto 4, 3) := by decide +kernel
theorem dX10_held_47 : decode cX10_held 47 = .ok (.iconst 0, 1) := by decide +kernel
theorem dX10_held_48 : decode cX10_held 48 = .ok (.iadd, 1) := by decide +kernel
theorem dX10_held_49 : decode cX10_held 49 = .ok (.istore_n 1, 1) := by decide +kernel
theorem dX10_held_50 : decode cX10_held 50 = .ok (.iinc 2 1, 3) := by decide +kernel
theorem dX10_held_53 : decode cX10_held 53 = .ok (.goto (-49), 3) := by decide +kernel
theorem dX10_held_56 : decode cX10_held 56 = .ok (.iload_n 1, 1) := by decide +kernel
theorem dX10_held_57 : decode cX10_held 57 = .ok (.ireturn, 1) := by decide +kernel
theorem dX10_net_0 : decode cX10_net 0 = .ok (.aload_n 0, 1) := by decide +kernel
theorem dX10_net_1 : decode cX10_net 1 = .ok (.iconst 3, 1) := by decide +kernel
theorem dX10_net_2 : decode cX10_net 2 = .ok (.invokevirtual 193, 3) := by decide +kernel
theorem dX10_net_5 : decode cX10_net 5 = .ok (.istore_n 1, 1) := by decide +kernel
theorem dX10_net_6 : decode cX10_net 6 = .ok (.iconst 0, 1) := by decide +kernel
theorem dX10_net_7 : decode cX10_net 7 = .ok (.istore_n 2, 1) := by decide +kernel
theorem dX10_net_8 : decode cX10_net 8 = .ok (.iload_n 2, 1) := by decide +kernel
theorem dX10_net_9 : decode cX10_net 9 = .ok (.bipush 8, 2) := by decide +kernel
theorem dX10_net_11 : decode cX10_net 11 = .ok (.if_icmp .ge 45, 3) := by decide +kernel
theorem dX10_net_14 : decode cX10_net 14 = .ok (.iload_n 1, 1) := by decide +kernel
theorem dX10_net_15 : decode cX10_net 15 = .ok (.aload_n 0, 1) := by decide +kernel
theorem dX10_net_16 : decode cX10_net 16 = .ok (.iload_n 2, 1) := by decide +kernel
theorem dX10_net_17 : decode cX10_net 17 = .ok (.invokevirtual 221, 3) := by decide +kernel
theorem dX10_net_20 : decode cX10_net 20 = .ok (.ifCond .eq 27, 3) := by decide +kernel
theorem dX10_net_23 : decode cX10_net 23 = .ok (.aload_n 0, 1) := by decide +kernel
theorem dX10_net_24 : decode cX10_net 24 = .ok (.iload_n 2, 1) := by decide +kernel
theorem dX10_net_25 : decode cX10_net 25 = .ok (.invokestatic 218, 3) := by decide +kernel
theorem dX10_net_28 : decode cX10_net 28 = .ok (.iconst 1, 1) := by decide +kernel
theorem dX10_net_29 : decode cX10_net 29 = .ok (.iadd, 1) := by decide +kernel
theorem dX10_net_30 : decode cX10_net 30 = .ok (.invokevirtual 193, 3) := by decide +kernel
theorem dX10_net_33 : decode cX10_net 33 = .ok (.aload_n 0, 1) := by decide +kernel
theorem dX10_net_34 : decode cX10_net 34 = .ok (.iload_n 2, 1) := by decide +kernel
theorem dX10_net_35 : decode cX10_net 35 = .ok (.invokestatic 218, 3) := by decide +kernel
theorem dX10_net_38 : decode cX10_net 38 = .ok (.iconst 3, 1) := by decide +kernel
theorem dX10_net_39 : decode cX10_net 39 = .ok (.iadd, 1) := by decide +kernel
theorem dX10_net_40 : decode cX10_net 40 = .ok (.invokevirtual 193, 3) := by decide +kernel
theorem dX10_net_43 : decode cX10_net 43 = .ok (.isub, 1) := by decide +kernel
theorem dX10_net_44 : decode cX10_net 44 = .ok (.goto 4, 3) := by decide +kernel
theorem dX10_net_47 : decode cX10_net 47 = .ok (.iconst 0, 1) := by decide +kernel
theorem dX10_net_48 : decode cX10_net 48 = .ok (.iadd, 1) := by decide +kernel
theorem dX10_net_49 : decode cX10_net 49 = .ok (.istore_n 1, 1) := by decide +kernel
theorem dX10_net_50 : decode cX10_net 50 = .ok (.iinc 2 1, 3) := by decide +kernel
theorem dX10_net_53 : decode cX10_net 53 = .ok (.goto (-45), 3) := by decide +kernel
theorem dX10_net_56 : decode cX10_net 56 = .ok (.iload_n 1, 1) := by decide +kernel
theorem dX10_net_57 : decode cX10_net 57 = .ok (.ireturn, 1) := by decide +kernel
theorem dX10_greater_0 : decode cX10_greater 0 = .ok (.iload_n 0, 1) := by decide +kernel
theorem dX10_greater_1 : decode cX10_greater 1 = .ok (.iload_n 1, 1) := by decide +kernel
theorem dX10_greater_2 : decode cX10_greater 2 = .ok (.if_icmp .le 7, 3) := by decide +kernel
theorem dX10_greater_5 : decode cX10_greater 5 = .ok (.iload_n 0, 1) := by decide +kernel
theorem dX10_greater_6 : decode cX10_greater 6 = .ok (.goto 4, 3) := by decide +kernel
theorem dX10_greater_9 : decode cX10_greater 9 = .ok (.iload_n 1, 1) := by decide +kernel
theorem dX10_greater_10 : decode cX10_greater 10 = .ok (.ireturn, 1) := by decide +kernel
theorem dX10_lesser_0 : decode cX10_lesser 0 = .ok (.iload_n 0, 1) := by decide +kernel
theorem dX10_lesser_1 : decode cX10_lesser 1 = .ok (.iload_n 1, 1) := by decide +kernel
theorem dX10_lesser_2 : decode cX10_lesser 2 = .ok (.if_icmp .ge 7, 3) := by decide +kernel
theorem dX10_lesser_5 : decode cX10_lesser 5 = .ok (.iload_n 0, 1) := by decide +kernel
theorem dX10_lesser_6 : decode cX10_lesser 6 = .ok (.goto 4, 3) := by decide +kernel
theorem dX10_lesser_9 : decode cX10_lesser 9 = .ok (.iload_n 1, 1) := by decide +kernel
theorem dX10_lesser_10 : decode cX10_lesser 10 = .ok (.ireturn, 1) := by decide +kernel
theorem dX10_floorOf_0 : decode cX10_floorOf 0 = .ok (.aload_n 0, 1) := by decide +kernel
theorem dX10_floorOf_1 : decode cX10_floorOf 1 = .ok (.bipush 13, 2) := by decide +kernel
theorem dX10_floorOf_3 : decode cX10_floorOf 3 = .ok (.iload_n 1, 1) := by decide +kernel
theorem dX10_floorOf_4 : decode cX10_floorOf 4 = .ok (.iadd, 1) := by decide +kernel
theorem dX10_floorOf_5 : decode cX10_floorOf 5 = .ok (.invokevirtual 193, 3) := by decide +kernel
theorem dX10_floorOf_8 : decode cX10_floorOf 8 = .ok (.ineg, 1) := by decide +kernel
theorem dX10_floorOf_9 : decode cX10_floorOf 9 = .ok (.aload_n 0, 1) := by decide +kernel
theorem dX10_floorOf_10 : decode cX10_floorOf 10 = .ok (.bipush 29, 2) := by decide +kernel
theorem dX10_floorOf_12 : decode cX10_floorOf 12 = .ok (.iload_n 1, 1) := by decide +kernel
theorem dX10_floorOf_13 : decode cX10_floorOf 13 = .ok (.iadd, 1) := by decide +kernel
theorem dX10_floorOf_14 : decode cX10_floorOf 14 = .ok (.invokevirtual 193, 3) := by decide +kernel
theorem dX10_floorOf_17 : decode cX10_floorOf 17 = .ok (.isub, 1) := by decide +kernel
theorem dX10_floorOf_18 : decode cX10_floorOf 18 = .ok (.ireturn, 1) := by decide +kernel
theorem dX10_gapOf_0 : decode cX10_gapOf 0 = .ok (.aload_n 0, 1) := by decide +kernel
theorem dX10_gapOf_1 : decode cX10_gapOf 1 = .ok (.aload_n 0, 1) := by decide +kernel
theorem dX10_gapOf_2 : decode cX10_gapOf 2 = .ok (.iconst 5, 1) := by decide +kernel
theorem dX10_gapOf_3 : decode cX10_gapOf 3 = .ok (.invokevirtual 228, 3) := by decide +kernel
theorem dX10_gapOf_6 : decode cX10_gapOf 6 = .ok (.aload_n 0, 1) := by decide +kernel
theorem dX10_gapOf_7 : decode cX10_gapOf 7 = .ok (.iconst 2, 1) := by decide +kernel
theorem dX10_gapOf_8 : decode cX10_gapOf 8 = .ok (.invokevirtual 193, 3) := by decide +kernel
theorem dX10_gapOf_11 : decode cX10_gapOf 11 = .ok (.iadd, 1) := by decide +kernel
theorem dX10_gapOf_12 : decode cX10_gapOf 12 = .ok (.invokevirtual 215, 3) := by decide +kernel
theorem dX10_gapOf_15 : decode cX10_gapOf 15 = .ok (.aload_n 0, 1) := by decide +kernel
theorem dX10_gapOf_16 : decode cX10_gapOf 16 = .ok (.getfield 38, 3) := by decide +kernel
theorem dX10_gapOf_19 : decode cX10_gapOf 19 = .ok (.iload_n 1, 1) := by decide +kernel
theorem dX10_gapOf_20 : decode cX10_gapOf 20 = .ok (.iaload, 1) := by decide +kernel
theorem dX10_gapOf_21 : decode cX10_gapOf 21 = .ok (.aload_n 0, 1) := by decide +kernel
theorem dX10_gapOf_22 : decode cX10_gapOf 22 = .ok (.iconst 5, 1) := by decide +kernel
theorem dX10_gapOf_23 : decode cX10_gapOf 23 = .ok (.iload_n 1, 1) := by decide +kernel
theorem dX10_gapOf_24 : decode cX10_gapOf 24 = .ok (.iadd, 1) := by decide +kernel
theorem dX10_gapOf_25 : decode cX10_gapOf 25 = .ok (.invokevirtual 193, 3) := by decide +kernel
theorem dX10_gapOf_28 : decode cX10_gapOf 28 = .ok (.isub, 1) := by decide +kernel
theorem dX10_gapOf_29 : decode cX10_gapOf 29 = .ok (.ireturn, 1) := by decide +kernel
theorem dX10_is_0 : decode cX10_is 0 = .ok (.iload_n 1, 1) := by decide +kernel
theorem dX10_is_1 : decode cX10_is 1 = .ok (.tableswitch 163 0 12 #[67, 67, 67, 75, 80, 85, 91, 97, 133, 139, 146, 153, 158], 67) := by decide +kernel
theorem dX10_is_68 : decode cX10_is 68 = .ok (.aload_n 0, 1) := by decide +kernel
theorem dX10_is_69 : decode cX10_is 69 = .ok (.iconst 1, 1) := by decide +kernel
theorem dX10_is_70 : decode cX10_is 70 = .ok (.iload_n 1, 1) := by decide +kernel
theorem dX10_is_71 : decode cX10_is 71 = .ok (.iadd, 1) := by decide +kernel
theorem dX10_is_72 : decode cX10_is 72 = .ok (.invokevirtual 193, 3) := by decide +kernel
theorem dX10_is_75 : decode cX10_is 75 = .ok (.ireturn, 1) := by decide +kernel
theorem dX10_is_76 : decode cX10_is 76 = .ok (.aload_n 0, 1) := by decide +kernel
theorem dX10_is_77 : decode cX10_is 77 = .ok (.invokevirtual 231, 3) := by decide +kernel
theorem dX10_is_80 : decode cX10_is 80 = .ok (.ireturn, 1) := by decide +kernel
theorem dX10_is_81 : decode cX10_is 81 = .ok (.aload_n 0, 1) := by decide +kernel
theorem dX10_is_82 : decode cX10_is 82 = .ok (.invokevirtual 234, 3) := by decide +kernel
theorem dX10_is_85 : decode cX10_is 85 = .ok (.ireturn, 1) := by decide +kernel
theorem dX10_is_86 : decode cX10_is 86 = .ok (.aload_n 0, 1) := by decide +kernel
theorem dX10_is_87 : decode cX10_is 87 = .ok (.iconst 4, 1) := by decide +kernel
theorem dX10_is_88 : decode cX10_is 88 = .ok (.invokevirtual 193, 3) := by decide +kernel
theorem dX10_is_91 : decode cX10_is 91 = .ok (.ireturn, 1) := by decide +kernel
theorem dX10_is_92 : decode cX10_is 92 = .ok (.aload_n 0, 1) := by decide +kernel
theorem dX10_is_93 : decode cX10_is 93 = .ok (.iconst 0, 1) := by decide +kernel
theorem dX10_is_94 : decode cX10_is 94 = .ok (.invokevirtual 193, 3) := by decide +kernel
theorem dX10_is_97 : decode cX10_is 97 = .ok (.ireturn, 1) := by decide +kernel
theorem dX10_is_98 : decode cX10_is 98 = .ok (.iconst 0, 1) := by decide +kernel
theorem dX10_is_99 : decode cX10_is 99 = .ok (.istore_n 2, 1) := by decide +kernel
theorem dX10_is_100 : decode cX10_is 100 = .ok (.iconst 0, 1) := by decide +kernel
theorem dX10_is_101 : decode cX10_is 101 = .ok (.istore_n 3, 1) := by decide +kernel
theorem dX10_is_102 : decode cX10_is 102 = .ok (.iload_n 3, 1) := by decide +kernel
theorem dX10_is_103 : decode cX10_is 103 = .ok (.bipush 8, 2) := by decide +kernel
theorem dX10_is_105 : decode cX10_is 105 = .ok (.if_icmp .ge 27, 3) := by decide +kernel
theorem dX10_is_108 : decode cX10_is 108 = .ok (.iload_n 2, 1) := by decide +kernel
theorem dX10_is_109 : decode cX10_is 109 = .ok (.aload_n 0, 1) := by decide +kernel
theorem dX10_is_110 : decode cX10_is 110 = .ok (.iload_n 3, 1) := by decide +kernel
theorem dX10_is_111 : decode cX10_is 111 = .ok (.invokevirtual 221, 3) := by decide +kernel
theorem dX10_is_114 : decode cX10_is 114 = .ok (.ifCond .eq 9, 3) := by decide +kernel
theorem dX10_is_117 : decode cX10_is 117 = .ok (.iconst 1, 1) := by decide +kernel
theorem dX10_is_118 : decode cX10_is 118 = .ok (.iload_n 3, 1) := by decide +kernel
theorem dX10_is_119 : decode cX10_is 119 = .ok (.ishl, 1) := by decide +kernel
theorem dX10_is_120 : decode cX10_is 120 = .ok (.goto 4, 3) := by decide +kernel
theorem dX10_is_123 : decode cX10_is 123 = .ok (.iconst 0, 1) := by decide +kernel
theorem dX10_is_124 : decode cX10_is 124 = .ok (.ior, 1) := by decide +kernel
theorem dX10_is_125 : decode cX10_is 125 = .ok (.istore_n 2, 1) := by decide +kernel
theorem dX10_is_126 : decode cX10_is 126 = .ok (.iinc 3 1, 3) := by decide +kernel
theorem dX10_is_129 : decode cX10_is 129 = .ok (.goto (-27), 3) := by decide +kernel
theorem dX10_is_132 : decode cX10_is 132 = .ok (.iload_n 2, 1) := by decide +kernel
theorem dX10_is_133 : decode cX10_is 133 = .ok (.ireturn, 1) := by decide +kernel
theorem dX10_is_134 : decode cX10_is 134 = .ok (.aload_n 0, 1) := by decide +kernel
theorem dX10_is_135 : decode cX10_is 135 = .ok (.iconst 5, 1) := by decide +kernel
theorem dX10_is_136 : decode cX10_is 136 = .ok (.invokevirtual 228, 3) := by decide +kernel
theorem dX10_is_139 : decode cX10_is 139 = .ok (.ireturn, 1) := by decide +kernel
theorem dX10_is_140 : decode cX10_is 140 = .ok (.aload_n 0, 1) := by decide +kernel
theorem dX10_is_141 : decode cX10_is 141 = .ok (.bipush 29, 2) := by decide +kernel
theorem dX10_is_143 : decode cX10_is 143 = .ok (.invokevirtual 228, 3) := by decide +kernel
theorem dX10_is_146 : decode cX10_is 146 = .ok (.ireturn, 1) := by decide +kernel
theorem dX10_is_147 : decode cX10_is 147 = .ok (.aload_n 0, 1) := by decide +kernel
theorem dX10_is_148 : decode cX10_is 148 = .ok (.bipush 37, 2) := by decide +kernel
theorem dX10_is_150 : decode cX10_is 150 = .ok (.invokevirtual 228, 3) := by decide +kernel
theorem dX10_is_153 : decode cX10_is 153 = .ok (.ireturn, 1) := by decide +kernel
theorem dX10_is_154 : decode cX10_is 154 = .ok (.aload_n 0, 1) := by decide +kernel
theorem dX10_is_155 : decode cX10_is 155 = .ok (.getfield 75, 3) := by decide +kernel
theorem dX10_is_158 : decode cX10_is 158 = .ok (.ireturn, 1) := by decide +kernel
theorem dX10_is_159 : decode cX10_is 159 = .ok (.aload_n 0, 1) := by decide +kernel
theorem dX10_is_160 : decode cX10_is 160 = .ok (.getfield 88, 3) := by decide +kernel
theorem dX10_is_163 : decode cX10_is 163 = .ok (.ireturn, 1) := by decide +kernel
theorem dX10_is_164 : decode cX10_is 164 = .ok (.ldc 214, 2) := by decide +kernel
theorem dX10_is_166 : decode cX10_is 166 = .ok (.ireturn, 1) := by decide +kernel
theorem dX10_partner_0 : decode cX10_partner 0 = .ok (.aload_n 0, 1) := by decide +kernel
theorem dX10_partner_1 : decode cX10_partner 1 = .ok (.iload_n 1, 1) := by decide +kernel
theorem dX10_partner_2 : decode cX10_partner 2 = .ok (.invokevirtual 203, 3) := by decide +kernel
theorem dX10_partner_5 : decode cX10_partner 5 = .ok (.ifCond .ne 6, 3) := by decide +kernel
theorem dX10_partner_8 : decode cX10_partner 8 = .ok (.ldc 214, 2) := by decide +kernel
theorem dX10_partner_10 : decode cX10_partner 10 = .ok (.ireturn, 1) := by decide +kernel
theorem dX10_partner_11 : decode cX10_partner 11 = .ok (.iload_n 2, 1) := by decide +kernel
theorem dX10_partner_12 : decode cX10_partner 12 = .ok (.iconst 0, 1) := by decide +kernel
theorem dX10_partner_13 : decode cX10_partner 13 = .ok (.iconst 4, 1) := by decide +kernel
theorem dX10_partner_14 : decode cX10_partner 14 = .ok (.invokestatic 81, 3) := by decide +kernel
theorem dX10_partner_17 : decode cX10_partner 17 = .ok (.ifCond .eq 16, 3) := by decide +kernel
theorem dX10_partner_20 : decode cX10_partner 20 = .ok (.aload_n 0, 1) := by decide +kernel
theorem dX10_partner_21 : decode cX10_partner 21 = .ok (.iconst 5, 1) := by decide +kernel
theorem dX10_partner_22 : decode cX10_partner 22 = .ok (.bipush 8, 2) := by decide +kernel
theorem dX10_partner_24 : decode cX10_partner 24 = .ok (.iload_n 2, 1) := by decide +kernel
theorem dX10_partner_25 : decode cX10_partner 25 = .ok (.imul, 1) := by decide +kernel
theorem dX10_partner_26 : decode cX10_partner 26 = .ok (.iadd, 1) := by decide +kernel
theorem dX10_partner_27 : decode cX10_partner 27 = .ok (.iload_n 1, 1) := by decide +kernel
theorem dX10_partner_28 : decode cX10_partner 28 = .ok (.iadd, 1) := by decide +kernel
theorem dX10_partner_29 : decode cX10_partner 29 = .ok (.invokevirtual 193, 3) := by decide +kernel
theorem dX10_partner_32 : decode cX10_partner 32 = .ok (.ireturn, 1) := by decide +kernel
theorem dX10_partner_33 : decode cX10_partner 33 = .ok (.iload_n 2, 1) := by decide +kernel
theorem dX10_partner_34 : decode cX10_partner 34 = .ok (.iconst 5, 1) := by decide +kernel
theorem dX10_partner_35 : decode cX10_partner 35 = .ok (.if_icmp .ne 11, 3) := by decide +kernel
theorem dX10_partner_38 : decode cX10_partner 38 = .ok (.aload_n 0, 1) := by decide +kernel
theorem dX10_partner_39 : decode cX10_partner 39 = .ok (.iload_n 1, 1) := by decide +kernel
theorem dX10_partner_40 : decode cX10_partner 40 = .ok (.invokevirtual 237, 3) := by decide +kernel
theorem dX10_partner_43 : decode cX10_partner 43 = .ok (.goto 19, 3) := by decide +kernel
theorem dX10_partner_46 : decode cX10_partner 46 = .ok (.iload_n 2, 1) := by decide +kernel
theorem dX10_partner_47 : decode cX10_partner 47 = .ok (.bipush 6, 2) := by decide +kernel
theorem dX10_partner_49 : decode cX10_partner 49 = .ok (.if_icmp .ne 11, 3) := by decide +kernel
theorem dX10_partner_52 : decode cX10_partner 52 = .ok (.aload_n 0, 1) := by decide +kernel
theorem dX10_partner_53 : decode cX10_partner 53 = .ok (.iload_n 1, 1) := by decide +kernel
theorem dX10_partner_54 : decode cX10_partner 54 = .ok (.invokevirtual 240, 3) := by decide +kernel
theorem dX10_partner_57 : decode cX10_partner 57 = .ok (.goto 5, 3) := by decide +kernel
theorem dX10_partner_60 : decode cX10_partner 60 = .ok (.ldc 214, 2) := by decide +kernel
theorem dX10_partner_62 : decode cX10_partner 62 = .ok (.ireturn, 1) := by decide +kernel
theorem dX10_gain_0 : decode cX10_gain 0 = .ok (.iload_n 1, 1) := by decide +kernel
theorem dX10_gain_1 : decode cX10_gain 1 = .ok (.iconst (-1), 1) := by decide +kernel
theorem dX10_gain_2 : decode cX10_gain 2 = .ok (.if_icmp .eq 14, 3) := by decide +kernel
theorem dX10_gain_5 : decode cX10_gain 5 = .ok (.aload_n 0, 1) := by decide +kernel
theorem dX10_gain_6 : decode cX10_gain 6 = .ok (.iload_n 1, 1) := by decide +kernel
theorem dX10_gain_7 : decode cX10_gain 7 = .ok (.invokevirtual 221, 3) := by decide +kernel
theorem dX10_gain_10 : decode cX10_gain 10 = .ok (.ifCond .ne 6, 3) := by decide +kernel
theorem dX10_gain_13 : decode cX10_gain 13 = .ok (.ldc 214, 2) := by decide +kernel
theorem dX10_gain_15 : decode cX10_gain 15 = .ok (.ireturn, 1) := by decide +kernel
theorem dX10_gain_16 : decode cX10_gain 16 = .ok (.iconst 0, 1) := by decide +kernel
theorem dX10_gain_17 : decode cX10_gain 17 = .ok (.istore_n 2, 1) := by decide +kernel
