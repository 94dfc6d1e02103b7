theorem dX9_init_99 : decode cX9_init 99 = .ok (.aload_n 0, 1) := by decide +kernel
theorem dX9_init_100 : decode cX9_init 100 = .ok (.getfield 48, 3) := by decide +kernel
theorem dX9_init_103 : decode cX9_init 103 = .ok (.getfield 56, 3) := by decide +kernel
theorem dX9_init_106 : decode cX9_init 106 = .ok (.aload_n 0, 1) := by decide +kernel
theorem dX9_init_107 : decode cX9_init 107 = .ok (.getfield 48, 3) := by decide +kernel
theorem dX9_init_110 : decode cX9_init 110 = .ok (.getfield 60, 3) := by decide +kernel
theorem dX9_init_113 : decode cX9_init 113 = .ok (.invokespecial 45, 3) := by decide +kernel
theorem dX9_init_116 : decode cX9_init 116 = .ok (.aastore, 1) := by decide +kernel
theorem dX9_init_117 : decode cX9_init 117 = .ok (.iinc 1 1, 3) := by decide +kernel
theorem dX9_init_120 : decode cX9_init 120 = .ok (.goto (-36), 3) := by decide +kernel
theorem dX9_init_123 : decode cX9_init 123 = .ok (.aload_n 0, 1) := by decide +kernel
theorem dX9_init_124 : decode cX9_init 124 = .ok (.iconst 2, 1) := by decide +kernel
theorem dX9_init_125 : decode cX9_init 125 = .ok (.anewarray 37, 3) := by decide +kernel
theorem dX9_init_128 : decode cX9_init 128 = .ok (.putfield 64, 3) := by decide +kernel
theorem dX9_init_131 : decode cX9_init 131 = .ok (.aload_n 0, 1) := by decide +kernel
theorem dX9_init_132 : decode cX9_init 132 = .ok (.new 67, 3) := by decide +kernel
theorem dX9_init_135 : decode cX9_init 135 = .ok (.dup, 1) := by decide +kernel
theorem dX9_init_136 : decode cX9_init 136 = .ok (.invokespecial 69, 3) := by decide +kernel
theorem dX9_init_139 : decode cX9_init 139 = .ok (.putfield 70, 3) := by decide +kernel
theorem dX9_init_142 : decode cX9_init 142 = .ok (.aload_n 0, 1) := by decide +kernel
theorem dX9_init_143 : decode cX9_init 143 = .ok (.new 74, 3) := by decide +kernel
theorem dX9_init_146 : decode cX9_init 146 = .ok (.dup, 1) := by decide +kernel
theorem dX9_init_147 : decode cX9_init 147 = .ok (.invokespecial 76, 3) := by decide +kernel
theorem dX9_init_150 : decode cX9_init 150 = .ok (.putfield 77, 3) := by decide +kernel
theorem dX9_init_153 : decode cX9_init 153 = .ok (.aload_n 0, 1) := by decide +kernel
theorem dX9_init_154 : decode cX9_init 154 = .ok (.iconst (-1), 1) := by decide +kernel
theorem dX9_init_155 : decode cX9_init 155 = .ok (.putfield 81, 3) := by decide +kernel
theorem dX9_init_158 : decode cX9_init 158 = .ok (.return_, 1) := by decide +kernel
theorem dX9_feed_0 : decode cX9_feed 0 = .ok (.aload_n 0, 1) := by decide +kernel
theorem dX9_feed_1 : decode cX9_feed 1 = .ok (.getfield 10, 3) := by decide +kernel
theorem dX9_feed_4 : decode cX9_feed 4 = .ok (.getfield 85, 3) := by decide +kernel
theorem dX9_feed_7 : decode cX9_feed 7 = .ok (.sipush 380, 3) := by decide +kernel
theorem dX9_feed_10 : decode cX9_feed 10 = .ok (.if_icmp .le 5, 3) := by decide +kernel
theorem dX9_feed_13 : decode cX9_feed 13 = .ok (.iconst (-1), 1) := by decide +kernel
theorem dX9_feed_14 : decode cX9_feed 14 = .ok (.ireturn, 1) := by decide +kernel
theorem dX9_feed_15 : decode cX9_feed 15 = .ok (.aload_n 0, 1) := by decide +kernel
theorem dX9_feed_16 : decode cX9_feed 16 = .ok (.getfield 10, 3) := by decide +kernel
theorem dX9_feed_19 : decode cX9_feed 19 = .ok (.iload_n 1, 1) := by decide +kernel
theorem dX9_feed_20 : decode cX9_feed 20 = .ok (.invokevirtual 88, 3) := by decide +kernel
theorem dX9_feed_23 : decode cX9_feed 23 = .ok (.aload_n 0, 1) := by decide +kernel
theorem dX9_feed_24 : decode cX9_feed 24 = .ok (.getfield 10, 3) := by decide +kernel
theorem dX9_feed_27 : decode cX9_feed 27 = .ok (.iload_n 2, 1) := by decide +kernel
theorem dX9_feed_28 : decode cX9_feed 28 = .ok (.invokevirtual 88, 3) := by decide +kernel
theorem dX9_feed_31 : decode cX9_feed 31 = .ok (.aload_n 0, 1) := by decide +kernel
theorem dX9_feed_32 : decode cX9_feed 32 = .ok (.getfield 10, 3) := by decide +kernel
theorem dX9_feed_35 : decode cX9_feed 35 = .ok (.iload_n 3, 1) := by decide +kernel
theorem dX9_feed_36 : decode cX9_feed 36 = .ok (.invokevirtual 88, 3) := by decide +kernel
theorem dX9_feed_39 : decode cX9_feed 39 = .ok (.aload_n 0, 1) := by decide +kernel
theorem dX9_feed_40 : decode cX9_feed 40 = .ok (.getfield 10, 3) := by decide +kernel
theorem dX9_feed_43 : decode cX9_feed 43 = .ok (.iload 4, 2) := by decide +kernel
theorem dX9_feed_45 : decode cX9_feed 45 = .ok (.invokevirtual 88, 3) := by decide +kernel
theorem dX9_feed_48 : decode cX9_feed 48 = .ok (.aload_n 0, 1) := by decide +kernel
theorem dX9_feed_49 : decode cX9_feed 49 = .ok (.getfield 10, 3) := by decide +kernel
theorem dX9_feed_52 : decode cX9_feed 52 = .ok (.iload 5, 2) := by decide +kernel
theorem dX9_feed_54 : decode cX9_feed 54 = .ok (.invokevirtual 88, 3) := by decide +kernel
theorem dX9_feed_57 : decode cX9_feed 57 = .ok (.aload_n 0, 1) := by decide +kernel
theorem dX9_feed_58 : decode cX9_feed 58 = .ok (.getfield 10, 3) := by decide +kernel
theorem dX9_feed_61 : decode cX9_feed 61 = .ok (.getfield 85, 3) := by decide +kernel
theorem dX9_feed_64 : decode cX9_feed 64 = .ok (.ireturn, 1) := by decide +kernel
theorem dX9_end_0 : decode cX9_end 0 = .ok (.iload_n 1, 1) := by decide +kernel
theorem dX9_end_1 : decode cX9_end 1 = .ok (.ifCond .lt 14, 3) := by decide +kernel
theorem dX9_end_4 : decode cX9_end 4 = .ok (.iload_n 1, 1) := by decide +kernel
theorem dX9_end_5 : decode cX9_end 5 = .ok (.aload_n 0, 1) := by decide +kernel
theorem dX9_end_6 : decode cX9_end 6 = .ok (.getfield 10, 3) := by decide +kernel
theorem dX9_end_9 : decode cX9_end 9 = .ok (.getfield 85, 3) := by decide +kernel
theorem dX9_end_12 : decode cX9_end 12 = .ok (.if_icmp .le 5, 3) := by decide +kernel
theorem dX9_end_15 : decode cX9_end 15 = .ok (.iconst (-1), 1) := by decide +kernel
theorem dX9_end_16 : decode cX9_end 16 = .ok (.ireturn, 1) := by decide +kernel
theorem dX9_end_17 : decode cX9_end 17 = .ok (.aload_n 0, 1) := by decide +kernel
theorem dX9_end_18 : decode cX9_end 18 = .ok (.getfield 10, 3) := by decide +kernel
theorem dX9_end_21 : decode cX9_end 21 = .ok (.iload_n 1, 1) := by decide +kernel
theorem dX9_end_22 : decode cX9_end 22 = .ok (.putfield 85, 3) := by decide +kernel
theorem dX9_end_25 : decode cX9_end 25 = .ok (.iload_n 1, 1) := by decide +kernel
theorem dX9_end_26 : decode cX9_end 26 = .ok (.ireturn, 1) := by decide +kernel
theorem dX9_tiers_0 : decode cX9_tiers 0 = .ok (.new 39, 3) := by decide +kernel
theorem dX9_tiers_3 : decode cX9_tiers 3 = .ok (.dup, 1) := by decide +kernel
theorem dX9_tiers_4 : decode cX9_tiers 4 = .ok (.invokespecial 41, 3) := by decide +kernel
theorem dX9_tiers_7 : decode cX9_tiers 7 = .ok (.astore_n 1, 1) := by decide +kernel
theorem dX9_tiers_8 : decode cX9_tiers 8 = .ok (.aload_n 1, 1) := by decide +kernel
theorem dX9_tiers_9 : decode cX9_tiers 9 = .ok (.aload_n 0, 1) := by decide +kernel
theorem dX9_tiers_10 : decode cX9_tiers 10 = .ok (.getfield 10, 3) := by decide +kernel
theorem dX9_tiers_13 : decode cX9_tiers 13 = .ok (.invokevirtual 92, 3) := by decide +kernel
theorem dX9_tiers_16 : decode cX9_tiers 16 = .ok (.istore_n 2, 1) := by decide +kernel
theorem dX9_tiers_17 : decode cX9_tiers 17 = .ok (.aload_n 0, 1) := by decide +kernel
theorem dX9_tiers_18 : decode cX9_tiers 18 = .ok (.invokevirtual 96, 3) := by decide +kernel
theorem dX9_tiers_21 : decode cX9_tiers 21 = .ok (.iload_n 2, 1) := by decide +kernel
theorem dX9_tiers_22 : decode cX9_tiers 22 = .ok (.iconst (-1), 1) := by decide +kernel
theorem dX9_tiers_23 : decode cX9_tiers 23 = .ok (.if_icmp .eq 15, 3) := by decide +kernel
theorem dX9_tiers_26 : decode cX9_tiers 26 = .ok (.aload_n 0, 1) := by decide +kernel
theorem dX9_tiers_27 : decode cX9_tiers 27 = .ok (.invokevirtual 99, 3) := by decide +kernel
theorem dX9_tiers_30 : decode cX9_tiers 30 = .ok (.aload_n 0, 1) := by decide +kernel
theorem dX9_tiers_31 : decode cX9_tiers 31 = .ok (.getfield 48, 3) := by decide +kernel
theorem dX9_tiers_34 : decode cX9_tiers 34 = .ok (.aload_n 1, 1) := by decide +kernel
theorem dX9_tiers_35 : decode cX9_tiers 35 = .ok (.putfield 56, 3) := by decide +kernel
theorem dX9_tiers_38 : decode cX9_tiers 38 = .ok (.iload_n 2, 1) := by decide +kernel
theorem dX9_tiers_39 : decode cX9_tiers 39 = .ok (.ireturn, 1) := by decide +kernel
theorem dX9_fault_0 : decode cX9_fault 0 = .ok (.aload_n 0, 1) := by decide +kernel
theorem dX9_fault_1 : decode cX9_fault 1 = .ok (.getfield 81, 3) := by decide +kernel
theorem dX9_fault_4 : decode cX9_fault 4 = .ok (.ireturn, 1) := by decide +kernel
theorem dX9_tier_0 : decode cX9_tier 0 = .ok (.aload_n 0, 1) := by decide +kernel
theorem dX9_tier_1 : decode cX9_tier 1 = .ok (.getfield 48, 3) := by decide +kernel
theorem dX9_tier_4 : decode cX9_tier 4 = .ok (.getfield 56, 3) := by decide +kernel
theorem dX9_tier_7 : decode cX9_tier 7 = .ok (.astore_n 3, 1) := by decide +kernel
theorem dX9_tier_8 : decode cX9_tier 8 = .ok (.iload_n 1, 1) := by decide +kernel
theorem dX9_tier_9 : decode cX9_tier 9 = .ok (.ifCond .lt 21, 3) := by decide +kernel
theorem dX9_tier_12 : decode cX9_tier 12 = .ok (.iload_n 1, 1) := by decide +kernel
theorem dX9_tier_13 : decode cX9_tier 13 = .ok (.aload_n 3, 1) := by decide +kernel
theorem dX9_tier_14 : decode cX9_tier 14 = .ok (.getfield 102, 3) := by decide +kernel
theorem dX9_tier_17 : decode cX9_tier 17 = .ok (.if_icmp .ge 13, 3) := by decide +kernel
theorem dX9_tier_20 : decode cX9_tier 20 = .ok (.iload_n 2, 1) := by decide +kernel
theorem dX9_tier_21 : decode cX9_tier 21 = .ok (.ifCond .lt 9, 3) := by decide +kernel
theorem dX9_tier_24 : decode cX9_tier 24 = .ok (.iload_n 2, 1) := by decide +kernel
theorem dX9_tier_25 : decode cX9_tier 25 = .ok (.bipush 8, 2) := by decide +kernel
theorem dX9_tier_27 : decode cX9_tier 27 = .ok (.if_icmp .le 6, 3) := by decide +kernel
theorem dX9_tier_30 : decode cX9_tier 30 = .ok (.bipush (-2), 2) := by decide +kernel
theorem dX9_tier_32 : decode cX9_tier 32 = .ok (.ireturn, 1) := by decide +kernel
theorem dX9_tier_33 : decode cX9_tier 33 = .ok (.iload_n 2, 1) := by decide +kernel
theorem dX9_tier_34 : decode cX9_tier 34 = .ok (.ifCond .ne 12, 3) := by decide +kernel
theorem dX9_tier_37 : decode cX9_tier 37 = .ok (.aload_n 3, 1) := by decide +kernel
theorem dX9_tier_38 : decode cX9_tier 38 = .ok (.getfield 105, 3) := by decide +kernel
theorem dX9_tier_41 : decode cX9_tier 41 = .ok (.iload_n 1, 1) := by decide +kernel
theorem dX9_tier_42 : decode cX9_tier 42 = .ok (.iaload, 1) := by decide +kernel
theorem dX9_tier_43 : decode cX9_tier 43 = .ok (.goto 16, 3) := by decide +kernel
theorem dX9_tier_46 : decode cX9_tier 46 = .ok (.aload_n 3, 1) := by decide +kernel
theorem dX9_tier_47 : decode cX9_tier 47 = .ok (.getfield 109, 3) := by decide +kernel
theorem dX9_tier_50 : decode cX9_tier 50 = .ok (.iload_n 1, 1) := by decide +kernel
theorem dX9_tier_51 : decode cX9_tier 51 = .ok (.bipush 8, 2) := by decide +kernel
theorem dX9_tier_53 : decode cX9_tier 53 = .ok (.imul, 1) := by decide +kernel
theorem dX9_tier_54 : decode cX9_tier 54 = .ok (.iload_n 2, 1) := by decide +kernel
theorem dX9_tier_55 : decode cX9_tier 55 = .ok (.iadd, 1) := by decide +kernel
theorem dX9_tier_56 : decode cX9_tier 56 = .ok (.iconst 1, 1) := by decide +kernel
theorem dX9_tier_57 : decode cX9_tier 57 = .ok (.isub, 1) := by decide +kernel
theorem dX9_tier_58 : decode cX9_tier 58 = .ok (.iaload, 1) := by decide +kernel
theorem dX9_tier_59 : decode cX9_tier 59 = .ok (.ireturn, 1) := by decide +kernel
theorem dX9_sale_0 : decode cX9_sale 0 = .ok (.iload_n 1, 1) := by decide +kernel
theorem dX9_sale_1 : decode cX9_sale 1 = .ok (.ldc 112, 2) := by decide +kernel
theorem dX9_sale_3 : decode cX9_sale 3 = .ok (.if_icmp .lt 23, 3) := by decide +kernel
theorem dX9_sale_6 : decode cX9_sale 6 = .ok (.iload_n 1, 1) := by decide +kernel
theorem dX9_sale_7 : decode cX9_sale 7 = .ok (.ldc 113, 2) := by decide +kernel
theorem dX9_sale_9 : decode cX9_sale 9 = .ok (.if_icmp .gt 17, 3) := by decide +kernel
theorem dX9_sale_12 : decode cX9_sale 12 = .ok (.aload_n 0, 1) := by decide +kernel
theorem dX9_sale_13 : decode cX9_sale 13 = .ok (.getfield 48, 3) := by decide +kernel
theorem dX9_sale_16 : decode cX9_sale 16 = .ok (.getfield 114, 3) := by decide +kernel
theorem dX9_sale_19 : decode cX9_sale 19 = .ok (.iload_n 2, 1) := by decide +kernel
theorem dX9_sale_20 : decode cX9_sale 20 = .ok (.invokevirtual 117, 3) := by decide +kernel
theorem dX9_sale_23 : decode cX9_sale 23 = .ok (.ifCond .ne 6, 3) := by decide +kernel
theorem dX9_sale_26 : decode cX9_sale 26 = .ok (.ldc 121, 2) := by decide +kernel
theorem dX9_sale_28 : decode cX9_sale 28 = .ok (.ireturn, 1) := by decide +kernel
theorem dX9_sale_29 : decode cX9_sale 29 = .ok (.aload_n 0, 1) := by decide +kernel
theorem dX9_sale_30 : decode cX9_sale 30 = .ok (.getfield 19, 3) := by decide +kernel
theorem dX9_sale_33 : decode cX9_sale 33 = .ok (.iload_n 1, 1) := by decide +kernel
theorem dX9_sale_34 : decode cX9_sale 34 = .ok (.aload_n 0, 1) := by decide +kernel
theorem dX9_sale_35 : decode cX9_sale 35 = .ok (.getfield 48, 3) := by decide +kernel
theorem dX9_sale_38 : decode cX9_sale 38 = .ok (.getfield 114, 3) := by decide +kernel
theorem dX9_sale_41 : decode cX9_sale 41 = .ok (.aload_n 0, 1) := by decide +kernel
theorem dX9_sale_42 : decode cX9_sale 42 = .ok (.getfield 48, 3) := by decide +kernel
theorem dX9_sale_45 : decode cX9_sale 45 = .ok (.getfield 56, 3) := by decide +kernel
theorem dX9_sale_48 : decode cX9_sale 48 = .ok (.invokevirtual 122, 3) := by decide +kernel
theorem dX9_sale_51 : decode cX9_sale 51 = .ok (.aload_n 0, 1) := by decide +kernel
theorem dX9_sale_52 : decode cX9_sale 52 = .ok (.getfield 19, 3) := by decide +kernel
theorem dX9_sale_55 : decode cX9_sale 55 = .ok (.getfield 126, 3) := by decide +kernel
theorem dX9_sale_58 : decode cX9_sale 58 = .ok (.iload_n 2, 1) := by decide +kernel
theorem dX9_sale_59 : decode cX9_sale 59 = .ok (.iaload, 1) := by decide +kernel
theorem dX9_sale_60 : decode cX9_sale 60 = .ok (.ireturn, 1) := by decide +kernel
theorem dX9_is_0 : decode cX9_is 0 = .ok (.aload_n 0, 1) := by decide +kernel
theorem dX9_is_1 : decode cX9_is 1 = .ok (.getfield 48, 3) := by decide +kernel
theorem dX9_is_4 : decode cX9_is 4 = .ok (.getfield 114, 3) := by decide +kernel
theorem dX9_is_7 : decode cX9_is 7 = .ok (.astore_n 2, 1) := by decide +kernel
theorem dX9_is_8 : decode cX9_is 8 = .ok (.iload_n 1, 1) := by decide +kernel
theorem dX9_is_9 : decode cX9_is 9 = .ok (.tableswitch 144 0 12 #[67, 72, 77, 82, 87, 92, 97, 102, 107, 115, 123, 131, 136], 67) := by decide +kernel
theorem dX9_is_76 : decode cX9_is 76 = .ok (.aload_n 2, 1) := by decide +kernel
theorem dX9_is_77 : decode cX9_is 77 = .ok (.getfield 129, 3) := by decide +kernel
theorem dX9_is_80 : decode cX9_is 80 = .ok (.ireturn, 1) := by decide +kernel
theorem dX9_is_81 : decode cX9_is 81 = .ok (.aload_n 2, 1) := by decide +kernel
theorem dX9_is_82 : decode cX9_is 82 = .ok (.getfield 132, 3) := by decide +kernel
theorem dX9_is_85 : decode cX9_is 85 = .ok (.ireturn, 1) := by decide +kernel
theorem dX9_is_86 : decode cX9_is 86 = .ok (.aload_n 2, 1) := by decide +kernel
theorem dX9_is_87 : decode cX9_is 87 = .ok (.getfield 135, 3) := by decide +kernel
theorem dX9_is_90 : decode cX9_is 90 = .ok (.ireturn, 1) := by decide +kernel
theorem dX9_is_91 : decode cX9_is 91 = .ok (.aload_n 2, 1) := by decide +kernel
theorem dX9_is_92 : decode cX9_is 92 = .ok (.invokevirtual 138, 3) := by decide +kernel
theorem dX9_is_95 : decode cX9_is 95 = .ok (.ireturn, 1) := by decide +kernel
theorem dX9_is_96 : decode cX9_is 96 = .ok (.aload_n 2, 1) := by decide +kernel
theorem dX9_is_97 : decode cX9_is 97 = .ok (.invokevirtual 142, 3) := by decide +kernel
theorem dX9_is_100 : decode cX9_is 100 = .ok (.ireturn, 1) := by decide +kernel
theorem dX9_is_101 : decode cX9_is 101 = .ok (.aload_n 2, 1) := by decide +kernel
theorem dX9_is_102 : decode cX9_is 102 = .ok (.getfield 145, 3) := by decide +kernel
theorem dX9_is_105 : decode cX9_is 105 = .ok (.ireturn, 1) := by decide +kernel
theorem dX9_is_106 : decode cX9_is 106 = .ok (.aload_n 2, 1) := by decide +kernel
theorem dX9_is_107 : decode cX9_is 107 = .ok (.getfield 148, 3) := by decide +kernel
theorem dX9_is_110 : decode cX9_is 110 = .ok (.ireturn, 1) := by decide +kernel
theorem dX9_is_111 : decode cX9_is 111 = .ok (.aload_n 2, 1) := by decide +kernel
theorem dX9_is_112 : decode cX9_is 112 = .ok (.getfield 151, 3) := by decide +kernel
theorem dX9_is_115 : decode cX9_is 115 = .ok (.ireturn, 1) := by decide +kernel
theorem dX9_is_116 : decode cX9_is 116 = .ok (.aload_n 2, 1) := by decide +kernel
theorem dX9_is_117 : decode cX9_is 117 = .ok (.getfield 154, 3) := by decide +kernel
theorem dX9_is_120 : decode cX9_is 120 = .ok (.invokestatic 157, 3) := by decide +kernel
theorem dX9_is_123 : decode cX9_is 123 = .ok (.ireturn, 1) := by decide +kernel
theorem dX9_is_124 : decode cX9_is 124 = .ok (.aload_n 2, 1) := by decide +kernel
theorem dX9_is_125 : decode cX9_is 125 = .ok (.getfield 161, 3) := by decide +kernel
theorem dX9_is_128 : decode cX9_is 128 = .ok (.invokestatic 157, 3) := by decide +kernel
theorem dX9_is_131 : decode cX9_is 131 = .ok (.ireturn, 1) := by decide +kernel
theorem dX9_is_132 : decode cX9_is 132 = .ok (.aload_n 2, 1) := by decide +kernel
theorem dX9_is_133 : decode cX9_is 133 = .ok (.getfield 164, 3) := by decide +kernel
theorem dX9_is_136 : decode cX9_is 136 = .ok (.invokestatic 157, 3) := by decide +kernel
theorem dX9_is_139 : decode cX9_is 139 = .ok (.ireturn, 1) := by decide +kernel
theorem dX9_is_140 : decode cX9_is 140 = .ok (.aload_n 0, 1) := by decide +kernel
theorem dX9_is_141 : decode cX9_is 141 = .ok (.getfield 167, 3) := by decide +kernel
theorem dX9_is_144 : decode cX9_is 144 = .ok (.ireturn, 1) := by decide +kernel
theorem dX9_is_145 : decode cX9_is 145 = .ok (.aload_n 0, 1) := by decide +kernel
theorem dX9_is_146 : decode cX9_is 146 = .ok (.getfield 10, 3) := by decide +kernel
theorem dX9_is_149 : decode cX9_is 149 = .ok (.getfield 85, 3) := by decide +kernel
theorem dX9_is_152 : decode cX9_is 152 = .ok (.ireturn, 1) := by decide +kernel
theorem dX9_is_153 : decode cX9_is 153 = .ok (.ldc 121, 2) := by decide +kernel
theorem dX9_is_155 : decode cX9_is 155 = .ok (.ireturn, 1) := by decide +kernel
theorem dX9_partner_0 : decode cX9_partner 0 = .ok (.aload_n 0, 1) := by decide +kernel
theorem dX9_partner_1 : decode cX9_partner 1 = .ok (.getfield 48, 3) := by decide +kernel
theorem dX9_partner_4 : decode cX9_partner 4 = .ok (.getfield 114, 3) := by decide +kernel
theorem dX9_partner_7 : decode cX9_partner 7 = .ok (.astore_n 3, 1) := by decide +kernel
theorem dX9_partner_8 : decode cX9_partner 8 = .ok (.aload_n 3, 1) := by decide +kernel
theorem dX9_partner_9 : decode cX9_partner 9 = .ok (.iload_n 1, 1) := by decide +kernel
theorem dX9_partner_10 : decode cX9_partner 10 = .ok (.invokevirtual 117, 3) := by decide +kernel
theorem dX9_partner_13 : decode cX9_partner 13 = .ok (.ifCond .ne 6, 3) := by decide +kernel
theorem dX9_partner_16 : decode cX9_partner 16 = .ok (.ldc 121, 2) := by decide +kernel
theorem dX9_partner_18 : decode cX9_partner 18 = .ok (.ireturn, 1) := by decide +kernel
theorem dX9_partner_19 : decode cX9_partner 19 = .ok (.iload_n 2, 1) := by decide +kernel
theorem dX9_partner_20 : decode cX9_partner 20 = .ok (.tableswitch 114 0 6 #[44, 51, 58, 65, 72, 79, 85], 44) := by decide +kernel
theorem dX9_partner_64 : decode cX9_partner 64 = .ok (.aload_n 3, 1) := by decide +kernel
theorem dX9_partner_65 : decode cX9_partner 65 = .ok (.getfield 154, 3) := by decide +kernel
theorem dX9_partner_68 : decode cX9_partner 68 = .ok (.iload_n 1, 1) := by decide +kernel
theorem dX9_partner_69 : decode cX9_partner 69 = .ok (.iaload, 1) := by decide +kernel
theorem dX9_partner_70 : decode cX9_partner 70 = .ok (.ireturn, 1) := by decide +kernel
theorem dX9_partner_71 : decode cX9_partner 71 = .ok (.aload_n 3, 1) := by decide +kernel
theorem dX9_partner_72 : decode cX9_partner 72 = .ok (.getfield 170, 3) := by decide +kernel
theorem dX9_partner_75 : decode cX9_partner 75 = .ok (.iload_n 1, 1) := by decide +kernel
theorem dX9_partner_76 : decode cX9_partner 76 = .ok (.iaload, 1) := by decide +kernel
theorem dX9_partner_77 : decode cX9_partner 77 = .ok (.ireturn, 1) := by decide +kernel
theorem dX9_partner_78 : decode cX9_partner 78 = .ok (.aload_n 3, 1) := by decide +kernel
theorem dX9_partner_79 : decode cX9_partner 79 = .ok (.getfield 173, 3) := by decide +kernel
theorem dX9_partner_82 : decode cX9_partner 82 = .ok (.iload_n 1, 1) := by decide +kernel
theorem dX9_partner_83 : decode cX9_partner 83 = .ok (.iaload, 1) := by decide +kernel
theorem dX9_partner_84 : decode cX9_partner 84 = .ok (.ireturn, 1) := by decide +kernel
theorem dX9_partner_85 : decode cX9_partner 85 = .ok (.aload_n 3, 1) := by decide +kernel
theorem dX9_partner_86 : decode cX9_partner 86 = .ok (.getfield 161, 3) := by decide +kernel
theorem dX9_partner_89 : decode cX9_partner 89 = .ok (.iload_n 1, 1) := by decide +kernel
theorem dX9_partner_90 : decode cX9_partner 90 = .ok (.iaload, 1) := by decide +kernel
theorem dX9_partner_91 : decode cX9_partner 91 = .ok (.ireturn, 1) := by decide +kernel
theorem dX9_partner_92 : decode cX9_partner 92 = .ok (.aload_n 3, 1) := by decide +kernel
theorem dX9_partner_93 : decode cX9_partner 93 = .ok (.getfield 164, 3) := by decide +kernel
theorem dX9_partner_96 : decode cX9_partner 96 = .ok (.iload_n 1, 1) := by decide +kernel
theorem dX9_partner_97 : decode cX9_partner 97 = .ok (.iaload, 1) := by decide +kernel
theorem dX9_partner_98 : decode cX9_partner 98 = .ok (.ireturn, 1) := by decide +kernel
theorem dX9_partner_99 : decode cX9_partner 99 = .ok (.aload_n 3, 1) := by decide +kernel
theorem dX9_partner_100 : decode cX9_partner 100 = .ok (.iload_n 1, 1) := by decide +kernel
theorem dX9_partner_101 : decode cX9_partner 101 = .ok (.invokevirtual 176, 3) := by decide +kernel
theorem dX9_partner_104 : decode cX9_partner 104 = .ok (.ireturn, 1) := by decide +kernel
theorem dX9_partner_105 : decode cX9_partner 105 = .ok (.aload_n 0, 1) := by decide +kernel
theorem dX9_partner_106 : decode cX9_partner 106 = .ok (.getfield 19, 3) := by decide +kernel
theorem dX9_partner_109 : decode cX9_partner 109 = .ok (.aload_n 3, 1) := by decide +kernel
theorem dX9_partner_110 : decode cX9_partner 110 = .ok (.aload_n 0, 1) := by decide +kernel
theorem dX9_partner_111 : decode cX9_partner 111 = .ok (.getfield 48, 3) := by decide +kernel
theorem dX9_partner_114 : decode cX9_partner 114 = .ok (.getfield 56, 3) := by decide +kernel
theorem dX9_partner_117 : decode cX9_partner 117 = .ok (.aload_n 3, 1) := by decide +kernel
theorem dX9_partner_118 : decode cX9_partner 118 = .ok (.getfield 132, 3) := by decide +kernel
theorem dX9_partner_121 : decode cX9_partner 121 = .ok (.invokevirtual 180, 3) := by decide +kernel
theorem dX9_partner_124 : decode cX9_partner 124 = .ok (.aload_n 0, 1) := by decide +kernel
theorem dX9_partner_125 : decode cX9_partner 125 = .ok (.getfield 19, 3) := by decide +kernel
theorem dX9_partner_128 : decode cX9_partner 128 = .ok (.getfield 184, 3) := by decide +kernel
theorem dX9_partner_131 : decode cX9_partner 131 = .ok (.iload_n 1, 1) := by decide +kernel
theorem dX9_partner_132 : decode cX9_partner 132 = .ok (.iaload, 1) := by decide +kernel
theorem dX9_partner_133 : decode cX9_partner 133 = .ok (.ireturn, 1) := by decide +kernel
theorem dX9_partner_134 : decode cX9_partner 134 = .ok (.ldc 121, 2) := by decide +kernel
theorem dX9_partner_136 : decode cX9_partner 136 = .ok (.ireturn, 1) := by decide +kernel
theorem dX9_asset_0 : decode cX9_asset 0 = .ok (.aload_n 0, 1) := by decide +kernel
theorem dX9_asset_1 : decode cX9_asset 1 = .ok (.getfield 48, 3) := by decide +kernel
theorem dX9_asset_4 : decode cX9_asset 4 = .ok (.getfield 114, 3) := by decide +kernel
theorem dX9_asset_7 : decode cX9_asset 7 = .ok (.astore_n 3, 1) := by decide +kernel
theorem dX9_asset_8 : decode cX9_asset 8 = .ok (.aload_n 3, 1) := by decide +kernel
theorem dX9_asset_9 : decode cX9_asset 9 = .ok (.iload_n 1, 1) := by decide +kernel
theorem dX9_asset_10 : decode cX9_asset 10 = .ok (.invokevirtual 187, 3) := by decide +kernel
theorem dX9_asset_13 : decode cX9_asset 13 = .ok (.ifCond .ne 5, 3) := by decide +kernel
theorem dX9_asset_16 : decode cX9_asset 16 = .ok (.iconst (-1), 1) := by decide +kernel
theorem dX9_asset_17 : decode cX9_asset 17 = .ok (.ireturn, 1) := by decide +kernel
theorem dX9_asset_18 : decode cX9_asset 18 = .ok (.iload_n 2, 1) := by decide +kernel
theorem dX9_asset_19 : decode cX9_asset 19 = .ok (.tableswitch 46 0 2 #[25, 32, 39], 25) := by decide +kernel
theorem dX9_asset_44 : decode cX9_asset 44 = .ok (.aload_n 3, 1) := by decide +kernel
theorem dX9_asset_45 : decode cX9_asset 45 = .ok (.getfield 190, 3) := by decide +kernel
theorem dX9_asset_48 : decode cX9_asset 48 = .ok (.iload_n 1, 1) := by decide +kernel
theorem dX9_asset_49 : decode cX9_asset 49 = .ok (.iaload, 1) := by decide +kernel
theorem dX9_asset_50 : decode cX9_asset 50 = .ok (.ireturn, 1) := by decide +kernel
theorem dX9_asset_51 : decode cX9_asset 51 = .ok (.aload_n 3, 1) := by decide +kernel
theorem dX9_asset_52 : decode cX9_asset 52 = .ok (.getfield 193, 3) := by decide +kernel
theorem dX9_asset_55 : decode cX9_asset 55 = .ok (.iload_n 1, 1) := by decide +kernel
theorem dX9_asset_56 : decode cX9_asset 56 = .ok (.iaload, 1) := by decide +kernel
theorem dX9_asset_57 : decode cX9_asset 57 = .ok (.ireturn, 1) := by decide +kernel
theorem dX9_asset_58 : decode cX9_asset 58 = .ok (.aload_n 3, 1) := by decide +kernel
theorem dX9_asset_59 : decode cX9_asset 59 = .ok (.getfield 196, 3) := by decide +kernel
theorem dX9_asset_62 : decode cX9_asset 62 = .ok (.iload_n 1, 1) := by decide +kernel
theorem dX9_asset_63 : decode cX9_asset 63 = .ok (.iaload, 1) := by decide +kernel
theorem dX9_asset_64 : decode cX9_asset 64 = .ok (.ireturn, 1) := by decide +kernel
theorem dX9_asset_65 : decode cX9_asset 65 = .ok (.iconst (-1), 1) := by decide +kernel
theorem dX9_asset_66 : decode cX9_asset 66 = .ok (.ireturn, 1) := by decide +kernel
theorem dX9_come_0 : decode cX9_come 0 = .ok (.aload_n 0, 1) := by decide +kernel
theorem dX9_come_1 : decode cX9_come 1 = .ok (.bipush 8, 2) := by decide +kernel
theorem dX9_come_3 : decode cX9_come 3 = .ok (.iload_n 1, 1) := by decide +kernel
theorem dX9_come_4 : decode cX9_come 4 = .ok (.iload_n 2, 1) := by decide +kernel
theorem dX9_come_5 : decode cX9_come 5 = .ok (.invokevirtual 199, 3) := by decide +kernel
theorem dX9_come_8 : decode cX9_come 8 = .ok (.ifCond .eq 14, 3) := by decide +kernel
theorem dX9_come_11 : decode cX9_come 11 = .ok (.aload_n 0, 1) := by decide +kernel
theorem dX9_come_12 : decode cX9_come 12 = .ok (.bipush 8, 2) := by decide +kernel
theorem dX9_come_14 : decode cX9_come 14 = .ok (.iload_n 1, 1) := by decide +kernel
theorem dX9_come_15 : decode cX9_come 15 = .ok (.iload_n 2, 1) := by decide +kernel
theorem dX9_come_16 : decode cX9_come 16 = .ok (.invokevirtual 203, 3) := by decide +kernel
theorem dX9_come_19 : decode cX9_come 19 = .ok (.goto 4, 3) := by decide +kernel
theorem dX9_come_22 : decode cX9_come 22 = .ok (.iconst (-1), 1) := by decide +kernel
theorem dX9_come_23 : decode cX9_come 23 = .ok (.ireturn, 1) := by decide +kernel
theorem dX9_go_0 : decode cX9_go 0 = .ok (.aload_n 0, 1) := by decide +kernel
theorem dX9_go_1 : decode cX9_go 1 = .ok (.bipush 9, 2) := by decide +kernel
theorem dX9_go_3 : decode cX9_go 3 = .ok (.iload_n 1, 1) := by decide +kernel
theorem dX9_go_4 : decode cX9_go 4 = .ok (.iconst 0, 1) := by decide +kernel
theorem dX9_go_5 : decode cX9_go 5 = .ok (.invokevirtual 199, 3) := by decide +kernel
theorem dX9_go_8 : decode cX9_go 8 = .ok (.ifCond .eq 14, 3) := by decide +kernel
theorem dX9_go_11 : decode cX9_go 11 = .ok (.aload_n 0, 1) := by decide +kernel
theorem dX9_go_12 : decode cX9_go 12 = .ok (.bipush 9, 2) := by decide +kernel
theorem dX9_go_14 : decode cX9_go 14 = .ok (.iload_n 1, 1) := by decide +kernel
theorem dX9_go_15 : decode cX9_go 15 = .ok (.iconst 0, 1) := by decide +kernel
theorem dX9_go_16 : decode cX9_go 16 = .ok (.invokevirtual 203, 3) := by decide +kernel
theorem dX9_go_19 : decode cX9_go 19 = .ok (.goto 5, 3) := by decide +kernel
theorem dX9_go_22 : decode cX9_go 22 = .ok (.ldc 121, 2) := by decide +kernel
theorem dX9_go_24 : decode cX9_go 24 = .ok (.ireturn, 1) := by decide +kernel
theorem dX9_duty_0 : decode cX9_duty 0 = .ok (.aload_n 0, 1) := by decide +kernel
theorem dX9_duty_1 : decode cX9_duty 1 = .ok (.bipush 10, 2) := by decide +kernel
theorem dX9_duty_3 : decode cX9_duty 3 = .ok (.iload_n 1, 1) := by decide +kernel
theorem dX9_duty_4 : decode cX9_duty 4 = .ok (.iload_n 2, 1) := by decide +kernel
theorem dX9_duty_5 : decode cX9_duty 5 = .ok (.invokevirtual 199, 3) := by decide +kernel
theorem dX9_duty_8 : decode cX9_duty 8 = .ok (.ifCond .eq 14, 3) := by decide +kernel
theorem dX9_duty_11 : decode cX9_duty 11 = .ok (.aload_n 0, 1) := by decide +kernel
theorem dX9_duty_12 : decode cX9_duty 12 = .ok (.bipush 10, 2) := by decide +kernel
theorem dX9_duty_14 : decode cX9_duty 14 = .ok (.iload_n 1, 1) := by decide +kernel
theorem dX9_duty_15 : decode cX9_duty 15 = .ok (.iload_n 2, 1) := by decide +kernel
theorem dX9_duty_16 : decode cX9_duty 16 = .ok (.invokevirtual 203, 3) := by decide +kernel
theorem dX9_duty_19 : decode cX9_duty 19 = .ok (.goto 4, 3) := by decide +kernel
theorem dX9_duty_22 : decode cX9_duty 22 = .ok (.iconst (-1), 1) := by decide +kernel
theorem dX9_duty_23 : decode cX9_duty 23 = .ok (.ireturn, 1) := by decide +kernel
theorem dX9_ratio_0 : decode cX9_ratio 0 = .ok (.aload_n 0, 1) := by decide +kernel
theorem dX9_ratio_1 : decode cX9_ratio 1 = .ok (.bipush 11, 2) := by decide +kernel
theorem dX9_ratio_3 : decode cX9_ratio 3 = .ok (.iload_n 1, 1) := by decide +kernel
theorem dX9_ratio_4 : decode cX9_ratio 4 = .ok (.iload_n 2, 1) := by decide +kernel
theorem dX9_ratio_5 : decode cX9_ratio 5 = .ok (.invokevirtual 199, 3) := by decide +kernel
theorem dX9_ratio_8 : decode cX9_ratio 8 = .ok (.ifCond .eq 14, 3) := by decide +kernel
theorem dX9_ratio_11 : decode cX9_ratio 11 = .ok (.aload_n 0, 1) := by decide +kernel
theorem dX9_ratio_12 : decode cX9_ratio 12 = .ok (.bipush 11, 2) := by decide +kernel
theorem dX9_ratio_14 : decode cX9_ratio 14 = .ok (.iload_n 1, 1) := by decide +kernel
theorem dX9_ratio_15 : decode cX9_ratio 15 = .ok (.iload_n 2, 1) := by decide +kernel
theorem dX9_ratio_16 : decode cX9_ratio 16 = .ok (.invokevirtual 203, 3) := by decide +kernel
theorem dX9_ratio_19 : decode cX9_ratio 19 = .ok (.goto 4, 3) := by decide +kernel
theorem dX9_ratio_22 : decode cX9_ratio 22 = .ok (.iconst (-1), 1) := by decide +kernel
theorem dX9_ratio_23 : decode cX9_ratio 23 = .ok (.ireturn, 1) := by decide +kernel
theorem dX9_pay_0 : decode cX9_pay 0 = .ok (.aload_n 0, 1) := by decide +kernel
theorem dX9_pay_1 : decode cX9_pay 1 = .ok (.bipush 6, 2) := by decide +kernel
theorem dX9_pay_3 : decode cX9_pay 3 = .ok (.iload_n 1, 1) := by decide +kernel
theorem dX9_pay_4 : decode cX9_pay 4 = .ok (.iload_n 2, 1) := by decide +kernel
theorem dX9_pay_5 : decode cX9_pay 5 = .ok (.invokevirtual 199, 3) := by decide +kernel
theorem dX9_pay_8 : decode cX9_pay 8 = .ok (.ifCond .eq 14, 3) := by decide +kernel
theorem dX9_pay_11 : decode cX9_pay 11 = .ok (.aload_n 0, 1) := by decide +kernel
theorem dX9_pay_12 : decode cX9_pay 12 = .ok (.bipush 6, 2) := by decide +kernel
theorem dX9_pay_14 : decode cX9_pay 14 = .ok (.iload_n 1, 1) := by decide +kernel
theorem dX9_pay_15 : decode cX9_pay 15 = .ok (.iload_n 2, 1) := by decide +kernel
theorem dX9_pay_16 : decode cX9_pay 16 = .ok (.invokevirtual 203, 3) := by decide +kernel
theorem dX9_pay_19 : decode cX9_pay 19 = .ok (.goto 5, 3) := by decide +kernel
theorem dX9_pay_22 : decode cX9_pay 22 = .ok (.ldc 121, 2) := by decide +kernel
theorem dX9_pay_24 : decode cX9_pay 24 = .ok (.ireturn, 1) := by decide +kernel
theorem dX9_draw_0 : decode cX9_draw 0 = .ok (.aload_n 0, 1) := by decide +kernel
theorem dX9_draw_1 : decode cX9_draw 1 = .ok (.bipush 7, 2) := by decide +kernel
theorem dX9_draw_3 : decode cX9_draw 3 = .ok (.iload_n 1, 1) := by decide +kernel
theorem dX9_draw_4 : decode cX9_draw 4 = .ok (.iload_n 2, 1) := by decide +kernel
theorem dX9_draw_5 : decode cX9_draw 5 = .ok (.invokevirtual 199, 3) := by decide +kernel
theorem dX9_draw_8 : decode cX9_draw 8 = .ok (.ifCond .eq 14, 3) := by decide +kernel
theorem dX9_draw_11 : decode cX9_draw 11 = .ok (.aload_n 0, 1) := by decide +kernel
theorem dX9_draw_12 : decode cX9_draw 12 = .ok (.bipush 7, 2) := by decide +kernel
theorem dX9_draw_14 : decode cX9_draw 14 = .ok (.iload_n 1, 1) := by decide +kernel
theorem dX9_draw_15 : decode cX9_draw 15 = .ok (.iload_n 2, 1) := by decide +kernel
theorem dX9_draw_16 : decode cX9_draw 16 = .ok (.invokevirtual 203, 3) := by decide +kernel
theorem dX9_draw_19 : decode cX9_draw 19 = .ok (.goto 5, 3) := by decide +kernel
theorem dX9_draw_22 : decode cX9_draw 22 = .ok (.ldc 121, 2) := by decide +kernel
theorem dX9_draw_24 : decode cX9_draw 24 = .ok (.ireturn, 1) := by decide +kernel
theorem dX9_buy_0 : decode cX9_buy 0 = .ok (.aload_n 0, 1) := by decide +kernel
theorem dX9_buy_1 : decode cX9_buy 1 = .ok (.getfield 48, 3) := by decide +kernel
theorem dX9_buy_4 : decode cX9_buy 4 = .ok (.getfield 114, 3) := by decide +kernel
theorem dX9_buy_7 : decode cX9_buy 7 = .ok (.invokevirtual 207, 3) := by decide +kernel
theorem dX9_buy_10 : decode cX9_buy 10 = .ok (.istore 4, 2) := by decide +kernel
theorem dX9_buy_12 : decode cX9_buy 12 = .ok (.iload 4, 2) := by decide +kernel
theorem dX9_buy_14 : decode cX9_buy 14 = .ok (.iconst (-1), 1) := by decide +kernel
theorem dX9_buy_15 : decode cX9_buy 15 = .ok (.if_icmp .eq 24, 3) := by decide +kernel
theorem dX9_buy_18 : decode cX9_buy 18 = .ok (.iload_n 1, 1) := by decide +kernel
theorem dX9_buy_19 : decode cX9_buy 19 = .ok (.invokestatic 210, 3) := by decide +kernel
theorem dX9_buy_22 : decode cX9_buy 22 = .ok (.ifCond .eq 17, 3) := by decide +kernel
theorem dX9_buy_25 : decode cX9_buy 25 = .ok (.iload_n 2, 1) := by decide +kernel
theorem dX9_buy_26 : decode cX9_buy 26 = .ok (.invokestatic 210, 3) := by decide +kernel
theorem dX9_buy_29 : decode cX9_buy 29 = .ok (.ifCond .eq 10, 3) := by decide +kernel
theorem dX9_buy_32 : decode cX9_buy 32 = .ok (.iload_n 3, 1) := by decide +kernel
theorem dX9_buy_33 : decode cX9_buy 33 = .ok (.invokestatic 210, 3) := by decide +kernel
theorem dX9_buy_36 : decode cX9_buy 36 = .ok (.ifCond .ne 5, 3) := by decide +kernel
theorem dX9_buy_39 : decode cX9_buy 39 = .ok (.iconst (-1), 1) := by decide +kernel
theorem dX9_buy_40 : decode cX9_buy 40 = .ok (.ireturn, 1) := by decide +kernel
theorem dX9_buy_41 : decode cX9_buy 41 = .ok (.aload_n 0, 1) := by decide +kernel
theorem dX9_buy_42 : decode cX9_buy 42 = .ok (.invokevirtual 99, 3) := by decide +kernel
theorem dX9_buy_45 : decode cX9_buy 45 = .ok (.aload_n 0, 1) := by decide +kernel
theorem dX9_buy_46 : decode cX9_buy 46 = .ok (.getfield 48, 3) := by decide +kernel
theorem dX9_buy_49 : decode cX9_buy 49 = .ok (.getfield 114, 3) := by decide +kernel
theorem dX9_buy_52 : decode cX9_buy 52 = .ok (.iload 4, 2) := by decide +kernel
theorem dX9_buy_54 : decode cX9_buy 54 = .ok (.iload_n 1, 1) := by decide +kernel
theorem dX9_buy_55 : decode cX9_buy 55 = .ok (.iload_n 2, 1) := by decide +kernel
theorem dX9_buy_56 : decode cX9_buy 56 = .ok (.iload_n 3, 1) := by decide +kernel
theorem dX9_buy_57 : decode cX9_buy 57 = .ok (.invokevirtual 213, 3) := by decide +kernel
theorem dX9_buy_60 : decode cX9_buy 60 = .ok (.iload 4, 2) := by decide +kernel
theorem dX9_buy_62 : decode cX9_buy 62 = .ok (.ireturn, 1) := by decide +kernel
theorem dX9_sell_0 : decode cX9_sell 0 = .ok (.aload_n 0, 1) := by decide +kernel
theorem dX9_sell_1 : decode cX9_sell 1 = .ok (.bipush 12, 2) := by decide +kernel
theorem dX9_sell_3 : decode cX9_sell 3 = .ok (.iload_n 1, 1) := by decide +kernel
theorem dX9_sell_4 : decode cX9_sell 4 = .ok (.iconst 0, 1) := by decide +kernel
theorem dX9_sell_5 : decode cX9_sell 5 = .ok (.invokevirtual 199, 3) := by decide +kernel
theorem dX9_sell_8 : decode cX9_sell 8 = .ok (.ifCond .eq 14, 3) := by decide +kernel
theorem dX9_sell_11 : decode cX9_sell 11 = .ok (.aload_n 0, 1) := by decide +kernel
theorem dX9_sell_12 : decode cX9_sell 12 = .ok (.bipush 12, 2) := by decide +kernel
theorem dX9_sell_14 : decode cX9_sell 14 = .ok (.iload_n 1, 1) := by decide +kernel
theorem dX9_sell_15 : decode cX9_sell 15 = .ok (.iconst 0, 1) := by decide +kernel
theorem dX9_sell_16 : decode cX9_sell 16 = .ok (.invokevirtual 203, 3) := by decide +kernel
theorem dX9_sell_19 : decode cX9_sell 19 = .ok (.goto 5, 3) := by decide +kernel
theorem dX9_sell_22 : decode cX9_sell 22 = .ok (.ldc 121, 2) := by decide +kernel
theorem dX9_sell_24 : decode cX9_sell 24 = .ok (.ireturn, 1) := by decide +kernel
theorem dX9_market_0 : decode cX9_market 0 = .ok (.aload_n 0, 1) := by decide +kernel
theorem dX9_market_1 : decode cX9_market 1 = .ok (.iconst 5, 1) := by decide +kernel
theorem dX9_market_2 : decode cX9_market 2 = .ok (.iload_n 1, 1) := by decide +kernel
theorem dX9_market_3 : decode cX9_market 3 = .ok (.iload_n 2, 1) := by decide +kernel
theorem dX9_market_4 : decode cX9_market 4 = .ok (.invokevirtual 199, 3) := by decide +kernel
theorem dX9_market_7 : decode cX9_market 7 = .ok (.ifCond .eq 13, 3) := by decide +kernel
theorem dX9_market_10 : decode cX9_market 10 = .ok (.aload_n 0, 1) := by decide +kernel
theorem dX9_market_11 : decode cX9_market 11 = .ok (.iconst 5, 1) := by decide +kernel
theorem dX9_market_12 : decode cX9_market 12 = .ok (.iload_n 1, 1) := by decide +kernel
theorem dX9_market_13 : decode cX9_market 13 = .ok (.iload_n 2, 1) := by decide +kernel
theorem dX9_market_14 : decode cX9_market 14 = .ok (.invokevirtual 203, 3) := by decide +kernel
theorem dX9_market_17 : decode cX9_market 17 = .ok (.goto 4, 3) := by decide +kernel
theorem dX9_market_20 : decode cX9_market 20 = .ok (.iconst (-1), 1) := by decide +kernel
theorem dX9_market_21 : decode cX9_market 21 = .ok (.ireturn, 1) := by decide +kernel
theorem dX9_lose_0 : decode cX9_lose 0 = .ok (.aload_n 0, 1) := by decide +kernel
theorem dX9_lose_1 : decode cX9_lose 1 = .ok (.iconst 2, 1) := by decide +kernel
theorem dX9_lose_2 : decode cX9_lose 2 = .ok (.iload_n 1, 1) := by decide +kernel
theorem dX9_lose_3 : decode cX9_lose 3 = .ok (.iload_n 2, 1) := by decide +kernel
theorem dX9_lose_4 : decode cX9_lose 4 = .ok (.invokevirtual 199, 3) := by decide +kernel
theorem dX9_lose_7 : decode cX9_lose 7 = .ok (.ifCond .eq 13, 3) := by decide +kernel
theorem dX9_lose_10 : decode cX9_lose 10 = .ok (.aload_n 0, 1) := by decide +kernel
theorem dX9_lose_11 : decode cX9_lose 11 = .ok (.iconst 2, 1) := by decide +kernel
theorem dX9_lose_12 : decode cX9_lose 12 = .ok (.iload_n 1, 1) := by decide +kernel
theorem dX9_lose_13 : decode cX9_lose 13 = .ok (.iload_n 2, 1) := by decide +kernel
theorem dX9_lose_14 : decode cX9_lose 14 = .ok (.invokevirtual 203, 3) := by decide +kernel
theorem dX9_lose_17 : decode cX9_lose 17 = .ok (.goto 4, 3) := by decide +kernel
theorem dX9_lose_20 : decode cX9_lose 20 = .ok (.iconst (-1), 1) := by decide +kernel
theorem dX9_lose_21 : decode cX9_lose 21 = .ok (.ireturn, 1) := by decide +kernel
theorem dX9_borrow_0 : decode cX9_borrow 0 = .ok (.aload_n 0, 1) := by decide +kernel
theorem dX9_borrow_1 : decode cX9_borrow 1 = .ok (.iconst 3, 1) := by decide +kernel
theorem dX9_borrow_2 : decode cX9_borrow 2 = .ok (.iload_n 1, 1) := by decide +kernel
theorem dX9_borrow_3 : decode cX9_borrow 3 = .ok (.iload_n 2, 1) := by decide +kernel
theorem dX9_borrow_4 : decode cX9_borrow 4 = .ok (.invokevirtual 199, 3) := by decide +kernel
theorem dX9_borrow_7 : decode cX9_borrow 7 = .ok (.ifCond .eq 13, 3) := by decide +kernel
theorem dX9_borrow_10 : decode cX9_borrow 10 = .ok (.aload_n 0, 1) := by decide +kernel
theorem dX9_borrow_11 : decode cX9_borrow 11 = .ok (.iconst 3, 1) := by decide +kernel
theorem dX9_borrow_12 : decode cX9_borrow 12 = .ok (.iload_n 1, 1) := by decide +kernel
theorem dX9_borrow_13 : decode cX9_borrow 13 = .ok (.iload_n 2, 1) := by decide +kernel
theorem dX9_borrow_14 : decode cX9_borrow 14 = .ok (.invokevirtual 203, 3) := by decide +kernel
theorem dX9_borrow_17 : decode cX9_borrow 17 = .ok (.goto 4, 3) := by decide +kernel
theorem dX9_borrow_20 : decode cX9_borrow 20 = .ok (.iconst (-1), 1) := by decide +kernel
theorem dX9_borrow_21 : decode cX9_borrow 21 = .ok (.ireturn, 1) := by decide +kernel
theorem dX9_repay_0 : decode cX9_repay 0 = .ok (.aload_n 0, 1) := by decide +kernel
theorem dX9_repay_1 : decode cX9_repay 1 = .ok (.iconst 4, 1) := by decide +kernel
theorem dX9_repay_2 : decode cX9_repay 2 = .ok (.iload_n 1, 1) := by decide +kernel
theorem dX9_repay_3 : decode cX9_repay 3 = .ok (.iload_n 2, 1) := by decide +kernel
theorem dX9_repay_4 : decode cX9_repay 4 = .ok (.invokevirtual 199, 3) := by decide +kernel
theorem dX9_repay_7 : decode cX9_repay 7 = .ok (.ifCond .eq 13, 3) := by decide +kernel
theorem dX9_repay_10 : decode cX9_repay 10 = .ok (.aload_n 0, 1) := by decide +kernel
theorem dX9_repay_11 : decode cX9_repay 11 = .ok (.iconst 4, 1) := by decide +kernel
theorem dX9_repay_12 : decode cX9_repay 12 = .ok (.iload_n 1, 1) := by decide +kernel
theorem dX9_repay_13 : decode cX9_repay 13 = .ok (.iload_n 2, 1) := by decide +kernel
theorem dX9_repay_14 : decode cX9_repay 14 = .ok (.invokevirtual 203, 3) := by decide +kernel
theorem dX9_repay_17 : decode cX9_repay 17 = .ok (.goto 4, 3) := by decide +kernel
theorem dX9_repay_20 : decode cX9_repay 20 = .ok (.iconst (-1), 1) := by decide +kernel
theorem dX9_repay_21 : decode cX9_repay 21 = .ok (.ireturn, 1) := by decide +kernel
theorem dX9_earn_0 : decode cX9_earn 0 = .ok (.aload_n 0, 1) := by decide +kernel
theorem dX9_earn_1 : decode cX9_earn 1 = .ok (.iconst 1, 1) := by decide +kernel
theorem dX9_earn_2 : decode cX9_earn 2 = .ok (.iconst 0, 1) := by decide +kernel
theorem dX9_earn_3 : decode cX9_earn 3 = .ok (.iload_n 1, 1) := by decide +kernel
theorem dX9_earn_4 : decode cX9_earn 4 = .ok (.invokevirtual 199, 3) := by decide +kernel
theorem dX9_earn_7 : decode cX9_earn 7 = .ok (.ifCond .eq 13, 3) := by decide +kernel
theorem dX9_earn_10 : decode cX9_earn 10 = .ok (.aload_n 0, 1) := by decide +kernel
theorem dX9_earn_11 : decode cX9_earn 11 = .ok (.iconst 1, 1) := by decide +kernel
theorem dX9_earn_12 : decode cX9_earn 12 = .ok (.iconst 0, 1) := by decide +kernel
theorem dX9_earn_13 : decode cX9_earn 13 = .ok (.iload_n 1, 1) := by decide +kernel
theorem dX9_earn_14 : decode cX9_earn 14 = .ok (.invokevirtual 203, 3) := by decide +kernel
theorem dX9_earn_17 : decode cX9_earn 17 = .ok (.goto 5, 3) := by decide +kernel
theorem dX9_earn_20 : decode cX9_earn 20 = .ok (.ldc 121, 2) := by decide +kernel
theorem dX9_earn_22 : decode cX9_earn 22 = .ok (.ireturn, 1) := by decide +kernel
theorem dX9_close_0 : decode cX9_close 0 = .ok (.aload_n 0, 1) := by decide +kernel
theorem dX9_close_1 : decode cX9_close 1 = .ok (.iconst 0, 1) := by decide +kernel
theorem dX9_close_2 : decode cX9_close 2 = .ok (.iconst 0, 1) := by decide +kernel
theorem dX9_close_3 : decode cX9_close 3 = .ok (.iconst 0, 1) := by decide +kernel
theorem dX9_close_4 : decode cX9_close 4 = .ok (.invokevirtual 199, 3) := by decide +kernel
theorem dX9_close_7 : decode cX9_close 7 = .ok (.ifCond .eq 13, 3) := by decide +kernel
theorem dX9_close_10 : decode cX9_close 10 = .ok (.aload_n 0, 1) := by decide +kernel
theorem dX9_close_11 : decode cX9_close 11 = .ok (.iconst 0, 1) := by decide +kernel
theorem dX9_close_12 : decode cX9_close 12 = .ok (.iconst 0, 1) := by decide +kernel
theorem dX9_close_13 : decode cX9_close 13 = .ok (.iconst 0, 1) := by decide +kernel
theorem dX9_close_14 : decode cX9_close 14 = .ok (.invokevirtual 203, 3) := by decide +kernel
theorem dX9_close_17 : decode cX9_close 17 = .ok (.goto 4, 3) := by decide +kernel
theorem dX9_close_20 : decode cX9_close 20 = .ok (.iconst (-1), 1) := by decide +kernel
theorem dX9_close_21 : decode cX9_close 21 = .ok (.ireturn, 1) := by decide +kernel
theorem dX9_step_0 : decode cX9_step 0 = .ok (.aload_n 0, 1) := by decide +kernel
theorem dX9_step_1 : decode cX9_step 1 = .ok (.getfield 48, 3) := by decide +kernel
theorem dX9_step_4 : decode cX9_step 4 = .ok (.getfield 217, 3) := by decide +kernel
theorem dX9_step_7 : decode cX9_step 7 = .ok (.astore_n 3, 1) := by decide +kernel
theorem dX9_step_8 : decode cX9_step 8 = .ok (.aload_n 3, 1) := by decide +kernel
theorem dX9_step_9 : decode cX9_step 9 = .ok (.getfield 220, 3) := by decide +kernel
theorem dX9_step_12 : decode cX9_step 12 = .ok (.ifCond .eq 14, 3) := by decide +kernel
theorem dX9_step_15 : decode cX9_step 15 = .ok (.iload_n 1, 1) := by decide +kernel
theorem dX9_step_16 : decode cX9_step 16 = .ok (.iconst (-1), 1) := by decide +kernel
theorem dX9_step_17 : decode cX9_step 17 = .ok (.if_icmp .lt 9, 3) := by decide +kernel
theorem dX9_step_20 : decode cX9_step 20 = .ok (.iload_n 1, 1) := by decide +kernel
theorem dX9_step_21 : decode cX9_step 21 = .ok (.bipush 8, 2) := by decide +kernel
theorem dX9_step_23 : decode cX9_step 23 = .ok (.if_icmp .lt 6, 3) := by decide +kernel
theorem dX9_step_26 : decode cX9_step 26 = .ok (.ldc 121, 2) := by decide +kernel
theorem dX9_step_28 : decode cX9_step 28 = .ok (.ireturn, 1) := by decide +kernel
theorem dX9_step_29 : decode cX9_step 29 = .ok (.iload_n 2, 1) := by decide +kernel
theorem dX9_step_30 : decode cX9_step 30 = .ok (.bipush 7, 2) := by decide +kernel
theorem dX9_step_32 : decode cX9_step 32 = .ok (.if_icmp .ne 13, 3) := by decide +kernel
theorem dX9_step_35 : decode cX9_step 35 = .ok (.iload_n 1, 1) := by decide +kernel
theorem dX9_step_36 : decode cX9_step 36 = .ok (.iconst (-1), 1) := by decide +kernel
theorem dX9_step_37 : decode cX9_step 37 = .ok (.if_icmp .ne 8, 3) := by decide +kernel
theorem dX9_step_40 : decode cX9_step 40 = .ok (.aload_n 3, 1) := by decide +kernel
theorem dX9_step_41 : decode cX9_step 41 = .ok (.getfield 224, 3) := by decide +kernel
theorem dX9_step_44 : decode cX9_step 44 = .ok (.ireturn, 1) := by decide +kernel
theorem dX9_step_45 : decode cX9_step 45 = .ok (.iload_n 2, 1) := by decide +kernel
theorem dX9_step_46 : decode cX9_step 46 = .ok (.ifCond .lt 9, 3) := by decide +kernel
theorem dX9_step_49 : decode cX9_step 49 = .ok (.iload_n 2, 1) := by decide +kernel
theorem dX9_step_50 : decode cX9_step 50 = .ok (.bipush 6, 2) := by decide +kernel
theorem dX9_step_52 : decode cX9_step 52 = .ok (.if_icmp .le 6, 3) := by decide +kernel
theorem dX9_step_55 : decode cX9_step 55 = .ok (.ldc 121, 2) := by decide +kernel
theorem dX9_step_57 : decode cX9_step 57 = .ok (.ireturn, 1) := by decide +kernel
theorem dX9_step_58 : decode cX9_step 58 = .ok (.iload_n 1, 1) := by decide +kernel
theorem dX9_step_59 : decode cX9_step 59 = .ok (.iconst (-1), 1) := by decide +kernel
theorem dX9_step_60 : decode cX9_step 60 = .ok (.if_icmp .ne 11, 3) := by decide +kernel
theorem dX9_step_63 : decode cX9_step 63 = .ok (.aload_n 3, 1) := by decide +kernel
theorem dX9_step_64 : decode cX9_step 64 = .ok (.iload_n 2, 1) := by decide +kernel
theorem dX9_step_65 : decode cX9_step 65 = .ok (.invokevirtual 227, 3) := by decide +kernel
theorem dX9_step_68 : decode cX9_step 68 = .ok (.goto 14, 3) := by decide +kernel
theorem dX9_step_71 : decode cX9_step 71 = .ok (.aload_n 3, 1) := by decide +kernel
theorem dX9_step_72 : decode cX9_step 72 = .ok (.getfield 230, 3) := by decide +kernel
theorem dX9_step_75 : decode cX9_step 75 = .ok (.iload_n 2, 1) := by decide +kernel
theorem dX9_step_76 : decode cX9_step 76 = .ok (.bipush 8, 2) := by decide +kernel
theorem dX9_step_78 : decode cX9_step 78 = .ok (.imul, 1) := by decide +kernel
theorem dX9_step_79 : decode cX9_step 79 = .ok (.iload_n 1, 1) := by decide +kernel
theorem dX9_step_80 : decode cX9_step 80 = .ok (.iadd, 1) := by decide +kernel
theorem dX9_step_81 : decode cX9_step 81 = .ok (.iaload, 1) := by decide +kernel
theorem dX9_step_82 : decode cX9_step 82 = .ok (.ireturn, 1) := by decide +kernel
theorem dX9_specials_0 : decode cX9_specials 0 = .ok (.new 42, 3) := by decide +kernel
theorem dX9_specials_3 : decode cX9_specials 3 = .ok (.dup, 1) := by decide +kernel
theorem dX9_specials_4 : decode cX9_specials 4 = .ok (.invokespecial 44, 3) := by decide +kernel
theorem dX9_specials_7 : decode cX9_specials 7 = .ok (.astore_n 1, 1) := by decide +kernel
theorem dX9_specials_8 : decode cX9_specials 8 = .ok (.aload_n 1, 1) := by decide +kernel
theorem dX9_specials_9 : decode cX9_specials 9 = .ok (.aload_n 0, 1) := by decide +kernel
theorem dX9_specials_10 : decode cX9_specials 10 = .ok (.getfield 10, 3) := by decide +kernel
theorem dX9_specials_13 : decode cX9_specials 13 = .ok (.invokevirtual 233, 3) := by decide +kernel
theorem dX9_specials_16 : decode cX9_specials 16 = .ok (.istore_n 2, 1) := by decide +kernel
theorem dX9_specials_17 : decode cX9_specials 17 = .ok (.aload_n 0, 1) := by decide +kernel
theorem dX9_specials_18 : decode cX9_specials 18 = .ok (.invokevirtual 96, 3) := by decide +kernel
theorem dX9_specials_21 : decode cX9_specials 21 = .ok (.iload_n 2, 1) := by decide +kernel
theorem dX9_specials_22 : decode cX9_specials 22 = .ok (.iconst (-1), 1) := by decide +kernel
theorem dX9_specials_23 : decode cX9_specials 23 = .ok (.if_icmp .eq 15, 3) := by decide +kernel
theorem dX9_specials_26 : decode cX9_specials 26 = .ok (.aload_n 0, 1) := by decide +kernel
theorem dX9_specials_27 : decode cX9_specials 27 = .ok (.invokevirtual 99, 3) := by decide +kernel
theorem dX9_specials_30 : decode cX9_specials 30 = .ok (.aload_n 0, 1) := by decide +kernel
theorem dX9_specials_31 : decode cX9_specials 31 = .ok (.getfield 48, 3) := by decide +kernel
theorem dX9_specials_34 : decode cX9_specials 34 = .ok (.aload_n 1, 1) := by decide +kernel
theorem dX9_specials_35 : decode cX9_specials 35 = .ok (.putfield 60, 3) := by decide +kernel
theorem dX9_specials_38 : decode cX9_specials 38 = .ok (.iload_n 2, 1) := by decide +kernel
theorem dX9_specials_39 : decode cX9_specials 39 = .ok (.ireturn, 1) := by decide +kernel
theorem dX9_special_0 : decode cX9_special 0 = .ok (.aload_n 0, 1) := by decide +kernel
theorem dX9_special_1 : decode cX9_special 1 = .ok (.getfield 48, 3) := by decide +kernel
theorem dX9_special_4 : decode cX9_special 4 = .ok (.getfield 60, 3) := by decide +kernel
theorem dX9_special_7 : decode cX9_special 7 = .ok (.astore_n 3, 1) := by decide +kernel
theorem dX9_special_8 : decode cX9_special 8 = .ok (.iload_n 1, 1) := by decide +kernel
theorem dX9_special_9 : decode cX9_special 9 = .ok (.ifCond .lt 11, 3) := by decide +kernel
theorem dX9_special_12 : decode cX9_special 12 = .ok (.iload_n 1, 1) := by decide +kernel
theorem dX9_special_13 : decode cX9_special 13 = .ok (.aload_n 3, 1) := by decide +kernel
theorem dX9_special_14 : decode cX9_special 14 = .ok (.getfield 236, 3) := by decide +kernel
theorem dX9_special_17 : decode cX9_special 17 = .ok (.if_icmp .lt 6, 3) := by decide +kernel
theorem dX9_special_20 : decode cX9_special 20 = .ok (.ldc 121, 2) := by decide +kernel
theorem dX9_special_22 : decode cX9_special 22 = .ok (.ireturn, 1) := by decide +kernel
theorem dX9_special_23 : decode cX9_special 23 = .ok (.iload_n 2, 1) := by decide +kernel
theorem dX9_special_24 : decode cX9_special 24 = .ok (.tableswitch 61 0 2 #[28, 35, 48], 28) := by decide +kernel
theorem dX9_special_52 : decode cX9_special 52 = .ok (.aload_n 3, 1) := by decide +kernel
theorem dX9_special_53 : decode cX9_special 53 = .ok (.getfield 237, 3) := by decide +kernel
theorem dX9_special_56 : decode cX9_special 56 = .ok (.iload_n 1, 1) := by decide +kernel
theorem dX9_special_57 : decode cX9_special 57 = .ok (.iaload, 1) := by decide +kernel
theorem dX9_special_58 : decode cX9_special 58 = .ok (.ireturn, 1) := by decide +kernel
theorem dX9_special_59 : decode cX9_special 59 = .ok (.aload_n 3, 1) := by decide +kernel
theorem dX9_special_60 : decode cX9_special 60 = .ok (.iload_n 1, 1) := by decide +kernel
theorem dX9_special_61 : decode cX9_special 61 = .ok (.aload_n 0, 1) := by decide +kernel
theorem dX9_special_62 : decode cX9_special 62 = .ok (.getfield 48, 3) := by decide +kernel
theorem dX9_special_65 : decode cX9_special 65 = .ok (.getfield 114, 3) := by decide +kernel
theorem dX9_special_68 : decode cX9_special 68 = .ok (.invokevirtual 240, 3) := by decide +kernel
theorem dX9_special_71 : decode cX9_special 71 = .ok (.ireturn, 1) := by decide +kernel
theorem dX9_special_72 : decode cX9_special 72 = .ok (.aload_n 3, 1) := by decide +kernel
theorem dX9_special_73 : decode cX9_special 73 = .ok (.iload_n 1, 1) := by decide +kernel
theorem dX9_special_74 : decode cX9_special 74 = .ok (.aload_n 0, 1) := by decide +kernel
theorem dX9_special_75 : decode cX9_special 75 = .ok (.getfield 48, 3) := by decide +kernel
theorem dX9_special_78 : decode cX9_special 78 = .ok (.getfield 114, 3) := by decide +kernel
theorem dX9_special_81 : decode cX9_special 81 = .ok (.invokevirtual 244, 3) := by decide +kernel
theorem dX9_special_84 : decode cX9_special 84 = .ok (.ireturn, 1) := by decide +kernel
theorem dX9_special_85 : decode cX9_special 85 = .ok (.ldc 121, 2) := by decide +kernel
theorem dX9_special_87 : decode cX9_special 87 = .ok (.ireturn, 1) := by decide +kernel
theorem dX9_acts_0 : decode cX9_acts 0 = .ok (.aload_n 0, 1) := by decide +kernel
theorem dX9_acts_1 : decode cX9_acts 1 = .ok (.getfield 26, 3) := by decide +kernel
theorem dX9_acts_4 : decode cX9_acts 4 = .ok (.aload_n 0, 1) := by decide +kernel
theorem dX9_acts_5 : decode cX9_acts 5 = .ok (.getfield 10, 3) := by decide +kernel
theorem dX9_acts_8 : decode cX9_acts 8 = .ok (.invokevirtual 247, 3) := by decide +kernel
theorem dX9_acts_11 : decode cX9_acts 11 = .ok (.istore_n 1, 1) := by decide +kernel
theorem dX9_acts_12 : decode cX9_acts 12 = .ok (.aload_n 0, 1) := by decide +kernel
theorem dX9_acts_13 : decode cX9_acts 13 = .ok (.invokevirtual 96, 3) := by decide +kernel
theorem dX9_acts_16 : decode cX9_acts 16 = .ok (.iload_n 1, 1) := by decide +kernel
theorem dX9_acts_17 : decode cX9_acts 17 = .ok (.iconst (-1), 1) := by decide +kernel
theorem dX9_acts_18 : decode cX9_acts 18 = .ok (.if_icmp .ne 5, 3) := by decide +kernel
theorem dX9_acts_21 : decode cX9_acts 21 = .ok (.iconst (-1), 1) := by decide +kernel
theorem dX9_acts_22 : decode cX9_acts 22 = .ok (.ireturn, 1) := by decide +kernel
theorem dX9_acts_23 : decode cX9_acts 23 = .ok (.aload_n 0, 1) := by decide +kernel
theorem dX9_acts_24 : decode cX9_acts 24 = .ok (.getfield 26, 3) := by decide +kernel
theorem dX9_acts_27 : decode cX9_acts 27 = .ok (.invokevirtual 250, 3) := by decide +kernel
theorem dX9_acts_30 : decode cX9_acts 30 = .ok (.iconst 0, 1) := by decide +kernel
theorem dX9_acts_31 : decode cX9_acts 31 = .ok (.istore_n 2, 1) := by decide +kernel
theorem dX9_acts_32 : decode cX9_acts 32 = .ok (.iload_n 2, 1) := by decide +kernel
theorem dX9_acts_33 : decode cX9_acts 33 = .ok (.iload_n 1, 1) := by decide +kernel
theorem dX9_acts_34 : decode cX9_acts 34 = .ok (.if_icmp .ge 80, 3) := by decide +kernel
theorem dX9_acts_37 : decode cX9_acts 37 = .ok (.aload_n 0, 1) := by decide +kernel
theorem dX9_acts_38 : decode cX9_acts 38 = .ok (.getfield 26, 3) := by decide +kernel
theorem dX9_acts_41 : decode cX9_acts 41 = .ok (.getfield 253, 3) := by decide +kernel
theorem dX9_acts_44 : decode cX9_acts 44 = .ok (.iload_n 2, 1) := by decide +kernel
theorem dX9_acts_45 : decode cX9_acts 45 = .ok (.iaload, 1) := by decide +kernel
theorem dX9_acts_46 : decode cX9_acts 46 = .ok (.istore_n 3, 1) := by decide +kernel
theorem dX9_acts_47 : decode cX9_acts 47 = .ok (.aload_n 0, 1) := by decide +kernel
theorem dX9_acts_48 : decode cX9_acts 48 = .ok (.getfield 26, 3) := by decide +kernel
theorem dX9_acts_51 : decode cX9_acts 51 = .ok (.getfield 256, 3) := by decide +kernel
theorem dX9_acts_54 : decode cX9_acts 54 = .ok (.iload_n 2, 1) := by decide +kernel
theorem dX9_acts_55 : decode cX9_acts 55 = .ok (.iaload, 1) := by decide +kernel
theorem dX9_acts_56 : decode cX9_acts 56 = .ok (.istore 4, 2) := by decide +kernel
theorem dX9_acts_58 : decode cX9_acts 58 = .ok (.aload_n 0, 1) := by decide +kernel
theorem dX9_acts_59 : decode cX9_acts 59 = .ok (.getfield 26, 3) := by decide +kernel
theorem dX9_acts_62 : decode cX9_acts 62 = .ok (.getfield 259, 3) := by decide +kernel
theorem dX9_acts_65 : decode cX9_acts 65 = .ok (.iload_n 2, 1) := by decide +kernel
theorem dX9_acts_66 : decode cX9_acts 66 = .ok (.iaload, 1) := by decide +kernel
theorem dX9_acts_67 : decode cX9_acts 67 = .ok (.istore 5, 2) := by decide +kernel
theorem dX9_acts_69 : decode cX9_acts 69 = .ok (.aload_n 0, 1) := by decide +kernel
theorem dX9_acts_70 : decode cX9_acts 70 = .ok (.iload_n 3, 1) := by decide +kernel
theorem dX9_acts_71 : decode cX9_acts 71 = .ok (.iload 4, 2) := by decide +kernel
theorem dX9_acts_73 : decode cX9_acts 73 = .ok (.iload 5, 2) := by decide +kernel
theorem dX9_acts_75 : decode cX9_acts 75 = .ok (.invokevirtual 199, 3) := by decide +kernel
theorem dX9_acts_78 : decode cX9_acts 78 = .ok (.ifCond .ne 14, 3) := by decide +kernel
theorem dX9_acts_81 : decode cX9_acts 81 = .ok (.aload_n 0, 1) := by decide +kernel
theorem dX9_acts_82 : decode cX9_acts 82 = .ok (.getfield 26, 3) := by decide +kernel
theorem dX9_acts_85 : decode cX9_acts 85 = .ok (.iload_n 2, 1) := by decide +kernel
theorem dX9_acts_86 : decode cX9_acts 86 = .ok (.putfield 262, 3) := by decide +kernel
theorem dX9_acts_89 : decode cX9_acts 89 = .ok (.goto 25, 3) := by decide +kernel
theorem dX9_acts_92 : decode cX9_acts 92 = .ok (.aload_n 0, 1) := by decide +kernel
theorem dX9_acts_93 : decode cX9_acts 93 = .ok (.getfield 26, 3) := by decide +kernel
theorem dX9_acts_96 : decode cX9_acts 96 = .ok (.aload_n 0, 1) := by decide +kernel
theorem dX9_acts_97 : decode cX9_acts 97 = .ok (.iload_n 3, 1) := by decide +kernel
theorem dX9_acts_98 : decode cX9_acts 98 = .ok (.iload 4, 2) := by decide +kernel
theorem dX9_acts_100 : decode cX9_acts 100 = .ok (.iload 5, 2) := by decide +kernel
theorem dX9_acts_102 : decode cX9_acts 102 = .ok (.invokevirtual 203, 3) := by decide +kernel
theorem dX9_acts_105 : decode cX9_acts 105 = .ok (.invokevirtual 265, 3) := by decide +kernel
theorem dX9_acts_108 : decode cX9_acts 108 = .ok (.iinc 2 1, 3) := by decide +kernel
theorem dX9_acts_111 : decode cX9_acts 111 = .ok (.goto (-79), 3) := by decide +kernel
theorem dX9_acts_114 : decode cX9_acts 114 = .ok (.aload_n 0, 1) := by decide +kernel
theorem dX9_acts_115 : decode cX9_acts 115 = .ok (.getfield 26, 3) := by decide +kernel
theorem dX9_acts_118 : decode cX9_acts 118 = .ok (.getfield 268, 3) := by decide +kernel
theorem dX9_acts_121 : decode cX9_acts 121 = .ok (.ireturn, 1) := by decide +kernel
theorem dX9_ended_0 : decode cX9_ended 0 = .ok (.aload_n 0, 1) := by decide +kernel
theorem dX9_ended_1 : decode cX9_ended 1 = .ok (.getfield 26, 3) := by decide +kernel
theorem dX9_ended_4 : decode cX9_ended 4 = .ok (.getfield 262, 3) := by decide +kernel
theorem dX9_ended_7 : decode cX9_ended 7 = .ok (.ireturn, 1) := by decide +kernel
theorem dX9_row_0 : decode cX9_row 0 = .ok (.iload_n 1, 1) := by decide +kernel
theorem dX9_row_1 : decode cX9_row 1 = .ok (.ifCond .lt 26, 3) := by decide +kernel
theorem dX9_row_4 : decode cX9_row 4 = .ok (.iload_n 1, 1) := by decide +kernel
theorem dX9_row_5 : decode cX9_row 5 = .ok (.aload_n 0, 1) := by decide +kernel
theorem dX9_row_6 : decode cX9_row 6 = .ok (.getfield 26, 3) := by decide +kernel
theorem dX9_row_9 : decode cX9_row 9 = .ok (.getfield 268, 3) := by decide +kernel
theorem dX9_row_12 : decode cX9_row 12 = .ok (.if_icmp .ge 15, 3) := by decide +kernel
theorem dX9_row_15 : decode cX9_row 15 = .ok (.aload_n 0, 1) := by decide +kernel
theorem dX9_row_16 : decode cX9_row 16 = .ok (.getfield 26, 3) := by decide +kernel
theorem dX9_row_19 : decode cX9_row 19 = .ok (.getfield 271, 3) := by decide +kernel
theorem dX9_row_22 : decode cX9_row 22 = .ok (.iload_n 1, 1) := by decide +kernel
theorem dX9_row_23 : decode cX9_row 23 = .ok (.iaload, 1) := by decide +kernel
theorem dX9_row_24 : decode cX9_row 24 = .ok (.goto 5, 3) := by decide +kernel
theorem dX9_row_27 : decode cX9_row 27 = .ok (.ldc 121, 2) := by decide +kernel
theorem dX9_row_29 : decode cX9_row 29 = .ok (.ireturn, 1) := by decide +kernel
theorem dX9_hand_0 : decode cX9_hand 0 = .ok (.aload_n 0, 1) := by decide +kernel
theorem dX9_hand_1 : decode cX9_hand 1 = .ok (.getfield 48, 3) := by decide +kernel
theorem dX9_hand_4 : decode cX9_hand 4 = .ok (.getfield 114, 3) := by decide +kernel
theorem dX9_hand_7 : decode cX9_hand 7 = .ok (.astore 4, 2) := by decide +kernel
theorem dX9_hand_9 : decode cX9_hand 9 = .ok (.aload 4, 2) := by decide +kernel
theorem dX9_hand_11 : decode cX9_hand 11 = .ok (.iload_n 1, 1) := by decide +kernel
theorem dX9_hand_12 : decode cX9_hand 12 = .ok (.invokevirtual 117, 3) := by decide +kernel
theorem dX9_hand_15 : decode cX9_hand 15 = .ok (.ifCond .eq 29, 3) := by decide +kernel
theorem dX9_hand_18 : decode cX9_hand 18 = .ok (.iload_n 2, 1) := by decide +kernel
theorem dX9_hand_19 : decode cX9_hand 19 = .ok (.ifCond .lt 25, 3) := by decide +kernel
theorem dX9_hand_22 : decode cX9_hand 22 = .ok (.iload_n 2, 1) := by decide +kernel
theorem dX9_hand_23 : decode cX9_hand 23 = .ok (.bipush 8, 2) := by decide +kernel
theorem dX9_hand_25 : decode cX9_hand 25 = .ok (.if_icmp .ge 19, 3) := by decide +kernel
theorem dX9_hand_28 : decode cX9_hand 28 = .ok (.iload_n 2, 1) := by decide +kernel
theorem dX9_hand_29 : decode cX9_hand 29 = .ok (.iload_n 1, 1) := by decide +kernel
theorem dX9_hand_30 : decode cX9_hand 30 = .ok (.if_icmp .eq 14, 3) := by decide +kernel
theorem dX9_hand_33 : decode cX9_hand 33 = .ok (.iload_n 3, 1) := by decide +kernel
theorem dX9_hand_34 : decode cX9_hand 34 = .ok (.iconst 1, 1) := by decide +kernel
theorem dX9_hand_35 : decode cX9_hand 35 = .ok (.if_icmp .lt 9, 3) := by decide +kernel
theorem dX9_hand_38 : decode cX9_hand 38 = .ok (.iload_n 3, 1) := by decide +kernel
theorem dX9_hand_39 : decode cX9_hand 39 = .ok (.bipush 100, 2) := by decide +kernel
theorem dX9_hand_41 : decode cX9_hand 41 = .ok (.if_icmp .le 6, 3) := by decide +kernel
theorem dX9_hand_44 : decode cX9_hand 44 = .ok (.ldc 121, 2) := by decide +kernel
theorem dX9_hand_46 : decode cX9_hand 46 = .ok (.ireturn, 1) := by decide +kernel
theorem dX9_hand_47 : decode cX9_hand 47 = .ok (.aload_n 0, 1) := by decide +kernel
theorem dX9_hand_48 : decode cX9_hand 48 = .ok (.invokevirtual 99, 3) := by decide +kernel
theorem dX9_hand_51 : decode cX9_hand 51 = .ok (.aload 4, 2) := by decide +kernel
theorem dX9_hand_53 : decode cX9_hand 53 = .ok (.iload_n 2, 1) := by decide +kernel
theorem dX9_hand_54 : decode cX9_hand 54 = .ok (.invokevirtual 117, 3) := by decide +kernel
theorem dX9_hand_57 : decode cX9_hand 57 = .ok (.ifCond .ne 9, 3) := by decide +kernel
theorem dX9_hand_60 : decode cX9_hand 60 = .ok (.aload 4, 2) := by decide +kernel
theorem dX9_hand_62 : decode cX9_hand 62 = .ok (.iload_n 2, 1) := by decide +kernel
theorem dX9_hand_63 : decode cX9_hand 63 = .ok (.invokevirtual 272, 3) := by decide +kernel
theorem dX9_hand_66 : decode cX9_hand 66 = .ok (.aload 4, 2) := by decide +kernel
theorem dX9_hand_68 : decode cX9_hand 68 = .ok (.getfield 154, 3) := by decide +kernel
theorem dX9_hand_71 : decode cX9_hand 71 = .ok (.iload_n 1, 1) := by decide +kernel
theorem dX9_hand_72 : decode cX9_hand 72 = .ok (.iload_n 2, 1) := by decide +kernel
theorem dX9_hand_73 : decode cX9_hand 73 = .ok (.iload_n 3, 1) := by decide +kernel
theorem dX9_hand_74 : decode cX9_hand 74 = .ok (.invokestatic 275, 3) := by decide +kernel
theorem dX9_hand_77 : decode cX9_hand 77 = .ok (.aload 4, 2) := by decide +kernel
theorem dX9_hand_79 : decode cX9_hand 79 = .ok (.getfield 161, 3) := by decide +kernel
theorem dX9_hand_82 : decode cX9_hand 82 = .ok (.iload_n 1, 1) := by decide +kernel
theorem dX9_hand_83 : decode cX9_hand 83 = .ok (.iload_n 2, 1) := by decide +kernel
theorem dX9_hand_84 : decode cX9_hand 84 = .ok (.iload_n 3, 1) := by decide +kernel
theorem dX9_hand_85 : decode cX9_hand 85 = .ok (.invokestatic 275, 3) := by decide +kernel
theorem dX9_hand_88 : decode cX9_hand 88 = .ok (.aload 4, 2) := by decide +kernel
theorem dX9_hand_90 : decode cX9_hand 90 = .ok (.getfield 164, 3) := by decide +kernel
theorem dX9_hand_93 : decode cX9_hand 93 = .ok (.iload_n 1, 1) := by decide +kernel
theorem dX9_hand_94 : decode cX9_hand 94 = .ok (.iload_n 2, 1) := by decide +kernel
theorem dX9_hand_95 : decode cX9_hand 95 = .ok (.iload_n 3, 1) := by decide +kernel
theorem dX9_hand_96 : decode cX9_hand 96 = .ok (.invokestatic 275, 3) := by decide +kernel
theorem dX9_hand_99 : decode cX9_hand 99 = .ok (.aload 4, 2) := by decide +kernel
theorem dX9_hand_101 : decode cX9_hand 101 = .ok (.getfield 154, 3) := by decide +kernel
theorem dX9_hand_104 : decode cX9_hand 104 = .ok (.iload_n 2, 1) := by decide +kernel
theorem dX9_hand_105 : decode cX9_hand 105 = .ok (.iaload, 1) := by decide +kernel
theorem dX9_hand_106 : decode cX9_hand 106 = .ok (.ireturn, 1) := by decide +kernel
theorem dX9_breaks_0 : decode cX9_breaks 0 = .ok (.iload_n 1, 1) := by decide +kernel
theorem dX9_breaks_1 : decode cX9_breaks 1 = .ok (.iconst 1, 1) := by decide +kernel
theorem dX9_breaks_2 : decode cX9_breaks 2 = .ok (.if_icmp .lt 23, 3) := by decide +kernel
theorem dX9_breaks_5 : decode cX9_breaks 5 = .ok (.iload_n 1, 1) := by decide +kernel
theorem dX9_breaks_6 : decode cX9_breaks 6 = .ok (.sipush 200, 3) := by decide +kernel
theorem dX9_breaks_9 : decode cX9_breaks 9 = .ok (.if_icmp .gt 16, 3) := by decide +kernel
theorem dX9_breaks_12 : decode cX9_breaks 12 = .ok (.aload_n 0, 1) := by decide +kernel
theorem dX9_breaks_13 : decode cX9_breaks 13 = .ok (.getfield 48, 3) := by decide +kernel
theorem dX9_breaks_16 : decode cX9_breaks 16 = .ok (.getfield 114, 3) := by decide +kernel
theorem dX9_breaks_19 : decode cX9_breaks 19 = .ok (.getfield 148, 3) := by decide +kernel
theorem dX9_breaks_22 : decode cX9_breaks 22 = .ok (.ifCond .ne 5, 3) := by decide +kernel
theorem dX9_breaks_25 : decode cX9_breaks 25 = .ok (.iconst (-1), 1) := by decide +kernel
theorem dX9_breaks_26 : decode cX9_breaks 26 = .ok (.ireturn, 1) := by decide +kernel
theorem dX9_breaks_27 : decode cX9_breaks 27 = .ok (.iconst 1, 1) := by decide +kernel
theorem dX9_breaks_28 : decode cX9_breaks 28 = .ok (.istore_n 2, 1) := by decide +kernel
theorem dX9_breaks_29 : decode cX9_breaks 29 = .ok (.iload_n 2, 1) := by decide +kernel
theorem dX9_breaks_30 : decode cX9_breaks 30 = .ok (.iload_n 1, 1) := by decide +kernel
theorem dX9_breaks_31 : decode cX9_breaks 31 = .ok (.if_icmp .gt 41, 3) := by decide +kernel
theorem dX9_breaks_34 : decode cX9_breaks 34 = .ok (.aload_n 0, 1) := by decide +kernel
theorem dX9_breaks_35 : decode cX9_breaks 35 = .ok (.getfield 70, 3) := by decide +kernel
theorem dX9_breaks_38 : decode cX9_breaks 38 = .ok (.aload_n 0, 1) := by decide +kernel
theorem dX9_breaks_39 : decode cX9_breaks 39 = .ok (.getfield 48, 3) := by decide +kernel
theorem dX9_breaks_42 : decode cX9_breaks 42 = .ok (.getfield 114, 3) := by decide +kernel
theorem dX9_breaks_45 : decode cX9_breaks 45 = .ok (.invokevirtual 279, 3) := by decide +kernel
theorem dX9_breaks_48 : decode cX9_breaks 48 = .ok (.aload_n 0, 1) := by decide +kernel
theorem dX9_breaks_49 : decode cX9_breaks 49 = .ok (.iload_n 2, 1) := by decide +kernel
theorem dX9_breaks_50 : decode cX9_breaks 50 = .ok (.ineg, 1) := by decide +kernel
theorem dX9_breaks_51 : decode cX9_breaks 51 = .ok (.invokevirtual 283, 3) := by decide +kernel
theorem dX9_breaks_54 : decode cX9_breaks 54 = .ok (.aload_n 0, 1) := by decide +kernel
theorem dX9_breaks_55 : decode cX9_breaks 55 = .ok (.getfield 77, 3) := by decide +kernel
theorem dX9_breaks_58 : decode cX9_breaks 58 = .ok (.getfield 224, 3) := by decide +kernel
theorem dX9_breaks_61 : decode cX9_breaks 61 = .ok (.ifCond .le 5, 3) := by decide +kernel
theorem dX9_breaks_64 : decode cX9_breaks 64 = .ok (.iload_n 2, 1) := by decide +kernel
theorem dX9_breaks_65 : decode cX9_breaks 65 = .ok (.ireturn, 1) := by decide +kernel
theorem dX9_breaks_66 : decode cX9_breaks 66 = .ok (.iinc 2 1, 3) := by decide +kernel
theorem dX9_breaks_69 : decode cX9_breaks 69 = .ok (.goto (-40), 3) := by decide +kernel
theorem dX9_breaks_72 : decode cX9_breaks 72 = .ok (.iconst (-1), 1) := by decide +kernel
theorem dX9_breaks_73 : decode cX9_breaks 73 = .ok (.ireturn, 1) := by decide +kernel
theorem dX9_gain_0 : decode cX9_gain 0 = .ok (.aload_n 0, 1) := by decide +kernel
theorem dX9_gain_1 : decode cX9_gain 1 = .ok (.getfield 48, 3) := by decide +kernel
theorem dX9_gain_4 : decode cX9_gain 4 = .ok (.getfield 114, 3) := by decide +kernel
theorem dX9_gain_7 : decode cX9_gain 7 = .ok (.astore_n 2, 1) := by decide +kernel
theorem dX9_gain_8 : decode cX9_gain 8 = .ok (.iload_n 1, 1) := by decide +kernel
theorem dX9_gain_9 : decode cX9_gain 9 = .ok (.iconst (-1), 1) := by decide +kernel
theorem dX9_gain_10 : decode cX9_gain 10 = .ok (.if_icmp .ne 8, 3) := by decide +kernel
theorem dX9_gain_13 : decode cX9_gain 13 = .ok (.aload_n 2, 1) := by decide +kernel
theorem dX9_gain_14 : decode cX9_gain 14 = .ok (.invokevirtual 286, 3) := by decide +kernel
theorem dX9_gain_17 : decode cX9_gain 17 = .ok (.ireturn, 1) := by decide +kernel
theorem dX9_gain_18 : decode cX9_gain 18 = .ok (.aload_n 2, 1) := by decide +kernel
theorem dX9_gain_19 : decode cX9_gain 19 = .ok (.iload_n 1, 1) := by decide +kernel
theorem dX9_gain_20 : decode cX9_gain 20 = .ok (.invokevirtual 187, 3) := by decide +kernel
theorem dX9_gain_23 : decode cX9_gain 23 = .ok (.ifCond .eq 19, 3) := by decide +kernel
theorem dX9_gain_26 : decode cX9_gain 26 = .ok (.aload_n 2, 1) := by decide +kernel
theorem dX9_gain_27 : decode cX9_gain 27 = .ok (.getfield 193, 3) := by decide +kernel
theorem dX9_gain_30 : decode cX9_gain 30 = .ok (.iload_n 1, 1) := by decide +kernel
theorem dX9_gain_31 : decode cX9_gain 31 = .ok (.iaload, 1) := by decide +kernel
theorem dX9_gain_32 : decode cX9_gain 32 = .ok (.aload_n 2, 1) := by decide +kernel
theorem dX9_gain_33 : decode cX9_gain 33 = .ok (.getfield 190, 3) := by decide +kernel
theorem dX9_gain_36 : decode cX9_gain 36 = .ok (.iload_n 1, 1) := by decide +kernel
theorem dX9_gain_37 : decode cX9_gain 37 = .ok (.iaload, 1) := by decide +kernel
theorem dX9_gain_38 : decode cX9_gain 38 = .ok (.isub, 1) := by decide +kernel
theorem dX9_gain_39 : decode cX9_gain 39 = .ok (.goto 5, 3) := by decide +kernel
theorem dX9_gain_42 : decode cX9_gain 42 = .ok (.ldc 121, 2) := by decide +kernel
theorem dX9_gain_44 : decode cX9_gain 44 = .ok (.ireturn, 1) := by decide +kernel
theorem dX9_below_0 : decode cX9_below 0 = .ok (.aload_n 0, 1) := by decide +kernel
theorem dX9_below_1 : decode cX9_below 1 = .ok (.getfield 48, 3) := by decide +kernel
theorem dX9_below_4 : decode cX9_below 4 = .ok (.getfield 114, 3) := by decide +kernel
theorem dX9_below_7 : decode cX9_below 7 = .ok (.astore_n 1, 1) := by decide +kernel
theorem dX9_below_8 : decode cX9_below 8 = .ok (.iconst 0, 1) := by decide +kernel
theorem dX9_below_9 : decode cX9_below 9 = .ok (.istore_n 2, 1) := by decide +kernel
theorem dX9_below_10 : decode cX9_below 10 = .ok (.iconst 0, 1) := by decide +kernel
theorem dX9_below_11 : decode cX9_below 11 = .ok (.istore_n 3, 1) := by decide +kernel
theorem dX9_below_12 : decode cX9_below 12 = .ok (.iload_n 3, 1) := by decide +kernel
theorem dX9_below_13 : decode cX9_below 13 = .ok (.bipush 8, 2) := by decide +kernel
theorem dX9_below_15 : decode cX9_below 15 = .ok (.if_icmp .ge 37, 3) := by decide +kernel
theorem dX9_below_18 : decode cX9_below 18 = .ok (.aload_n 1, 1) := by decide +kernel
theorem dX9_below_19 : decode cX9_below 19 = .ok (.iload_n 3, 1) := by decide +kernel
theorem dX9_below_20 : decode cX9_below 20 = .ok (.invokevirtual 117, 3) := by decide +kernel
theorem dX9_below_23 : decode cX9_below 23 = .ok (.ifCond .eq 23, 3) := by decide +kernel
theorem dX9_below_26 : decode cX9_below 26 = .ok (.aload_n 1, 1) := by decide +kernel
theorem dX9_below_27 : decode cX9_below 27 = .ok (.getfield 154, 3) := by decide +kernel
theorem dX9_below_30 : decode cX9_below 30 = .ok (.iload_n 3, 1) := by decide +kernel
theorem dX9_below_31 : decode cX9_below 31 = .ok (.iaload, 1) := by decide +kernel
theorem dX9_below_32 : decode cX9_below 32 = .ok (.aload_n 1, 1) := by decide +kernel
theorem dX9_below_33 : decode cX9_below 33 = .ok (.iload_n 3, 1) := by decide +kernel
theorem dX9_below_34 : decode cX9_below 34 = .ok (.invokevirtual 176, 3) := by decide +kernel
theorem dX9_below_37 : decode cX9_below 37 = .ok (.if_icmp .ge 9, 3) := by decide +kernel
theorem dX9_below_40 : decode cX9_below 40 = .ok (.iload_n 2, 1) := by decide +kernel
theorem dX9_below_41 : decode cX9_below 41 = .ok (.iconst 1, 1) := by decide +kernel
theorem dX9_below_42 : decode cX9_below 42 = .ok (.iload_n 3, 1) := by decide +kernel
theorem dX9_below_43 : decode cX9_below 43 = .ok (.ishl, 1) := by decide +kernel
theorem dX9_below_44 : decode cX9_below 44 = .ok (.ior, 1) := by decide +kernel
theorem dX9_below_45 : decode cX9_below 45 = .ok (.istore_n 2, 1) := by decide +kernel
theorem dX9_below_46 : decode cX9_below 46 = .ok (.iinc 3 1, 3) := by decide +kernel
theorem dX9_below_49 : decode cX9_below 49 = .ok (.goto (-37), 3) := by decide +kernel
theorem dX9_below_52 : decode cX9_below 52 = .ok (.iload_n 2, 1) := by decide +kernel
theorem dX9_below_53 : decode cX9_below 53 = .ok (.ireturn, 1) := by decide +kernel
theorem dX9_tried_0 : decode cX9_tried 0 = .ok (.iload_n 2, 1) := by decide +kernel
theorem dX9_tried_1 : decode cX9_tried 1 = .ok (.ldc_w 289, 3) := by decide +kernel
theorem dX9_tried_4 : decode cX9_tried 4 = .ok (.if_icmp .lt 24, 3) := by decide +kernel
theorem dX9_tried_7 : decode cX9_tried 7 = .ok (.iload_n 2, 1) := by decide +kernel
theorem dX9_tried_8 : decode cX9_tried 8 = .ok (.ldc_w 290, 3) := by decide +kernel
theorem dX9_tried_11 : decode cX9_tried 11 = .ok (.if_icmp .gt 17, 3) := by decide +kernel
theorem dX9_tried_14 : decode cX9_tried 14 = .ok (.aload_n 0, 1) := by decide +kernel
theorem dX9_tried_15 : decode cX9_tried 15 = .ok (.getfield 48, 3) := by decide +kernel
theorem dX9_tried_18 : decode cX9_tried 18 = .ok (.getfield 114, 3) := by decide +kernel
theorem dX9_tried_21 : decode cX9_tried 21 = .ok (.iload_n 1, 1) := by decide +kernel
theorem dX9_tried_22 : decode cX9_tried 22 = .ok (.invokevirtual 117, 3) := by decide +kernel
theorem dX9_tried_25 : decode cX9_tried 25 = .ok (.ifCond .ne 6, 3) := by decide +kernel
theorem dX9_tried_28 : decode cX9_tried 28 = .ok (.ldc 121, 2) := by decide +kernel
theorem dX9_tried_30 : decode cX9_tried 30 = .ok (.ireturn, 1) := by decide +kernel
theorem dX9_tried_31 : decode cX9_tried 31 = .ok (.aload_n 0, 1) := by decide +kernel
theorem dX9_tried_32 : decode cX9_tried 32 = .ok (.getfield 70, 3) := by decide +kernel
theorem dX9_tried_35 : decode cX9_tried 35 = .ok (.aload_n 0, 1) := by decide +kernel
theorem dX9_tried_36 : decode cX9_tried 36 = .ok (.getfield 48, 3) := by decide +kernel
theorem dX9_tried_39 : decode cX9_tried 39 = .ok (.getfield 114, 3) := by decide +kernel
theorem dX9_tried_42 : decode cX9_tried 42 = .ok (.invokevirtual 279, 3) := by decide +kernel
theorem dX9_tried_45 : decode cX9_tried 45 = .ok (.aload_n 0, 1) := by decide +kernel
theorem dX9_tried_46 : decode cX9_tried 46 = .ok (.iload_n 2, 1) := by decide +kernel
theorem dX9_tried_47 : decode cX9_tried 47 = .ok (.invokevirtual 283, 3) := by decide +kernel
theorem dX9_tried_50 : decode cX9_tried 50 = .ok (.aload_n 0, 1) := by decide +kernel
theorem dX9_tried_51 : decode cX9_tried 51 = .ok (.getfield 70, 3) := by decide +kernel
theorem dX9_tried_54 : decode cX9_tried 54 = .ok (.getfield 154, 3) := by decide +kernel
theorem dX9_tried_57 : decode cX9_tried 57 = .ok (.iload_n 1, 1) := by decide +kernel
theorem dX9_tried_58 : decode cX9_tried 58 = .ok (.iaload, 1) := by decide +kernel
theorem dX9_tried_59 : decode cX9_tried 59 = .ok (.ireturn, 1) := by decide +kernel
theorem dX9_even_0 : decode cX9_even 0 = .ok (.iload_n 3, 1) := by decide +kernel
theorem dX9_even_1 : decode cX9_even 1 = .ok (.ifCond .lt 24, 3) := by decide +kernel
theorem dX9_even_4 : decode cX9_even 4 = .ok (.iload_n 3, 1) := by decide +kernel
theorem dX9_even_5 : decode cX9_even 5 = .ok (.sipush 200, 3) := by decide +kernel
theorem dX9_even_8 : decode cX9_even 8 = .ok (.if_icmp .gt 17, 3) := by decide +kernel
theorem dX9_even_11 : decode cX9_even 11 = .ok (.aload_n 0, 1) := by decide +kernel
theorem dX9_even_12 : decode cX9_even 12 = .ok (.getfield 48, 3) := by decide +kernel
theorem dX9_even_15 : decode cX9_even 15 = .ok (.getfield 114, 3) := by decide +kernel
theorem dX9_even_18 : decode cX9_even 18 = .ok (.iload_n 1, 1) := by decide +kernel
theorem dX9_even_19 : decode cX9_even 19 = .ok (.invokevirtual 117, 3) := by decide +kernel
theorem dX9_even_22 : decode cX9_even 22 = .ok (.ifCond .ne 5, 3) := by decide +kernel
theorem dX9_even_25 : decode cX9_even 25 = .ok (.iconst (-1), 1) := by decide +kernel
theorem dX9_even_26 : decode cX9_even 26 = .ok (.ireturn, 1) := by decide +kernel
theorem dX9_even_27 : decode cX9_even 27 = .ok (.iconst 0, 1) := by decide +kernel
theorem dX9_even_28 : decode cX9_even 28 = .ok (.istore 4, 2) := by decide +kernel
theorem dX9_even_30 : decode cX9_even 30 = .ok (.iload 4, 2) := by decide +kernel
theorem dX9_even_32 : decode cX9_even 32 = .ok (.iload_n 3, 1) := by decide +kernel
theorem dX9_even_33 : decode cX9_even 33 = .ok (.if_icmp .gt 45, 3) := by decide +kernel
theorem dX9_even_36 : decode cX9_even 36 = .ok (.aload_n 0, 1) := by decide +kernel
theorem dX9_even_37 : decode cX9_even 37 = .ok (.getfield 70, 3) := by decide +kernel
theorem dX9_even_40 : decode cX9_even 40 = .ok (.aload_n 0, 1) := by decide +kernel
theorem dX9_even_41 : decode cX9_even 41 = .ok (.getfield 48, 3) := by decide +kernel
theorem dX9_even_44 : decode cX9_even 44 = .ok (.getfield 114, 3) := by decide +kernel
theorem dX9_even_47 : decode cX9_even 47 = .ok (.invokevirtual 279, 3) := by decide +kernel
theorem dX9_even_50 : decode cX9_even 50 = .ok (.aload_n 0, 1) := by decide +kernel
theorem dX9_even_51 : decode cX9_even 51 = .ok (.iload 4, 2) := by decide +kernel
theorem dX9_even_53 : decode cX9_even 53 = .ok (.invokevirtual 283, 3) := by decide +kernel
theorem dX9_even_56 : decode cX9_even 56 = .ok (.aload_n 0, 1) := by decide +kernel
theorem dX9_even_57 : decode cX9_even 57 = .ok (.getfield 70, 3) := by decide +kernel
theorem dX9_even_60 : decode cX9_even 60 = .ok (.getfield 154, 3) := by decide +kernel
theorem dX9_even_63 : decode cX9_even 63 = .ok (.iload_n 1, 1) := by decide +kernel
theorem dX9_even_64 : decode cX9_even 64 = .ok (.iaload, 1) := by decide +kernel
theorem dX9_even_65 : decode cX9_even 65 = .ok (.iload_n 2, 1) := by decide +kernel
theorem dX9_even_66 : decode cX9_even 66 = .ok (.if_icmp .lt 6, 3) := by decide +kernel
theorem dX9_even_69 : decode cX9_even 69 = .ok (.iload 4, 2) := by decide +kernel
theorem dX9_even_71 : decode cX9_even 71 = .ok (.ireturn, 1) := by decide +kernel
theorem dX9_even_72 : decode cX9_even 72 = .ok (.iinc 4 1, 3) := by decide +kernel
theorem dX9_even_75 : decode cX9_even 75 = .ok (.goto (-45), 3) := by decide +kernel
theorem dX9_even_78 : decode cX9_even 78 = .ok (.iconst (-1), 1) := by decide +kernel
theorem dX9_even_79 : decode cX9_even 79 = .ok (.ireturn, 1) := by decide +kernel
theorem dX9_back_0 : decode cX9_back 0 = .ok (.aload_n 0, 1) := by decide +kernel
theorem dX9_back_1 : decode cX9_back 1 = .ok (.getfield 167, 3) := by decide +kernel
theorem dX9_back_4 : decode cX9_back 4 = .ok (.ifCond .ne 5, 3) := by decide +kernel
theorem dX9_back_7 : decode cX9_back 7 = .ok (.iconst (-1), 1) := by decide +kernel
theorem dX9_back_8 : decode cX9_back 8 = .ok (.ireturn, 1) := by decide +kernel
theorem dX9_back_9 : decode cX9_back 9 = .ok (.aload_n 0, 1) := by decide +kernel
theorem dX9_back_10 : decode cX9_back 10 = .ok (.aload_n 0, 1) := by decide +kernel
theorem dX9_back_11 : decode cX9_back 11 = .ok (.getfield 291, 3) := by decide +kernel
theorem dX9_back_14 : decode cX9_back 14 = .ok (.bipush 12, 2) := by decide +kernel
theorem dX9_back_16 : decode cX9_back 16 = .ok (.iadd, 1) := by decide +kernel
theorem dX9_back_17 : decode cX9_back 17 = .ok (.iconst 1, 1) := by decide +kernel
theorem dX9_back_18 : decode cX9_back 18 = .ok (.isub, 1) := by decide +kernel
theorem dX9_back_19 : decode cX9_back 19 = .ok (.bipush 12, 2) := by decide +kernel
theorem dX9_back_21 : decode cX9_back 21 = .ok (.irem, 1) := by decide +kernel
theorem dX9_back_22 : decode cX9_back 22 = .ok (.putfield 291, 3) := by decide +kernel
theorem dX9_back_25 : decode cX9_back 25 = .ok (.aload_n 0, 1) := by decide +kernel
theorem dX9_back_26 : decode cX9_back 26 = .ok (.dup, 1) := by decide +kernel
theorem dX9_back_27 : decode cX9_back 27 = .ok (.getfield 167, 3) := by decide +kernel
theorem dX9_back_30 : decode cX9_back 30 = .ok (.iconst 1, 1) := by decide +kernel
theorem dX9_back_31 : decode cX9_back 31 = .ok (.isub, 1) := by decide +kernel
theorem dX9_back_32 : decode cX9_back 32 = .ok (.putfield 167, 3) := by decide +kernel
theorem dX9_back_35 : decode cX9_back 35 = .ok (.aload_n 0, 1) := by decide +kernel
theorem dX9_back_36 : decode cX9_back 36 = .ok (.getfield 48, 3) := by decide +kernel
theorem dX9_back_39 : decode cX9_back 39 = .ok (.aload_n 0, 1) := by decide +kernel
theorem dX9_back_40 : decode cX9_back 40 = .ok (.getfield 52, 3) := by decide +kernel
theorem dX9_back_43 : decode cX9_back 43 = .ok (.aload_n 0, 1) := by decide +kernel
theorem dX9_back_44 : decode cX9_back 44 = .ok (.getfield 291, 3) := by decide +kernel
theorem dX9_back_47 : decode cX9_back 47 = .ok (.aaload, 1) := by decide +kernel
theorem dX9_back_48 : decode cX9_back 48 = .ok (.invokevirtual 294, 3) := by decide +kernel
theorem dX9_back_51 : decode cX9_back 51 = .ok (.aload_n 0, 1) := by decide +kernel
theorem dX9_back_52 : decode cX9_back 52 = .ok (.getfield 167, 3) := by decide +kernel
theorem dX9_back_55 : decode cX9_back 55 = .ok (.ireturn, 1) := by decide +kernel
theorem dX9_fills_0 : decode cX9_fills 0 = .ok (.iload_n 1, 1) := by decide +kernel
theorem dX9_fills_1 : decode cX9_fills 1 = .ok (.ifCond .lt 22, 3) := by decide +kernel
theorem dX9_fills_4 : decode cX9_fills 4 = .ok (.iload_n 1, 1) := by decide +kernel
theorem dX9_fills_5 : decode cX9_fills 5 = .ok (.ldc 113, 2) := by decide +kernel
theorem dX9_fills_7 : decode cX9_fills 7 = .ok (.if_icmp .gt 16, 3) := by decide +kernel
theorem dX9_fills_10 : decode cX9_fills 10 = .ok (.aload_n 0, 1) := by decide +kernel
theorem dX9_fills_11 : decode cX9_fills 11 = .ok (.getfield 48, 3) := by decide +kernel
theorem dX9_fills_14 : decode cX9_fills 14 = .ok (.getfield 114, 3) := by decide +kernel
theorem dX9_fills_17 : decode cX9_fills 17 = .ok (.getfield 148, 3) := by decide +kernel
theorem dX9_fills_20 : decode cX9_fills 20 = .ok (.ifCond .ne 6, 3) := by decide +kernel
theorem dX9_fills_23 : decode cX9_fills 23 = .ok (.ldc 121, 2) := by decide +kernel
theorem dX9_fills_25 : decode cX9_fills 25 = .ok (.ireturn, 1) := by decide +kernel
theorem dX9_fills_26 : decode cX9_fills 26 = .ok (.aload_n 0, 1) := by decide +kernel
theorem dX9_fills_27 : decode cX9_fills 27 = .ok (.getfield 19, 3) := by decide +kernel
theorem dX9_fills_30 : decode cX9_fills 30 = .ok (.iload_n 1, 1) := by decide +kernel
theorem dX9_fills_31 : decode cX9_fills 31 = .ok (.aload_n 0, 1) := by decide +kernel
theorem dX9_fills_32 : decode cX9_fills 32 = .ok (.getfield 48, 3) := by decide +kernel
theorem dX9_fills_35 : decode cX9_fills 35 = .ok (.getfield 114, 3) := by decide +kernel
theorem dX9_fills_38 : decode cX9_fills 38 = .ok (.aload_n 0, 1) := by decide +kernel
theorem dX9_fills_39 : decode cX9_fills 39 = .ok (.getfield 48, 3) := by decide +kernel
theorem dX9_fills_42 : decode cX9_fills 42 = .ok (.getfield 56, 3) := by decide +kernel
theorem dX9_fills_45 : decode cX9_fills 45 = .ok (.invokevirtual 122, 3) := by decide +kernel
theorem dX9_fills_48 : decode cX9_fills 48 = .ok (.iload_n 2, 1) := by decide +kernel
theorem dX9_fills_49 : decode cX9_fills 49 = .ok (.lookupswitch 43 #[(0, 27), (1, 35)], 27) := by decide +kernel
theorem dX9_fills_76 : decode cX9_fills 76 = .ok (.aload_n 0, 1) := by decide +kernel
theorem dX9_fills_77 : decode cX9_fills 77 = .ok (.getfield 19, 3) := by decide +kernel
theorem dX9_fills_80 : decode cX9_fills 80 = .ok (.getfield 298, 3) := by decide +kernel
theorem dX9_fills_83 : decode cX9_fills 83 = .ok (.ireturn, 1) := by decide +kernel
theorem dX9_fills_84 : decode cX9_fills 84 = .ok (.aload_n 0, 1) := by decide +kernel
theorem dX9_fills_85 : decode cX9_fills 85 = .ok (.getfield 19, 3) := by decide +kernel
theorem dX9_fills_88 : decode cX9_fills 88 = .ok (.getfield 301, 3) := by decide +kernel
theorem dX9_fills_91 : decode cX9_fills 91 = .ok (.ireturn, 1) := by decide +kernel
theorem dX9_fills_92 : decode cX9_fills 92 = .ok (.ldc 121, 2) := by decide +kernel
theorem dX9_fills_94 : decode cX9_fills 94 = .ok (.ireturn, 1) := by decide +kernel
theorem dX9_years_0 : decode cX9_years 0 = .ok (.iload_n 2, 1) := by decide +kernel
theorem dX9_years_1 : decode cX9_years 1 = .ok (.ldc_w 289, 3) := by decide +kernel
theorem dX9_years_4 : decode cX9_years 4 = .ok (.if_icmp .lt 35, 3) := by decide +kernel
theorem dX9_years_7 : decode cX9_years 7 = .ok (.iload_n 2, 1) := by decide +kernel
theorem dX9_years_8 : decode cX9_years 8 = .ok (.ldc_w 290, 3) := by decide +kernel
theorem dX9_years_11 : decode cX9_years 11 = .ok (.if_icmp .gt 28, 3) := by decide +kernel
theorem dX9_years_14 : decode cX9_years 14 = .ok (.iload_n 3, 1) := by decide +kernel
theorem dX9_years_15 : decode cX9_years 15 = .ok (.iconst 1, 1) := by decide +kernel
theorem dX9_years_16 : decode cX9_years 16 = .ok (.if_icmp .lt 23, 3) := by decide +kernel
theorem dX9_years_19 : decode cX9_years 19 = .ok (.iload_n 3, 1) := by decide +kernel
theorem dX9_years_20 : decode cX9_years 20 = .ok (.bipush 20, 2) := by decide +kernel
theorem dX9_years_22 : decode cX9_years 22 = .ok (.if_icmp .gt 17, 3) := by decide +kernel
theorem dX9_years_25 : decode cX9_years 25 = .ok (.aload_n 0, 1) := by decide +kernel
theorem dX9_years_26 : decode cX9_years 26 = .ok (.getfield 48, 3) := by decide +kernel
theorem dX9_years_29 : decode cX9_years 29 = .ok (.getfield 114, 3) := by decide +kernel
theorem dX9_years_32 : decode cX9_years 32 = .ok (.iload_n 1, 1) := by decide +kernel
theorem dX9_years_33 : decode cX9_years 33 = .ok (.invokevirtual 117, 3) := by decide +kernel
theorem dX9_years_36 : decode cX9_years 36 = .ok (.ifCond .ne 6, 3) := by decide +kernel
theorem dX9_years_39 : decode cX9_years 39 = .ok (.ldc 121, 2) := by decide +kernel
theorem dX9_years_41 : decode cX9_years 41 = .ok (.ireturn, 1) := by decide +kernel
theorem dX9_years_42 : decode cX9_years 42 = .ok (.aload_n 0, 1) := by decide +kernel
theorem dX9_years_43 : decode cX9_years 43 = .ok (.getfield 70, 3) := by decide +kernel
theorem dX9_years_46 : decode cX9_years 46 = .ok (.aload_n 0, 1) := by decide +kernel
theorem dX9_years_47 : decode cX9_years 47 = .ok (.getfield 48, 3) := by decide +kernel
theorem dX9_years_50 : decode cX9_years 50 = .ok (.getfield 114, 3) := by decide +kernel
theorem dX9_years_53 : decode cX9_years 53 = .ok (.invokevirtual 279, 3) := by decide +kernel
theorem dX9_years_56 : decode cX9_years 56 = .ok (.iconst 0, 1) := by decide +kernel
theorem dX9_years_57 : decode cX9_years 57 = .ok (.istore 4, 2) := by decide +kernel
theorem dX9_years_59 : decode cX9_years 59 = .ok (.iload 4, 2) := by decide +kernel
theorem dX9_years_61 : decode cX9_years 61 = .ok (.iload_n 3, 1) := by decide +kernel
theorem dX9_years_62 : decode cX9_years 62 = .ok (.if_icmp .ge 14, 3) := by decide +kernel
theorem dX9_years_65 : decode cX9_years 65 = .ok (.aload_n 0, 1) := by decide +kernel
theorem dX9_years_66 : decode cX9_years 66 = .ok (.iload_n 2, 1) := by decide +kernel
theorem dX9_years_67 : decode cX9_years 67 = .ok (.invokevirtual 283, 3) := by decide +kernel
theorem dX9_years_70 : decode cX9_years 70 = .ok (.iinc 4 1, 3) := by decide +kernel
theorem dX9_years_73 : decode cX9_years 73 = .ok (.goto (-14), 3) := by decide +kernel
theorem dX9_years_76 : decode cX9_years 76 = .ok (.aload_n 0, 1) := by decide +kernel
theorem dX9_years_77 : decode cX9_years 77 = .ok (.getfield 70, 3) := by decide +kernel
theorem dX9_years_80 : decode cX9_years 80 = .ok (.getfield 154, 3) := by decide +kernel
theorem dX9_years_83 : decode cX9_years 83 = .ok (.iload_n 1, 1) := by decide +kernel
theorem dX9_years_84 : decode cX9_years 84 = .ok (.iaload, 1) := by decide +kernel
theorem dX9_years_85 : decode cX9_years 85 = .ok (.ireturn, 1) := by decide +kernel
theorem dX9_exit_0 : decode cX9_exit 0 = .ok (.aload_n 0, 1) := by decide +kernel
theorem dX9_exit_1 : decode cX9_exit 1 = .ok (.getfield 48, 3) := by decide +kernel
theorem dX9_exit_4 : decode cX9_exit 4 = .ok (.getfield 114, 3) := by decide +kernel
theorem dX9_exit_7 : decode cX9_exit 7 = .ok (.iload_n 1, 1) := by decide +kernel
theorem dX9_exit_8 : decode cX9_exit 8 = .ok (.invokevirtual 117, 3) := by decide +kernel
theorem dX9_exit_11 : decode cX9_exit 11 = .ok (.ifCond .ne 6, 3) := by decide +kernel
theorem dX9_exit_14 : decode cX9_exit 14 = .ok (.ldc 121, 2) := by decide +kernel
theorem dX9_exit_16 : decode cX9_exit 16 = .ok (.ireturn, 1) := by decide +kernel
theorem dX9_exit_17 : decode cX9_exit 17 = .ok (.aload_n 0, 1) := by decide +kernel
theorem dX9_exit_18 : decode cX9_exit 18 = .ok (.getfield 70, 3) := by decide +kernel
theorem dX9_exit_21 : decode cX9_exit 21 = .ok (.aload_n 0, 1) := by decide +kernel
theorem dX9_exit_22 : decode cX9_exit 22 = .ok (.getfield 48, 3) := by decide +kernel
theorem dX9_exit_25 : decode cX9_exit 25 = .ok (.getfield 114, 3) := by decide +kernel
theorem dX9_exit_28 : decode cX9_exit 28 = .ok (.invokevirtual 279, 3) := by decide +kernel
theorem dX9_exit_31 : decode cX9_exit 31 = .ok (.aload_n 0, 1) := by decide +kernel
theorem dX9_exit_32 : decode cX9_exit 32 = .ok (.iconst 0, 1) := by decide +kernel
theorem dX9_exit_33 : decode cX9_exit 33 = .ok (.invokevirtual 283, 3) := by decide +kernel
theorem dX9_exit_36 : decode cX9_exit 36 = .ok (.aload_n 0, 1) := by decide +kernel
theorem dX9_exit_37 : decode cX9_exit 37 = .ok (.getfield 19, 3) := by decide +kernel
theorem dX9_exit_40 : decode cX9_exit 40 = .ok (.aload_n 0, 1) := by decide +kernel
theorem dX9_exit_41 : decode cX9_exit 41 = .ok (.getfield 70, 3) := by decide +kernel
theorem dX9_exit_44 : decode cX9_exit 44 = .ok (.aload_n 0, 1) := by decide +kernel
theorem dX9_exit_45 : decode cX9_exit 45 = .ok (.getfield 48, 3) := by decide +kernel
theorem dX9_exit_48 : decode cX9_exit 48 = .ok (.getfield 56, 3) := by decide +kernel
theorem dX9_exit_51 : decode cX9_exit 51 = .ok (.aload_n 0, 1) := by decide +kernel
theorem dX9_exit_52 : decode cX9_exit 52 = .ok (.getfield 77, 3) := by decide +kernel
theorem dX9_exit_55 : decode cX9_exit 55 = .ok (.invokevirtual 304, 3) := by decide +kernel
theorem dX9_exit_58 : decode cX9_exit 58 = .ok (.pop, 1) := by decide +kernel
theorem dX9_exit_59 : decode cX9_exit 59 = .ok (.aload_n 0, 1) := by decide +kernel
theorem dX9_exit_60 : decode cX9_exit 60 = .ok (.getfield 70, 3) := by decide +kernel
theorem dX9_exit_63 : decode cX9_exit 63 = .ok (.getfield 154, 3) := by decide +kernel
theorem dX9_exit_66 : decode cX9_exit 66 = .ok (.iload_n 1, 1) := by decide +kernel
theorem dX9_exit_67 : decode cX9_exit 67 = .ok (.iaload, 1) := by decide +kernel
theorem dX9_exit_68 : decode cX9_exit 68 = .ok (.aload_n 0, 1) := by decide +kernel
theorem dX9_exit_69 : decode cX9_exit 69 = .ok (.getfield 70, 3) := by decide +kernel
theorem dX9_exit_72 : decode cX9_exit 72 = .ok (.getfield 170, 3) := by decide +kernel
theorem dX9_exit_75 : decode cX9_exit 75 = .ok (.iload_n 1, 1) := by decide +kernel
theorem dX9_exit_76 : decode cX9_exit 76 = .ok (.iaload, 1) := by decide +kernel
theorem dX9_exit_77 : decode cX9_exit 77 = .ok (.ineg, 1) := by decide +kernel
theorem dX9_exit_78 : decode cX9_exit 78 = .ok (.invokestatic 308, 3) := by decide +kernel
theorem dX9_exit_81 : decode cX9_exit 81 = .ok (.ireturn, 1) := by decide +kernel
theorem dX9_first_0 : decode cX9_first 0 = .ok (.aload_n 0, 1) := by decide +kernel
theorem dX9_first_1 : decode cX9_first 1 = .ok (.getfield 48, 3) := by decide +kernel
theorem dX9_first_4 : decode cX9_first 4 = .ok (.getfield 114, 3) := by decide +kernel
theorem dX9_first_7 : decode cX9_first 7 = .ok (.astore_n 1, 1) := by decide +kernel
theorem dX9_first_8 : decode cX9_first 8 = .ok (.aload_n 0, 1) := by decide +kernel
theorem dX9_first_9 : decode cX9_first 9 = .ok (.getfield 19, 3) := by decide +kernel
theorem dX9_first_12 : decode cX9_first 12 = .ok (.aload_n 1, 1) := by decide +kernel
theorem dX9_first_13 : decode cX9_first 13 = .ok (.getfield 154, 3) := by decide +kernel
theorem dX9_first_16 : decode cX9_first 16 = .ok (.invokestatic 157, 3) := by decide +kernel
theorem dX9_first_19 : decode cX9_first 19 = .ok (.aload_n 1, 1) := by decide +kernel
theorem dX9_first_20 : decode cX9_first 20 = .ok (.invokevirtual 286, 3) := by decide +kernel
theorem dX9_first_23 : decode cX9_first 23 = .ok (.iadd, 1) := by decide +kernel
theorem dX9_first_24 : decode cX9_first 24 = .ok (.aload_n 1, 1) := by decide +kernel
theorem dX9_first_25 : decode cX9_first 25 = .ok (.aload_n 0, 1) := by decide +kernel
theorem dX9_first_26 : decode cX9_first 26 = .ok (.getfield 48, 3) := by decide +kernel
theorem dX9_first_29 : decode cX9_first 29 = .ok (.getfield 56, 3) := by decide +kernel
theorem dX9_first_32 : decode cX9_first 32 = .ok (.invokevirtual 122, 3) := by decide +kernel
theorem dX9_first_35 : decode cX9_first 35 = .ok (.iconst (-1), 1) := by decide +kernel
theorem dX9_first_36 : decode cX9_first 36 = .ok (.istore_n 2, 1) := by decide +kernel
theorem dX9_first_37 : decode cX9_first 37 = .ok (.iconst 0, 1) := by decide +kernel
theorem dX9_first_38 : decode cX9_first 38 = .ok (.istore_n 3, 1) := by decide +kernel
theorem dX9_first_39 : decode cX9_first 39 = .ok (.iload_n 3, 1) := by decide +kernel
theorem dX9_first_40 : decode cX9_first 40 = .ok (.bipush 8, 2) := by decide +kernel
theorem dX9_first_42 : decode cX9_first 42 = .ok (.if_icmp .ge 45, 3) := by decide +kernel
theorem dX9_first_45 : decode cX9_first 45 = .ok (.aload_n 1, 1) := by decide +kernel
theorem dX9_first_46 : decode cX9_first 46 = .ok (.iload_n 3, 1) := by decide +kernel
theorem dX9_first_47 : decode cX9_first 47 = .ok (.invokevirtual 117, 3) := by decide +kernel
theorem dX9_first_50 : decode cX9_first 50 = .ok (.ifCond .eq 31, 3) := by decide +kernel
theorem dX9_first_53 : decode cX9_first 53 = .ok (.iload_n 2, 1) := by decide +kernel
theorem dX9_first_54 : decode cX9_first 54 = .ok (.iconst (-1), 1) := by decide +kernel
theorem dX9_first_55 : decode cX9_first 55 = .ok (.if_icmp .eq 24, 3) := by decide +kernel
theorem dX9_first_58 : decode cX9_first 58 = .ok (.aload_n 0, 1) := by decide +kernel
theorem dX9_first_59 : decode cX9_first 59 = .ok (.getfield 19, 3) := by decide +kernel
theorem dX9_first_62 : decode cX9_first 62 = .ok (.getfield 126, 3) := by decide +kernel
theorem dX9_first_65 : decode cX9_first 65 = .ok (.iload_n 3, 1) := by decide +kernel
theorem dX9_first_66 : decode cX9_first 66 = .ok (.iaload, 1) := by decide +kernel
theorem dX9_first_67 : decode cX9_first 67 = .ok (.aload_n 0, 1) := by decide +kernel
theorem dX9_first_68 : decode cX9_first 68 = .ok (.getfield 19, 3) := by decide +kernel
theorem dX9_first_71 : decode cX9_first 71 = .ok (.getfield 126, 3) := by decide +kernel
theorem dX9_first_74 : decode cX9_first 74 = .ok (.iload_n 2, 1) := by decide +kernel
theorem dX9_first_75 : decode cX9_first 75 = .ok (.iaload, 1) := by decide +kernel
theorem dX9_first_76 : decode cX9_first 76 = .ok (.if_icmp .le 5, 3) := by decide +kernel
theorem dX9_first_79 : decode cX9_first 79 = .ok (.iload_n 3, 1) := by decide +kernel
theorem dX9_first_80 : decode cX9_first 80 = .ok (.istore_n 2, 1) := by decide +kernel
theorem dX9_first_81 : decode cX9_first 81 = .ok (.iinc 3 1, 3) := by decide +kernel
theorem dX9_first_84 : decode cX9_first 84 = .ok (.goto (-45), 3) := by decide +kernel
theorem dX9_first_87 : decode cX9_first 87 = .ok (.iload_n 2, 1) := by decide +kernel
theorem dX9_first_88 : decode cX9_first 88 = .ok (.ireturn, 1) := by decide +kernel
theorem dX9_keep_0 : decode cX9_keep 0 = .ok (.iload_n 1, 1) := by decide +kernel
theorem dX9_keep_1 : decode cX9_keep 1 = .ok (.ifCond .lt 8, 3) := by decide +kernel
theorem dX9_keep_4 : decode cX9_keep 4 = .ok (.iload_n 1, 1) := by decide +kernel
theorem dX9_keep_5 : decode cX9_keep 5 = .ok (.iconst 2, 1) := by decide +kernel
theorem dX9_keep_6 : decode cX9_keep 6 = .ok (.if_icmp .lt 5, 3) := by decide +kernel
theorem dX9_keep_9 : decode cX9_keep 9 = .ok (.iconst 0, 1) := by decide +kernel
theorem dX9_keep_10 : decode cX9_keep 10 = .ok (.ireturn, 1) := by decide +kernel
theorem dX9_keep_11 : decode cX9_keep 11 = .ok (.aload_n 0, 1) := by decide +kernel
theorem dX9_keep_12 : decode cX9_keep 12 = .ok (.getfield 64, 3) := by decide +kernel
theorem dX9_keep_15 : decode cX9_keep 15 = .ok (.iload_n 1, 1) := by decide +kernel
theorem dX9_keep_16 : decode cX9_keep 16 = .ok (.aaload, 1) := by decide +kernel
theorem dX9_keep_17 : decode cX9_keep 17 = .ok (.ifnonnull 30, 3) := by decide +kernel
theorem dX9_keep_20 : decode cX9_keep 20 = .ok (.aload_n 0, 1) := by decide +kernel
theorem dX9_keep_21 : decode cX9_keep 21 = .ok (.getfield 64, 3) := by decide +kernel
theorem dX9_keep_24 : decode cX9_keep 24 = .ok (.iload_n 1, 1) := by decide +kernel
theorem dX9_keep_25 : decode cX9_keep 25 = .ok (.new 37, 3) := by decide +kernel
theorem dX9_keep_28 : decode cX9_keep 28 = .ok (.dup, 1) := by decide +kernel
theorem dX9_keep_29 : decode cX9_keep 29 = .ok (.aload_n 0, 1) := by decide +kernel
theorem dX9_keep_30 : decode cX9_keep 30 = .ok (.getfield 48, 3) := by decide +kernel
theorem dX9_keep_33 : decode cX9_keep 33 = .ok (.getfield 56, 3) := by decide +kernel
theorem dX9_keep_36 : decode cX9_keep 36 = .ok (.aload_n 0, 1) := by decide +kernel
theorem dX9_keep_37 : decode cX9_keep 37 = .ok (.getfield 48, 3) := by decide +kernel
theorem dX9_keep_40 : decode cX9_keep 40 = .ok (.getfield 60, 3) := by decide +kernel
theorem dX9_keep_43 : decode cX9_keep 43 = .ok (.invokespecial 45, 3) := by decide +kernel
theorem dX9_keep_46 : decode cX9_keep 46 = .ok (.aastore, 1) := by decide +kernel
theorem dX9_keep_47 : decode cX9_keep 47 = .ok (.aload_n 0, 1) := by decide +kernel
theorem dX9_keep_48 : decode cX9_keep 48 = .ok (.getfield 64, 3) := by decide +kernel
theorem dX9_keep_51 : decode cX9_keep 51 = .ok (.iload_n 1, 1) := by decide +kernel
theorem dX9_keep_52 : decode cX9_keep 52 = .ok (.aaload, 1) := by decide +kernel
theorem dX9_keep_53 : decode cX9_keep 53 = .ok (.aload_n 0, 1) := by decide +kernel
theorem dX9_keep_54 : decode cX9_keep 54 = .ok (.getfield 48, 3) := by decide +kernel
theorem dX9_keep_57 : decode cX9_keep 57 = .ok (.invokevirtual 294, 3) := by decide +kernel
theorem dX9_keep_60 : decode cX9_keep 60 = .ok (.iconst 1, 1) := by decide +kernel
theorem dX9_keep_61 : decode cX9_keep 61 = .ok (.ireturn, 1) := by decide +kernel
theorem dX9_restore_0 : decode cX9_restore 0 = .ok (.iload_n 1, 1) := by decide +kernel
theorem dX9_restore_1 : decode cX9_restore 1 = .ok (.ifCond .lt 17, 3) := by decide +kernel
theorem dX9_restore_4 : decode cX9_restore 4 = .ok (.iload_n 1, 1) := by decide +kernel
theorem dX9_restore_5 : decode cX9_restore 5 = .ok (.iconst 2, 1) := by decide +kernel
theorem dX9_restore_6 : decode cX9_restore 6 = .ok (.if_icmp .ge 12, 3) := by decide +kernel
theorem dX9_restore_9 : decode cX9_restore 9 = .ok (.aload_n 0, 1) := by decide +kernel
theorem dX9_restore_10 : decode cX9_restore 10 = .ok (.getfield 64, 3) := by decide +kernel
theorem dX9_restore_13 : decode cX9_restore 13 = .ok (.iload_n 1, 1) := by decide +kernel
theorem dX9_restore_14 : decode cX9_restore 14 = .ok (.aaload, 1) := by decide +kernel
theorem dX9_restore_15 : decode cX9_restore 15 = .ok (.ifnonnull 5, 3) := by decide +kernel
theorem dX9_restore_18 : decode cX9_restore 18 = .ok (.iconst 0, 1) := by decide +kernel
theorem dX9_restore_19 : decode cX9_restore 19 = .ok (.ireturn, 1) := by decide +kernel
theorem dX9_restore_20 : decode cX9_restore 20 = .ok (.aload_n 0, 1) := by decide +kernel
theorem dX9_restore_21 : decode cX9_restore 21 = .ok (.invokevirtual 99, 3) := by decide +kernel
theorem dX9_restore_24 : decode cX9_restore 24 = .ok (.aload_n 0, 1) := by decide +kernel
theorem dX9_restore_25 : decode cX9_restore 25 = .ok (.getfield 48, 3) := by decide +kernel
theorem dX9_restore_28 : decode cX9_restore 28 = .ok (.aload_n 0, 1) := by decide +kernel
theorem dX9_restore_29 : decode cX9_restore 29 = .ok (.getfield 64, 3) := by decide +kernel
theorem dX9_restore_32 : decode cX9_restore 32 = .ok (.iload_n 1, 1) := by decide +kernel
theorem dX9_restore_33 : decode cX9_restore 33 = .ok (.aaload, 1) := by decide +kernel
theorem dX9_restore_34 : decode cX9_restore 34 = .ok (.invokevirtual 294, 3) := by decide +kernel
theorem dX9_restore_37 : decode cX9_restore 37 = .ok (.iconst 1, 1) := by decide +kernel
theorem dX9_restore_38 : decode cX9_restore 38 = .ok (.ireturn, 1) := by decide +kernel
theorem dX9_write_0 : decode cX9_write 0 = .ok (.aload_n 0, 1) := by decide +kernel
theorem dX9_write_1 : decode cX9_write 1 = .ok (.getfield 48, 3) := by decide +kernel
theorem dX9_write_4 : decode cX9_write 4 = .ok (.getfield 114, 3) := by decide +kernel
theorem dX9_write_7 : decode cX9_write 7 = .ok (.astore_n 1, 1) := by decide +kernel
theorem dX9_write_8 : decode cX9_write 8 = .ok (.aload_n 0, 1) := by decide +kernel
theorem dX9_write_9 : decode cX9_write 9 = .ok (.getfield 33, 3) := by decide +kernel
theorem dX9_write_12 : decode cX9_write 12 = .ok (.iconst 0, 1) := by decide +kernel
theorem dX9_write_13 : decode cX9_write 13 = .ok (.putfield 314, 3) := by decide +kernel
theorem dX9_write_16 : decode cX9_write 16 = .ok (.iconst 0, 1) := by decide +kernel
theorem dX9_write_17 : decode cX9_write 17 = .ok (.istore_n 2, 1) := by decide +kernel
theorem dX9_write_18 : decode cX9_write 18 = .ok (.iload_n 2, 1) := by decide +kernel
theorem dX9_write_19 : decode cX9_write 19 = .ok (.bipush 8, 2) := by decide +kernel
theorem dX9_write_21 : decode cX9_write 21 = .ok (.if_icmp .ge 104, 3) := by decide +kernel
theorem dX9_write_24 : decode cX9_write 24 = .ok (.aload_n 1, 1) := by decide +kernel
theorem dX9_write_25 : decode cX9_write 25 = .ok (.iload_n 2, 1) := by decide +kernel
theorem dX9_write_26 : decode cX9_write 26 = .ok (.invokevirtual 117, 3) := by decide +kernel
theorem dX9_write_29 : decode cX9_write 29 = .ok (.ifCond .eq 90, 3) := by decide +kernel
theorem dX9_write_32 : decode cX9_write 32 = .ok (.aload_n 0, 1) := by decide +kernel
theorem dX9_write_33 : decode cX9_write 33 = .ok (.getfield 33, 3) := by decide +kernel
theorem dX9_write_36 : decode cX9_write 36 = .ok (.bipush 97, 2) := by decide +kernel
theorem dX9_write_38 : decode cX9_write 38 = .ok (.iload_n 2, 1) := by decide +kernel
theorem dX9_write_39 : decode cX9_write 39 = .ok (.iadd, 1) := by decide +kernel
theorem dX9_write_40 : decode cX9_write 40 = .ok (.i2c, 1) := by decide +kernel
theorem dX9_write_41 : decode cX9_write 41 = .ok (.invokevirtual 315, 3) := by decide +kernel
theorem dX9_write_44 : decode cX9_write 44 = .ok (.aload_n 0, 1) := by decide +kernel
theorem dX9_write_45 : decode cX9_write 45 = .ok (.getfield 33, 3) := by decide +kernel
theorem dX9_write_48 : decode cX9_write 48 = .ok (.bipush 58, 2) := by decide +kernel
theorem dX9_write_50 : decode cX9_write 50 = .ok (.invokevirtual 315, 3) := by decide +kernel
theorem dX9_write_53 : decode cX9_write 53 = .ok (.aload_n 0, 1) := by decide +kernel
theorem dX9_write_54 : decode cX9_write 54 = .ok (.getfield 33, 3) := by decide +kernel
theorem dX9_write_57 : decode cX9_write 57 = .ok (.aload_n 1, 1) := by decide +kernel
theorem dX9_write_58 : decode cX9_write 58 = .ok (.getfield 154, 3) := by decide +kernel
theorem dX9_write_61 : decode cX9_write 61 = .ok (.iload_n 2, 1) := by decide +kernel
theorem dX9_write_62 : decode cX9_write 62 = .ok (.iaload, 1) := by decide +kernel
theorem dX9_write_63 : decode cX9_write 63 = .ok (.invokevirtual 319, 3) := by decide +kernel
theorem dX9_write_66 : decode cX9_write 66 = .ok (.aload_n 0, 1) := by decide +kernel
theorem dX9_write_67 : decode cX9_write 67 = .ok (.getfield 33, 3) := by decide +kernel
theorem dX9_write_70 : decode cX9_write 70 = .ok (.bipush 44, 2) := by decide +kernel
theorem dX9_write_72 : decode cX9_write 72 = .ok (.invokevirtual 315, 3) := by decide +kernel
theorem dX9_write_75 : decode cX9_write 75 = .ok (.aload_n 0, 1) := by decide +kernel
theorem dX9_write_76 : decode cX9_write 76 = .ok (.getfield 33, 3) := by decide +kernel
theorem dX9_write_79 : decode cX9_write 79 = .ok (.aload_n 1, 1) := by decide +kernel
theorem dX9_write_80 : decode cX9_write 80 = .ok (.getfield 161, 3) := by decide +kernel
theorem dX9_write_83 : decode cX9_write 83 = .ok (.iload_n 2, 1) := by decide +kernel
theorem dX9_write_84 : decode cX9_write 84 = .ok (.iaload, 1) := by decide +kernel
theorem dX9_write_85 : decode cX9_write 85 = .ok (.invokevirtual 319, 3) := by decide +kernel
theorem dX9_write_88 : decode cX9_write 88 = .ok (.aload_n 0, 1) := by decide +kernel
theorem dX9_write_89 : decode cX9_write 89 = .ok (.getfield 33, 3) := by decide +kernel
theorem dX9_write_92 : decode cX9_write 92 = .ok (.bipush 44, 2) := by decide +kernel
theorem dX9_write_94 : decode cX9_write 94 = .ok (.invokevirtual 315, 3) := by decide +kernel
theorem dX9_write_97 : decode cX9_write 97 = .ok (.aload_n 0, 1) := by decide +kernel
theorem dX9_write_98 : decode cX9_write 98 = .ok (.getfield 33, 3) := by decide +kernel
theorem dX9_write_101 : decode cX9_write 101 = .ok (.aload_n 1, 1) := by decide +kernel
theorem dX9_write_102 : decode cX9_write 102 = .ok (.getfield 164, 3) := by decide +kernel
theorem dX9_write_105 : decode cX9_write 105 = .ok (.iload_n 2, 1) := by decide +kernel
theorem dX9_write_106 : decode cX9_write 106 = .ok (.iaload, 1) := by decide +kernel
theorem dX9_write_107 : decode cX9_write 107 = .ok (.invokevirtual 319, 3) := by decide +kernel
theorem dX9_write_110 : decode cX9_write 110 = .ok (.aload_n 0, 1) := by decide +kernel
theorem dX9_write_111 : decode cX9_write 111 = .ok (.getfield 33, 3) := by decide +kernel
theorem dX9_write_114 : decode cX9_write 114 = .ok (.bipush 59, 2) := by decide +kernel
theorem dX9_write_116 : decode cX9_write 116 = .ok (.invokevirtual 315, 3) := by decide +kernel
theorem dX9_write_119 : decode cX9_write 119 = .ok (.iinc 2 1, 3) := by decide +kernel
theorem dX9_write_122 : decode cX9_write 122 = .ok (.goto (-104), 3) := by decide +kernel
theorem dX9_write_125 : decode cX9_write 125 = .ok (.aload_n 0, 1) := by decide +kernel
theorem dX9_write_126 : decode cX9_write 126 = .ok (.getfield 33, 3) := by decide +kernel
theorem dX9_write_129 : decode cX9_write 129 = .ok (.bipush 61, 2) := by decide +kernel
theorem dX9_write_131 : decode cX9_write 131 = .ok (.invokevirtual 315, 3) := by decide +kernel
theorem dX9_write_134 : decode cX9_write 134 = .ok (.aload_n 0, 1) := by decide +kernel
theorem dX9_write_135 : decode cX9_write 135 = .ok (.getfield 33, 3) := by decide +kernel
theorem dX9_write_138 : decode cX9_write 138 = .ok (.aload_n 1, 1) := by decide +kernel
theorem dX9_write_139 : decode cX9_write 139 = .ok (.invokevirtual 138, 3) := by decide +kernel
theorem dX9_write_142 : decode cX9_write 142 = .ok (.invokevirtual 319, 3) := by decide +kernel
theorem dX9_write_145 : decode cX9_write 145 = .ok (.aload_n 0, 1) := by decide +kernel
theorem dX9_write_146 : decode cX9_write 146 = .ok (.getfield 33, 3) := by decide +kernel
theorem dX9_write_149 : decode cX9_write 149 = .ok (.bipush 46, 2) := by decide +kernel
theorem dX9_write_151 : decode cX9_write 151 = .ok (.invokevirtual 315, 3) := by decide +kernel
theorem dX9_write_154 : decode cX9_write 154 = .ok (.aload_n 0, 1) := by decide +kernel
theorem dX9_write_155 : decode cX9_write 155 = .ok (.getfield 33, 3) := by decide +kernel
theorem dX9_write_158 : decode cX9_write 158 = .ok (.getfield 314, 3) := by decide +kernel
theorem dX9_write_161 : decode cX9_write 161 = .ok (.ireturn, 1) := by decide +kernel
theorem dX9_octet_0 : decode cX9_octet 0 = .ok (.iload_n 1, 1) := by decide +kernel
theorem dX9_octet_1 : decode cX9_octet 1 = .ok (.ifCond .lt 26, 3) := by decide +kernel
theorem dX9_octet_4 : decode cX9_octet 4 = .ok (.iload_n 1, 1) := by decide +kernel
theorem dX9_octet_5 : decode cX9_octet 5 = .ok (.aload_n 0, 1) := by decide +kernel
theorem dX9_octet_6 : decode cX9_octet 6 = .ok (.getfield 33, 3) := by decide +kernel
theorem dX9_octet_9 : decode cX9_octet 9 = .ok (.getfield 314, 3) := by decide +kernel
theorem dX9_octet_12 : decode cX9_octet 12 = .ok (.if_icmp .ge 15, 3) := by decide +kernel
theorem dX9_octet_15 : decode cX9_octet 15 = .ok (.aload_n 0, 1) := by decide +kernel
theorem dX9_octet_16 : decode cX9_octet 16 = .ok (.getfield 33, 3) := by decide +kernel
theorem dX9_octet_19 : decode cX9_octet 19 = .ok (.getfield 322, 3) := by decide +kernel
theorem dX9_octet_22 : decode cX9_octet 22 = .ok (.iload_n 1, 1) := by decide +kernel
theorem dX9_octet_23 : decode cX9_octet 23 = .ok (.iaload, 1) := by decide +kernel
theorem dX9_octet_24 : decode cX9_octet 24 = .ok (.goto 4, 3) := by decide +kernel
theorem dX9_octet_27 : decode cX9_octet 27 = .ok (.iconst (-1), 1) := by decide +kernel
theorem dX9_octet_28 : decode cX9_octet 28 = .ok (.ireturn, 1) := by decide +kernel
theorem dX9_begins_0 : decode cX9_begins 0 = .ok (.aload_n 0, 1) := by decide +kernel
theorem dX9_begins_1 : decode cX9_begins 1 = .ok (.iload_n 1, 1) := by decide +kernel
theorem dX9_begins_2 : decode cX9_begins 2 = .ok (.iload_n 2, 1) := by decide +kernel
theorem dX9_begins_3 : decode cX9_begins 3 = .ok (.iload_n 3, 1) := by decide +kernel
theorem dX9_begins_4 : decode cX9_begins 4 = .ok (.invokevirtual 325, 3) := by decide +kernel
theorem dX9_begins_7 : decode cX9_begins 7 = .ok (.ifCond .ne 5, 3) := by decide +kernel
theorem dX9_begins_10 : decode cX9_begins 10 = .ok (.iconst 0, 1) := by decide +kernel
theorem dX9_begins_11 : decode cX9_begins 11 = .ok (.ireturn, 1) := by decide +kernel
theorem dX9_begins_12 : decode cX9_begins 12 = .ok (.aload_n 0, 1) := by decide +kernel
theorem dX9_begins_13 : decode cX9_begins 13 = .ok (.invokevirtual 99, 3) := by decide +kernel
theorem dX9_begins_16 : decode cX9_begins 16 = .ok (.iconst 1, 1) := by decide +kernel
theorem dX9_begins_17 : decode cX9_begins 17 = .ok (.ireturn, 1) := by decide +kernel
theorem dX9_isAllowed_0 : decode cX9_isAllowed 0 = .ok (.aload_n 0, 1) := by decide +kernel
theorem dX9_isAllowed_1 : decode cX9_isAllowed 1 = .ok (.getfield 48, 3) := by decide +kernel
theorem dX9_isAllowed_4 : decode cX9_isAllowed 4 = .ok (.getfield 114, 3) := by decide +kernel
theorem dX9_isAllowed_7 : decode cX9_isAllowed 7 = .ok (.astore 4, 2) := by decide +kernel
theorem dX9_isAllowed_9 : decode cX9_isAllowed 9 = .ok (.iload_n 1, 1) := by decide +kernel
theorem dX9_isAllowed_10 : decode cX9_isAllowed 10 = .ok (.tableswitch 377 0 12 #[66, 80, 100, 131, 166, 197, 219, 219, 245, 285, 319, 345, 370], 66) := by decide +kernel
theorem dX9_isAllowed_76 : decode cX9_isAllowed 76 = .ok (.aload 4, 2) := by decide +kernel
theorem dX9_isAllowed_78 : decode cX9_isAllowed 78 = .ok (.getfield 148, 3) := by decide +kernel
theorem dX9_isAllowed_81 : decode cX9_isAllowed 81 = .ok (.ifCond .eq 7, 3) := by decide +kernel
theorem dX9_isAllowed_84 : decode cX9_isAllowed 84 = .ok (.iconst 1, 1) := by decide +kernel
theorem dX9_isAllowed_85 : decode cX9_isAllowed 85 = .ok (.goto 4, 3) := by decide +kernel
theorem dX9_isAllowed_88 : decode cX9_isAllowed 88 = .ok (.iconst 0, 1) := by decide +kernel
theorem dX9_isAllowed_89 : decode cX9_isAllowed 89 = .ok (.ireturn, 1) := by decide +kernel
theorem dX9_isAllowed_90 : decode cX9_isAllowed 90 = .ok (.iload_n 3, 1) := by decide +kernel
theorem dX9_isAllowed_91 : decode cX9_isAllowed 91 = .ok (.ldc_w 289, 3) := by decide +kernel
theorem dX9_isAllowed_94 : decode cX9_isAllowed 94 = .ok (.if_icmp .lt 14, 3) := by decide +kernel
theorem dX9_isAllowed_97 : decode cX9_isAllowed 97 = .ok (.iload_n 3, 1) := by decide +kernel
theorem dX9_isAllowed_98 : decode cX9_isAllowed 98 = .ok (.ldc_w 290, 3) := by decide +kernel
theorem dX9_isAllowed_101 : decode cX9_isAllowed 101 = .ok (.if_icmp .gt 7, 3) := by decide +kernel
theorem dX9_isAllowed_104 : decode cX9_isAllowed 104 = .ok (.iconst 1, 1) := by decide +kernel
theorem dX9_isAllowed_105 : decode cX9_isAllowed 105 = .ok (.goto 4, 3) := by decide +kernel
theorem dX9_isAllowed_108 : decode cX9_isAllowed 108 = .ok (.iconst 0, 1) := by decide +kernel
theorem dX9_isAllowed_109 : decode cX9_isAllowed 109 = .ok (.ireturn, 1) := by decide +kernel
theorem dX9_isAllowed_110 : decode cX9_isAllowed 110 = .ok (.aload 4, 2) := by decide +kernel
theorem dX9_isAllowed_112 : decode cX9_isAllowed 112 = .ok (.iload_n 2, 1) := by decide +kernel
theorem dX9_isAllowed_113 : decode cX9_isAllowed 113 = .ok (.invokevirtual 187, 3) := by decide +kernel
theorem dX9_isAllowed_116 : decode cX9_isAllowed 116 = .ok (.ifCond .eq 23, 3) := by decide +kernel
theorem dX9_isAllowed_119 : decode cX9_isAllowed 119 = .ok (.iload_n 3, 1) := by decide +kernel
theorem dX9_isAllowed_120 : decode cX9_isAllowed 120 = .ok (.iconst 1, 1) := by decide +kernel
theorem dX9_isAllowed_121 : decode cX9_isAllowed 121 = .ok (.if_icmp .lt 18, 3) := by decide +kernel
theorem dX9_isAllowed_124 : decode cX9_isAllowed 124 = .ok (.iload_n 3, 1) := by decide +kernel
theorem dX9_isAllowed_125 : decode cX9_isAllowed 125 = .ok (.aload 4, 2) := by decide +kernel
theorem dX9_isAllowed_127 : decode cX9_isAllowed 127 = .ok (.getfield 190, 3) := by decide +kernel
theorem dX9_isAllowed_130 : decode cX9_isAllowed 130 = .ok (.iload_n 2, 1) := by decide +kernel
theorem dX9_isAllowed_131 : decode cX9_isAllowed 131 = .ok (.iaload, 1) := by decide +kernel
theorem dX9_isAllowed_132 : decode cX9_isAllowed 132 = .ok (.if_icmp .gt 7, 3) := by decide +kernel
theorem dX9_isAllowed_135 : decode cX9_isAllowed 135 = .ok (.iconst 1, 1) := by decide +kernel
theorem dX9_isAllowed_136 : decode cX9_isAllowed 136 = .ok (.goto 4, 3) := by decide +kernel
theorem dX9_isAllowed_139 : decode cX9_isAllowed 139 = .ok (.iconst 0, 1) := by decide +kernel
theorem dX9_isAllowed_140 : decode cX9_isAllowed 140 = .ok (.ireturn, 1) := by decide +kernel
theorem dX9_isAllowed_141 : decode cX9_isAllowed 141 = .ok (.aload 4, 2) := by decide +kernel
theorem dX9_isAllowed_143 : decode cX9_isAllowed 143 = .ok (.iload_n 2, 1) := by decide +kernel
theorem dX9_isAllowed_144 : decode cX9_isAllowed 144 = .ok (.invokevirtual 187, 3) := by decide +kernel
theorem dX9_isAllowed_147 : decode cX9_isAllowed 147 = .ok (.ifCond .eq 27, 3) := by decide +kernel
theorem dX9_isAllowed_150 : decode cX9_isAllowed 150 = .ok (.iload_n 3, 1) := by decide +kernel
theorem dX9_isAllowed_151 : decode cX9_isAllowed 151 = .ok (.iconst 1, 1) := by decide +kernel
theorem dX9_isAllowed_152 : decode cX9_isAllowed 152 = .ok (.if_icmp .lt 22, 3) := by decide +kernel
theorem dX9_isAllowed_155 : decode cX9_isAllowed 155 = .ok (.iload_n 3, 1) := by decide +kernel
theorem dX9_isAllowed_156 : decode cX9_isAllowed 156 = .ok (.ldc_w 290, 3) := by decide +kernel
theorem dX9_isAllowed_159 : decode cX9_isAllowed 159 = .ok (.aload 4, 2) := by decide +kernel
theorem dX9_isAllowed_161 : decode cX9_isAllowed 161 = .ok (.getfield 196, 3) := by decide +kernel
theorem dX9_isAllowed_164 : decode cX9_isAllowed 164 = .ok (.iload_n 2, 1) := by decide +kernel
theorem dX9_isAllowed_165 : decode cX9_isAllowed 165 = .ok (.iaload, 1) := by decide +kernel
theorem dX9_isAllowed_166 : decode cX9_isAllowed 166 = .ok (.isub, 1) := by decide +kernel
theorem dX9_isAllowed_167 : decode cX9_isAllowed 167 = .ok (.if_icmp .gt 7, 3) := by decide +kernel
theorem dX9_isAllowed_170 : decode cX9_isAllowed 170 = .ok (.iconst 1, 1) := by decide +kernel
theorem dX9_isAllowed_171 : decode cX9_isAllowed 171 = .ok (.goto 4, 3) := by decide +kernel
theorem dX9_isAllowed_174 : decode cX9_isAllowed 174 = .ok (.iconst 0, 1) := by decide +kernel
theorem dX9_isAllowed_175 : decode cX9_isAllowed 175 = .ok (.ireturn, 1) := by decide +kernel
theorem dX9_isAllowed_176 : decode cX9_isAllowed 176 = .ok (.aload 4, 2) := by decide +kernel
theorem dX9_isAllowed_178 : decode cX9_isAllowed 178 = .ok (.iload_n 2, 1) := by decide +kernel
theorem dX9_isAllowed_179 : decode cX9_isAllowed 179 = .ok (.invokevirtual 187, 3) := by decide +kernel
theorem dX9_isAllowed_182 : decode cX9_isAllowed 182 = .ok (.ifCond .eq 23, 3) := by decide +kernel
theorem dX9_isAllowed_185 : decode cX9_isAllowed 185 = .ok (.iload_n 3, 1) := by decide +kernel
theorem dX9_isAllowed_186 : decode cX9_isAllowed 186 = .ok (.iconst 1, 1) := by decide +kernel
theorem dX9_isAllowed_187 : decode cX9_isAllowed 187 = .ok (.if_icmp .lt 18, 3) := by decide +kernel
theorem dX9_isAllowed_190 : decode cX9_isAllowed 190 = .ok (.iload_n 3, 1) := by decide +kernel
theorem dX9_isAllowed_191 : decode cX9_isAllowed 191 = .ok (.aload 4, 2) := by decide +kernel
theorem dX9_isAllowed_193 : decode cX9_isAllowed 193 = .ok (.getfield 196, 3) := by decide +kernel
theorem dX9_isAllowed_196 : decode cX9_isAllowed 196 = .ok (.iload_n 2, 1) := by decide +kernel
theorem dX9_isAllowed_197 : decode cX9_isAllowed 197 = .ok (.iaload, 1) := by decide +kernel
theorem dX9_isAllowed_198 : decode cX9_isAllowed 198 = .ok (.if_icmp .gt 7, 3) := by decide +kernel
theorem dX9_isAllowed_201 : decode cX9_isAllowed 201 = .ok (.iconst 1, 1) := by decide +kernel
theorem dX9_isAllowed_202 : decode cX9_isAllowed 202 = .ok (.goto 4, 3) := by decide +kernel
theorem dX9_isAllowed_205 : decode cX9_isAllowed 205 = .ok (.iconst 0, 1) := by decide +kernel
theorem dX9_isAllowed_206 : decode cX9_isAllowed 206 = .ok (.ireturn, 1) := by decide +kernel
theorem dX9_isAllowed_207 : decode cX9_isAllowed 207 = .ok (.aload 4, 2) := by decide +kernel
theorem dX9_isAllowed_209 : decode cX9_isAllowed 209 = .ok (.iload_n 2, 1) := by decide +kernel
theorem dX9_isAllowed_210 : decode cX9_isAllowed 210 = .ok (.invokevirtual 187, 3) := by decide +kernel
theorem dX9_isAllowed_213 : decode cX9_isAllowed 213 = .ok (.ifCond .eq 14, 3) := by decide +kernel
theorem dX9_isAllowed_216 : decode cX9_isAllowed 216 = .ok (.iload_n 3, 1) := by decide +kernel
theorem dX9_isAllowed_217 : decode cX9_isAllowed 217 = .ok (.invokestatic 210, 3) := by decide +kernel
theorem dX9_isAllowed_220 : decode cX9_isAllowed 220 = .ok (.ifCond .eq 7, 3) := by decide +kernel
theorem dX9_isAllowed_223 : decode cX9_isAllowed 223 = .ok (.iconst 1, 1) := by decide +kernel
theorem dX9_isAllowed_224 : decode cX9_isAllowed 224 = .ok (.goto 4, 3) := by decide +kernel
theorem dX9_isAllowed_227 : decode cX9_isAllowed 227 = .ok (.iconst 0, 1) := by decide +kernel
theorem dX9_isAllowed_228 : decode cX9_isAllowed 228 = .ok (.ireturn, 1) := by decide +kernel
theorem dX9_isAllowed_229 : decode cX9_isAllowed 229 = .ok (.aload 4, 2) := by decide +kernel
theorem dX9_isAllowed_231 : decode cX9_isAllowed 231 = .ok (.iload_n 2, 1) := by decide +kernel
theorem dX9_isAllowed_232 : decode cX9_isAllowed 232 = .ok (.invokevirtual 117, 3) := by decide +kernel
theorem dX9_isAllowed_235 : decode cX9_isAllowed 235 = .ok (.ifCond .eq 18, 3) := by decide +kernel
theorem dX9_isAllowed_238 : decode cX9_isAllowed 238 = .ok (.iload_n 3, 1) := by decide +kernel
theorem dX9_isAllowed_239 : decode cX9_isAllowed 239 = .ok (.ifCond .eq 14, 3) := by decide +kernel
theorem dX9_isAllowed_242 : decode cX9_isAllowed 242 = .ok (.iload_n 3, 1) := by decide +kernel
theorem dX9_isAllowed_243 : decode cX9_isAllowed 243 = .ok (.invokestatic 210, 3) := by decide +kernel
theorem dX9_isAllowed_246 : decode cX9_isAllowed 246 = .ok (.ifCond .eq 7, 3) := by decide +kernel
theorem dX9_isAllowed_249 : decode cX9_isAllowed 249 = .ok (.iconst 1, 1) := by decide +kernel
theorem dX9_isAllowed_250 : decode cX9_isAllowed 250 = .ok (.goto 4, 3) := by decide +kernel
theorem dX9_isAllowed_253 : decode cX9_isAllowed 253 = .ok (.iconst 0, 1) := by decide +kernel
theorem dX9_isAllowed_254 : decode cX9_isAllowed 254 = .ok (.ireturn, 1) := by decide +kernel
theorem dX9_isAllowed_255 : decode cX9_isAllowed 255 = .ok (.iload_n 2, 1) := by decide +kernel
theorem dX9_isAllowed_256 : decode cX9_isAllowed 256 = .ok (.ifCond .lt 37, 3) := by decide +kernel
theorem dX9_isAllowed_259 : decode cX9_isAllowed 259 = .ok (.iload_n 2, 1) := by decide +kernel
theorem dX9_isAllowed_260 : decode cX9_isAllowed 260 = .ok (.bipush 8, 2) := by decide +kernel
theorem dX9_isAllowed_262 : decode cX9_isAllowed 262 = .ok (.if_icmp .ge 31, 3) := by decide +kernel
theorem dX9_isAllowed_265 : decode cX9_isAllowed 265 = .ok (.aload 4, 2) := by decide +kernel
theorem dX9_isAllowed_267 : decode cX9_isAllowed 267 = .ok (.iload_n 2, 1) := by decide +kernel
theorem dX9_isAllowed_268 : decode cX9_isAllowed 268 = .ok (.invokevirtual 117, 3) := by decide +kernel
theorem dX9_isAllowed_271 : decode cX9_isAllowed 271 = .ok (.ifCond .ne 22, 3) := by decide +kernel
theorem dX9_isAllowed_274 : decode cX9_isAllowed 274 = .ok (.iload_n 3, 1) := by decide +kernel
theorem dX9_isAllowed_275 : decode cX9_isAllowed 275 = .ok (.invokestatic 210, 3) := by decide +kernel
theorem dX9_isAllowed_278 : decode cX9_isAllowed 278 = .ok (.ifCond .eq 15, 3) := by decide +kernel
theorem dX9_isAllowed_281 : decode cX9_isAllowed 281 = .ok (.aload 4, 2) := by decide +kernel
theorem dX9_isAllowed_283 : decode cX9_isAllowed 283 = .ok (.getfield 132, 3) := by decide +kernel
theorem dX9_isAllowed_286 : decode cX9_isAllowed 286 = .ok (.ifCond .ne 7, 3) := by decide +kernel
theorem dX9_isAllowed_289 : decode cX9_isAllowed 289 = .ok (.iconst 1, 1) := by decide +kernel
theorem dX9_isAllowed_290 : decode cX9_isAllowed 290 = .ok (.goto 4, 3) := by decide +kernel
theorem dX9_isAllowed_293 : decode cX9_isAllowed 293 = .ok (.iconst 0, 1) := by decide +kernel
theorem dX9_isAllowed_294 : decode cX9_isAllowed 294 = .ok (.ireturn, 1) := by decide +kernel
theorem dX9_isAllowed_295 : decode cX9_isAllowed 295 = .ok (.aload 4, 2) := by decide +kernel
theorem dX9_isAllowed_297 : decode cX9_isAllowed 297 = .ok (.iload_n 2, 1) := by decide +kernel
theorem dX9_isAllowed_298 : decode cX9_isAllowed 298 = .ok (.invokevirtual 117, 3) := by decide +kernel
theorem dX9_isAllowed_301 : decode cX9_isAllowed 301 = .ok (.ifCond .eq 26, 3) := by decide +kernel
theorem dX9_isAllowed_304 : decode cX9_isAllowed 304 = .ok (.aload 4, 2) := by decide +kernel
theorem dX9_isAllowed_306 : decode cX9_isAllowed 306 = .ok (.getfield 148, 3) := by decide +kernel
theorem dX9_isAllowed_309 : decode cX9_isAllowed 309 = .ok (.iconst 1, 1) := by decide +kernel
theorem dX9_isAllowed_310 : decode cX9_isAllowed 310 = .ok (.iload_n 2, 1) := by decide +kernel
theorem dX9_isAllowed_311 : decode cX9_isAllowed 311 = .ok (.ishl, 1) := by decide +kernel
theorem dX9_isAllowed_312 : decode cX9_isAllowed 312 = .ok (.if_icmp .eq 15, 3) := by decide +kernel
theorem dX9_isAllowed_315 : decode cX9_isAllowed 315 = .ok (.aload 4, 2) := by decide +kernel
theorem dX9_isAllowed_317 : decode cX9_isAllowed 317 = .ok (.getfield 132, 3) := by decide +kernel
theorem dX9_isAllowed_320 : decode cX9_isAllowed 320 = .ok (.ifCond .ne 7, 3) := by decide +kernel
theorem dX9_isAllowed_323 : decode cX9_isAllowed 323 = .ok (.iconst 1, 1) := by decide +kernel
theorem dX9_isAllowed_324 : decode cX9_isAllowed 324 = .ok (.goto 4, 3) := by decide +kernel
theorem dX9_isAllowed_327 : decode cX9_isAllowed 327 = .ok (.iconst 0, 1) := by decide +kernel
theorem dX9_isAllowed_328 : decode cX9_isAllowed 328 = .ok (.ireturn, 1) := by decide +kernel
theorem dX9_isAllowed_329 : decode cX9_isAllowed 329 = .ok (.aload 4, 2) := by decide +kernel
theorem dX9_isAllowed_331 : decode cX9_isAllowed 331 = .ok (.iload_n 2, 1) := by decide +kernel
theorem dX9_isAllowed_332 : decode cX9_isAllowed 332 = .ok (.invokevirtual 117, 3) := by decide +kernel
theorem dX9_isAllowed_335 : decode cX9_isAllowed 335 = .ok (.ifCond .eq 18, 3) := by decide +kernel
theorem dX9_isAllowed_338 : decode cX9_isAllowed 338 = .ok (.iload_n 3, 1) := by decide +kernel
theorem dX9_isAllowed_339 : decode cX9_isAllowed 339 = .ok (.ifCond .lt 14, 3) := by decide +kernel
theorem dX9_isAllowed_342 : decode cX9_isAllowed 342 = .ok (.iload_n 3, 1) := by decide +kernel
theorem dX9_isAllowed_343 : decode cX9_isAllowed 343 = .ok (.ldc_w 328, 3) := by decide +kernel
theorem dX9_isAllowed_346 : decode cX9_isAllowed 346 = .ok (.if_icmp .gt 7, 3) := by decide +kernel
theorem dX9_isAllowed_349 : decode cX9_isAllowed 349 = .ok (.iconst 1, 1) := by decide +kernel
theorem dX9_isAllowed_350 : decode cX9_isAllowed 350 = .ok (.goto 4, 3) := by decide +kernel
theorem dX9_isAllowed_353 : decode cX9_isAllowed 353 = .ok (.iconst 0, 1) := by decide +kernel
theorem dX9_isAllowed_354 : decode cX9_isAllowed 354 = .ok (.ireturn, 1) := by decide +kernel
theorem dX9_isAllowed_355 : decode cX9_isAllowed 355 = .ok (.aload 4, 2) := by decide +kernel
theorem dX9_isAllowed_357 : decode cX9_isAllowed 357 = .ok (.iload_n 2, 1) := by decide +kernel
theorem dX9_isAllowed_358 : decode cX9_isAllowed 358 = .ok (.invokevirtual 117, 3) := by decide +kernel
theorem dX9_isAllowed_361 : decode cX9_isAllowed 361 = .ok (.ifCond .eq 17, 3) := by decide +kernel
theorem dX9_isAllowed_364 : decode cX9_isAllowed 364 = .ok (.iload_n 3, 1) := by decide +kernel
theorem dX9_isAllowed_365 : decode cX9_isAllowed 365 = .ok (.ifCond .lt 13, 3) := by decide +kernel
theorem dX9_isAllowed_368 : decode cX9_isAllowed 368 = .ok (.iload_n 3, 1) := by decide +kernel
theorem dX9_isAllowed_369 : decode cX9_isAllowed 369 = .ok (.bipush 99, 2) := by decide +kernel
theorem dX9_isAllowed_371 : decode cX9_isAllowed 371 = .ok (.if_icmp .gt 7, 3) := by decide +kernel
theorem dX9_isAllowed_374 : decode cX9_isAllowed 374 = .ok (.iconst 1, 1) := by decide +kernel
theorem dX9_isAllowed_375 : decode cX9_isAllowed 375 = .ok (.goto 4, 3) := by decide +kernel
theorem dX9_isAllowed_378 : decode cX9_isAllowed 378 = .ok (.iconst 0, 1) := by decide +kernel
theorem dX9_isAllowed_379 : decode cX9_isAllowed 379 = .ok (.ireturn, 1) := by decide +kernel
theorem dX9_isAllowed_380 : decode cX9_isAllowed 380 = .ok (.aload 4, 2) := by decide +kernel
theorem dX9_isAllowed_382 : decode cX9_isAllowed 382 = .ok (.iload_n 2, 1) := by decide +kernel
theorem dX9_isAllowed_383 : decode cX9_isAllowed 383 = .ok (.invokevirtual 187, 3) := by decide +kernel
theorem dX9_isAllowed_386 : decode cX9_isAllowed 386 = .ok (.ireturn, 1) := by decide +kernel
theorem dX9_isAllowed_387 : decode cX9_isAllowed 387 = .ok (.iconst 0, 1) := by decide +kernel
theorem dX9_isAllowed_388 : decode cX9_isAllowed 388 = .ok (.ireturn, 1) := by decide +kernel
theorem dX9_perform_0 : decode cX9_perform 0 = .ok (.aload_n 0, 1) := by decide +kernel
theorem dX9_perform_1 : decode cX9_perform 1 = .ok (.getfield 48, 3) := by decide +kernel
theorem dX9_perform_4 : decode cX9_perform 4 = .ok (.getfield 114, 3) := by decide +kernel
theorem dX9_perform_7 : decode cX9_perform 7 = .ok (.astore 4, 2) := by decide +kernel
theorem dX9_perform_9 : decode cX9_perform 9 = .ok (.iload_n 1, 1) := by decide +kernel
theorem dX9_perform_10 : decode cX9_perform 10 = .ok (.tableswitch 252 0 12 #[66, 97, 104, 112, 120, 129, 140, 148, 157, 188, 223, 234, 245], 66) := by decide +kernel
theorem dX9_perform_76 : decode cX9_perform 76 = .ok (.aload_n 0, 1) := by decide +kernel
theorem dX9_perform_77 : decode cX9_perform 77 = .ok (.getfield 19, 3) := by decide +kernel
theorem dX9_perform_80 : decode cX9_perform 80 = .ok (.aload 4, 2) := by decide +kernel
theorem dX9_perform_82 : decode cX9_perform 82 = .ok (.aload_n 0, 1) := by decide +kernel
theorem dX9_perform_83 : decode cX9_perform 83 = .ok (.getfield 48, 3) := by decide +kernel
theorem dX9_perform_86 : decode cX9_perform 86 = .ok (.getfield 56, 3) := by decide +kernel
theorem dX9_perform_89 : decode cX9_perform 89 = .ok (.aload_n 0, 1) := by decide +kernel
theorem dX9_perform_90 : decode cX9_perform 90 = .ok (.getfield 48, 3) := by decide +kernel
theorem dX9_perform_93 : decode cX9_perform 93 = .ok (.getfield 60, 3) := by decide +kernel
theorem dX9_perform_96 : decode cX9_perform 96 = .ok (.aload_n 0, 1) := by decide +kernel
theorem dX9_perform_97 : decode cX9_perform 97 = .ok (.getfield 48, 3) := by decide +kernel
theorem dX9_perform_100 : decode cX9_perform 100 = .ok (.getfield 217, 3) := by decide +kernel
theorem dX9_perform_103 : decode cX9_perform 103 = .ok (.invokevirtual 329, 3) := by decide +kernel
theorem dX9_perform_106 : decode cX9_perform 106 = .ok (.ireturn, 1) := by decide +kernel
theorem dX9_perform_107 : decode cX9_perform 107 = .ok (.aload 4, 2) := by decide +kernel
theorem dX9_perform_109 : decode cX9_perform 109 = .ok (.iload_n 3, 1) := by decide +kernel
theorem dX9_perform_110 : decode cX9_perform 110 = .ok (.invokevirtual 333, 3) := by decide +kernel
theorem dX9_perform_113 : decode cX9_perform 113 = .ok (.ireturn, 1) := by decide +kernel
theorem dX9_perform_114 : decode cX9_perform 114 = .ok (.aload 4, 2) := by decide +kernel
theorem dX9_perform_116 : decode cX9_perform 116 = .ok (.iload_n 2, 1) := by decide +kernel
theorem dX9_perform_117 : decode cX9_perform 117 = .ok (.iload_n 3, 1) := by decide +kernel
theorem dX9_perform_118 : decode cX9_perform 118 = .ok (.invokevirtual 336, 3) := by decide +kernel
theorem dX9_perform_121 : decode cX9_perform 121 = .ok (.ireturn, 1) := by decide +kernel
theorem dX9_perform_122 : decode cX9_perform 122 = .ok (.aload 4, 2) := by decide +kernel
theorem dX9_perform_124 : decode cX9_perform 124 = .ok (.iload_n 2, 1) := by decide +kernel
theorem dX9_perform_125 : decode cX9_perform 125 = .ok (.iload_n 3, 1) := by decide +kernel
theorem dX9_perform_126 : decode cX9_perform 126 = .ok (.invokevirtual 339, 3) := by decide +kernel
theorem dX9_perform_129 : decode cX9_perform 129 = .ok (.ireturn, 1) := by decide +kernel
theorem dX9_perform_130 : decode cX9_perform 130 = .ok (.aload 4, 2) := by decide +kernel
theorem dX9_perform_132 : decode cX9_perform 132 = .ok (.iload_n 2, 1) := by decide +kernel
theorem dX9_perform_133 : decode cX9_perform 133 = .ok (.iload_n 3, 1) := by decide +kernel
theorem dX9_perform_134 : decode cX9_perform 134 = .ok (.ineg, 1) := by decide +kernel
theorem dX9_perform_135 : decode cX9_perform 135 = .ok (.invokevirtual 339, 3) := by decide +kernel
theorem dX9_perform_138 : decode cX9_perform 138 = .ok (.ireturn, 1) := by decide +kernel
theorem dX9_perform_139 : decode cX9_perform 139 = .ok (.aload 4, 2) := by decide +kernel
theorem dX9_perform_141 : decode cX9_perform 141 = .ok (.getfield 193, 3) := by decide +kernel
theorem dX9_perform_144 : decode cX9_perform 144 = .ok (.iload_n 2, 1) := by decide +kernel
theorem dX9_perform_145 : decode cX9_perform 145 = .ok (.iload_n 3, 1) := by decide +kernel
theorem dX9_perform_146 : decode cX9_perform 146 = .ok (.invokestatic 342, 3) := by decide +kernel
theorem dX9_perform_149 : decode cX9_perform 149 = .ok (.ireturn, 1) := by decide +kernel
theorem dX9_perform_150 : decode cX9_perform 150 = .ok (.aload 4, 2) := by decide +kernel
