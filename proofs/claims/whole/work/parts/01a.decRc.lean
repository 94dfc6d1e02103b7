theorem dX10_pay_15 : decode cX10_pay 15 = .ok (.ifCond .eq 12, 3) := by decide +kernel
theorem dX10_pay_18 : decode cX10_pay 18 = .ok (.aload_n 0, 1) := by decide +kernel
theorem dX10_pay_19 : decode cX10_pay 19 = .ok (.iload_n 1, 1) := by decide +kernel
theorem dX10_pay_20 : decode cX10_pay 20 = .ok (.iload_n 2, 1) := by decide +kernel
theorem dX10_pay_21 : decode cX10_pay 21 = .ok (.invokevirtual 364, 3) := by decide +kernel
theorem dX10_pay_24 : decode cX10_pay 24 = .ok (.goto 9, 3) := by decide +kernel
theorem dX10_pay_27 : decode cX10_pay 27 = .ok (.aload_n 0, 1) := by decide +kernel
theorem dX10_pay_28 : decode cX10_pay 28 = .ok (.ldc 214, 2) := by decide +kernel
theorem dX10_pay_30 : decode cX10_pay 30 = .ok (.invokevirtual 298, 3) := by decide +kernel
theorem dX10_pay_33 : decode cX10_pay 33 = .ok (.ireturn, 1) := by decide +kernel
theorem dX10_draw_0 : decode cX10_draw 0 = .ok (.aload_n 0, 1) := by decide +kernel
theorem dX10_draw_1 : decode cX10_draw 1 = .ok (.iload_n 1, 1) := by decide +kernel
theorem dX10_draw_2 : decode cX10_draw 2 = .ok (.invokevirtual 203, 3) := by decide +kernel
theorem dX10_draw_5 : decode cX10_draw 5 = .ok (.ifCond .eq 23, 3) := by decide +kernel
theorem dX10_draw_8 : decode cX10_draw 8 = .ok (.iload_n 2, 1) := by decide +kernel
theorem dX10_draw_9 : decode cX10_draw 9 = .ok (.iconst 1, 1) := by decide +kernel
theorem dX10_draw_10 : decode cX10_draw 10 = .ok (.ldc 146, 2) := by decide +kernel
theorem dX10_draw_12 : decode cX10_draw 12 = .ok (.invokestatic 81, 3) := by decide +kernel
theorem dX10_draw_15 : decode cX10_draw 15 = .ok (.ifCond .eq 13, 3) := by decide +kernel
theorem dX10_draw_18 : decode cX10_draw 18 = .ok (.aload_n 0, 1) := by decide +kernel
theorem dX10_draw_19 : decode cX10_draw 19 = .ok (.iload_n 1, 1) := by decide +kernel
theorem dX10_draw_20 : decode cX10_draw 20 = .ok (.iload_n 2, 1) := by decide +kernel
theorem dX10_draw_21 : decode cX10_draw 21 = .ok (.ineg, 1) := by decide +kernel
theorem dX10_draw_22 : decode cX10_draw 22 = .ok (.invokevirtual 364, 3) := by decide +kernel
theorem dX10_draw_25 : decode cX10_draw 25 = .ok (.goto 9, 3) := by decide +kernel
theorem dX10_draw_28 : decode cX10_draw 28 = .ok (.aload_n 0, 1) := by decide +kernel
theorem dX10_draw_29 : decode cX10_draw 29 = .ok (.ldc 214, 2) := by decide +kernel
theorem dX10_draw_31 : decode cX10_draw 31 = .ok (.invokevirtual 298, 3) := by decide +kernel
theorem dX10_draw_34 : decode cX10_draw 34 = .ok (.ireturn, 1) := by decide +kernel
theorem dX10_buy_0 : decode cX10_buy 0 = .ok (.iload_n 1, 1) := by decide +kernel
theorem dX10_buy_1 : decode cX10_buy 1 = .ok (.iconst 0, 1) := by decide +kernel
theorem dX10_buy_2 : decode cX10_buy 2 = .ok (.ldc 146, 2) := by decide +kernel
theorem dX10_buy_4 : decode cX10_buy 4 = .ok (.invokestatic 81, 3) := by decide +kernel
theorem dX10_buy_7 : decode cX10_buy 7 = .ok (.ifCond .eq 23, 3) := by decide +kernel
theorem dX10_buy_10 : decode cX10_buy 10 = .ok (.iload_n 2, 1) := by decide +kernel
theorem dX10_buy_11 : decode cX10_buy 11 = .ok (.iconst 0, 1) := by decide +kernel
theorem dX10_buy_12 : decode cX10_buy 12 = .ok (.ldc 146, 2) := by decide +kernel
theorem dX10_buy_14 : decode cX10_buy 14 = .ok (.invokestatic 81, 3) := by decide +kernel
theorem dX10_buy_17 : decode cX10_buy 17 = .ok (.ifCond .eq 13, 3) := by decide +kernel
theorem dX10_buy_20 : decode cX10_buy 20 = .ok (.iload_n 3, 1) := by decide +kernel
theorem dX10_buy_21 : decode cX10_buy 21 = .ok (.iconst 0, 1) := by decide +kernel
theorem dX10_buy_22 : decode cX10_buy 22 = .ok (.ldc 146, 2) := by decide +kernel
theorem dX10_buy_24 : decode cX10_buy 24 = .ok (.invokestatic 81, 3) := by decide +kernel
theorem dX10_buy_27 : decode cX10_buy 27 = .ok (.ifCond .ne 5, 3) := by decide +kernel
theorem dX10_buy_30 : decode cX10_buy 30 = .ok (.iconst (-1), 1) := by decide +kernel
theorem dX10_buy_31 : decode cX10_buy 31 = .ok (.ireturn, 1) := by decide +kernel
theorem dX10_buy_32 : decode cX10_buy 32 = .ok (.iconst 0, 1) := by decide +kernel
theorem dX10_buy_33 : decode cX10_buy 33 = .ok (.istore 4, 2) := by decide +kernel
theorem dX10_buy_35 : decode cX10_buy 35 = .ok (.iload 4, 2) := by decide +kernel
theorem dX10_buy_37 : decode cX10_buy 37 = .ok (.bipush 8, 2) := by decide +kernel
theorem dX10_buy_39 : decode cX10_buy 39 = .ok (.if_icmp .ge 18, 3) := by decide +kernel
theorem dX10_buy_42 : decode cX10_buy 42 = .ok (.aload_n 0, 1) := by decide +kernel
theorem dX10_buy_43 : decode cX10_buy 43 = .ok (.iload 4, 2) := by decide +kernel
theorem dX10_buy_45 : decode cX10_buy 45 = .ok (.invokevirtual 221, 3) := by decide +kernel
theorem dX10_buy_48 : decode cX10_buy 48 = .ok (.ifCond .eq 9, 3) := by decide +kernel
theorem dX10_buy_51 : decode cX10_buy 51 = .ok (.iinc 4 1, 3) := by decide +kernel
theorem dX10_buy_54 : decode cX10_buy 54 = .ok (.goto (-19), 3) := by decide +kernel
theorem dX10_buy_57 : decode cX10_buy 57 = .ok (.iload 4, 2) := by decide +kernel
theorem dX10_buy_59 : decode cX10_buy 59 = .ok (.bipush 8, 2) := by decide +kernel
theorem dX10_buy_61 : decode cX10_buy 61 = .ok (.if_icmp .ne 5, 3) := by decide +kernel
theorem dX10_buy_64 : decode cX10_buy 64 = .ok (.iconst (-1), 1) := by decide +kernel
theorem dX10_buy_65 : decode cX10_buy 65 = .ok (.ireturn, 1) := by decide +kernel
theorem dX10_buy_66 : decode cX10_buy 66 = .ok (.aload_n 0, 1) := by decide +kernel
theorem dX10_buy_67 : decode cX10_buy 67 = .ok (.invokevirtual 85, 3) := by decide +kernel
theorem dX10_buy_70 : decode cX10_buy 70 = .ok (.iload 4, 2) := by decide +kernel
theorem dX10_buy_72 : decode cX10_buy 72 = .ok (.invokestatic 218, 3) := by decide +kernel
theorem dX10_buy_75 : decode cX10_buy 75 = .ok (.istore 5, 2) := by decide +kernel
theorem dX10_buy_77 : decode cX10_buy 77 = .ok (.aload_n 0, 1) := by decide +kernel
theorem dX10_buy_78 : decode cX10_buy 78 = .ok (.iload 5, 2) := by decide +kernel
theorem dX10_buy_80 : decode cX10_buy 80 = .ok (.iconst 1, 1) := by decide +kernel
theorem dX10_buy_81 : decode cX10_buy 81 = .ok (.invokevirtual 71, 3) := by decide +kernel
theorem dX10_buy_84 : decode cX10_buy 84 = .ok (.aload_n 0, 1) := by decide +kernel
theorem dX10_buy_85 : decode cX10_buy 85 = .ok (.iload 5, 2) := by decide +kernel
theorem dX10_buy_87 : decode cX10_buy 87 = .ok (.iconst 1, 1) := by decide +kernel
theorem dX10_buy_88 : decode cX10_buy 88 = .ok (.iadd, 1) := by decide +kernel
theorem dX10_buy_89 : decode cX10_buy 89 = .ok (.iload_n 1, 1) := by decide +kernel
theorem dX10_buy_90 : decode cX10_buy 90 = .ok (.invokevirtual 71, 3) := by decide +kernel
theorem dX10_buy_93 : decode cX10_buy 93 = .ok (.aload_n 0, 1) := by decide +kernel
theorem dX10_buy_94 : decode cX10_buy 94 = .ok (.iload 5, 2) := by decide +kernel
theorem dX10_buy_96 : decode cX10_buy 96 = .ok (.iconst 2, 1) := by decide +kernel
theorem dX10_buy_97 : decode cX10_buy 97 = .ok (.iadd, 1) := by decide +kernel
theorem dX10_buy_98 : decode cX10_buy 98 = .ok (.iload_n 2, 1) := by decide +kernel
theorem dX10_buy_99 : decode cX10_buy 99 = .ok (.invokevirtual 71, 3) := by decide +kernel
theorem dX10_buy_102 : decode cX10_buy 102 = .ok (.aload_n 0, 1) := by decide +kernel
theorem dX10_buy_103 : decode cX10_buy 103 = .ok (.iload 5, 2) := by decide +kernel
theorem dX10_buy_105 : decode cX10_buy 105 = .ok (.iconst 3, 1) := by decide +kernel
theorem dX10_buy_106 : decode cX10_buy 106 = .ok (.iadd, 1) := by decide +kernel
theorem dX10_buy_107 : decode cX10_buy 107 = .ok (.iload_n 3, 1) := by decide +kernel
theorem dX10_buy_108 : decode cX10_buy 108 = .ok (.invokevirtual 71, 3) := by decide +kernel
theorem dX10_buy_111 : decode cX10_buy 111 = .ok (.aload_n 0, 1) := by decide +kernel
theorem dX10_buy_112 : decode cX10_buy 112 = .ok (.iconst 3, 1) := by decide +kernel
theorem dX10_buy_113 : decode cX10_buy 113 = .ok (.iload_n 3, 1) := by decide +kernel
theorem dX10_buy_114 : decode cX10_buy 114 = .ok (.iload_n 1, 1) := by decide +kernel
theorem dX10_buy_115 : decode cX10_buy 115 = .ok (.isub, 1) := by decide +kernel
theorem dX10_buy_116 : decode cX10_buy 116 = .ok (.invokevirtual 246, 3) := by decide +kernel
theorem dX10_buy_119 : decode cX10_buy 119 = .ok (.iload 4, 2) := by decide +kernel
theorem dX10_buy_121 : decode cX10_buy 121 = .ok (.ireturn, 1) := by decide +kernel
theorem dX10_sell_0 : decode cX10_sell 0 = .ok (.aload_n 0, 1) := by decide +kernel
theorem dX10_sell_1 : decode cX10_sell 1 = .ok (.iload_n 1, 1) := by decide +kernel
theorem dX10_sell_2 : decode cX10_sell 2 = .ok (.invokevirtual 221, 3) := by decide +kernel
theorem dX10_sell_5 : decode cX10_sell 5 = .ok (.ifCond .ne 6, 3) := by decide +kernel
theorem dX10_sell_8 : decode cX10_sell 8 = .ok (.ldc 214, 2) := by decide +kernel
theorem dX10_sell_10 : decode cX10_sell 10 = .ok (.ireturn, 1) := by decide +kernel
theorem dX10_sell_11 : decode cX10_sell 11 = .ok (.aload_n 0, 1) := by decide +kernel
theorem dX10_sell_12 : decode cX10_sell 12 = .ok (.invokevirtual 85, 3) := by decide +kernel
theorem dX10_sell_15 : decode cX10_sell 15 = .ok (.iload_n 1, 1) := by decide +kernel
theorem dX10_sell_16 : decode cX10_sell 16 = .ok (.invokestatic 218, 3) := by decide +kernel
theorem dX10_sell_19 : decode cX10_sell 19 = .ok (.istore_n 2, 1) := by decide +kernel
theorem dX10_sell_20 : decode cX10_sell 20 = .ok (.aload_n 0, 1) := by decide +kernel
theorem dX10_sell_21 : decode cX10_sell 21 = .ok (.iconst 3, 1) := by decide +kernel
theorem dX10_sell_22 : decode cX10_sell 22 = .ok (.aload_n 0, 1) := by decide +kernel
theorem dX10_sell_23 : decode cX10_sell 23 = .ok (.iload_n 2, 1) := by decide +kernel
theorem dX10_sell_24 : decode cX10_sell 24 = .ok (.iconst 2, 1) := by decide +kernel
theorem dX10_sell_25 : decode cX10_sell 25 = .ok (.iadd, 1) := by decide +kernel
theorem dX10_sell_26 : decode cX10_sell 26 = .ok (.invokevirtual 193, 3) := by decide +kernel
theorem dX10_sell_29 : decode cX10_sell 29 = .ok (.aload_n 0, 1) := by decide +kernel
theorem dX10_sell_30 : decode cX10_sell 30 = .ok (.iload_n 2, 1) := by decide +kernel
theorem dX10_sell_31 : decode cX10_sell 31 = .ok (.iconst 3, 1) := by decide +kernel
theorem dX10_sell_32 : decode cX10_sell 32 = .ok (.iadd, 1) := by decide +kernel
theorem dX10_sell_33 : decode cX10_sell 33 = .ok (.invokevirtual 193, 3) := by decide +kernel
theorem dX10_sell_36 : decode cX10_sell 36 = .ok (.isub, 1) := by decide +kernel
theorem dX10_sell_37 : decode cX10_sell 37 = .ok (.invokevirtual 246, 3) := by decide +kernel
theorem dX10_sell_40 : decode cX10_sell 40 = .ok (.aload_n 0, 1) := by decide +kernel
theorem dX10_sell_41 : decode cX10_sell 41 = .ok (.iconst 2, 1) := by decide +kernel
theorem dX10_sell_42 : decode cX10_sell 42 = .ok (.aload_n 0, 1) := by decide +kernel
theorem dX10_sell_43 : decode cX10_sell 43 = .ok (.iload_n 2, 1) := by decide +kernel
theorem dX10_sell_44 : decode cX10_sell 44 = .ok (.iconst 2, 1) := by decide +kernel
theorem dX10_sell_45 : decode cX10_sell 45 = .ok (.iadd, 1) := by decide +kernel
theorem dX10_sell_46 : decode cX10_sell 46 = .ok (.invokevirtual 193, 3) := by decide +kernel
theorem dX10_sell_49 : decode cX10_sell 49 = .ok (.aload_n 0, 1) := by decide +kernel
theorem dX10_sell_50 : decode cX10_sell 50 = .ok (.iload_n 2, 1) := by decide +kernel
theorem dX10_sell_51 : decode cX10_sell 51 = .ok (.iconst 1, 1) := by decide +kernel
theorem dX10_sell_52 : decode cX10_sell 52 = .ok (.iadd, 1) := by decide +kernel
theorem dX10_sell_53 : decode cX10_sell 53 = .ok (.invokevirtual 193, 3) := by decide +kernel
theorem dX10_sell_56 : decode cX10_sell 56 = .ok (.isub, 1) := by decide +kernel
theorem dX10_sell_57 : decode cX10_sell 57 = .ok (.invokevirtual 246, 3) := by decide +kernel
theorem dX10_sell_60 : decode cX10_sell 60 = .ok (.iconst 0, 1) := by decide +kernel
theorem dX10_sell_61 : decode cX10_sell 61 = .ok (.istore_n 3, 1) := by decide +kernel
theorem dX10_sell_62 : decode cX10_sell 62 = .ok (.iload_n 3, 1) := by decide +kernel
theorem dX10_sell_63 : decode cX10_sell 63 = .ok (.iconst 4, 1) := by decide +kernel
theorem dX10_sell_64 : decode cX10_sell 64 = .ok (.if_icmp .ge 17, 3) := by decide +kernel
theorem dX10_sell_67 : decode cX10_sell 67 = .ok (.aload_n 0, 1) := by decide +kernel
theorem dX10_sell_68 : decode cX10_sell 68 = .ok (.iload_n 2, 1) := by decide +kernel
theorem dX10_sell_69 : decode cX10_sell 69 = .ok (.iload_n 3, 1) := by decide +kernel
theorem dX10_sell_70 : decode cX10_sell 70 = .ok (.iadd, 1) := by decide +kernel
theorem dX10_sell_71 : decode cX10_sell 71 = .ok (.iconst 0, 1) := by decide +kernel
theorem dX10_sell_72 : decode cX10_sell 72 = .ok (.invokevirtual 71, 3) := by decide +kernel
theorem dX10_sell_75 : decode cX10_sell 75 = .ok (.iinc 3 1, 3) := by decide +kernel
theorem dX10_sell_78 : decode cX10_sell 78 = .ok (.goto (-16), 3) := by decide +kernel
theorem dX10_sell_81 : decode cX10_sell 81 = .ok (.aload_n 0, 1) := by decide +kernel
theorem dX10_sell_82 : decode cX10_sell 82 = .ok (.iconst 2, 1) := by decide +kernel
theorem dX10_sell_83 : decode cX10_sell 83 = .ok (.invokevirtual 193, 3) := by decide +kernel
theorem dX10_sell_86 : decode cX10_sell 86 = .ok (.ireturn, 1) := by decide +kernel
theorem dX10_asset_0 : decode cX10_asset 0 = .ok (.aload_n 0, 1) := by decide +kernel
theorem dX10_asset_1 : decode cX10_asset 1 = .ok (.iload_n 1, 1) := by decide +kernel
theorem dX10_asset_2 : decode cX10_asset 2 = .ok (.invokevirtual 221, 3) := by decide +kernel
theorem dX10_asset_5 : decode cX10_asset 5 = .ok (.ifCond .eq 27, 3) := by decide +kernel
theorem dX10_asset_8 : decode cX10_asset 8 = .ok (.iload_n 2, 1) := by decide +kernel
theorem dX10_asset_9 : decode cX10_asset 9 = .ok (.iconst 0, 1) := by decide +kernel
theorem dX10_asset_10 : decode cX10_asset 10 = .ok (.iconst 2, 1) := by decide +kernel
theorem dX10_asset_11 : decode cX10_asset 11 = .ok (.invokestatic 81, 3) := by decide +kernel
theorem dX10_asset_14 : decode cX10_asset 14 = .ok (.ifCond .eq 18, 3) := by decide +kernel
theorem dX10_asset_17 : decode cX10_asset 17 = .ok (.aload_n 0, 1) := by decide +kernel
theorem dX10_asset_18 : decode cX10_asset 18 = .ok (.iload_n 1, 1) := by decide +kernel
theorem dX10_asset_19 : decode cX10_asset 19 = .ok (.invokestatic 218, 3) := by decide +kernel
theorem dX10_asset_22 : decode cX10_asset 22 = .ok (.iconst 1, 1) := by decide +kernel
theorem dX10_asset_23 : decode cX10_asset 23 = .ok (.iadd, 1) := by decide +kernel
theorem dX10_asset_24 : decode cX10_asset 24 = .ok (.iload_n 2, 1) := by decide +kernel
theorem dX10_asset_25 : decode cX10_asset 25 = .ok (.iadd, 1) := by decide +kernel
theorem dX10_asset_26 : decode cX10_asset 26 = .ok (.invokevirtual 193, 3) := by decide +kernel
theorem dX10_asset_29 : decode cX10_asset 29 = .ok (.goto 4, 3) := by decide +kernel
theorem dX10_asset_32 : decode cX10_asset 32 = .ok (.iconst (-1), 1) := by decide +kernel
theorem dX10_asset_33 : decode cX10_asset 33 = .ok (.ireturn, 1) := by decide +kernel
theorem dX10_market_0 : decode cX10_market 0 = .ok (.aload_n 0, 1) := by decide +kernel
theorem dX10_market_1 : decode cX10_market 1 = .ok (.iload_n 1, 1) := by decide +kernel
theorem dX10_market_2 : decode cX10_market 2 = .ok (.invokevirtual 221, 3) := by decide +kernel
theorem dX10_market_5 : decode cX10_market 5 = .ok (.ifCond .eq 31, 3) := by decide +kernel
theorem dX10_market_8 : decode cX10_market 8 = .ok (.iload_n 2, 1) := by decide +kernel
theorem dX10_market_9 : decode cX10_market 9 = .ok (.iconst 0, 1) := by decide +kernel
theorem dX10_market_10 : decode cX10_market 10 = .ok (.ldc 146, 2) := by decide +kernel
theorem dX10_market_12 : decode cX10_market 12 = .ok (.invokestatic 81, 3) := by decide +kernel
theorem dX10_market_15 : decode cX10_market 15 = .ok (.ifCond .eq 21, 3) := by decide +kernel
theorem dX10_market_18 : decode cX10_market 18 = .ok (.aload_n 0, 1) := by decide +kernel
theorem dX10_market_19 : decode cX10_market 19 = .ok (.aload_n 0, 1) := by decide +kernel
theorem dX10_market_20 : decode cX10_market 20 = .ok (.iload_n 1, 1) := by decide +kernel
theorem dX10_market_21 : decode cX10_market 21 = .ok (.invokestatic 218, 3) := by decide +kernel
theorem dX10_market_24 : decode cX10_market 24 = .ok (.iconst 2, 1) := by decide +kernel
theorem dX10_market_25 : decode cX10_market 25 = .ok (.iadd, 1) := by decide +kernel
theorem dX10_market_26 : decode cX10_market 26 = .ok (.iload_n 2, 1) := by decide +kernel
theorem dX10_market_27 : decode cX10_market 27 = .ok (.invokevirtual 361, 3) := by decide +kernel
theorem dX10_market_30 : decode cX10_market 30 = .ok (.invokevirtual 304, 3) := by decide +kernel
theorem dX10_market_33 : decode cX10_market 33 = .ok (.goto 8, 3) := by decide +kernel
theorem dX10_market_36 : decode cX10_market 36 = .ok (.aload_n 0, 1) := by decide +kernel
theorem dX10_market_37 : decode cX10_market 37 = .ok (.iconst (-1), 1) := by decide +kernel
theorem dX10_market_38 : decode cX10_market 38 = .ok (.invokevirtual 298, 3) := by decide +kernel
theorem dX10_market_41 : decode cX10_market 41 = .ok (.ireturn, 1) := by decide +kernel
theorem dX10_lose_0 : decode cX10_lose 0 = .ok (.aload_n 0, 1) := by decide +kernel
theorem dX10_lose_1 : decode cX10_lose 1 = .ok (.iload_n 1, 1) := by decide +kernel
theorem dX10_lose_2 : decode cX10_lose 2 = .ok (.invokevirtual 221, 3) := by decide +kernel
theorem dX10_lose_5 : decode cX10_lose 5 = .ok (.ifCond .eq 21, 3) := by decide +kernel
theorem dX10_lose_8 : decode cX10_lose 8 = .ok (.iload_n 2, 1) := by decide +kernel
theorem dX10_lose_9 : decode cX10_lose 9 = .ok (.iconst 1, 1) := by decide +kernel
theorem dX10_lose_10 : decode cX10_lose 10 = .ok (.aload_n 0, 1) := by decide +kernel
theorem dX10_lose_11 : decode cX10_lose 11 = .ok (.iload_n 1, 1) := by decide +kernel
theorem dX10_lose_12 : decode cX10_lose 12 = .ok (.invokestatic 218, 3) := by decide +kernel
theorem dX10_lose_15 : decode cX10_lose 15 = .ok (.iconst 1, 1) := by decide +kernel
theorem dX10_lose_16 : decode cX10_lose 16 = .ok (.iadd, 1) := by decide +kernel
theorem dX10_lose_17 : decode cX10_lose 17 = .ok (.invokevirtual 193, 3) := by decide +kernel
theorem dX10_lose_20 : decode cX10_lose 20 = .ok (.invokestatic 81, 3) := by decide +kernel
theorem dX10_lose_23 : decode cX10_lose 23 = .ok (.ifCond .ne 9, 3) := by decide +kernel
theorem dX10_lose_26 : decode cX10_lose 26 = .ok (.aload_n 0, 1) := by decide +kernel
theorem dX10_lose_27 : decode cX10_lose 27 = .ok (.iconst (-1), 1) := by decide +kernel
theorem dX10_lose_28 : decode cX10_lose 28 = .ok (.invokevirtual 298, 3) := by decide +kernel
theorem dX10_lose_31 : decode cX10_lose 31 = .ok (.ireturn, 1) := by decide +kernel
theorem dX10_lose_32 : decode cX10_lose 32 = .ok (.aload_n 0, 1) := by decide +kernel
theorem dX10_lose_33 : decode cX10_lose 33 = .ok (.invokevirtual 85, 3) := by decide +kernel
theorem dX10_lose_36 : decode cX10_lose 36 = .ok (.aload_n 0, 1) := by decide +kernel
theorem dX10_lose_37 : decode cX10_lose 37 = .ok (.iload_n 1, 1) := by decide +kernel
theorem dX10_lose_38 : decode cX10_lose 38 = .ok (.invokestatic 218, 3) := by decide +kernel
theorem dX10_lose_41 : decode cX10_lose 41 = .ok (.iconst 1, 1) := by decide +kernel
theorem dX10_lose_42 : decode cX10_lose 42 = .ok (.iadd, 1) := by decide +kernel
theorem dX10_lose_43 : decode cX10_lose 43 = .ok (.iload_n 2, 1) := by decide +kernel
theorem dX10_lose_44 : decode cX10_lose 44 = .ok (.ineg, 1) := by decide +kernel
theorem dX10_lose_45 : decode cX10_lose 45 = .ok (.invokevirtual 246, 3) := by decide +kernel
theorem dX10_lose_48 : decode cX10_lose 48 = .ok (.aload_n 0, 1) := by decide +kernel
theorem dX10_lose_49 : decode cX10_lose 49 = .ok (.iconst 2, 1) := by decide +kernel
theorem dX10_lose_50 : decode cX10_lose 50 = .ok (.iload_n 2, 1) := by decide +kernel
theorem dX10_lose_51 : decode cX10_lose 51 = .ok (.ineg, 1) := by decide +kernel
theorem dX10_lose_52 : decode cX10_lose 52 = .ok (.invokevirtual 246, 3) := by decide +kernel
theorem dX10_lose_55 : decode cX10_lose 55 = .ok (.aload_n 0, 1) := by decide +kernel
theorem dX10_lose_56 : decode cX10_lose 56 = .ok (.aload_n 0, 1) := by decide +kernel
theorem dX10_lose_57 : decode cX10_lose 57 = .ok (.iload_n 1, 1) := by decide +kernel
theorem dX10_lose_58 : decode cX10_lose 58 = .ok (.invokestatic 218, 3) := by decide +kernel
theorem dX10_lose_61 : decode cX10_lose 61 = .ok (.iconst 1, 1) := by decide +kernel
theorem dX10_lose_62 : decode cX10_lose 62 = .ok (.iadd, 1) := by decide +kernel
theorem dX10_lose_63 : decode cX10_lose 63 = .ok (.invokevirtual 193, 3) := by decide +kernel
theorem dX10_lose_66 : decode cX10_lose 66 = .ok (.invokevirtual 304, 3) := by decide +kernel
theorem dX10_lose_69 : decode cX10_lose 69 = .ok (.ireturn, 1) := by decide +kernel
theorem dX10_owes_0 : decode cX10_owes 0 = .ok (.aload_n 0, 1) := by decide +kernel
theorem dX10_owes_1 : decode cX10_owes 1 = .ok (.invokevirtual 85, 3) := by decide +kernel
theorem dX10_owes_4 : decode cX10_owes 4 = .ok (.aload_n 0, 1) := by decide +kernel
theorem dX10_owes_5 : decode cX10_owes 5 = .ok (.iload_n 1, 1) := by decide +kernel
theorem dX10_owes_6 : decode cX10_owes 6 = .ok (.invokestatic 218, 3) := by decide +kernel
theorem dX10_owes_9 : decode cX10_owes 9 = .ok (.iconst 3, 1) := by decide +kernel
theorem dX10_owes_10 : decode cX10_owes 10 = .ok (.iadd, 1) := by decide +kernel
theorem dX10_owes_11 : decode cX10_owes 11 = .ok (.iload_n 2, 1) := by decide +kernel
theorem dX10_owes_12 : decode cX10_owes 12 = .ok (.invokevirtual 246, 3) := by decide +kernel
theorem dX10_owes_15 : decode cX10_owes 15 = .ok (.aload_n 0, 1) := by decide +kernel
theorem dX10_owes_16 : decode cX10_owes 16 = .ok (.iconst 3, 1) := by decide +kernel
theorem dX10_owes_17 : decode cX10_owes 17 = .ok (.iload_n 2, 1) := by decide +kernel
theorem dX10_owes_18 : decode cX10_owes 18 = .ok (.invokevirtual 246, 3) := by decide +kernel
theorem dX10_owes_21 : decode cX10_owes 21 = .ok (.aload_n 0, 1) := by decide +kernel
theorem dX10_owes_22 : decode cX10_owes 22 = .ok (.aload_n 0, 1) := by decide +kernel
theorem dX10_owes_23 : decode cX10_owes 23 = .ok (.iload_n 1, 1) := by decide +kernel
theorem dX10_owes_24 : decode cX10_owes 24 = .ok (.invokestatic 218, 3) := by decide +kernel
theorem dX10_owes_27 : decode cX10_owes 27 = .ok (.iconst 3, 1) := by decide +kernel
theorem dX10_owes_28 : decode cX10_owes 28 = .ok (.iadd, 1) := by decide +kernel
theorem dX10_owes_29 : decode cX10_owes 29 = .ok (.invokevirtual 193, 3) := by decide +kernel
theorem dX10_owes_32 : decode cX10_owes 32 = .ok (.invokevirtual 304, 3) := by decide +kernel
theorem dX10_owes_35 : decode cX10_owes 35 = .ok (.ireturn, 1) := by decide +kernel
theorem dX10_borrow_0 : decode cX10_borrow 0 = .ok (.aload_n 0, 1) := by decide +kernel
theorem dX10_borrow_1 : decode cX10_borrow 1 = .ok (.iload_n 1, 1) := by decide +kernel
theorem dX10_borrow_2 : decode cX10_borrow 2 = .ok (.invokevirtual 221, 3) := by decide +kernel
theorem dX10_borrow_5 : decode cX10_borrow 5 = .ok (.ifCond .eq 33, 3) := by decide +kernel
theorem dX10_borrow_8 : decode cX10_borrow 8 = .ok (.iload_n 2, 1) := by decide +kernel
theorem dX10_borrow_9 : decode cX10_borrow 9 = .ok (.iconst 1, 1) := by decide +kernel
theorem dX10_borrow_10 : decode cX10_borrow 10 = .ok (.ldc 146, 2) := by decide +kernel
theorem dX10_borrow_12 : decode cX10_borrow 12 = .ok (.aload_n 0, 1) := by decide +kernel
theorem dX10_borrow_13 : decode cX10_borrow 13 = .ok (.iload_n 1, 1) := by decide +kernel
theorem dX10_borrow_14 : decode cX10_borrow 14 = .ok (.invokestatic 218, 3) := by decide +kernel
theorem dX10_borrow_17 : decode cX10_borrow 17 = .ok (.iconst 3, 1) := by decide +kernel
theorem dX10_borrow_18 : decode cX10_borrow 18 = .ok (.iadd, 1) := by decide +kernel
theorem dX10_borrow_19 : decode cX10_borrow 19 = .ok (.invokevirtual 193, 3) := by decide +kernel
theorem dX10_borrow_22 : decode cX10_borrow 22 = .ok (.isub, 1) := by decide +kernel
theorem dX10_borrow_23 : decode cX10_borrow 23 = .ok (.invokestatic 81, 3) := by decide +kernel
theorem dX10_borrow_26 : decode cX10_borrow 26 = .ok (.ifCond .eq 12, 3) := by decide +kernel
theorem dX10_borrow_29 : decode cX10_borrow 29 = .ok (.aload_n 0, 1) := by decide +kernel
theorem dX10_borrow_30 : decode cX10_borrow 30 = .ok (.iload_n 1, 1) := by decide +kernel
theorem dX10_borrow_31 : decode cX10_borrow 31 = .ok (.iload_n 2, 1) := by decide +kernel
theorem dX10_borrow_32 : decode cX10_borrow 32 = .ok (.invokevirtual 367, 3) := by decide +kernel
theorem dX10_borrow_35 : decode cX10_borrow 35 = .ok (.goto 8, 3) := by decide +kernel
theorem dX10_borrow_38 : decode cX10_borrow 38 = .ok (.aload_n 0, 1) := by decide +kernel
theorem dX10_borrow_39 : decode cX10_borrow 39 = .ok (.iconst (-1), 1) := by decide +kernel
theorem dX10_borrow_40 : decode cX10_borrow 40 = .ok (.invokevirtual 298, 3) := by decide +kernel
theorem dX10_borrow_43 : decode cX10_borrow 43 = .ok (.ireturn, 1) := by decide +kernel
theorem dX10_repay_0 : decode cX10_repay 0 = .ok (.aload_n 0, 1) := by decide +kernel
theorem dX10_repay_1 : decode cX10_repay 1 = .ok (.iload_n 1, 1) := by decide +kernel
theorem dX10_repay_2 : decode cX10_repay 2 = .ok (.invokevirtual 221, 3) := by decide +kernel
theorem dX10_repay_5 : decode cX10_repay 5 = .ok (.ifCond .eq 31, 3) := by decide +kernel
theorem dX10_repay_8 : decode cX10_repay 8 = .ok (.iload_n 2, 1) := by decide +kernel
theorem dX10_repay_9 : decode cX10_repay 9 = .ok (.iconst 1, 1) := by decide +kernel
theorem dX10_repay_10 : decode cX10_repay 10 = .ok (.aload_n 0, 1) := by decide +kernel
theorem dX10_repay_11 : decode cX10_repay 11 = .ok (.iload_n 1, 1) := by decide +kernel
theorem dX10_repay_12 : decode cX10_repay 12 = .ok (.invokestatic 218, 3) := by decide +kernel
theorem dX10_repay_15 : decode cX10_repay 15 = .ok (.iconst 3, 1) := by decide +kernel
theorem dX10_repay_16 : decode cX10_repay 16 = .ok (.iadd, 1) := by decide +kernel
theorem dX10_repay_17 : decode cX10_repay 17 = .ok (.invokevirtual 193, 3) := by decide +kernel
theorem dX10_repay_20 : decode cX10_repay 20 = .ok (.invokestatic 81, 3) := by decide +kernel
theorem dX10_repay_23 : decode cX10_repay 23 = .ok (.ifCond .eq 13, 3) := by decide +kernel
theorem dX10_repay_26 : decode cX10_repay 26 = .ok (.aload_n 0, 1) := by decide +kernel
theorem dX10_repay_27 : decode cX10_repay 27 = .ok (.iload_n 1, 1) := by decide +kernel
theorem dX10_repay_28 : decode cX10_repay 28 = .ok (.iload_n 2, 1) := by decide +kernel
theorem dX10_repay_29 : decode cX10_repay 29 = .ok (.ineg, 1) := by decide +kernel
theorem dX10_repay_30 : decode cX10_repay 30 = .ok (.invokevirtual 367, 3) := by decide +kernel
theorem dX10_repay_33 : decode cX10_repay 33 = .ok (.goto 8, 3) := by decide +kernel
theorem dX10_repay_36 : decode cX10_repay 36 = .ok (.aload_n 0, 1) := by decide +kernel
theorem dX10_repay_37 : decode cX10_repay 37 = .ok (.iconst (-1), 1) := by decide +kernel
theorem dX10_repay_38 : decode cX10_repay 38 = .ok (.invokevirtual 298, 3) := by decide +kernel
theorem dX10_repay_41 : decode cX10_repay 41 = .ok (.ireturn, 1) := by decide +kernel
theorem dX10_earned_0 : decode cX10_earned 0 = .ok (.aload_n 0, 1) := by decide +kernel
theorem dX10_earned_1 : decode cX10_earned 1 = .ok (.iconst 2, 1) := by decide +kernel
theorem dX10_earned_2 : decode cX10_earned 2 = .ok (.iload_n 1, 1) := by decide +kernel
theorem dX10_earned_3 : decode cX10_earned 3 = .ok (.invokevirtual 246, 3) := by decide +kernel
theorem dX10_earned_6 : decode cX10_earned 6 = .ok (.aload_n 0, 1) := by decide +kernel
theorem dX10_earned_7 : decode cX10_earned 7 = .ok (.iconst 3, 1) := by decide +kernel
theorem dX10_earned_8 : decode cX10_earned 8 = .ok (.iload_n 1, 1) := by decide +kernel
theorem dX10_earned_9 : decode cX10_earned 9 = .ok (.invokevirtual 246, 3) := by decide +kernel
theorem dX10_earned_12 : decode cX10_earned 12 = .ok (.return_, 1) := by decide +kernel
theorem dX10_earn_0 : decode cX10_earn 0 = .ok (.iload_n 1, 1) := by decide +kernel
theorem dX10_earn_1 : decode cX10_earn 1 = .ok (.ldc_w 370, 3) := by decide +kernel
theorem dX10_earn_4 : decode cX10_earn 4 = .ok (.ldc 146, 2) := by decide +kernel
theorem dX10_earn_6 : decode cX10_earn 6 = .ok (.invokestatic 81, 3) := by decide +kernel
theorem dX10_earn_9 : decode cX10_earn 9 = .ok (.ifCond .ne 10, 3) := by decide +kernel
theorem dX10_earn_12 : decode cX10_earn 12 = .ok (.aload_n 0, 1) := by decide +kernel
theorem dX10_earn_13 : decode cX10_earn 13 = .ok (.ldc 214, 2) := by decide +kernel
theorem dX10_earn_15 : decode cX10_earn 15 = .ok (.invokevirtual 298, 3) := by decide +kernel
theorem dX10_earn_18 : decode cX10_earn 18 = .ok (.ireturn, 1) := by decide +kernel
theorem dX10_earn_19 : decode cX10_earn 19 = .ok (.aload_n 0, 1) := by decide +kernel
theorem dX10_earn_20 : decode cX10_earn 20 = .ok (.invokevirtual 85, 3) := by decide +kernel
theorem dX10_earn_23 : decode cX10_earn 23 = .ok (.aload_n 0, 1) := by decide +kernel
theorem dX10_earn_24 : decode cX10_earn 24 = .ok (.iload_n 1, 1) := by decide +kernel
theorem dX10_earn_25 : decode cX10_earn 25 = .ok (.invokevirtual 371, 3) := by decide +kernel
theorem dX10_earn_28 : decode cX10_earn 28 = .ok (.aload_n 0, 1) := by decide +kernel
theorem dX10_earn_29 : decode cX10_earn 29 = .ok (.aload_n 0, 1) := by decide +kernel
theorem dX10_earn_30 : decode cX10_earn 30 = .ok (.iconst 2, 1) := by decide +kernel
theorem dX10_earn_31 : decode cX10_earn 31 = .ok (.invokevirtual 193, 3) := by decide +kernel
theorem dX10_earn_34 : decode cX10_earn 34 = .ok (.invokevirtual 304, 3) := by decide +kernel
theorem dX10_earn_37 : decode cX10_earn 37 = .ok (.ireturn, 1) := by decide +kernel
theorem dX10_valueAnew_0 : decode cX10_valueAnew 0 = .ok (.iconst 0, 1) := by decide +kernel
theorem dX10_valueAnew_1 : decode cX10_valueAnew 1 = .ok (.istore_n 1, 1) := by decide +kernel
theorem dX10_valueAnew_2 : decode cX10_valueAnew 2 = .ok (.iconst 0, 1) := by decide +kernel
theorem dX10_valueAnew_3 : decode cX10_valueAnew 3 = .ok (.istore_n 2, 1) := by decide +kernel
theorem dX10_valueAnew_4 : decode cX10_valueAnew 4 = .ok (.iload_n 2, 1) := by decide +kernel
theorem dX10_valueAnew_5 : decode cX10_valueAnew 5 = .ok (.bipush 8, 2) := by decide +kernel
theorem dX10_valueAnew_7 : decode cX10_valueAnew 7 = .ok (.if_icmp .ge 64, 3) := by decide +kernel
theorem dX10_valueAnew_10 : decode cX10_valueAnew 10 = .ok (.aload_n 0, 1) := by decide +kernel
theorem dX10_valueAnew_11 : decode cX10_valueAnew 11 = .ok (.iload_n 2, 1) := by decide +kernel
theorem dX10_valueAnew_12 : decode cX10_valueAnew 12 = .ok (.invokevirtual 221, 3) := by decide +kernel
theorem dX10_valueAnew_15 : decode cX10_valueAnew 15 = .ok (.ifCond .ne 6, 3) := by decide +kernel
theorem dX10_valueAnew_18 : decode cX10_valueAnew 18 = .ok (.goto 47, 3) := by decide +kernel
theorem dX10_valueAnew_21 : decode cX10_valueAnew 21 = .ok (.iload_n 1, 1) := by decide +kernel
theorem dX10_valueAnew_22 : decode cX10_valueAnew 22 = .ok (.aload_n 0, 1) := by decide +kernel
theorem dX10_valueAnew_23 : decode cX10_valueAnew 23 = .ok (.iload_n 2, 1) := by decide +kernel
theorem dX10_valueAnew_24 : decode cX10_valueAnew 24 = .ok (.invokestatic 218, 3) := by decide +kernel
theorem dX10_valueAnew_27 : decode cX10_valueAnew 27 = .ok (.iconst 2, 1) := by decide +kernel
theorem dX10_valueAnew_28 : decode cX10_valueAnew 28 = .ok (.iadd, 1) := by decide +kernel
theorem dX10_valueAnew_29 : decode cX10_valueAnew 29 = .ok (.invokevirtual 193, 3) := by decide +kernel
theorem dX10_valueAnew_32 : decode cX10_valueAnew 32 = .ok (.aload_n 0, 1) := by decide +kernel
theorem dX10_valueAnew_33 : decode cX10_valueAnew 33 = .ok (.iload_n 2, 1) := by decide +kernel
theorem dX10_valueAnew_34 : decode cX10_valueAnew 34 = .ok (.invokestatic 218, 3) := by decide +kernel
theorem dX10_valueAnew_37 : decode cX10_valueAnew 37 = .ok (.iconst 1, 1) := by decide +kernel
theorem dX10_valueAnew_38 : decode cX10_valueAnew 38 = .ok (.iadd, 1) := by decide +kernel
theorem dX10_valueAnew_39 : decode cX10_valueAnew 39 = .ok (.invokevirtual 193, 3) := by decide +kernel
theorem dX10_valueAnew_42 : decode cX10_valueAnew 42 = .ok (.isub, 1) := by decide +kernel
theorem dX10_valueAnew_43 : decode cX10_valueAnew 43 = .ok (.iadd, 1) := by decide +kernel
theorem dX10_valueAnew_44 : decode cX10_valueAnew 44 = .ok (.istore_n 1, 1) := by decide +kernel
theorem dX10_valueAnew_45 : decode cX10_valueAnew 45 = .ok (.aload_n 0, 1) := by decide +kernel
theorem dX10_valueAnew_46 : decode cX10_valueAnew 46 = .ok (.iload_n 2, 1) := by decide +kernel
theorem dX10_valueAnew_47 : decode cX10_valueAnew 47 = .ok (.invokestatic 218, 3) := by decide +kernel
theorem dX10_valueAnew_50 : decode cX10_valueAnew 50 = .ok (.iconst 1, 1) := by decide +kernel
theorem dX10_valueAnew_51 : decode cX10_valueAnew 51 = .ok (.iadd, 1) := by decide +kernel
theorem dX10_valueAnew_52 : decode cX10_valueAnew 52 = .ok (.aload_n 0, 1) := by decide +kernel
theorem dX10_valueAnew_53 : decode cX10_valueAnew 53 = .ok (.iload_n 2, 1) := by decide +kernel
theorem dX10_valueAnew_54 : decode cX10_valueAnew 54 = .ok (.invokestatic 218, 3) := by decide +kernel
theorem dX10_valueAnew_57 : decode cX10_valueAnew 57 = .ok (.iconst 2, 1) := by decide +kernel
theorem dX10_valueAnew_58 : decode cX10_valueAnew 58 = .ok (.iadd, 1) := by decide +kernel
theorem dX10_valueAnew_59 : decode cX10_valueAnew 59 = .ok (.invokevirtual 193, 3) := by decide +kernel
theorem dX10_valueAnew_62 : decode cX10_valueAnew 62 = .ok (.invokevirtual 71, 3) := by decide +kernel
theorem dX10_valueAnew_65 : decode cX10_valueAnew 65 = .ok (.iinc 2 1, 3) := by decide +kernel
theorem dX10_valueAnew_68 : decode cX10_valueAnew 68 = .ok (.goto (-64), 3) := by decide +kernel
theorem dX10_valueAnew_71 : decode cX10_valueAnew 71 = .ok (.aload_n 0, 1) := by decide +kernel
theorem dX10_valueAnew_72 : decode cX10_valueAnew 72 = .ok (.invokevirtual 280, 3) := by decide +kernel
theorem dX10_valueAnew_75 : decode cX10_valueAnew 75 = .ok (.aload_n 0, 1) := by decide +kernel
theorem dX10_valueAnew_76 : decode cX10_valueAnew 76 = .ok (.iconst 0, 1) := by decide +kernel
theorem dX10_valueAnew_77 : decode cX10_valueAnew 77 = .ok (.invokevirtual 193, 3) := by decide +kernel
theorem dX10_valueAnew_80 : decode cX10_valueAnew 80 = .ok (.ifCond .ne 5, 3) := by decide +kernel
theorem dX10_valueAnew_83 : decode cX10_valueAnew 83 = .ok (.iload_n 1, 1) := by decide +kernel
theorem dX10_valueAnew_84 : decode cX10_valueAnew 84 = .ok (.ireturn, 1) := by decide +kernel
theorem dX10_valueAnew_85 : decode cX10_valueAnew 85 = .ok (.aload_n 0, 1) := by decide +kernel
theorem dX10_valueAnew_86 : decode cX10_valueAnew 86 = .ok (.iconst 2, 1) := by decide +kernel
theorem dX10_valueAnew_87 : decode cX10_valueAnew 87 = .ok (.iload_n 1, 1) := by decide +kernel
theorem dX10_valueAnew_88 : decode cX10_valueAnew 88 = .ok (.invokevirtual 71, 3) := by decide +kernel
theorem dX10_valueAnew_91 : decode cX10_valueAnew 91 = .ok (.aload_n 0, 1) := by decide +kernel
theorem dX10_valueAnew_92 : decode cX10_valueAnew 92 = .ok (.invokevirtual 295, 3) := by decide +kernel
theorem dX10_valueAnew_95 : decode cX10_valueAnew 95 = .ok (.iconst 0, 1) := by decide +kernel
theorem dX10_valueAnew_96 : decode cX10_valueAnew 96 = .ok (.ireturn, 1) := by decide +kernel
theorem dX10_arrives_0 : decode cX10_arrives 0 = .ok (.aload_n 0, 1) := by decide +kernel
theorem dX10_arrives_1 : decode cX10_arrives 1 = .ok (.iconst 0, 1) := by decide +kernel
theorem dX10_arrives_2 : decode cX10_arrives 2 = .ok (.aload_n 0, 1) := by decide +kernel
theorem dX10_arrives_3 : decode cX10_arrives 3 = .ok (.iconst 0, 1) := by decide +kernel
theorem dX10_arrives_4 : decode cX10_arrives 4 = .ok (.invokevirtual 193, 3) := by decide +kernel
theorem dX10_arrives_7 : decode cX10_arrives 7 = .ok (.iconst 1, 1) := by decide +kernel
theorem dX10_arrives_8 : decode cX10_arrives 8 = .ok (.iload_n 1, 1) := by decide +kernel
theorem dX10_arrives_9 : decode cX10_arrives 9 = .ok (.ishl, 1) := by decide +kernel
theorem dX10_arrives_10 : decode cX10_arrives 10 = .ok (.ior, 1) := by decide +kernel
theorem dX10_arrives_11 : decode cX10_arrives 11 = .ok (.invokevirtual 71, 3) := by decide +kernel
theorem dX10_arrives_14 : decode cX10_arrives 14 = .ok (.aload_n 0, 1) := by decide +kernel
theorem dX10_arrives_15 : decode cX10_arrives 15 = .ok (.iconst 5, 1) := by decide +kernel
theorem dX10_arrives_16 : decode cX10_arrives 16 = .ok (.iload_n 1, 1) := by decide +kernel
theorem dX10_arrives_17 : decode cX10_arrives 17 = .ok (.iadd, 1) := by decide +kernel
theorem dX10_arrives_18 : decode cX10_arrives 18 = .ok (.iconst 0, 1) := by decide +kernel
theorem dX10_arrives_19 : decode cX10_arrives 19 = .ok (.invokevirtual 71, 3) := by decide +kernel
theorem dX10_arrives_22 : decode cX10_arrives 22 = .ok (.aload_n 0, 1) := by decide +kernel
theorem dX10_arrives_23 : decode cX10_arrives 23 = .ok (.bipush 13, 2) := by decide +kernel
theorem dX10_arrives_25 : decode cX10_arrives 25 = .ok (.iload_n 1, 1) := by decide +kernel
theorem dX10_arrives_26 : decode cX10_arrives 26 = .ok (.iadd, 1) := by decide +kernel
theorem dX10_arrives_27 : decode cX10_arrives 27 = .ok (.iconst 0, 1) := by decide +kernel
theorem dX10_arrives_28 : decode cX10_arrives 28 = .ok (.invokevirtual 71, 3) := by decide +kernel
theorem dX10_arrives_31 : decode cX10_arrives 31 = .ok (.aload_n 0, 1) := by decide +kernel
theorem dX10_arrives_32 : decode cX10_arrives 32 = .ok (.bipush 21, 2) := by decide +kernel
theorem dX10_arrives_34 : decode cX10_arrives 34 = .ok (.iload_n 1, 1) := by decide +kernel
theorem dX10_arrives_35 : decode cX10_arrives 35 = .ok (.iadd, 1) := by decide +kernel
theorem dX10_arrives_36 : decode cX10_arrives 36 = .ok (.iconst 1, 1) := by decide +kernel
theorem dX10_arrives_37 : decode cX10_arrives 37 = .ok (.invokevirtual 71, 3) := by decide +kernel
theorem dX10_arrives_40 : decode cX10_arrives 40 = .ok (.aload_n 0, 1) := by decide +kernel
theorem dX10_arrives_41 : decode cX10_arrives 41 = .ok (.bipush 29, 2) := by decide +kernel
theorem dX10_arrives_43 : decode cX10_arrives 43 = .ok (.iload_n 1, 1) := by decide +kernel
theorem dX10_arrives_44 : decode cX10_arrives 44 = .ok (.iadd, 1) := by decide +kernel
theorem dX10_arrives_45 : decode cX10_arrives 45 = .ok (.iconst 0, 1) := by decide +kernel
theorem dX10_arrives_46 : decode cX10_arrives 46 = .ok (.invokevirtual 71, 3) := by decide +kernel
theorem dX10_arrives_49 : decode cX10_arrives 49 = .ok (.aload_n 0, 1) := by decide +kernel
theorem dX10_arrives_50 : decode cX10_arrives 50 = .ok (.bipush 37, 2) := by decide +kernel
theorem dX10_arrives_52 : decode cX10_arrives 52 = .ok (.iload_n 1, 1) := by decide +kernel
theorem dX10_arrives_53 : decode cX10_arrives 53 = .ok (.iadd, 1) := by decide +kernel
theorem dX10_arrives_54 : decode cX10_arrives 54 = .ok (.iconst 0, 1) := by decide +kernel
theorem dX10_arrives_55 : decode cX10_arrives 55 = .ok (.invokevirtual 71, 3) := by decide +kernel
theorem dX10_arrives_58 : decode cX10_arrives 58 = .ok (.return_, 1) := by decide +kernel
theorem dX10_come_0 : decode cX10_come 0 = .ok (.iload_n 1, 1) := by decide +kernel
theorem dX10_come_1 : decode cX10_come 1 = .ok (.iconst 0, 1) := by decide +kernel
theorem dX10_come_2 : decode cX10_come 2 = .ok (.bipush 7, 2) := by decide +kernel
theorem dX10_come_4 : decode cX10_come 4 = .ok (.invokestatic 81, 3) := by decide +kernel
theorem dX10_come_7 : decode cX10_come 7 = .ok (.ifCond .eq 29, 3) := by decide +kernel
theorem dX10_come_10 : decode cX10_come 10 = .ok (.aload_n 0, 1) := by decide +kernel
theorem dX10_come_11 : decode cX10_come 11 = .ok (.iload_n 1, 1) := by decide +kernel
theorem dX10_come_12 : decode cX10_come 12 = .ok (.invokevirtual 203, 3) := by decide +kernel
theorem dX10_come_15 : decode cX10_come 15 = .ok (.ifCond .ne 21, 3) := by decide +kernel
theorem dX10_come_18 : decode cX10_come 18 = .ok (.iload_n 2, 1) := by decide +kernel
theorem dX10_come_19 : decode cX10_come 19 = .ok (.iconst 0, 1) := by decide +kernel
theorem dX10_come_20 : decode cX10_come 20 = .ok (.ldc 146, 2) := by decide +kernel
theorem dX10_come_22 : decode cX10_come 22 = .ok (.invokestatic 81, 3) := by decide +kernel
theorem dX10_come_25 : decode cX10_come 25 = .ok (.ifCond .eq 11, 3) := by decide +kernel
theorem dX10_come_28 : decode cX10_come 28 = .ok (.aload_n 0, 1) := by decide +kernel
theorem dX10_come_29 : decode cX10_come 29 = .ok (.iconst 2, 1) := by decide +kernel
theorem dX10_come_30 : decode cX10_come 30 = .ok (.invokevirtual 193, 3) := by decide +kernel
theorem dX10_come_33 : decode cX10_come 33 = .ok (.ifCond .eq 9, 3) := by decide +kernel
theorem dX10_come_36 : decode cX10_come 36 = .ok (.aload_n 0, 1) := by decide +kernel
theorem dX10_come_37 : decode cX10_come 37 = .ok (.iconst (-1), 1) := by decide +kernel
theorem dX10_come_38 : decode cX10_come 38 = .ok (.invokevirtual 298, 3) := by decide +kernel
theorem dX10_come_41 : decode cX10_come 41 = .ok (.ireturn, 1) := by decide +kernel
theorem dX10_come_42 : decode cX10_come 42 = .ok (.aload_n 0, 1) := by decide +kernel
theorem dX10_come_43 : decode cX10_come 43 = .ok (.invokevirtual 85, 3) := by decide +kernel
theorem dX10_come_46 : decode cX10_come 46 = .ok (.aload_n 0, 1) := by decide +kernel
theorem dX10_come_47 : decode cX10_come 47 = .ok (.invokevirtual 374, 3) := by decide +kernel
theorem dX10_come_50 : decode cX10_come 50 = .ok (.istore_n 3, 1) := by decide +kernel
theorem dX10_come_51 : decode cX10_come 51 = .ok (.aload_n 0, 1) := by decide +kernel
theorem dX10_come_52 : decode cX10_come 52 = .ok (.iload_n 1, 1) := by decide +kernel
theorem dX10_come_53 : decode cX10_come 53 = .ok (.invokevirtual 377, 3) := by decide +kernel
theorem dX10_come_56 : decode cX10_come 56 = .ok (.aload_n 0, 1) := by decide +kernel
theorem dX10_come_57 : decode cX10_come 57 = .ok (.iconst 3, 1) := by decide +kernel
theorem dX10_come_58 : decode cX10_come 58 = .ok (.iload_n 2, 1) := by decide +kernel
theorem dX10_come_59 : decode cX10_come 59 = .ok (.invokevirtual 246, 3) := by decide +kernel
theorem dX10_come_62 : decode cX10_come 62 = .ok (.aload_n 0, 1) := by decide +kernel
theorem dX10_come_63 : decode cX10_come 63 = .ok (.iconst 5, 1) := by decide +kernel
theorem dX10_come_64 : decode cX10_come 64 = .ok (.iload_n 1, 1) := by decide +kernel
theorem dX10_come_65 : decode cX10_come 65 = .ok (.iadd, 1) := by decide +kernel
theorem dX10_come_66 : decode cX10_come 66 = .ok (.iload_n 3, 1) := by decide +kernel
theorem dX10_come_67 : decode cX10_come 67 = .ok (.iload_n 2, 1) := by decide +kernel
theorem dX10_come_68 : decode cX10_come 68 = .ok (.iadd, 1) := by decide +kernel
theorem dX10_come_69 : decode cX10_come 69 = .ok (.invokevirtual 71, 3) := by decide +kernel
theorem dX10_come_72 : decode cX10_come 72 = .ok (.aload_n 0, 1) := by decide +kernel
theorem dX10_come_73 : decode cX10_come 73 = .ok (.aload_n 0, 1) := by decide +kernel
theorem dX10_come_74 : decode cX10_come 74 = .ok (.iconst 5, 1) := by decide +kernel
theorem dX10_come_75 : decode cX10_come 75 = .ok (.iload_n 1, 1) := by decide +kernel
theorem dX10_come_76 : decode cX10_come 76 = .ok (.iadd, 1) := by decide +kernel
theorem dX10_come_77 : decode cX10_come 77 = .ok (.invokevirtual 193, 3) := by decide +kernel
theorem dX10_come_80 : decode cX10_come 80 = .ok (.invokevirtual 304, 3) := by decide +kernel
theorem dX10_come_83 : decode cX10_come 83 = .ok (.ireturn, 1) := by decide +kernel
theorem dX10_go_0 : decode cX10_go 0 = .ok (.aload_n 0, 1) := by decide +kernel
theorem dX10_go_1 : decode cX10_go 1 = .ok (.iload_n 1, 1) := by decide +kernel
theorem dX10_go_2 : decode cX10_go 2 = .ok (.invokevirtual 203, 3) := by decide +kernel
theorem dX10_go_5 : decode cX10_go 5 = .ok (.ifCond .eq 22, 3) := by decide +kernel
theorem dX10_go_8 : decode cX10_go 8 = .ok (.aload_n 0, 1) := by decide +kernel
theorem dX10_go_9 : decode cX10_go 9 = .ok (.iconst 0, 1) := by decide +kernel
theorem dX10_go_10 : decode cX10_go 10 = .ok (.invokevirtual 193, 3) := by decide +kernel
theorem dX10_go_13 : decode cX10_go 13 = .ok (.iconst 1, 1) := by decide +kernel
theorem dX10_go_14 : decode cX10_go 14 = .ok (.iload_n 1, 1) := by decide +kernel
theorem dX10_go_15 : decode cX10_go 15 = .ok (.ishl, 1) := by decide +kernel
theorem dX10_go_16 : decode cX10_go 16 = .ok (.if_icmp .eq 11, 3) := by decide +kernel
theorem dX10_go_19 : decode cX10_go 19 = .ok (.aload_n 0, 1) := by decide +kernel
theorem dX10_go_20 : decode cX10_go 20 = .ok (.iconst 2, 1) := by decide +kernel
theorem dX10_go_21 : decode cX10_go 21 = .ok (.invokevirtual 193, 3) := by decide +kernel
theorem dX10_go_24 : decode cX10_go 24 = .ok (.ifCond .eq 10, 3) := by decide +kernel
theorem dX10_go_27 : decode cX10_go 27 = .ok (.aload_n 0, 1) := by decide +kernel
theorem dX10_go_28 : decode cX10_go 28 = .ok (.ldc 214, 2) := by decide +kernel
theorem dX10_go_30 : decode cX10_go 30 = .ok (.invokevirtual 298, 3) := by decide +kernel
theorem dX10_go_33 : decode cX10_go 33 = .ok (.ireturn, 1) := by decide +kernel
theorem dX10_go_34 : decode cX10_go 34 = .ok (.aload_n 0, 1) := by decide +kernel
theorem dX10_go_35 : decode cX10_go 35 = .ok (.invokevirtual 85, 3) := by decide +kernel
theorem dX10_go_38 : decode cX10_go 38 = .ok (.aload_n 0, 1) := by decide +kernel
theorem dX10_go_39 : decode cX10_go 39 = .ok (.invokevirtual 374, 3) := by decide +kernel
theorem dX10_go_42 : decode cX10_go 42 = .ok (.istore_n 2, 1) := by decide +kernel
theorem dX10_go_43 : decode cX10_go 43 = .ok (.aload_n 0, 1) := by decide +kernel
theorem dX10_go_44 : decode cX10_go 44 = .ok (.iconst 5, 1) := by decide +kernel
theorem dX10_go_45 : decode cX10_go 45 = .ok (.iload_n 1, 1) := by decide +kernel
theorem dX10_go_46 : decode cX10_go 46 = .ok (.iadd, 1) := by decide +kernel
theorem dX10_go_47 : decode cX10_go 47 = .ok (.invokevirtual 193, 3) := by decide +kernel
theorem dX10_go_50 : decode cX10_go 50 = .ok (.istore_n 3, 1) := by decide +kernel
theorem dX10_go_51 : decode cX10_go 51 = .ok (.iload_n 3, 1) := by decide +kernel
theorem dX10_go_52 : decode cX10_go 52 = .ok (.ifCond .lt 7, 3) := by decide +kernel
theorem dX10_go_55 : decode cX10_go 55 = .ok (.iload_n 3, 1) := by decide +kernel
theorem dX10_go_56 : decode cX10_go 56 = .ok (.goto 17, 3) := by decide +kernel
theorem dX10_go_59 : decode cX10_go 59 = .ok (.iload_n 3, 1) := by decide +kernel
theorem dX10_go_60 : decode cX10_go 60 = .ok (.ineg, 1) := by decide +kernel
theorem dX10_go_61 : decode cX10_go 61 = .ok (.aload_n 0, 1) := by decide +kernel
theorem dX10_go_62 : decode cX10_go 62 = .ok (.bipush 13, 2) := by decide +kernel
theorem dX10_go_64 : decode cX10_go 64 = .ok (.iload_n 1, 1) := by decide +kernel
theorem dX10_go_65 : decode cX10_go 65 = .ok (.iadd, 1) := by decide +kernel
theorem dX10_go_66 : decode cX10_go 66 = .ok (.invokevirtual 193, 3) := by decide +kernel
theorem dX10_go_69 : decode cX10_go 69 = .ok (.invokestatic 252, 3) := by decide +kernel
theorem dX10_go_72 : decode cX10_go 72 = .ok (.ineg, 1) := by decide +kernel
theorem dX10_go_73 : decode cX10_go 73 = .ok (.istore 4, 2) := by decide +kernel
theorem dX10_go_75 : decode cX10_go 75 = .ok (.aload_n 0, 1) := by decide +kernel
theorem dX10_go_76 : decode cX10_go 76 = .ok (.iconst 3, 1) := by decide +kernel
theorem dX10_go_77 : decode cX10_go 77 = .ok (.iload 4, 2) := by decide +kernel
theorem dX10_go_79 : decode cX10_go 79 = .ok (.ineg, 1) := by decide +kernel
theorem dX10_go_80 : decode cX10_go 80 = .ok (.invokevirtual 246, 3) := by decide +kernel
theorem dX10_go_83 : decode cX10_go 83 = .ok (.aload_n 0, 1) := by decide +kernel
theorem dX10_go_84 : decode cX10_go 84 = .ok (.iconst 0, 1) := by decide +kernel
theorem dX10_go_85 : decode cX10_go 85 = .ok (.invokevirtual 193, 3) := by decide +kernel
theorem dX10_go_88 : decode cX10_go 88 = .ok (.iconst 1, 1) := by decide +kernel
theorem dX10_go_89 : decode cX10_go 89 = .ok (.iload_n 1, 1) := by decide +kernel
theorem dX10_go_90 : decode cX10_go 90 = .ok (.ishl, 1) := by decide +kernel
theorem dX10_go_91 : decode cX10_go 91 = .ok (.iconst (-1), 1) := by decide +kernel
theorem dX10_go_92 : decode cX10_go 92 = .ok (.ixor, 1) := by decide +kernel
theorem dX10_go_93 : decode cX10_go 93 = .ok (.iand, 1) := by decide +kernel
theorem dX10_go_94 : decode cX10_go 94 = .ok (.istore 5, 2) := by decide +kernel
theorem dX10_go_96 : decode cX10_go 96 = .ok (.aload_n 0, 1) := by decide +kernel
theorem dX10_go_97 : decode cX10_go 97 = .ok (.iload 5, 2) := by decide +kernel
theorem dX10_go_99 : decode cX10_go 99 = .ok (.invokevirtual 262, 3) := by decide +kernel
theorem dX10_go_102 : decode cX10_go 102 = .ok (.aload_n 0, 1) := by decide +kernel
theorem dX10_go_103 : decode cX10_go 103 = .ok (.iload 4, 2) := by decide +kernel
theorem dX10_go_105 : decode cX10_go 105 = .ok (.iload_n 3, 1) := by decide +kernel
theorem dX10_go_106 : decode cX10_go 106 = .ok (.isub, 1) := by decide +kernel
theorem dX10_go_107 : decode cX10_go 107 = .ok (.invokevirtual 209, 3) := by decide +kernel
theorem dX10_go_110 : decode cX10_go 110 = .ok (.aload_n 0, 1) := by decide +kernel
theorem dX10_go_111 : decode cX10_go 111 = .ok (.iconst 5, 1) := by decide +kernel
theorem dX10_go_112 : decode cX10_go 112 = .ok (.iconst (-1), 1) := by decide +kernel
theorem dX10_go_113 : decode cX10_go 113 = .ok (.invokevirtual 259, 3) := by decide +kernel
theorem dX10_go_116 : decode cX10_go 116 = .ok (.aload_n 0, 1) := by decide +kernel
theorem dX10_go_117 : decode cX10_go 117 = .ok (.aload_n 0, 1) := by decide +kernel
theorem dX10_go_118 : decode cX10_go 118 = .ok (.bipush 29, 2) := by decide +kernel
theorem dX10_go_120 : decode cX10_go 120 = .ok (.iload_n 1, 1) := by decide +kernel
theorem dX10_go_121 : decode cX10_go 121 = .ok (.iadd, 1) := by decide +kernel
theorem dX10_go_122 : decode cX10_go 122 = .ok (.invokevirtual 193, 3) := by decide +kernel
theorem dX10_go_125 : decode cX10_go 125 = .ok (.invokevirtual 209, 3) := by decide +kernel
theorem dX10_go_128 : decode cX10_go 128 = .ok (.aload_n 0, 1) := by decide +kernel
theorem dX10_go_129 : decode cX10_go 129 = .ok (.bipush 29, 2) := by decide +kernel
theorem dX10_go_131 : decode cX10_go 131 = .ok (.iconst 1, 1) := by decide +kernel
theorem dX10_go_132 : decode cX10_go 132 = .ok (.invokevirtual 259, 3) := by decide +kernel
theorem dX10_go_135 : decode cX10_go 135 = .ok (.aload_n 0, 1) := by decide +kernel
theorem dX10_go_136 : decode cX10_go 136 = .ok (.aload_n 0, 1) := by decide +kernel
theorem dX10_go_137 : decode cX10_go 137 = .ok (.bipush 37, 2) := by decide +kernel
theorem dX10_go_139 : decode cX10_go 139 = .ok (.iload_n 1, 1) := by decide +kernel
theorem dX10_go_140 : decode cX10_go 140 = .ok (.iadd, 1) := by decide +kernel
theorem dX10_go_141 : decode cX10_go 141 = .ok (.invokevirtual 193, 3) := by decide +kernel
theorem dX10_go_144 : decode cX10_go 144 = .ok (.invokevirtual 209, 3) := by decide +kernel
theorem dX10_go_147 : decode cX10_go 147 = .ok (.aload_n 0, 1) := by decide +kernel
theorem dX10_go_148 : decode cX10_go 148 = .ok (.bipush 37, 2) := by decide +kernel
theorem dX10_go_150 : decode cX10_go 150 = .ok (.iconst 1, 1) := by decide +kernel
theorem dX10_go_151 : decode cX10_go 151 = .ok (.invokevirtual 259, 3) := by decide +kernel
theorem dX10_go_154 : decode cX10_go 154 = .ok (.aload_n 0, 1) := by decide +kernel
theorem dX10_go_155 : decode cX10_go 155 = .ok (.iload_n 1, 1) := by decide +kernel
theorem dX10_go_156 : decode cX10_go 156 = .ok (.invokevirtual 377, 3) := by decide +kernel
theorem dX10_go_159 : decode cX10_go 159 = .ok (.aload_n 0, 1) := by decide +kernel
theorem dX10_go_160 : decode cX10_go 160 = .ok (.bipush 21, 2) := by decide +kernel
theorem dX10_go_162 : decode cX10_go 162 = .ok (.iload_n 1, 1) := by decide +kernel
theorem dX10_go_163 : decode cX10_go 163 = .ok (.iadd, 1) := by decide +kernel
theorem dX10_go_164 : decode cX10_go 164 = .ok (.iconst 0, 1) := by decide +kernel
theorem dX10_go_165 : decode cX10_go 165 = .ok (.invokevirtual 71, 3) := by decide +kernel
theorem dX10_go_168 : decode cX10_go 168 = .ok (.aload_n 0, 1) := by decide +kernel
theorem dX10_go_169 : decode cX10_go 169 = .ok (.iconst 0, 1) := by decide +kernel
theorem dX10_go_170 : decode cX10_go 170 = .ok (.iload 5, 2) := by decide +kernel
theorem dX10_go_172 : decode cX10_go 172 = .ok (.invokevirtual 71, 3) := by decide +kernel
theorem dX10_go_175 : decode cX10_go 175 = .ok (.aload_n 0, 1) := by decide +kernel
theorem dX10_go_176 : decode cX10_go 176 = .ok (.iload 4, 2) := by decide +kernel
theorem dX10_go_178 : decode cX10_go 178 = .ok (.invokevirtual 304, 3) := by decide +kernel
theorem dX10_go_181 : decode cX10_go 181 = .ok (.ireturn, 1) := by decide +kernel
theorem dX10_handsOver_0 : decode cX10_handsOver 0 = .ok (.aload_n 0, 1) := by decide +kernel
theorem dX10_handsOver_1 : decode cX10_handsOver 1 = .ok (.iload_n 1, 1) := by decide +kernel
theorem dX10_handsOver_2 : decode cX10_handsOver 2 = .ok (.iload_n 2, 1) := by decide +kernel
theorem dX10_handsOver_3 : decode cX10_handsOver 3 = .ok (.iadd, 1) := by decide +kernel
theorem dX10_handsOver_4 : decode cX10_handsOver 4 = .ok (.invokevirtual 193, 3) := by decide +kernel
theorem dX10_handsOver_7 : decode cX10_handsOver 7 = .ok (.i2l, 1) := by decide +kernel
theorem dX10_handsOver_8 : decode cX10_handsOver 8 = .ok (.iload 4, 2) := by decide +kernel
theorem dX10_handsOver_10 : decode cX10_handsOver 10 = .ok (.i2l, 1) := by decide +kernel
theorem dX10_handsOver_11 : decode cX10_handsOver 11 = .ok (.lmul, 1) := by decide +kernel
theorem dX10_handsOver_12 : decode cX10_handsOver 12 = .ok (.ldc2_w 380, 3) := by decide +kernel
theorem dX10_handsOver_15 : decode cX10_handsOver 15 = .ok (.ldiv, 1) := by decide +kernel
theorem dX10_handsOver_16 : decode cX10_handsOver 16 = .ok (.l2i, 1) := by decide +kernel
theorem dX10_handsOver_17 : decode cX10_handsOver 17 = .ok (.istore 5, 2) := by decide +kernel
theorem dX10_handsOver_19 : decode cX10_handsOver 19 = .ok (.aload_n 0, 1) := by decide +kernel
theorem dX10_handsOver_20 : decode cX10_handsOver 20 = .ok (.iload_n 1, 1) := by decide +kernel
theorem dX10_handsOver_21 : decode cX10_handsOver 21 = .ok (.iload_n 2, 1) := by decide +kernel
theorem dX10_handsOver_22 : decode cX10_handsOver 22 = .ok (.iadd, 1) := by decide +kernel
theorem dX10_handsOver_23 : decode cX10_handsOver 23 = .ok (.iload 5, 2) := by decide +kernel
theorem dX10_handsOver_25 : decode cX10_handsOver 25 = .ok (.ineg, 1) := by decide +kernel
theorem dX10_handsOver_26 : decode cX10_handsOver 26 = .ok (.invokevirtual 246, 3) := by decide +kernel
theorem dX10_handsOver_29 : decode cX10_handsOver 29 = .ok (.aload_n 0, 1) := by decide +kernel
theorem dX10_handsOver_30 : decode cX10_handsOver 30 = .ok (.iload_n 1, 1) := by decide +kernel
theorem dX10_handsOver_31 : decode cX10_handsOver 31 = .ok (.iload_n 3, 1) := by decide +kernel
theorem dX10_handsOver_32 : decode cX10_handsOver 32 = .ok (.iadd, 1) := by decide +kernel
theorem dX10_handsOver_33 : decode cX10_handsOver 33 = .ok (.iload 5, 2) := by decide +kernel
theorem dX10_handsOver_35 : decode cX10_handsOver 35 = .ok (.invokevirtual 246, 3) := by decide +kernel
theorem dX10_handsOver_38 : decode cX10_handsOver 38 = .ok (.return_, 1) := by decide +kernel
theorem dX10_hand_0 : decode cX10_hand 0 = .ok (.aload_n 0, 1) := by decide +kernel
theorem dX10_hand_1 : decode cX10_hand 1 = .ok (.iload_n 1, 1) := by decide +kernel
theorem dX10_hand_2 : decode cX10_hand 2 = .ok (.invokevirtual 203, 3) := by decide +kernel
theorem dX10_hand_5 : decode cX10_hand 5 = .ok (.ifCond .eq 28, 3) := by decide +kernel
theorem dX10_hand_8 : decode cX10_hand 8 = .ok (.iload_n 2, 1) := by decide +kernel
theorem dX10_hand_9 : decode cX10_hand 9 = .ok (.iconst 0, 1) := by decide +kernel
theorem dX10_hand_10 : decode cX10_hand 10 = .ok (.bipush 7, 2) := by decide +kernel
theorem dX10_hand_12 : decode cX10_hand 12 = .ok (.invokestatic 81, 3) := by decide +kernel
theorem dX10_hand_15 : decode cX10_hand 15 = .ok (.ifCond .eq 18, 3) := by decide +kernel
theorem dX10_hand_18 : decode cX10_hand 18 = .ok (.iload_n 1, 1) := by decide +kernel
theorem dX10_hand_19 : decode cX10_hand 19 = .ok (.iload_n 2, 1) := by decide +kernel
theorem dX10_hand_20 : decode cX10_hand 20 = .ok (.if_icmp .eq 13, 3) := by decide +kernel
theorem dX10_hand_23 : decode cX10_hand 23 = .ok (.iload_n 3, 1) := by decide +kernel
theorem dX10_hand_24 : decode cX10_hand 24 = .ok (.iconst 1, 1) := by decide +kernel
theorem dX10_hand_25 : decode cX10_hand 25 = .ok (.bipush 100, 2) := by decide +kernel
theorem dX10_hand_27 : decode cX10_hand 27 = .ok (.invokestatic 81, 3) := by decide +kernel
theorem dX10_hand_30 : decode cX10_hand 30 = .ok (.ifCond .ne 6, 3) := by decide +kernel
theorem dX10_hand_33 : decode cX10_hand 33 = .ok (.ldc 214, 2) := by decide +kernel
theorem dX10_hand_35 : decode cX10_hand 35 = .ok (.ireturn, 1) := by decide +kernel
theorem dX10_hand_36 : decode cX10_hand 36 = .ok (.aload_n 0, 1) := by decide +kernel
theorem dX10_hand_37 : decode cX10_hand 37 = .ok (.invokevirtual 85, 3) := by decide +kernel
theorem dX10_hand_40 : decode cX10_hand 40 = .ok (.aload_n 0, 1) := by decide +kernel
theorem dX10_hand_41 : decode cX10_hand 41 = .ok (.iload_n 2, 1) := by decide +kernel
theorem dX10_hand_42 : decode cX10_hand 42 = .ok (.invokevirtual 203, 3) := by decide +kernel
theorem dX10_hand_45 : decode cX10_hand 45 = .ok (.ifCond .ne 8, 3) := by decide +kernel
theorem dX10_hand_48 : decode cX10_hand 48 = .ok (.aload_n 0, 1) := by decide +kernel
theorem dX10_hand_49 : decode cX10_hand 49 = .ok (.iload_n 2, 1) := by decide +kernel
theorem dX10_hand_50 : decode cX10_hand 50 = .ok (.invokevirtual 377, 3) := by decide +kernel
theorem dX10_hand_53 : decode cX10_hand 53 = .ok (.aload_n 0, 1) := by decide +kernel
theorem dX10_hand_54 : decode cX10_hand 54 = .ok (.iconst 5, 1) := by decide +kernel
theorem dX10_hand_55 : decode cX10_hand 55 = .ok (.iload_n 1, 1) := by decide +kernel
theorem dX10_hand_56 : decode cX10_hand 56 = .ok (.iload_n 2, 1) := by decide +kernel
theorem dX10_hand_57 : decode cX10_hand 57 = .ok (.iload_n 3, 1) := by decide +kernel
theorem dX10_hand_58 : decode cX10_hand 58 = .ok (.invokevirtual 382, 3) := by decide +kernel
theorem dX10_hand_61 : decode cX10_hand 61 = .ok (.aload_n 0, 1) := by decide +kernel
theorem dX10_hand_62 : decode cX10_hand 62 = .ok (.bipush 29, 2) := by decide +kernel
theorem dX10_hand_64 : decode cX10_hand 64 = .ok (.iload_n 1, 1) := by decide +kernel
theorem dX10_hand_65 : decode cX10_hand 65 = .ok (.iload_n 2, 1) := by decide +kernel
theorem dX10_hand_66 : decode cX10_hand 66 = .ok (.iload_n 3, 1) := by decide +kernel
theorem dX10_hand_67 : decode cX10_hand 67 = .ok (.invokevirtual 382, 3) := by decide +kernel
theorem dX10_hand_70 : decode cX10_hand 70 = .ok (.aload_n 0, 1) := by decide +kernel
theorem dX10_hand_71 : decode cX10_hand 71 = .ok (.bipush 37, 2) := by decide +kernel
theorem dX10_hand_73 : decode cX10_hand 73 = .ok (.iload_n 1, 1) := by decide +kernel
theorem dX10_hand_74 : decode cX10_hand 74 = .ok (.iload_n 2, 1) := by decide +kernel
theorem dX10_hand_75 : decode cX10_hand 75 = .ok (.iload_n 3, 1) := by decide +kernel
theorem dX10_hand_76 : decode cX10_hand 76 = .ok (.invokevirtual 382, 3) := by decide +kernel
theorem dX10_hand_79 : decode cX10_hand 79 = .ok (.aload_n 0, 1) := by decide +kernel
theorem dX10_hand_80 : decode cX10_hand 80 = .ok (.iconst 5, 1) := by decide +kernel
theorem dX10_hand_81 : decode cX10_hand 81 = .ok (.iload_n 2, 1) := by decide +kernel
theorem dX10_hand_82 : decode cX10_hand 82 = .ok (.iadd, 1) := by decide +kernel
theorem dX10_hand_83 : decode cX10_hand 83 = .ok (.invokevirtual 193, 3) := by decide +kernel
theorem dX10_hand_86 : decode cX10_hand 86 = .ok (.ireturn, 1) := by decide +kernel
theorem dX10_closeAside_0 : decode cX10_closeAside 0 = .ok (.aload_n 0, 1) := by decide +kernel
theorem dX10_closeAside_1 : decode cX10_closeAside 1 = .ok (.iconst 0, 1) := by decide +kernel
theorem dX10_closeAside_2 : decode cX10_closeAside 2 = .ok (.bipush 15, 2) := by decide +kernel
theorem dX10_closeAside_4 : decode cX10_closeAside 4 = .ok (.invokevirtual 78, 3) := by decide +kernel
theorem dX10_closeAside_7 : decode cX10_closeAside 7 = .ok (.aload_n 0, 1) := by decide +kernel
theorem dX10_closeAside_8 : decode cX10_closeAside 8 = .ok (.sipush 5490, 3) := by decide +kernel
theorem dX10_closeAside_11 : decode cX10_closeAside 11 = .ok (.putfield 7, 3) := by decide +kernel
theorem dX10_closeAside_14 : decode cX10_closeAside 14 = .ok (.aload_n 0, 1) := by decide +kernel
theorem dX10_closeAside_15 : decode cX10_closeAside 15 = .ok (.iload_n 1, 1) := by decide +kernel
theorem dX10_closeAside_16 : decode cX10_closeAside 16 = .ok (.invokevirtual 371, 3) := by decide +kernel
theorem dX10_closeAside_19 : decode cX10_closeAside 19 = .ok (.aload_n 0, 1) := by decide +kernel
theorem dX10_closeAside_20 : decode cX10_closeAside 20 = .ok (.invokevirtual 301, 3) := by decide +kernel
theorem dX10_closeAside_23 : decode cX10_closeAside 23 = .ok (.return_, 1) := by decide +kernel
theorem dX10_triedOf_0 : decode cX10_triedOf 0 = .ok (.aload_n 0, 1) := by decide +kernel
theorem dX10_triedOf_1 : decode cX10_triedOf 1 = .ok (.iload_n 2, 1) := by decide +kernel
theorem dX10_triedOf_2 : decode cX10_triedOf 2 = .ok (.invokevirtual 386, 3) := by decide +kernel
theorem dX10_triedOf_5 : decode cX10_triedOf 5 = .ok (.aload_n 0, 1) := by decide +kernel
theorem dX10_triedOf_6 : decode cX10_triedOf 6 = .ok (.iconst 5, 1) := by decide +kernel
theorem dX10_triedOf_7 : decode cX10_triedOf 7 = .ok (.iload_n 1, 1) := by decide +kernel
theorem dX10_triedOf_8 : decode cX10_triedOf 8 = .ok (.iadd, 1) := by decide +kernel
theorem dX10_triedOf_9 : decode cX10_triedOf 9 = .ok (.invokevirtual 193, 3) := by decide +kernel
theorem dX10_triedOf_12 : decode cX10_triedOf 12 = .ok (.istore_n 3, 1) := by decide +kernel
theorem dX10_triedOf_13 : decode cX10_triedOf 13 = .ok (.aload_n 0, 1) := by decide +kernel
theorem dX10_triedOf_14 : decode cX10_triedOf 14 = .ok (.iconst 0, 1) := by decide +kernel
theorem dX10_triedOf_15 : decode cX10_triedOf 15 = .ok (.putfield 7, 3) := by decide +kernel
theorem dX10_triedOf_18 : decode cX10_triedOf 18 = .ok (.iload_n 3, 1) := by decide +kernel
theorem dX10_triedOf_19 : decode cX10_triedOf 19 = .ok (.ireturn, 1) := by decide +kernel
theorem dX10_tried_0 : decode cX10_tried 0 = .ok (.aload_n 0, 1) := by decide +kernel
theorem dX10_tried_1 : decode cX10_tried 1 = .ok (.iload_n 1, 1) := by decide +kernel
theorem dX10_tried_2 : decode cX10_tried 2 = .ok (.invokevirtual 203, 3) := by decide +kernel
theorem dX10_tried_5 : decode cX10_tried 5 = .ok (.ifCond .eq 24, 3) := by decide +kernel
theorem dX10_tried_8 : decode cX10_tried 8 = .ok (.iload_n 2, 1) := by decide +kernel
theorem dX10_tried_9 : decode cX10_tried 9 = .ok (.ldc_w 370, 3) := by decide +kernel
theorem dX10_tried_12 : decode cX10_tried 12 = .ok (.ldc 146, 2) := by decide +kernel
theorem dX10_tried_14 : decode cX10_tried 14 = .ok (.invokestatic 81, 3) := by decide +kernel
theorem dX10_tried_17 : decode cX10_tried 17 = .ok (.ifCond .eq 12, 3) := by decide +kernel
theorem dX10_tried_20 : decode cX10_tried 20 = .ok (.aload_n 0, 1) := by decide +kernel
theorem dX10_tried_21 : decode cX10_tried 21 = .ok (.iload_n 1, 1) := by decide +kernel
theorem dX10_tried_22 : decode cX10_tried 22 = .ok (.iload_n 2, 1) := by decide +kernel
theorem dX10_tried_23 : decode cX10_tried 23 = .ok (.invokevirtual 389, 3) := by decide +kernel
theorem dX10_tried_26 : decode cX10_tried 26 = .ok (.goto 5, 3) := by decide +kernel
theorem dX10_tried_29 : decode cX10_tried 29 = .ok (.ldc 214, 2) := by decide +kernel
theorem dX10_tried_31 : decode cX10_tried 31 = .ok (.ireturn, 1) := by decide +kernel
theorem dX10_even_0 : decode cX10_even 0 = .ok (.aload_n 0, 1) := by decide +kernel
theorem dX10_even_1 : decode cX10_even 1 = .ok (.iload_n 1, 1) := by decide +kernel
theorem dX10_even_2 : decode cX10_even 2 = .ok (.invokevirtual 203, 3) := by decide +kernel
theorem dX10_even_5 : decode cX10_even 5 = .ok (.ifCond .eq 14, 3) := by decide +kernel
theorem dX10_even_8 : decode cX10_even 8 = .ok (.iload_n 3, 1) := by decide +kernel
theorem dX10_even_9 : decode cX10_even 9 = .ok (.iconst 0, 1) := by decide +kernel
theorem dX10_even_10 : decode cX10_even 10 = .ok (.sipush 200, 3) := by decide +kernel
theorem dX10_even_13 : decode cX10_even 13 = .ok (.invokestatic 81, 3) := by decide +kernel
theorem dX10_even_16 : decode cX10_even 16 = .ok (.ifCond .ne 5, 3) := by decide +kernel
theorem dX10_even_19 : decode cX10_even 19 = .ok (.iconst (-1), 1) := by decide +kernel
theorem dX10_even_20 : decode cX10_even 20 = .ok (.ireturn, 1) := by decide +kernel
theorem dX10_even_21 : decode cX10_even 21 = .ok (.iconst 0, 1) := by decide +kernel
theorem dX10_even_22 : decode cX10_even 22 = .ok (.istore 4, 2) := by decide +kernel
theorem dX10_even_24 : decode cX10_even 24 = .ok (.iload 4, 2) := by decide +kernel
theorem dX10_even_26 : decode cX10_even 26 = .ok (.iload_n 3, 1) := by decide +kernel
theorem dX10_even_27 : decode cX10_even 27 = .ok (.if_icmp .gt 23, 3) := by decide +kernel
theorem dX10_even_30 : decode cX10_even 30 = .ok (.aload_n 0, 1) := by decide +kernel
theorem dX10_even_31 : decode cX10_even 31 = .ok (.iload_n 1, 1) := by decide +kernel
theorem dX10_even_32 : decode cX10_even 32 = .ok (.iload 4, 2) := by decide +kernel
theorem dX10_even_34 : decode cX10_even 34 = .ok (.invokevirtual 389, 3) := by decide +kernel
theorem dX10_even_37 : decode cX10_even 37 = .ok (.iload_n 2, 1) := by decide +kernel
theorem dX10_even_38 : decode cX10_even 38 = .ok (.if_icmp .lt 6, 3) := by decide +kernel
theorem dX10_even_41 : decode cX10_even 41 = .ok (.iload 4, 2) := by decide +kernel
theorem dX10_even_43 : decode cX10_even 43 = .ok (.ireturn, 1) := by decide +kernel
theorem dX10_even_44 : decode cX10_even 44 = .ok (.iinc 4 1, 3) := by decide +kernel
theorem dX10_even_47 : decode cX10_even 47 = .ok (.goto (-23), 3) := by decide +kernel
theorem dX10_even_50 : decode cX10_even 50 = .ok (.iconst (-1), 1) := by decide +kernel
theorem dX10_even_51 : decode cX10_even 51 = .ok (.ireturn, 1) := by decide +kernel
theorem dX10_years_0 : decode cX10_years 0 = .ok (.aload_n 0, 1) := by decide +kernel
theorem dX10_years_1 : decode cX10_years 1 = .ok (.iload_n 1, 1) := by decide +kernel
theorem dX10_years_2 : decode cX10_years 2 = .ok (.invokevirtual 203, 3) := by decide +kernel
theorem dX10_years_5 : decode cX10_years 5 = .ok (.ifCond .eq 25, 3) := by decide +kernel
theorem dX10_years_8 : decode cX10_years 8 = .ok (.iload_n 2, 1) := by decide +kernel
theorem dX10_years_9 : decode cX10_years 9 = .ok (.ldc_w 370, 3) := by decide +kernel
theorem dX10_years_12 : decode cX10_years 12 = .ok (.ldc 146, 2) := by decide +kernel
theorem dX10_years_14 : decode cX10_years 14 = .ok (.invokestatic 81, 3) := by decide +kernel
theorem dX10_years_17 : decode cX10_years 17 = .ok (.ifCond .eq 13, 3) := by decide +kernel
theorem dX10_years_20 : decode cX10_years 20 = .ok (.iload_n 3, 1) := by decide +kernel
theorem dX10_years_21 : decode cX10_years 21 = .ok (.iconst 1, 1) := by decide +kernel
theorem dX10_years_22 : decode cX10_years 22 = .ok (.bipush 20, 2) := by decide +kernel
theorem dX10_years_24 : decode cX10_years 24 = .ok (.invokestatic 81, 3) := by decide +kernel
theorem dX10_years_27 : decode cX10_years 27 = .ok (.ifCond .ne 6, 3) := by decide +kernel
theorem dX10_years_30 : decode cX10_years 30 = .ok (.ldc 214, 2) := by decide +kernel
theorem dX10_years_32 : decode cX10_years 32 = .ok (.ireturn, 1) := by decide +kernel
theorem dX10_years_33 : decode cX10_years 33 = .ok (.aload_n 0, 1) := by decide +kernel
theorem dX10_years_34 : decode cX10_years 34 = .ok (.iconst 0, 1) := by decide +kernel
theorem dX10_years_35 : decode cX10_years 35 = .ok (.bipush 15, 2) := by decide +kernel
theorem dX10_years_37 : decode cX10_years 37 = .ok (.invokevirtual 78, 3) := by decide +kernel
theorem dX10_years_40 : decode cX10_years 40 = .ok (.aload_n 0, 1) := by decide +kernel
theorem dX10_years_41 : decode cX10_years 41 = .ok (.sipush 5490, 3) := by decide +kernel
theorem dX10_years_44 : decode cX10_years 44 = .ok (.putfield 7, 3) := by decide +kernel
theorem dX10_years_47 : decode cX10_years 47 = .ok (.iconst 0, 1) := by decide +kernel
theorem dX10_years_48 : decode cX10_years 48 = .ok (.istore 4, 2) := by decide +kernel
theorem dX10_years_50 : decode cX10_years 50 = .ok (.iload 4, 2) := by decide +kernel
theorem dX10_years_52 : decode cX10_years 52 = .ok (.iload_n 3, 1) := by decide +kernel
theorem dX10_years_53 : decode cX10_years 53 = .ok (.if_icmp .ge 18, 3) := by decide +kernel
theorem dX10_years_56 : decode cX10_years 56 = .ok (.aload_n 0, 1) := by decide +kernel
theorem dX10_years_57 : decode cX10_years 57 = .ok (.iload_n 2, 1) := by decide +kernel
theorem dX10_years_58 : decode cX10_years 58 = .ok (.invokevirtual 371, 3) := by decide +kernel
theorem dX10_years_61 : decode cX10_years 61 = .ok (.aload_n 0, 1) := by decide +kernel
theorem dX10_years_62 : decode cX10_years 62 = .ok (.invokevirtual 301, 3) := by decide +kernel
theorem dX10_years_65 : decode cX10_years 65 = .ok (.iinc 4 1, 3) := by decide +kernel
theorem dX10_years_68 : decode cX10_years 68 = .ok (.goto (-18), 3) := by decide +kernel
theorem dX10_years_71 : decode cX10_years 71 = .ok (.aload_n 0, 1) := by decide +kernel
theorem dX10_years_72 : decode cX10_years 72 = .ok (.iconst 5, 1) := by decide +kernel
theorem dX10_years_73 : decode cX10_years 73 = .ok (.iload_n 1, 1) := by decide +kernel
theorem dX10_years_74 : decode cX10_years 74 = .ok (.iadd, 1) := by decide +kernel
theorem dX10_years_75 : decode cX10_years 75 = .ok (.invokevirtual 193, 3) := by decide +kernel
theorem dX10_years_78 : decode cX10_years 78 = .ok (.istore 4, 2) := by decide +kernel
theorem dX10_years_80 : decode cX10_years 80 = .ok (.aload_n 0, 1) := by decide +kernel
theorem dX10_years_81 : decode cX10_years 81 = .ok (.iconst 0, 1) := by decide +kernel
theorem dX10_years_82 : decode cX10_years 82 = .ok (.putfield 7, 3) := by decide +kernel
theorem dX10_years_85 : decode cX10_years 85 = .ok (.iload 4, 2) := by decide +kernel
theorem dX10_years_87 : decode cX10_years 87 = .ok (.ireturn, 1) := by decide +kernel
theorem dX10_exit_0 : decode cX10_exit 0 = .ok (.aload_n 0, 1) := by decide +kernel
theorem dX10_exit_1 : decode cX10_exit 1 = .ok (.iload_n 1, 1) := by decide +kernel
theorem dX10_exit_2 : decode cX10_exit 2 = .ok (.invokevirtual 203, 3) := by decide +kernel
theorem dX10_exit_5 : decode cX10_exit 5 = .ok (.ifCond .ne 6, 3) := by decide +kernel
theorem dX10_exit_8 : decode cX10_exit 8 = .ok (.ldc 214, 2) := by decide +kernel
theorem dX10_exit_10 : decode cX10_exit 10 = .ok (.ireturn, 1) := by decide +kernel
theorem dX10_exit_11 : decode cX10_exit 11 = .ok (.aload_n 0, 1) := by decide +kernel
theorem dX10_exit_12 : decode cX10_exit 12 = .ok (.iconst 0, 1) := by decide +kernel
theorem dX10_exit_13 : decode cX10_exit 13 = .ok (.invokevirtual 386, 3) := by decide +kernel
theorem dX10_exit_16 : decode cX10_exit 16 = .ok (.aload_n 0, 1) := by decide +kernel
theorem dX10_exit_17 : decode cX10_exit 17 = .ok (.invokevirtual 374, 3) := by decide +kernel
theorem dX10_exit_20 : decode cX10_exit 20 = .ok (.istore_n 2, 1) := by decide +kernel
theorem dX10_exit_21 : decode cX10_exit 21 = .ok (.aload_n 0, 1) := by decide +kernel
theorem dX10_exit_22 : decode cX10_exit 22 = .ok (.iconst 5, 1) := by decide +kernel
theorem dX10_exit_23 : decode cX10_exit 23 = .ok (.iload_n 1, 1) := by decide +kernel
theorem dX10_exit_24 : decode cX10_exit 24 = .ok (.iadd, 1) := by decide +kernel
theorem dX10_exit_25 : decode cX10_exit 25 = .ok (.invokevirtual 193, 3) := by decide +kernel
theorem dX10_exit_28 : decode cX10_exit 28 = .ok (.aload_n 0, 1) := by decide +kernel
theorem dX10_exit_29 : decode cX10_exit 29 = .ok (.bipush 13, 2) := by decide +kernel
theorem dX10_exit_31 : decode cX10_exit 31 = .ok (.iload_n 1, 1) := by decide +kernel
theorem dX10_exit_32 : decode cX10_exit 32 = .ok (.iadd, 1) := by decide +kernel
theorem dX10_exit_33 : decode cX10_exit 33 = .ok (.invokevirtual 193, 3) := by decide +kernel
theorem dX10_exit_36 : decode cX10_exit 36 = .ok (.ineg, 1) := by decide +kernel
theorem dX10_exit_37 : decode cX10_exit 37 = .ok (.invokestatic 224, 3) := by decide +kernel
theorem dX10_exit_40 : decode cX10_exit 40 = .ok (.istore_n 3, 1) := by decide +kernel
theorem dX10_exit_41 : decode cX10_exit 41 = .ok (.aload_n 0, 1) := by decide +kernel
theorem dX10_exit_42 : decode cX10_exit 42 = .ok (.iconst 0, 1) := by decide +kernel
theorem dX10_exit_43 : decode cX10_exit 43 = .ok (.putfield 7, 3) := by decide +kernel
theorem dX10_exit_46 : decode cX10_exit 46 = .ok (.iload_n 3, 1) := by decide +kernel
theorem dX10_exit_47 : decode cX10_exit 47 = .ok (.ireturn, 1) := by decide +kernel
theorem dX10_first_0 : decode cX10_first 0 = .ok (.aload_n 0, 1) := by decide +kernel
theorem dX10_first_1 : decode cX10_first 1 = .ok (.iconst 0, 1) := by decide +kernel
theorem dX10_first_2 : decode cX10_first 2 = .ok (.invokevirtual 193, 3) := by decide +kernel
theorem dX10_first_5 : decode cX10_first 5 = .ok (.ifCond .ne 5, 3) := by decide +kernel
theorem dX10_first_8 : decode cX10_first 8 = .ok (.iconst (-1), 1) := by decide +kernel
theorem dX10_first_9 : decode cX10_first 9 = .ok (.ireturn, 1) := by decide +kernel
theorem dX10_first_10 : decode cX10_first 10 = .ok (.aload_n 0, 1) := by decide +kernel
theorem dX10_first_11 : decode cX10_first 11 = .ok (.iconst 0, 1) := by decide +kernel
theorem dX10_first_12 : decode cX10_first 12 = .ok (.bipush 15, 2) := by decide +kernel
theorem dX10_first_14 : decode cX10_first 14 = .ok (.invokevirtual 78, 3) := by decide +kernel
theorem dX10_first_17 : decode cX10_first 17 = .ok (.aload_n 0, 1) := by decide +kernel
theorem dX10_first_18 : decode cX10_first 18 = .ok (.sipush 5490, 3) := by decide +kernel
theorem dX10_first_21 : decode cX10_first 21 = .ok (.putfield 7, 3) := by decide +kernel
theorem dX10_first_24 : decode cX10_first 24 = .ok (.aload_n 0, 1) := by decide +kernel
theorem dX10_first_25 : decode cX10_first 25 = .ok (.invokevirtual 374, 3) := by decide +kernel
theorem dX10_first_28 : decode cX10_first 28 = .ok (.istore_n 1, 1) := by decide +kernel
theorem dX10_first_29 : decode cX10_first 29 = .ok (.aload_n 0, 1) := by decide +kernel
theorem dX10_first_30 : decode cX10_first 30 = .ok (.aload_n 0, 1) := by decide +kernel
theorem dX10_first_31 : decode cX10_first 31 = .ok (.iconst 5, 1) := by decide +kernel
theorem dX10_first_32 : decode cX10_first 32 = .ok (.invokevirtual 228, 3) := by decide +kernel
theorem dX10_first_35 : decode cX10_first 35 = .ok (.invokevirtual 215, 3) := by decide +kernel
theorem dX10_first_38 : decode cX10_first 38 = .ok (.aload_n 0, 1) := by decide +kernel
theorem dX10_first_39 : decode cX10_first 39 = .ok (.invokevirtual 277, 3) := by decide +kernel
theorem dX10_first_42 : decode cX10_first 42 = .ok (.istore_n 2, 1) := by decide +kernel
theorem dX10_first_43 : decode cX10_first 43 = .ok (.iload_n 2, 1) := by decide +kernel
theorem dX10_first_44 : decode cX10_first 44 = .ok (.istore_n 3, 1) := by decide +kernel
theorem dX10_first_45 : decode cX10_first 45 = .ok (.iload_n 3, 1) := by decide +kernel
theorem dX10_first_46 : decode cX10_first 46 = .ok (.bipush 8, 2) := by decide +kernel
theorem dX10_first_48 : decode cX10_first 48 = .ok (.if_icmp .ge 38, 3) := by decide +kernel
theorem dX10_first_51 : decode cX10_first 51 = .ok (.aload_n 0, 1) := by decide +kernel
theorem dX10_first_52 : decode cX10_first 52 = .ok (.iload_n 3, 1) := by decide +kernel
theorem dX10_first_53 : decode cX10_first 53 = .ok (.invokevirtual 203, 3) := by decide +kernel
theorem dX10_first_56 : decode cX10_first 56 = .ok (.ifCond .eq 22, 3) := by decide +kernel
theorem dX10_first_59 : decode cX10_first 59 = .ok (.aload_n 0, 1) := by decide +kernel
theorem dX10_first_60 : decode cX10_first 60 = .ok (.getfield 38, 3) := by decide +kernel
theorem dX10_first_63 : decode cX10_first 63 = .ok (.iload_n 3, 1) := by decide +kernel
theorem dX10_first_64 : decode cX10_first 64 = .ok (.iaload, 1) := by decide +kernel
theorem dX10_first_65 : decode cX10_first 65 = .ok (.aload_n 0, 1) := by decide +kernel
theorem dX10_first_66 : decode cX10_first 66 = .ok (.getfield 38, 3) := by decide +kernel
theorem dX10_first_69 : decode cX10_first 69 = .ok (.iload_n 2, 1) := by decide +kernel
theorem dX10_first_70 : decode cX10_first 70 = .ok (.iaload, 1) := by decide +kernel
theorem dX10_first_71 : decode cX10_first 71 = .ok (.if_icmp .le 7, 3) := by decide +kernel
theorem dX10_first_74 : decode cX10_first 74 = .ok (.iload_n 3, 1) := by decide +kernel
theorem dX10_first_75 : decode cX10_first 75 = .ok (.goto 4, 3) := by decide +kernel
theorem dX10_first_78 : decode cX10_first 78 = .ok (.iload_n 2, 1) := by decide +kernel
theorem dX10_first_79 : decode cX10_first 79 = .ok (.istore_n 2, 1) := by decide +kernel
theorem dX10_first_80 : decode cX10_first 80 = .ok (.iinc 3 1, 3) := by decide +kernel
theorem dX10_first_83 : decode cX10_first 83 = .ok (.goto (-38), 3) := by decide +kernel
theorem dX10_first_86 : decode cX10_first 86 = .ok (.aload_n 0, 1) := by decide +kernel
theorem dX10_first_87 : decode cX10_first 87 = .ok (.iconst 0, 1) := by decide +kernel
theorem dX10_first_88 : decode cX10_first 88 = .ok (.putfield 7, 3) := by decide +kernel
theorem dX10_first_91 : decode cX10_first 91 = .ok (.iload_n 2, 1) := by decide +kernel
theorem dX10_first_92 : decode cX10_first 92 = .ok (.ireturn, 1) := by decide +kernel
theorem dX10_fills_0 : decode cX10_fills 0 = .ok (.aload_n 0, 1) := by decide +kernel
theorem dX10_fills_1 : decode cX10_fills 1 = .ok (.iconst 0, 1) := by decide +kernel
theorem dX10_fills_2 : decode cX10_fills 2 = .ok (.invokevirtual 193, 3) := by decide +kernel
theorem dX10_fills_5 : decode cX10_fills 5 = .ok (.ifCond .eq 22, 3) := by decide +kernel
theorem dX10_fills_8 : decode cX10_fills 8 = .ok (.iload_n 1, 1) := by decide +kernel
theorem dX10_fills_9 : decode cX10_fills 9 = .ok (.iconst 0, 1) := by decide +kernel
theorem dX10_fills_10 : decode cX10_fills 10 = .ok (.ldc 213, 2) := by decide +kernel
theorem dX10_fills_12 : decode cX10_fills 12 = .ok (.invokestatic 81, 3) := by decide +kernel
theorem dX10_fills_15 : decode cX10_fills 15 = .ok (.ifCond .eq 12, 3) := by decide +kernel
theorem dX10_fills_18 : decode cX10_fills 18 = .ok (.iload_n 2, 1) := by decide +kernel
theorem dX10_fills_19 : decode cX10_fills 19 = .ok (.iconst 0, 1) := by decide +kernel
theorem dX10_fills_20 : decode cX10_fills 20 = .ok (.iconst 1, 1) := by decide +kernel
theorem dX10_fills_21 : decode cX10_fills 21 = .ok (.invokestatic 81, 3) := by decide +kernel
theorem dX10_fills_24 : decode cX10_fills 24 = .ok (.ifCond .ne 6, 3) := by decide +kernel
theorem dX10_fills_27 : decode cX10_fills 27 = .ok (.ldc 214, 2) := by decide +kernel
theorem dX10_fills_29 : decode cX10_fills 29 = .ok (.ireturn, 1) := by decide +kernel
theorem dX10_fills_30 : decode cX10_fills 30 = .ok (.iload_n 1, 1) := by decide +kernel
theorem dX10_fills_31 : decode cX10_fills 31 = .ok (.istore_n 3, 1) := by decide +kernel
theorem dX10_fills_32 : decode cX10_fills 32 = .ok (.iconst 0, 1) := by decide +kernel
theorem dX10_fills_33 : decode cX10_fills 33 = .ok (.istore 4, 2) := by decide +kernel
theorem dX10_fills_35 : decode cX10_fills 35 = .ok (.iconst 0, 1) := by decide +kernel
theorem dX10_fills_36 : decode cX10_fills 36 = .ok (.istore 5, 2) := by decide +kernel
theorem dX10_fills_38 : decode cX10_fills 38 = .ok (.iload 5, 2) := by decide +kernel
theorem dX10_fills_40 : decode cX10_fills 40 = .ok (.aload_n 0, 1) := by decide +kernel
theorem dX10_fills_41 : decode cX10_fills 41 = .ok (.bipush 77, 2) := by decide +kernel
theorem dX10_fills_43 : decode cX10_fills 43 = .ok (.invokevirtual 193, 3) := by decide +kernel
theorem dX10_fills_46 : decode cX10_fills 46 = .ok (.if_icmp .ge 53, 3) := by decide +kernel
theorem dX10_fills_49 : decode cX10_fills 49 = .ok (.iload_n 3, 1) := by decide +kernel
theorem dX10_fills_50 : decode cX10_fills 50 = .ok (.ifCond .le 49, 3) := by decide +kernel
theorem dX10_fills_53 : decode cX10_fills 53 = .ok (.aload_n 0, 1) := by decide +kernel
theorem dX10_fills_54 : decode cX10_fills 54 = .ok (.iload 5, 2) := by decide +kernel
theorem dX10_fills_56 : decode cX10_fills 56 = .ok (.invokevirtual 206, 3) := by decide +kernel
theorem dX10_fills_59 : decode cX10_fills 59 = .ok (.aload_n 0, 1) := by decide +kernel
theorem dX10_fills_60 : decode cX10_fills 60 = .ok (.invokevirtual 197, 3) := by decide +kernel
theorem dX10_fills_63 : decode cX10_fills 63 = .ok (.lconst 0, 1) := by decide +kernel
theorem dX10_fills_64 : decode cX10_fills 64 = .ok (.lcmp, 1) := by decide +kernel
theorem dX10_fills_65 : decode cX10_fills 65 = .ok (.ifCond .ne 6, 3) := by decide +kernel
theorem dX10_fills_68 : decode cX10_fills 68 = .ok (.goto 25, 3) := by decide +kernel
theorem dX10_fills_71 : decode cX10_fills 71 = .ok (.iload_n 3, 1) := by decide +kernel
theorem dX10_fills_72 : decode cX10_fills 72 = .ok (.iload_n 3, 1) := by decide +kernel
theorem dX10_fills_73 : decode cX10_fills 73 = .ok (.aload_n 0, 1) := by decide +kernel
theorem dX10_fills_74 : decode cX10_fills 74 = .ok (.bipush 78, 2) := by decide +kernel
theorem dX10_fills_76 : decode cX10_fills 76 = .ok (.bipush 9, 2) := by decide +kernel
theorem dX10_fills_78 : decode cX10_fills 78 = .ok (.iload 5, 2) := by decide +kernel
theorem dX10_fills_80 : decode cX10_fills 80 = .ok (.imul, 1) := by decide +kernel
theorem dX10_fills_81 : decode cX10_fills 81 = .ok (.iadd, 1) := by decide +kernel
theorem dX10_fills_82 : decode cX10_fills 82 = .ok (.invokevirtual 193, 3) := by decide +kernel
theorem dX10_fills_85 : decode cX10_fills 85 = .ok (.invokestatic 252, 3) := by decide +kernel
theorem dX10_fills_88 : decode cX10_fills 88 = .ok (.isub, 1) := by decide +kernel
theorem dX10_fills_89 : decode cX10_fills 89 = .ok (.istore_n 3, 1) := by decide +kernel
theorem dX10_fills_90 : decode cX10_fills 90 = .ok (.iinc 4 1, 3) := by decide +kernel
theorem dX10_fills_93 : decode cX10_fills 93 = .ok (.iinc 5 1, 3) := by decide +kernel
theorem dX10_fills_96 : decode cX10_fills 96 = .ok (.goto (-58), 3) := by decide +kernel
theorem dX10_fills_99 : decode cX10_fills 99 = .ok (.iload_n 2, 1) := by decide +kernel
theorem dX10_fills_100 : decode cX10_fills 100 = .ok (.iconst 1, 1) := by decide +kernel
theorem dX10_fills_101 : decode cX10_fills 101 = .ok (.if_icmp .ne 7, 3) := by decide +kernel
theorem dX10_fills_104 : decode cX10_fills 104 = .ok (.iload_n 3, 1) := by decide +kernel
theorem dX10_fills_105 : decode cX10_fills 105 = .ok (.goto 16, 3) := by decide +kernel
theorem dX10_fills_108 : decode cX10_fills 108 = .ok (.iload_n 3, 1) := by decide +kernel
theorem dX10_fills_109 : decode cX10_fills 109 = .ok (.ifCond .le 10, 3) := by decide +kernel
theorem dX10_fills_112 : decode cX10_fills 112 = .ok (.iload 4, 2) := by decide +kernel
theorem dX10_fills_114 : decode cX10_fills 114 = .ok (.iconst 1, 1) := by decide +kernel
theorem dX10_fills_115 : decode cX10_fills 115 = .ok (.iadd, 1) := by decide +kernel
theorem dX10_fills_116 : decode cX10_fills 116 = .ok (.goto 5, 3) := by decide +kernel
theorem dX10_fills_119 : decode cX10_fills 119 = .ok (.iload 4, 2) := by decide +kernel
theorem dX10_fills_121 : decode cX10_fills 121 = .ok (.ireturn, 1) := by decide +kernel
theorem dX10_breaks_0 : decode cX10_breaks 0 = .ok (.aload_n 0, 1) := by decide +kernel
theorem dX10_breaks_1 : decode cX10_breaks 1 = .ok (.iconst 0, 1) := by decide +kernel
theorem dX10_breaks_2 : decode cX10_breaks 2 = .ok (.invokevirtual 193, 3) := by decide +kernel
theorem dX10_breaks_5 : decode cX10_breaks 5 = .ok (.ifCond .eq 14, 3) := by decide +kernel
theorem dX10_breaks_8 : decode cX10_breaks 8 = .ok (.iload_n 1, 1) := by decide +kernel
theorem dX10_breaks_9 : decode cX10_breaks 9 = .ok (.iconst 1, 1) := by decide +kernel
theorem dX10_breaks_10 : decode cX10_breaks 10 = .ok (.sipush 200, 3) := by decide +kernel
theorem dX10_breaks_13 : decode cX10_breaks 13 = .ok (.invokestatic 81, 3) := by decide +kernel
theorem dX10_breaks_16 : decode cX10_breaks 16 = .ok (.ifCond .ne 5, 3) := by decide +kernel
theorem dX10_breaks_19 : decode cX10_breaks 19 = .ok (.iconst (-1), 1) := by decide +kernel
theorem dX10_breaks_20 : decode cX10_breaks 20 = .ok (.ireturn, 1) := by decide +kernel
theorem dX10_breaks_21 : decode cX10_breaks 21 = .ok (.iconst (-1), 1) := by decide +kernel
theorem dX10_breaks_22 : decode cX10_breaks 22 = .ok (.istore_n 2, 1) := by decide +kernel
theorem dX10_breaks_23 : decode cX10_breaks 23 = .ok (.iconst 1, 1) := by decide +kernel
theorem dX10_breaks_24 : decode cX10_breaks 24 = .ok (.istore_n 3, 1) := by decide +kernel
theorem dX10_breaks_25 : decode cX10_breaks 25 = .ok (.iload_n 3, 1) := by decide +kernel
theorem dX10_breaks_26 : decode cX10_breaks 26 = .ok (.iload_n 1, 1) := by decide +kernel
theorem dX10_breaks_27 : decode cX10_breaks 27 = .ok (.if_icmp .gt 37, 3) := by decide +kernel
theorem dX10_breaks_30 : decode cX10_breaks 30 = .ok (.iload_n 2, 1) := by decide +kernel
theorem dX10_breaks_31 : decode cX10_breaks 31 = .ok (.iconst (-1), 1) := by decide +kernel
theorem dX10_breaks_32 : decode cX10_breaks 32 = .ok (.if_icmp .ne 32, 3) := by decide +kernel
theorem dX10_breaks_35 : decode cX10_breaks 35 = .ok (.aload_n 0, 1) := by decide +kernel
theorem dX10_breaks_36 : decode cX10_breaks 36 = .ok (.iload_n 3, 1) := by decide +kernel
theorem dX10_breaks_37 : decode cX10_breaks 37 = .ok (.ineg, 1) := by decide +kernel
theorem dX10_breaks_38 : decode cX10_breaks 38 = .ok (.invokevirtual 386, 3) := by decide +kernel
theorem dX10_breaks_41 : decode cX10_breaks 41 = .ok (.aload_n 0, 1) := by decide +kernel
theorem dX10_breaks_42 : decode cX10_breaks 42 = .ok (.sipush 309, 3) := by decide +kernel
theorem dX10_breaks_45 : decode cX10_breaks 45 = .ok (.invokevirtual 193, 3) := by decide +kernel
theorem dX10_breaks_48 : decode cX10_breaks 48 = .ok (.ifCond .le 5, 3) := by decide +kernel
theorem dX10_breaks_51 : decode cX10_breaks 51 = .ok (.iload_n 3, 1) := by decide +kernel
theorem dX10_breaks_52 : decode cX10_breaks 52 = .ok (.istore_n 2, 1) := by decide +kernel
theorem dX10_breaks_53 : decode cX10_breaks 53 = .ok (.aload_n 0, 1) := by decide +kernel
theorem dX10_breaks_54 : decode cX10_breaks 54 = .ok (.iconst 0, 1) := by decide +kernel
theorem dX10_breaks_55 : decode cX10_breaks 55 = .ok (.putfield 7, 3) := by decide +kernel
theorem dX10_breaks_58 : decode cX10_breaks 58 = .ok (.iinc 3 1, 3) := by decide +kernel
theorem dX10_breaks_61 : decode cX10_breaks 61 = .ok (.goto (-36), 3) := by decide +kernel
theorem dX10_breaks_64 : decode cX10_breaks 64 = .ok (.iload_n 2, 1) := by decide +kernel
theorem dX10_breaks_65 : decode cX10_breaks 65 = .ok (.ireturn, 1) := by decide +kernel
theorem dX10_actHere_0 : decode cX10_actHere 0 = .ok (.aload_n 0, 1) := by decide +kernel
theorem dX10_actHere_1 : decode cX10_actHere 1 = .ok (.bipush 99, 2) := by decide +kernel
theorem dX10_actHere_3 : decode cX10_actHere 3 = .ok (.bipush 108, 2) := by decide +kernel
theorem dX10_actHere_5 : decode cX10_actHere 5 = .ok (.bipush 111, 2) := by decide +kernel
theorem dX10_actHere_7 : decode cX10_actHere 7 = .ok (.bipush 115, 2) := by decide +kernel
theorem dX10_actHere_9 : decode cX10_actHere 9 = .ok (.bipush 101, 2) := by decide +kernel
theorem dX10_actHere_11 : decode cX10_actHere 11 = .ok (.invokestatic 118, 3) := by decide +kernel
theorem dX10_actHere_14 : decode cX10_actHere 14 = .ok (.invokevirtual 150, 3) := by decide +kernel
theorem dX10_actHere_17 : decode cX10_actHere 17 = .ok (.ifCond .eq 5, 3) := by decide +kernel
theorem dX10_actHere_20 : decode cX10_actHere 20 = .ok (.iconst 0, 1) := by decide +kernel
theorem dX10_actHere_21 : decode cX10_actHere 21 = .ok (.ireturn, 1) := by decide +kernel
theorem dX10_actHere_22 : decode cX10_actHere 22 = .ok (.aload_n 0, 1) := by decide +kernel
theorem dX10_actHere_23 : decode cX10_actHere 23 = .ok (.bipush 101, 2) := by decide +kernel
theorem dX10_actHere_25 : decode cX10_actHere 25 = .ok (.bipush 97, 2) := by decide +kernel
theorem dX10_actHere_27 : decode cX10_actHere 27 = .ok (.bipush 114, 2) := by decide +kernel
theorem dX10_actHere_29 : decode cX10_actHere 29 = .ok (.bipush 110, 2) := by decide +kernel
theorem dX10_actHere_31 : decode cX10_actHere 31 = .ok (.invokestatic 114, 3) := by decide +kernel
theorem dX10_actHere_34 : decode cX10_actHere 34 = .ok (.invokevirtual 150, 3) := by decide +kernel
theorem dX10_actHere_37 : decode cX10_actHere 37 = .ok (.ifCond .eq 5, 3) := by decide +kernel
theorem dX10_actHere_40 : decode cX10_actHere 40 = .ok (.iconst 1, 1) := by decide +kernel
theorem dX10_actHere_41 : decode cX10_actHere 41 = .ok (.ireturn, 1) := by decide +kernel
theorem dX10_actHere_42 : decode cX10_actHere 42 = .ok (.aload_n 0, 1) := by decide +kernel
theorem dX10_actHere_43 : decode cX10_actHere 43 = .ok (.bipush 108, 2) := by decide +kernel
theorem dX10_actHere_45 : decode cX10_actHere 45 = .ok (.bipush 111, 2) := by decide +kernel
theorem dX10_actHere_47 : decode cX10_actHere 47 = .ok (.bipush 115, 2) := by decide +kernel
theorem dX10_actHere_49 : decode cX10_actHere 49 = .ok (.bipush 101, 2) := by decide +kernel
theorem dX10_actHere_51 : decode cX10_actHere 51 = .ok (.invokestatic 114, 3) := by decide +kernel
theorem dX10_actHere_54 : decode cX10_actHere 54 = .ok (.invokevirtual 150, 3) := by decide +kernel
theorem dX10_actHere_57 : decode cX10_actHere 57 = .ok (.ifCond .eq 5, 3) := by decide +kernel
theorem dX10_actHere_60 : decode cX10_actHere 60 = .ok (.iconst 2, 1) := by decide +kernel
theorem dX10_actHere_61 : decode cX10_actHere 61 = .ok (.ireturn, 1) := by decide +kernel
theorem dX10_actHere_62 : decode cX10_actHere 62 = .ok (.aload_n 0, 1) := by decide +kernel
theorem dX10_actHere_63 : decode cX10_actHere 63 = .ok (.bipush 98, 2) := by decide +kernel
theorem dX10_actHere_65 : decode cX10_actHere 65 = .ok (.bipush 111, 2) := by decide +kernel
theorem dX10_actHere_67 : decode cX10_actHere 67 = .ok (.bipush 114, 2) := by decide +kernel
theorem dX10_actHere_69 : decode cX10_actHere 69 = .ok (.bipush 114, 2) := by decide +kernel
theorem dX10_actHere_71 : decode cX10_actHere 71 = .ok (.bipush 111, 2) := by decide +kernel
theorem dX10_actHere_73 : decode cX10_actHere 73 = .ok (.bipush 119, 2) := by decide +kernel
theorem dX10_actHere_75 : decode cX10_actHere 75 = .ok (.invokestatic 310, 3) := by decide +kernel
theorem dX10_actHere_78 : decode cX10_actHere 78 = .ok (.invokevirtual 150, 3) := by decide +kernel
theorem dX10_actHere_81 : decode cX10_actHere 81 = .ok (.ifCond .eq 5, 3) := by decide +kernel
theorem dX10_actHere_84 : decode cX10_actHere 84 = .ok (.iconst 3, 1) := by decide +kernel
theorem dX10_actHere_85 : decode cX10_actHere 85 = .ok (.ireturn, 1) := by decide +kernel
theorem dX10_actHere_86 : decode cX10_actHere 86 = .ok (.aload_n 0, 1) := by decide +kernel
theorem dX10_actHere_87 : decode cX10_actHere 87 = .ok (.bipush 114, 2) := by decide +kernel
theorem dX10_actHere_89 : decode cX10_actHere 89 = .ok (.bipush 101, 2) := by decide +kernel
theorem dX10_actHere_91 : decode cX10_actHere 91 = .ok (.bipush 112, 2) := by decide +kernel
theorem dX10_actHere_93 : decode cX10_actHere 93 = .ok (.bipush 97, 2) := by decide +kernel
theorem dX10_actHere_95 : decode cX10_actHere 95 = .ok (.bipush 121, 2) := by decide +kernel
theorem dX10_actHere_97 : decode cX10_actHere 97 = .ok (.invokestatic 118, 3) := by decide +kernel
theorem dX10_actHere_100 : decode cX10_actHere 100 = .ok (.invokevirtual 150, 3) := by decide +kernel
theorem dX10_actHere_103 : decode cX10_actHere 103 = .ok (.ifCond .eq 5, 3) := by decide +kernel
theorem dX10_actHere_106 : decode cX10_actHere 106 = .ok (.iconst 4, 1) := by decide +kernel
theorem dX10_actHere_107 : decode cX10_actHere 107 = .ok (.ireturn, 1) := by decide +kernel
theorem dX10_actHere_108 : decode cX10_actHere 108 = .ok (.aload_n 0, 1) := by decide +kernel
theorem dX10_actHere_109 : decode cX10_actHere 109 = .ok (.bipush 109, 2) := by decide +kernel
theorem dX10_actHere_111 : decode cX10_actHere 111 = .ok (.bipush 97, 2) := by decide +kernel
theorem dX10_actHere_113 : decode cX10_actHere 113 = .ok (.bipush 114, 2) := by decide +kernel
theorem dX10_actHere_115 : decode cX10_actHere 115 = .ok (.bipush 107, 2) := by decide +kernel
theorem dX10_actHere_117 : decode cX10_actHere 117 = .ok (.bipush 101, 2) := by decide +kernel
theorem dX10_actHere_119 : decode cX10_actHere 119 = .ok (.bipush 116, 2) := by decide +kernel
theorem dX10_actHere_121 : decode cX10_actHere 121 = .ok (.invokestatic 310, 3) := by decide +kernel
theorem dX10_actHere_124 : decode cX10_actHere 124 = .ok (.invokevirtual 150, 3) := by decide +kernel
theorem dX10_actHere_127 : decode cX10_actHere 127 = .ok (.ifCond .eq 5, 3) := by decide +kernel
theorem dX10_actHere_130 : decode cX10_actHere 130 = .ok (.iconst 5, 1) := by decide +kernel
theorem dX10_actHere_131 : decode cX10_actHere 131 = .ok (.ireturn, 1) := by decide +kernel
theorem dX10_actHere_132 : decode cX10_actHere 132 = .ok (.aload_n 0, 1) := by decide +kernel
theorem dX10_actHere_133 : decode cX10_actHere 133 = .ok (.bipush 112, 2) := by decide +kernel
theorem dX10_actHere_135 : decode cX10_actHere 135 = .ok (.bipush 97, 2) := by decide +kernel
theorem dX10_actHere_137 : decode cX10_actHere 137 = .ok (.bipush 121, 2) := by decide +kernel
theorem dX10_actHere_139 : decode cX10_actHere 139 = .ok (.invokestatic 110, 3) := by decide +kernel
theorem dX10_actHere_142 : decode cX10_actHere 142 = .ok (.invokevirtual 150, 3) := by decide +kernel
theorem dX10_actHere_145 : decode cX10_actHere 145 = .ok (.ifCond .eq 6, 3) := by decide +kernel
theorem dX10_actHere_148 : decode cX10_actHere 148 = .ok (.bipush 6, 2) := by decide +kernel
theorem dX10_actHere_150 : decode cX10_actHere 150 = .ok (.ireturn, 1) := by decide +kernel
theorem dX10_actHere_151 : decode cX10_actHere 151 = .ok (.aload_n 0, 1) := by decide +kernel
theorem dX10_actHere_152 : decode cX10_actHere 152 = .ok (.bipush 100, 2) := by decide +kernel
theorem dX10_actHere_154 : decode cX10_actHere 154 = .ok (.bipush 114, 2) := by decide +kernel
theorem dX10_actHere_156 : decode cX10_actHere 156 = .ok (.bipush 97, 2) := by decide +kernel
theorem dX10_actHere_158 : decode cX10_actHere 158 = .ok (.bipush 119, 2) := by decide +kernel
theorem dX10_actHere_160 : decode cX10_actHere 160 = .ok (.invokestatic 114, 3) := by decide +kernel
theorem dX10_actHere_163 : decode cX10_actHere 163 = .ok (.invokevirtual 150, 3) := by decide +kernel
theorem dX10_actHere_166 : decode cX10_actHere 166 = .ok (.ifCond .eq 6, 3) := by decide +kernel
theorem dX10_actHere_169 : decode cX10_actHere 169 = .ok (.bipush 7, 2) := by decide +kernel
theorem dX10_actHere_171 : decode cX10_actHere 171 = .ok (.ireturn, 1) := by decide +kernel
theorem dX10_actHere_172 : decode cX10_actHere 172 = .ok (.aload_n 0, 1) := by decide +kernel
theorem dX10_actHere_173 : decode cX10_actHere 173 = .ok (.bipush 99, 2) := by decide +kernel
theorem dX10_actHere_175 : decode cX10_actHere 175 = .ok (.bipush 111, 2) := by decide +kernel
theorem dX10_actHere_177 : decode cX10_actHere 177 = .ok (.bipush 109, 2) := by decide +kernel
theorem dX10_actHere_179 : decode cX10_actHere 179 = .ok (.bipush 101, 2) := by decide +kernel
theorem dX10_actHere_181 : decode cX10_actHere 181 = .ok (.invokestatic 114, 3) := by decide +kernel
theorem dX10_actHere_184 : decode cX10_actHere 184 = .ok (.invokevirtual 150, 3) := by decide +kernel
theorem dX10_actHere_187 : decode cX10_actHere 187 = .ok (.ifCond .eq 6, 3) := by decide +kernel
theorem dX10_actHere_190 : decode cX10_actHere 190 = .ok (.bipush 8, 2) := by decide +kernel
theorem dX10_actHere_192 : decode cX10_actHere 192 = .ok (.ireturn, 1) := by decide +kernel
theorem dX10_actHere_193 : decode cX10_actHere 193 = .ok (.aload_n 0, 1) := by decide +kernel
theorem dX10_actHere_194 : decode cX10_actHere 194 = .ok (.lconst 0, 1) := by decide +kernel
theorem dX10_actHere_195 : decode cX10_actHere 195 = .ok (.bipush 103, 2) := by decide +kernel
theorem dX10_actHere_197 : decode cX10_actHere 197 = .ok (.invokestatic 106, 3) := by decide +kernel
theorem dX10_actHere_200 : decode cX10_actHere 200 = .ok (.bipush 111, 2) := by decide +kernel
theorem dX10_actHere_202 : decode cX10_actHere 202 = .ok (.invokestatic 106, 3) := by decide +kernel
theorem dX10_actHere_205 : decode cX10_actHere 205 = .ok (.invokevirtual 150, 3) := by decide +kernel
theorem dX10_actHere_208 : decode cX10_actHere 208 = .ok (.ifCond .eq 8, 3) := by decide +kernel
theorem dX10_actHere_211 : decode cX10_actHere 211 = .ok (.bipush 9, 2) := by decide +kernel
theorem dX10_actHere_213 : decode cX10_actHere 213 = .ok (.goto 4, 3) := by decide +kernel
theorem dX10_actHere_216 : decode cX10_actHere 216 = .ok (.iconst (-1), 1) := by decide +kernel
theorem dX10_actHere_217 : decode cX10_actHere 217 = .ok (.ireturn, 1) := by decide +kernel
theorem dX10_readWho_0 : decode cX10_readWho 0 = .ok (.iload_n 2, 1) := by decide +kernel
theorem dX10_readWho_1 : decode cX10_readWho 1 = .ok (.bipush 6, 2) := by decide +kernel
theorem dX10_readWho_3 : decode cX10_readWho 3 = .ok (.if_icmp .ge 13, 3) := by decide +kernel
theorem dX10_readWho_6 : decode cX10_readWho 6 = .ok (.aload_n 0, 1) := by decide +kernel
theorem dX10_readWho_7 : decode cX10_readWho 7 = .ok (.iconst 0, 1) := by decide +kernel
theorem dX10_readWho_8 : decode cX10_readWho 8 = .ok (.bipush 7, 2) := by decide +kernel
theorem dX10_readWho_10 : decode cX10_readWho 10 = .ok (.invokevirtual 166, 3) := by decide +kernel
theorem dX10_readWho_13 : decode cX10_readWho 13 = .ok (.goto 7, 3) := by decide +kernel
theorem dX10_readWho_16 : decode cX10_readWho 16 = .ok (.aload_n 0, 1) := by decide +kernel
theorem dX10_readWho_17 : decode cX10_readWho 17 = .ok (.invokevirtual 324, 3) := by decide +kernel
theorem dX10_readWho_20 : decode cX10_readWho 20 = .ok (.istore_n 3, 1) := by decide +kernel
theorem dX10_readWho_21 : decode cX10_readWho 21 = .ok (.aload_n 0, 1) := by decide +kernel
theorem dX10_readWho_22 : decode cX10_readWho 22 = .ok (.getfield 56, 3) := by decide +kernel
theorem dX10_readWho_25 : decode cX10_readWho 25 = .ok (.iload_n 1, 1) := by decide +kernel
theorem dX10_readWho_26 : decode cX10_readWho 26 = .ok (.iconst 1, 1) := by decide +kernel
theorem dX10_readWho_27 : decode cX10_readWho 27 = .ok (.iadd, 1) := by decide +kernel
theorem dX10_readWho_28 : decode cX10_readWho 28 = .ok (.aload_n 0, 1) := by decide +kernel
theorem dX10_readWho_29 : decode cX10_readWho 29 = .ok (.getfield 158, 3) := by decide +kernel
theorem dX10_readWho_32 : decode cX10_readWho 32 = .ok (.iastore, 1) := by decide +kernel
theorem dX10_readWho_33 : decode cX10_readWho 33 = .ok (.iload_n 3, 1) := by decide +kernel
theorem dX10_readWho_34 : decode cX10_readWho 34 = .ok (.ireturn, 1) := by decide +kernel
theorem dX10_readMuch_0 : decode cX10_readMuch 0 = .ok (.aload_n 0, 1) := by decide +kernel
theorem dX10_readMuch_1 : decode cX10_readMuch 1 = .ok (.iconst 0, 1) := by decide +kernel
theorem dX10_readMuch_2 : decode cX10_readMuch 2 = .ok (.ldc 146, 2) := by decide +kernel
theorem dX10_readMuch_4 : decode cX10_readMuch 4 = .ok (.invokevirtual 166, 3) := by decide +kernel
theorem dX10_readMuch_7 : decode cX10_readMuch 7 = .ok (.istore_n 2, 1) := by decide +kernel
theorem dX10_readMuch_8 : decode cX10_readMuch 8 = .ok (.aload_n 0, 1) := by decide +kernel
theorem dX10_readMuch_9 : decode cX10_readMuch 9 = .ok (.getfield 56, 3) := by decide +kernel
theorem dX10_readMuch_12 : decode cX10_readMuch 12 = .ok (.iload_n 1, 1) := by decide +kernel
theorem dX10_readMuch_13 : decode cX10_readMuch 13 = .ok (.iconst 2, 1) := by decide +kernel
theorem dX10_readMuch_14 : decode cX10_readMuch 14 = .ok (.iadd, 1) := by decide +kernel
theorem dX10_readMuch_15 : decode cX10_readMuch 15 = .ok (.aload_n 0, 1) := by decide +kernel
theorem dX10_readMuch_16 : decode cX10_readMuch 16 = .ok (.getfield 158, 3) := by decide +kernel
theorem dX10_readMuch_19 : decode cX10_readMuch 19 = .ok (.iastore, 1) := by decide +kernel
theorem dX10_readMuch_20 : decode cX10_readMuch 20 = .ok (.iload_n 2, 1) := by decide +kernel
theorem dX10_readMuch_21 : decode cX10_readMuch 21 = .ok (.ireturn, 1) := by decide +kernel
theorem dX10_readAct_0 : decode cX10_readAct 0 = .ok (.aload_n 0, 1) := by decide +kernel
theorem dX10_readAct_1 : decode cX10_readAct 1 = .ok (.invokevirtual 392, 3) := by decide +kernel
theorem dX10_readAct_4 : decode cX10_readAct 4 = .ok (.istore_n 1, 1) := by decide +kernel
theorem dX10_readAct_5 : decode cX10_readAct 5 = .ok (.iload_n 1, 1) := by decide +kernel
theorem dX10_readAct_6 : decode cX10_readAct 6 = .ok (.iconst (-1), 1) := by decide +kernel
theorem dX10_readAct_7 : decode cX10_readAct 7 = .ok (.if_icmp .eq 12, 3) := by decide +kernel
theorem dX10_readAct_10 : decode cX10_readAct 10 = .ok (.aload_n 0, 1) := by decide +kernel
theorem dX10_readAct_11 : decode cX10_readAct 11 = .ok (.getfield 395, 3) := by decide +kernel
theorem dX10_readAct_14 : decode cX10_readAct 14 = .ok (.bipush 30, 2) := by decide +kernel
theorem dX10_readAct_16 : decode cX10_readAct 16 = .ok (.if_icmp .ne 8, 3) := by decide +kernel
theorem dX10_readAct_19 : decode cX10_readAct 19 = .ok (.aload_n 0, 1) := by decide +kernel
theorem dX10_readAct_20 : decode cX10_readAct 20 = .ok (.invokevirtual 154, 3) := by decide +kernel
theorem dX10_readAct_23 : decode cX10_readAct 23 = .ok (.ireturn, 1) := by decide +kernel
theorem dX10_readAct_24 : decode cX10_readAct 24 = .ok (.aload_n 0, 1) := by decide +kernel
theorem dX10_readAct_25 : decode cX10_readAct 25 = .ok (.invokevirtual 147, 3) := by decide +kernel
theorem dX10_readAct_28 : decode cX10_readAct 28 = .ok (.iconst 3, 1) := by decide +kernel
theorem dX10_readAct_29 : decode cX10_readAct 29 = .ok (.aload_n 0, 1) := by decide +kernel
theorem dX10_readAct_30 : decode cX10_readAct 30 = .ok (.getfield 395, 3) := by decide +kernel
theorem dX10_readAct_33 : decode cX10_readAct 33 = .ok (.imul, 1) := by decide +kernel
theorem dX10_readAct_34 : decode cX10_readAct 34 = .ok (.istore_n 2, 1) := by decide +kernel
theorem dX10_readAct_35 : decode cX10_readAct 35 = .ok (.aload_n 0, 1) := by decide +kernel
theorem dX10_readAct_36 : decode cX10_readAct 36 = .ok (.getfield 56, 3) := by decide +kernel
theorem dX10_readAct_39 : decode cX10_readAct 39 = .ok (.iload_n 2, 1) := by decide +kernel
theorem dX10_readAct_40 : decode cX10_readAct 40 = .ok (.iload_n 1, 1) := by decide +kernel
theorem dX10_readAct_41 : decode cX10_readAct 41 = .ok (.iastore, 1) := by decide +kernel
theorem dX10_readAct_42 : decode cX10_readAct 42 = .ok (.iload_n 1, 1) := by decide +kernel
theorem dX10_readAct_43 : decode cX10_readAct 43 = .ok (.iconst 1, 1) := by decide +kernel
theorem dX10_readAct_44 : decode cX10_readAct 44 = .ok (.if_icmp .ne 16, 3) := by decide +kernel
theorem dX10_readAct_47 : decode cX10_readAct 47 = .ok (.aload_n 0, 1) := by decide +kernel
theorem dX10_readAct_48 : decode cX10_readAct 48 = .ok (.getfield 129, 3) := by decide +kernel
theorem dX10_readAct_51 : decode cX10_readAct 51 = .ok (.bipush 45, 2) := by decide +kernel
theorem dX10_readAct_53 : decode cX10_readAct 53 = .ok (.if_icmp .ne 7, 3) := by decide +kernel
theorem dX10_readAct_56 : decode cX10_readAct 56 = .ok (.iconst 1, 1) := by decide +kernel
theorem dX10_readAct_57 : decode cX10_readAct 57 = .ok (.goto 4, 3) := by decide +kernel
theorem dX10_readAct_60 : decode cX10_readAct 60 = .ok (.iconst 0, 1) := by decide +kernel
theorem dX10_readAct_61 : decode cX10_readAct 61 = .ok (.istore_n 3, 1) := by decide +kernel
theorem dX10_readAct_62 : decode cX10_readAct 62 = .ok (.iload_n 3, 1) := by decide +kernel
theorem dX10_readAct_63 : decode cX10_readAct 63 = .ok (.ifCond .eq 7, 3) := by decide +kernel
theorem dX10_readAct_66 : decode cX10_readAct 66 = .ok (.aload_n 0, 1) := by decide +kernel
theorem dX10_readAct_67 : decode cX10_readAct 67 = .ok (.invokevirtual 147, 3) := by decide +kernel
theorem dX10_readAct_70 : decode cX10_readAct 70 = .ok (.iload_n 1, 1) := by decide +kernel
theorem dX10_readAct_71 : decode cX10_readAct 71 = .ok (.iconst 1, 1) := by decide +kernel
theorem dX10_readAct_72 : decode cX10_readAct 72 = .ok (.if_icmp .le 14, 3) := by decide +kernel
theorem dX10_readAct_75 : decode cX10_readAct 75 = .ok (.aload_n 0, 1) := by decide +kernel
theorem dX10_readAct_76 : decode cX10_readAct 76 = .ok (.iload_n 2, 1) := by decide +kernel
theorem dX10_readAct_77 : decode cX10_readAct 77 = .ok (.iload_n 1, 1) := by decide +kernel
theorem dX10_readAct_78 : decode cX10_readAct 78 = .ok (.invokevirtual 398, 3) := by decide +kernel
theorem dX10_readAct_81 : decode cX10_readAct 81 = .ok (.ifCond .ne 5, 3) := by decide +kernel
theorem dX10_readAct_84 : decode cX10_readAct 84 = .ok (.iconst 0, 1) := by decide +kernel
theorem dX10_readAct_85 : decode cX10_readAct 85 = .ok (.ireturn, 1) := by decide +kernel
theorem dX10_readAct_86 : decode cX10_readAct 86 = .ok (.iload_n 1, 1) := by decide +kernel
theorem dX10_readAct_87 : decode cX10_readAct 87 = .ok (.ifCond .eq 19, 3) := by decide +kernel
theorem dX10_readAct_90 : decode cX10_readAct 90 = .ok (.iload_n 1, 1) := by decide +kernel
theorem dX10_readAct_91 : decode cX10_readAct 91 = .ok (.bipush 9, 2) := by decide +kernel
theorem dX10_readAct_93 : decode cX10_readAct 93 = .ok (.if_icmp .eq 13, 3) := by decide +kernel
theorem dX10_readAct_96 : decode cX10_readAct 96 = .ok (.aload_n 0, 1) := by decide +kernel
theorem dX10_readAct_97 : decode cX10_readAct 97 = .ok (.iload_n 2, 1) := by decide +kernel
theorem dX10_readAct_98 : decode cX10_readAct 98 = .ok (.invokevirtual 401, 3) := by decide +kernel
theorem dX10_readAct_101 : decode cX10_readAct 101 = .ok (.ifCond .ne 5, 3) := by decide +kernel
theorem dX10_readAct_104 : decode cX10_readAct 104 = .ok (.iconst 0, 1) := by decide +kernel
theorem dX10_readAct_105 : decode cX10_readAct 105 = .ok (.ireturn, 1) := by decide +kernel
theorem dX10_readAct_106 : decode cX10_readAct 106 = .ok (.iload_n 3, 1) := by decide +kernel
theorem dX10_readAct_107 : decode cX10_readAct 107 = .ok (.ifCond .eq 20, 3) := by decide +kernel
theorem dX10_readAct_110 : decode cX10_readAct 110 = .ok (.aload_n 0, 1) := by decide +kernel
theorem dX10_readAct_111 : decode cX10_readAct 111 = .ok (.getfield 56, 3) := by decide +kernel
theorem dX10_readAct_114 : decode cX10_readAct 114 = .ok (.iload_n 2, 1) := by decide +kernel
theorem dX10_readAct_115 : decode cX10_readAct 115 = .ok (.iconst 2, 1) := by decide +kernel
theorem dX10_readAct_116 : decode cX10_readAct 116 = .ok (.iadd, 1) := by decide +kernel
theorem dX10_readAct_117 : decode cX10_readAct 117 = .ok (.aload_n 0, 1) := by decide +kernel
theorem dX10_readAct_118 : decode cX10_readAct 118 = .ok (.getfield 56, 3) := by decide +kernel
theorem dX10_readAct_121 : decode cX10_readAct 121 = .ok (.iload_n 2, 1) := by decide +kernel
theorem dX10_readAct_122 : decode cX10_readAct 122 = .ok (.iconst 2, 1) := by decide +kernel
theorem dX10_readAct_123 : decode cX10_readAct 123 = .ok (.iadd, 1) := by decide +kernel
theorem dX10_readAct_124 : decode cX10_readAct 124 = .ok (.iaload, 1) := by decide +kernel
theorem dX10_readAct_125 : decode cX10_readAct 125 = .ok (.ineg, 1) := by decide +kernel
theorem dX10_readAct_126 : decode cX10_readAct 126 = .ok (.iastore, 1) := by decide +kernel
theorem dX10_readAct_127 : decode cX10_readAct 127 = .ok (.aload_n 0, 1) := by decide +kernel
theorem dX10_readAct_128 : decode cX10_readAct 128 = .ok (.dup, 1) := by decide +kernel
theorem dX10_readAct_129 : decode cX10_readAct 129 = .ok (.getfield 395, 3) := by decide +kernel
theorem dX10_readAct_132 : decode cX10_readAct 132 = .ok (.iconst 1, 1) := by decide +kernel
theorem dX10_readAct_133 : decode cX10_readAct 133 = .ok (.iadd, 1) := by decide +kernel
theorem dX10_readAct_134 : decode cX10_readAct 134 = .ok (.putfield 395, 3) := by decide +kernel
theorem dX10_readAct_137 : decode cX10_readAct 137 = .ok (.aload_n 0, 1) := by decide +kernel
theorem dX10_readAct_138 : decode cX10_readAct 138 = .ok (.bipush 59, 2) := by decide +kernel
theorem dX10_readAct_140 : decode cX10_readAct 140 = .ok (.invokevirtual 170, 3) := by decide +kernel
theorem dX10_readAct_143 : decode cX10_readAct 143 = .ok (.ireturn, 1) := by decide +kernel
theorem dX10_readActs_0 : decode cX10_readActs 0 = .ok (.aload_n 0, 1) := by decide +kernel
theorem dX10_readActs_1 : decode cX10_readActs 1 = .ok (.invokevirtual 173, 3) := by decide +kernel
theorem dX10_readActs_4 : decode cX10_readActs 4 = .ok (.aload_n 0, 1) := by decide +kernel
theorem dX10_readActs_5 : decode cX10_readActs 5 = .ok (.iconst 0, 1) := by decide +kernel
theorem dX10_readActs_6 : decode cX10_readActs 6 = .ok (.putfield 395, 3) := by decide +kernel
theorem dX10_readActs_9 : decode cX10_readActs 9 = .ok (.aload_n 0, 1) := by decide +kernel
theorem dX10_readActs_10 : decode cX10_readActs 10 = .ok (.getfield 129, 3) := by decide +kernel
theorem dX10_readActs_13 : decode cX10_readActs 13 = .ok (.ifCond .eq 12, 3) := by decide +kernel
theorem dX10_readActs_16 : decode cX10_readActs 16 = .ok (.aload_n 0, 1) := by decide +kernel
theorem dX10_readActs_17 : decode cX10_readActs 17 = .ok (.invokevirtual 404, 3) := by decide +kernel
theorem dX10_readActs_20 : decode cX10_readActs 20 = .ok (.ifCond .ne (-11), 3) := by decide +kernel
theorem dX10_readActs_23 : decode cX10_readActs 23 = .ok (.iconst 0, 1) := by decide +kernel
theorem dX10_readActs_24 : decode cX10_readActs 24 = .ok (.ireturn, 1) := by decide +kernel
theorem dX10_readActs_25 : decode cX10_readActs 25 = .ok (.iconst 1, 1) := by decide +kernel
theorem dX10_readActs_26 : decode cX10_readActs 26 = .ok (.ireturn, 1) := by decide +kernel
theorem dX10_doAct_0 : decode cX10_doAct 0 = .ok (.iload_n 1, 1) := by decide +kernel
theorem dX10_doAct_1 : decode cX10_doAct 1 = .ok (.tableswitch 111 0 8 #[51, 56, 62, 69, 76, 83, 90, 97, 104], 51) := by decide +kernel
theorem dX10_doAct_52 : decode cX10_doAct 52 = .ok (.aload_n 0, 1) := by decide +kernel
theorem dX10_doAct_53 : decode cX10_doAct 53 = .ok (.invokevirtual 407, 3) := by decide +kernel
theorem dX10_doAct_56 : decode cX10_doAct 56 = .ok (.ireturn, 1) := by decide +kernel
theorem dX10_doAct_57 : decode cX10_doAct 57 = .ok (.aload_n 0, 1) := by decide +kernel
theorem dX10_doAct_58 : decode cX10_doAct 58 = .ok (.iload_n 3, 1) := by decide +kernel
theorem dX10_doAct_59 : decode cX10_doAct 59 = .ok (.invokevirtual 410, 3) := by decide +kernel
theorem dX10_doAct_62 : decode cX10_doAct 62 = .ok (.ireturn, 1) := by decide +kernel
theorem dX10_doAct_63 : decode cX10_doAct 63 = .ok (.aload_n 0, 1) := by decide +kernel
theorem dX10_doAct_64 : decode cX10_doAct 64 = .ok (.iload_n 2, 1) := by decide +kernel
theorem dX10_doAct_65 : decode cX10_doAct 65 = .ok (.iload_n 3, 1) := by decide +kernel
theorem dX10_doAct_66 : decode cX10_doAct 66 = .ok (.invokevirtual 413, 3) := by decide +kernel
theorem dX10_doAct_69 : decode cX10_doAct 69 = .ok (.ireturn, 1) := by decide +kernel
theorem dX10_doAct_70 : decode cX10_doAct 70 = .ok (.aload_n 0, 1) := by decide +kernel
theorem dX10_doAct_71 : decode cX10_doAct 71 = .ok (.iload_n 2, 1) := by decide +kernel
theorem dX10_doAct_72 : decode cX10_doAct 72 = .ok (.iload_n 3, 1) := by decide +kernel
theorem dX10_doAct_73 : decode cX10_doAct 73 = .ok (.invokevirtual 416, 3) := by decide +kernel
theorem dX10_doAct_76 : decode cX10_doAct 76 = .ok (.ireturn, 1) := by decide +kernel
theorem dX10_doAct_77 : decode cX10_doAct 77 = .ok (.aload_n 0, 1) := by decide +kernel
theorem dX10_doAct_78 : decode cX10_doAct 78 = .ok (.iload_n 2, 1) := by decide +kernel
theorem dX10_doAct_79 : decode cX10_doAct 79 = .ok (.iload_n 3, 1) := by decide +kernel
theorem dX10_doAct_80 : decode cX10_doAct 80 = .ok (.invokevirtual 419, 3) := by decide +kernel
theorem dX10_doAct_83 : decode cX10_doAct 83 = .ok (.ireturn, 1) := by decide +kernel
theorem dX10_doAct_84 : decode cX10_doAct 84 = .ok (.aload_n 0, 1) := by decide +kernel
theorem dX10_doAct_85 : decode cX10_doAct 85 = .ok (.iload_n 2, 1) := by decide +kernel
theorem dX10_doAct_86 : decode cX10_doAct 86 = .ok (.iload_n 3, 1) := by decide +kernel
theorem dX10_doAct_87 : decode cX10_doAct 87 = .ok (.invokevirtual 422, 3) := by decide +kernel
theorem dX10_doAct_90 : decode cX10_doAct 90 = .ok (.ireturn, 1) := by decide +kernel
theorem dX10_doAct_91 : decode cX10_doAct 91 = .ok (.aload_n 0, 1) := by decide +kernel
theorem dX10_doAct_92 : decode cX10_doAct 92 = .ok (.iload_n 2, 1) := by decide +kernel
theorem dX10_doAct_93 : decode cX10_doAct 93 = .ok (.iload_n 3, 1) := by decide +kernel
theorem dX10_doAct_94 : decode cX10_doAct 94 = .ok (.invokevirtual 425, 3) := by decide +kernel
theorem dX10_doAct_97 : decode cX10_doAct 97 = .ok (.ireturn, 1) := by decide +kernel
theorem dX10_doAct_98 : decode cX10_doAct 98 = .ok (.aload_n 0, 1) := by decide +kernel
theorem dX10_doAct_99 : decode cX10_doAct 99 = .ok (.iload_n 2, 1) := by decide +kernel
theorem dX10_doAct_100 : decode cX10_doAct 100 = .ok (.iload_n 3, 1) := by decide +kernel
theorem dX10_doAct_101 : decode cX10_doAct 101 = .ok (.invokevirtual 428, 3) := by decide +kernel
theorem dX10_doAct_104 : decode cX10_doAct 104 = .ok (.ireturn, 1) := by decide +kernel
theorem dX10_doAct_105 : decode cX10_doAct 105 = .ok (.aload_n 0, 1) := by decide +kernel
theorem dX10_doAct_106 : decode cX10_doAct 106 = .ok (.iload_n 2, 1) := by decide +kernel
theorem dX10_doAct_107 : decode cX10_doAct 107 = .ok (.iload_n 3, 1) := by decide +kernel
theorem dX10_doAct_108 : decode cX10_doAct 108 = .ok (.invokevirtual 431, 3) := by decide +kernel
theorem dX10_doAct_111 : decode cX10_doAct 111 = .ok (.ireturn, 1) := by decide +kernel
theorem dX10_doAct_112 : decode cX10_doAct 112 = .ok (.aload_n 0, 1) := by decide +kernel
theorem dX10_doAct_113 : decode cX10_doAct 113 = .ok (.iload_n 2, 1) := by decide +kernel
theorem dX10_doAct_114 : decode cX10_doAct 114 = .ok (.invokevirtual 434, 3) := by decide +kernel
theorem dX10_doAct_117 : decode cX10_doAct 117 = .ok (.ireturn, 1) := by decide +kernel
theorem dX10_acts_0 : decode cX10_acts 0 = .ok (.aload_n 0, 1) := by decide +kernel
theorem dX10_acts_1 : decode cX10_acts 1 = .ok (.invokevirtual 437, 3) := by decide +kernel
theorem dX10_acts_4 : decode cX10_acts 4 = .ok (.istore_n 1, 1) := by decide +kernel
theorem dX10_acts_5 : decode cX10_acts 5 = .ok (.aload_n 0, 1) := by decide +kernel
theorem dX10_acts_6 : decode cX10_acts 6 = .ok (.iconst 0, 1) := by decide +kernel
theorem dX10_acts_7 : decode cX10_acts 7 = .ok (.putfield 88, 3) := by decide +kernel
theorem dX10_acts_10 : decode cX10_acts 10 = .ok (.iload_n 1, 1) := by decide +kernel
theorem dX10_acts_11 : decode cX10_acts 11 = .ok (.ifCond .ne 5, 3) := by decide +kernel
theorem dX10_acts_14 : decode cX10_acts 14 = .ok (.iconst (-1), 1) := by decide +kernel
theorem dX10_acts_15 : decode cX10_acts 15 = .ok (.ireturn, 1) := by decide +kernel
theorem dX10_acts_16 : decode cX10_acts 16 = .ok (.aload_n 0, 1) := by decide +kernel
theorem dX10_acts_17 : decode cX10_acts 17 = .ok (.iconst 0, 1) := by decide +kernel
theorem dX10_acts_18 : decode cX10_acts 18 = .ok (.putfield 440, 3) := by decide +kernel
theorem dX10_acts_21 : decode cX10_acts 21 = .ok (.aload_n 0, 1) := by decide +kernel
theorem dX10_acts_22 : decode cX10_acts 22 = .ok (.iconst (-1), 1) := by decide +kernel
theorem dX10_acts_23 : decode cX10_acts 23 = .ok (.putfield 62, 3) := by decide +kernel
theorem dX10_acts_26 : decode cX10_acts 26 = .ok (.aload_n 0, 1) := by decide +kernel
theorem dX10_acts_27 : decode cX10_acts 27 = .ok (.getfield 440, 3) := by decide +kernel
theorem dX10_acts_30 : decode cX10_acts 30 = .ok (.aload_n 0, 1) := by decide +kernel
theorem dX10_acts_31 : decode cX10_acts 31 = .ok (.getfield 395, 3) := by decide +kernel
theorem dX10_acts_34 : decode cX10_acts 34 = .ok (.if_icmp .ge 94, 3) := by decide +kernel
theorem dX10_acts_37 : decode cX10_acts 37 = .ok (.aload_n 0, 1) := by decide +kernel
theorem dX10_acts_38 : decode cX10_acts 38 = .ok (.getfield 62, 3) := by decide +kernel
theorem dX10_acts_41 : decode cX10_acts 41 = .ok (.iconst (-1), 1) := by decide +kernel
theorem dX10_acts_42 : decode cX10_acts 42 = .ok (.if_icmp .ne 86, 3) := by decide +kernel
theorem dX10_acts_45 : decode cX10_acts 45 = .ok (.aload_n 0, 1) := by decide +kernel
theorem dX10_acts_46 : decode cX10_acts 46 = .ok (.aload_n 0, 1) := by decide +kernel
theorem dX10_acts_47 : decode cX10_acts 47 = .ok (.getfield 56, 3) := by decide +kernel
theorem dX10_acts_50 : decode cX10_acts 50 = .ok (.iconst 3, 1) := by decide +kernel
theorem dX10_acts_51 : decode cX10_acts 51 = .ok (.aload_n 0, 1) := by decide +kernel
theorem dX10_acts_52 : decode cX10_acts 52 = .ok (.getfield 440, 3) := by decide +kernel
theorem dX10_acts_55 : decode cX10_acts 55 = .ok (.imul, 1) := by decide +kernel
theorem dX10_acts_56 : decode cX10_acts 56 = .ok (.iaload, 1) := by decide +kernel
theorem dX10_acts_57 : decode cX10_acts 57 = .ok (.aload_n 0, 1) := by decide +kernel
theorem dX10_acts_58 : decode cX10_acts 58 = .ok (.getfield 56, 3) := by decide +kernel
theorem dX10_acts_61 : decode cX10_acts 61 = .ok (.iconst 3, 1) := by decide +kernel
theorem dX10_acts_62 : decode cX10_acts 62 = .ok (.aload_n 0, 1) := by decide +kernel
theorem dX10_acts_63 : decode cX10_acts 63 = .ok (.getfield 440, 3) := by decide +kernel
theorem dX10_acts_66 : decode cX10_acts 66 = .ok (.imul, 1) := by decide +kernel
theorem dX10_acts_67 : decode cX10_acts 67 = .ok (.iconst 1, 1) := by decide +kernel
theorem dX10_acts_68 : decode cX10_acts 68 = .ok (.iadd, 1) := by decide +kernel
theorem dX10_acts_69 : decode cX10_acts 69 = .ok (.iaload, 1) := by decide +kernel
theorem dX10_acts_70 : decode cX10_acts 70 = .ok (.aload_n 0, 1) := by decide +kernel
theorem dX10_acts_71 : decode cX10_acts 71 = .ok (.getfield 56, 3) := by decide +kernel
theorem dX10_acts_74 : decode cX10_acts 74 = .ok (.iconst 3, 1) := by decide +kernel
theorem dX10_acts_75 : decode cX10_acts 75 = .ok (.aload_n 0, 1) := by decide +kernel
theorem dX10_acts_76 : decode cX10_acts 76 = .ok (.getfield 440, 3) := by decide +kernel
theorem dX10_acts_79 : decode cX10_acts 79 = .ok (.imul, 1) := by decide +kernel
theorem dX10_acts_80 : decode cX10_acts 80 = .ok (.iconst 2, 1) := by decide +kernel
theorem dX10_acts_81 : decode cX10_acts 81 = .ok (.iadd, 1) := by decide +kernel
theorem dX10_acts_82 : decode cX10_acts 82 = .ok (.iaload, 1) := by decide +kernel
theorem dX10_acts_83 : decode cX10_acts 83 = .ok (.invokevirtual 443, 3) := by decide +kernel
theorem dX10_acts_86 : decode cX10_acts 86 = .ok (.istore_n 2, 1) := by decide +kernel
theorem dX10_acts_87 : decode cX10_acts 87 = .ok (.aload_n 0, 1) := by decide +kernel
theorem dX10_acts_88 : decode cX10_acts 88 = .ok (.getfield 356, 3) := by decide +kernel
theorem dX10_acts_91 : decode cX10_acts 91 = .ok (.ifCond .eq 26, 3) := by decide +kernel
theorem dX10_acts_94 : decode cX10_acts 94 = .ok (.aload_n 0, 1) := by decide +kernel
theorem dX10_acts_95 : decode cX10_acts 95 = .ok (.getfield 59, 3) := by decide +kernel
theorem dX10_acts_98 : decode cX10_acts 98 = .ok (.aload_n 0, 1) := by decide +kernel
theorem dX10_acts_99 : decode cX10_acts 99 = .ok (.getfield 440, 3) := by decide +kernel
theorem dX10_acts_102 : decode cX10_acts 102 = .ok (.iload_n 2, 1) := by decide +kernel
theorem dX10_acts_103 : decode cX10_acts 103 = .ok (.iastore, 1) := by decide +kernel
theorem dX10_acts_104 : decode cX10_acts 104 = .ok (.aload_n 0, 1) := by decide +kernel
theorem dX10_acts_105 : decode cX10_acts 105 = .ok (.dup, 1) := by decide +kernel
theorem dX10_acts_106 : decode cX10_acts 106 = .ok (.getfield 440, 3) := by decide +kernel
theorem dX10_acts_109 : decode cX10_acts 109 = .ok (.iconst 1, 1) := by decide +kernel
theorem dX10_acts_110 : decode cX10_acts 110 = .ok (.iadd, 1) := by decide +kernel
theorem dX10_acts_111 : decode cX10_acts 111 = .ok (.putfield 440, 3) := by decide +kernel
theorem dX10_acts_114 : decode cX10_acts 114 = .ok (.goto 11, 3) := by decide +kernel
theorem dX10_acts_117 : decode cX10_acts 117 = .ok (.aload_n 0, 1) := by decide +kernel
theorem dX10_acts_118 : decode cX10_acts 118 = .ok (.aload_n 0, 1) := by decide +kernel
theorem dX10_acts_119 : decode cX10_acts 119 = .ok (.getfield 440, 3) := by decide +kernel
theorem dX10_acts_122 : decode cX10_acts 122 = .ok (.putfield 62, 3) := by decide +kernel
theorem dX10_acts_125 : decode cX10_acts 125 = .ok (.goto (-99), 3) := by decide +kernel
theorem dX10_acts_128 : decode cX10_acts 128 = .ok (.aload_n 0, 1) := by decide +kernel
theorem dX10_acts_129 : decode cX10_acts 129 = .ok (.getfield 440, 3) := by decide +kernel
theorem dX10_acts_132 : decode cX10_acts 132 = .ok (.ireturn, 1) := by decide +kernel
theorem dX10_ended_0 : decode cX10_ended 0 = .ok (.aload_n 0, 1) := by decide +kernel
theorem dX10_ended_1 : decode cX10_ended 1 = .ok (.getfield 62, 3) := by decide +kernel
theorem dX10_ended_4 : decode cX10_ended 4 = .ok (.ireturn, 1) := by decide +kernel
theorem dX10_row_0 : decode cX10_row 0 = .ok (.iload_n 1, 1) := by decide +kernel
theorem dX10_row_1 : decode cX10_row 1 = .ok (.iconst 0, 1) := by decide +kernel
theorem dX10_row_2 : decode cX10_row 2 = .ok (.aload_n 0, 1) := by decide +kernel
theorem dX10_row_3 : decode cX10_row 3 = .ok (.getfield 440, 3) := by decide +kernel
theorem dX10_row_6 : decode cX10_row 6 = .ok (.iconst 1, 1) := by decide +kernel
theorem dX10_row_7 : decode cX10_row 7 = .ok (.isub, 1) := by decide +kernel
theorem dX10_row_8 : decode cX10_row 8 = .ok (.invokestatic 81, 3) := by decide +kernel
theorem dX10_row_11 : decode cX10_row 11 = .ok (.ifCond .eq 12, 3) := by decide +kernel
theorem dX10_row_14 : decode cX10_row 14 = .ok (.aload_n 0, 1) := by decide +kernel
theorem dX10_row_15 : decode cX10_row 15 = .ok (.getfield 59, 3) := by decide +kernel
theorem dX10_row_18 : decode cX10_row 18 = .ok (.iload_n 1, 1) := by decide +kernel
theorem dX10_row_19 : decode cX10_row 19 = .ok (.iaload, 1) := by decide +kernel
theorem dX10_row_20 : decode cX10_row 20 = .ok (.goto 5, 3) := by decide +kernel
theorem dX10_row_23 : decode cX10_row 23 = .ok (.ldc 214, 2) := by decide +kernel
theorem dX10_row_25 : decode cX10_row 25 = .ok (.ireturn, 1) := by decide +kernel
theorem dX10_writes_0 : decode cX10_writes 0 = .ok (.aload_n 0, 1) := by decide +kernel
theorem dX10_writes_1 : decode cX10_writes 1 = .ok (.getfield 65, 3) := by decide +kernel
theorem dX10_writes_4 : decode cX10_writes 4 = .ok (.aload_n 0, 1) := by decide +kernel
theorem dX10_writes_5 : decode cX10_writes 5 = .ok (.getfield 446, 3) := by decide +kernel
theorem dX10_writes_8 : decode cX10_writes 8 = .ok (.iload_n 1, 1) := by decide +kernel
theorem dX10_writes_9 : decode cX10_writes 9 = .ok (.i2b, 1) := by decide +kernel
theorem dX10_writes_10 : decode cX10_writes 10 = .ok (.bastore, 1) := by decide +kernel
theorem dX10_writes_11 : decode cX10_writes 11 = .ok (.aload_n 0, 1) := by decide +kernel
theorem dX10_writes_12 : decode cX10_writes 12 = .ok (.dup, 1) := by decide +kernel
theorem dX10_writes_13 : decode cX10_writes 13 = .ok (.getfield 446, 3) := by decide +kernel
theorem dX10_writes_16 : decode cX10_writes 16 = .ok (.iconst 1, 1) := by decide +kernel
theorem dX10_writes_17 : decode cX10_writes 17 = .ok (.iadd, 1) := by decide +kernel
theorem dX10_writes_18 : decode cX10_writes 18 = .ok (.putfield 446, 3) := by decide +kernel
theorem dX10_writes_21 : decode cX10_writes 21 = .ok (.return_, 1) := by decide +kernel
theorem dX10_writeNumber_0 : decode cX10_writeNumber 0 = .ok (.iload_n 1, 1) := by decide +kernel
theorem dX10_writeNumber_1 : decode cX10_writeNumber 1 = .ok (.ifCond .ge 9, 3) := by decide +kernel
theorem dX10_writeNumber_4 : decode cX10_writeNumber 4 = .ok (.aload_n 0, 1) := by decide +kernel
theorem dX10_writeNumber_5 : decode cX10_writeNumber 5 = .ok (.bipush 45, 2) := by decide +kernel
theorem dX10_writeNumber_7 : decode cX10_writeNumber 7 = .ok (.invokevirtual 449, 3) := by decide +kernel
theorem dX10_writeNumber_10 : decode cX10_writeNumber 10 = .ok (.iconst 1, 1) := by decide +kernel
theorem dX10_writeNumber_11 : decode cX10_writeNumber 11 = .ok (.istore_n 2, 1) := by decide +kernel
theorem dX10_writeNumber_12 : decode cX10_writeNumber 12 = .ok (.iload_n 1, 1) := by decide +kernel
theorem dX10_writeNumber_13 : decode cX10_writeNumber 13 = .ok (.bipush 10, 2) := by decide +kernel
theorem dX10_writeNumber_15 : decode cX10_writeNumber 15 = .ok (.idiv, 1) := by decide +kernel
theorem dX10_writeNumber_16 : decode cX10_writeNumber 16 = .ok (.iload_n 2, 1) := by decide +kernel
theorem dX10_writeNumber_17 : decode cX10_writeNumber 17 = .ok (.idiv, 1) := by decide +kernel
theorem dX10_writeNumber_18 : decode cX10_writeNumber 18 = .ok (.ifCond .eq 11, 3) := by decide +kernel
theorem dX10_writeNumber_21 : decode cX10_writeNumber 21 = .ok (.iload_n 2, 1) := by decide +kernel
theorem dX10_writeNumber_22 : decode cX10_writeNumber 22 = .ok (.bipush 10, 2) := by decide +kernel
theorem dX10_writeNumber_24 : decode cX10_writeNumber 24 = .ok (.imul, 1) := by decide +kernel
theorem dX10_writeNumber_25 : decode cX10_writeNumber 25 = .ok (.istore_n 2, 1) := by decide +kernel
theorem dX10_writeNumber_26 : decode cX10_writeNumber 26 = .ok (.goto (-14), 3) := by decide +kernel
theorem dX10_writeNumber_29 : decode cX10_writeNumber 29 = .ok (.iload_n 2, 1) := by decide +kernel
theorem dX10_writeNumber_30 : decode cX10_writeNumber 30 = .ok (.ifCond .le 35, 3) := by decide +kernel
theorem dX10_writeNumber_33 : decode cX10_writeNumber 33 = .ok (.iload_n 1, 1) := by decide +kernel
theorem dX10_writeNumber_34 : decode cX10_writeNumber 34 = .ok (.iload_n 2, 1) := by decide +kernel
theorem dX10_writeNumber_35 : decode cX10_writeNumber 35 = .ok (.idiv, 1) := by decide +kernel
theorem dX10_writeNumber_36 : decode cX10_writeNumber 36 = .ok (.bipush 10, 2) := by decide +kernel
theorem dX10_writeNumber_38 : decode cX10_writeNumber 38 = .ok (.irem, 1) := by decide +kernel
theorem dX10_writeNumber_39 : decode cX10_writeNumber 39 = .ok (.istore_n 3, 1) := by decide +kernel
theorem dX10_writeNumber_40 : decode cX10_writeNumber 40 = .ok (.aload_n 0, 1) := by decide +kernel
theorem dX10_writeNumber_41 : decode cX10_writeNumber 41 = .ok (.bipush 48, 2) := by decide +kernel
theorem dX10_writeNumber_43 : decode cX10_writeNumber 43 = .ok (.iload_n 3, 1) := by decide +kernel
theorem dX10_writeNumber_44 : decode cX10_writeNumber 44 = .ok (.ifCond .ge 8, 3) := by decide +kernel
theorem dX10_writeNumber_47 : decode cX10_writeNumber 47 = .ok (.iload_n 3, 1) := by decide +kernel
theorem dX10_writeNumber_48 : decode cX10_writeNumber 48 = .ok (.ineg, 1) := by decide +kernel
theorem dX10_writeNumber_49 : decode cX10_writeNumber 49 = .ok (.goto 4, 3) := by decide +kernel
theorem dX10_writeNumber_52 : decode cX10_writeNumber 52 = .ok (.iload_n 3, 1) := by decide +kernel
theorem dX10_writeNumber_53 : decode cX10_writeNumber 53 = .ok (.iadd, 1) := by decide +kernel
theorem dX10_writeNumber_54 : decode cX10_writeNumber 54 = .ok (.invokevirtual 449, 3) := by decide +kernel
theorem dX10_writeNumber_57 : decode cX10_writeNumber 57 = .ok (.iload_n 2, 1) := by decide +kernel
theorem dX10_writeNumber_58 : decode cX10_writeNumber 58 = .ok (.bipush 10, 2) := by decide +kernel
theorem dX10_writeNumber_60 : decode cX10_writeNumber 60 = .ok (.idiv, 1) := by decide +kernel
theorem dX10_writeNumber_61 : decode cX10_writeNumber 61 = .ok (.istore_n 2, 1) := by decide +kernel
theorem dX10_writeNumber_62 : decode cX10_writeNumber 62 = .ok (.goto (-33), 3) := by decide +kernel
theorem dX10_writeNumber_65 : decode cX10_writeNumber 65 = .ok (.return_, 1) := by decide +kernel
theorem dX10_write_0 : decode cX10_write 0 = .ok (.aload_n 0, 1) := by decide +kernel
theorem dX10_write_1 : decode cX10_write 1 = .ok (.iconst 0, 1) := by decide +kernel
theorem dX10_write_2 : decode cX10_write 2 = .ok (.putfield 446, 3) := by decide +kernel
theorem dX10_write_5 : decode cX10_write 5 = .ok (.iconst 0, 1) := by decide +kernel
theorem dX10_write_6 : decode cX10_write 6 = .ok (.istore_n 1, 1) := by decide +kernel
theorem dX10_write_7 : decode cX10_write 7 = .ok (.iload_n 1, 1) := by decide +kernel
theorem dX10_write_8 : decode cX10_write 8 = .ok (.bipush 8, 2) := by decide +kernel
theorem dX10_write_10 : decode cX10_write 10 = .ok (.if_icmp .ge 87, 3) := by decide +kernel
theorem dX10_write_13 : decode cX10_write 13 = .ok (.aload_n 0, 1) := by decide +kernel
theorem dX10_write_14 : decode cX10_write 14 = .ok (.iload_n 1, 1) := by decide +kernel
theorem dX10_write_15 : decode cX10_write 15 = .ok (.invokevirtual 203, 3) := by decide +kernel
theorem dX10_write_18 : decode cX10_write 18 = .ok (.ifCond .ne 6, 3) := by decide +kernel
theorem dX10_write_21 : decode cX10_write 21 = .ok (.goto 70, 3) := by decide +kernel
theorem dX10_write_24 : decode cX10_write 24 = .ok (.aload_n 0, 1) := by decide +kernel
theorem dX10_write_25 : decode cX10_write 25 = .ok (.bipush 97, 2) := by decide +kernel
theorem dX10_write_27 : decode cX10_write 27 = .ok (.iload_n 1, 1) := by decide +kernel
theorem dX10_write_28 : decode cX10_write 28 = .ok (.iadd, 1) := by decide +kernel
theorem dX10_write_29 : decode cX10_write 29 = .ok (.invokevirtual 449, 3) := by decide +kernel
theorem dX10_write_32 : decode cX10_write 32 = .ok (.aload_n 0, 1) := by decide +kernel
theorem dX10_write_33 : decode cX10_write 33 = .ok (.bipush 58, 2) := by decide +kernel
theorem dX10_write_35 : decode cX10_write 35 = .ok (.invokevirtual 449, 3) := by decide +kernel
theorem dX10_write_38 : decode cX10_write 38 = .ok (.aload_n 0, 1) := by decide +kernel
theorem dX10_write_39 : decode cX10_write 39 = .ok (.aload_n 0, 1) := by decide +kernel
theorem dX10_write_40 : decode cX10_write 40 = .ok (.iconst 5, 1) := by decide +kernel
theorem dX10_write_41 : decode cX10_write 41 = .ok (.iload_n 1, 1) := by decide +kernel
theorem dX10_write_42 : decode cX10_write 42 = .ok (.iadd, 1) := by decide +kernel
theorem dX10_write_43 : decode cX10_write 43 = .ok (.invokevirtual 193, 3) := by decide +kernel
theorem dX10_write_46 : decode cX10_write 46 = .ok (.invokevirtual 452, 3) := by decide +kernel
theorem dX10_write_49 : decode cX10_write 49 = .ok (.aload_n 0, 1) := by decide +kernel
theorem dX10_write_50 : decode cX10_write 50 = .ok (.bipush 44, 2) := by decide +kernel
theorem dX10_write_52 : decode cX10_write 52 = .ok (.invokevirtual 449, 3) := by decide +kernel
theorem dX10_write_55 : decode cX10_write 55 = .ok (.aload_n 0, 1) := by decide +kernel
theorem dX10_write_56 : decode cX10_write 56 = .ok (.aload_n 0, 1) := by decide +kernel
theorem dX10_write_57 : decode cX10_write 57 = .ok (.bipush 29, 2) := by decide +kernel
theorem dX10_write_59 : decode cX10_write 59 = .ok (.iload_n 1, 1) := by decide +kernel
theorem dX10_write_60 : decode cX10_write 60 = .ok (.iadd, 1) := by decide +kernel
theorem dX10_write_61 : decode cX10_write 61 = .ok (.invokevirtual 193, 3) := by decide +kernel
theorem dX10_write_64 : decode cX10_write 64 = .ok (.invokevirtual 452, 3) := by decide +kernel
theorem dX10_write_67 : decode cX10_write 67 = .ok (.aload_n 0, 1) := by decide +kernel
theorem dX10_write_68 : decode cX10_write 68 = .ok (.bipush 44, 2) := by decide +kernel
theorem dX10_write_70 : decode cX10_write 70 = .ok (.invokevirtual 449, 3) := by decide +kernel
theorem dX10_write_73 : decode cX10_write 73 = .ok (.aload_n 0, 1) := by decide +kernel
theorem dX10_write_74 : decode cX10_write 74 = .ok (.aload_n 0, 1) := by decide +kernel
theorem dX10_write_75 : decode cX10_write 75 = .ok (.bipush 37, 2) := by decide +kernel
theorem dX10_write_77 : decode cX10_write 77 = .ok (.iload_n 1, 1) := by decide +kernel
theorem dX10_write_78 : decode cX10_write 78 = .ok (.iadd, 1) := by decide +kernel
theorem dX10_write_79 : decode cX10_write 79 = .ok (.invokevirtual 193, 3) := by decide +kernel
theorem dX10_write_82 : decode cX10_write 82 = .ok (.invokevirtual 452, 3) := by decide +kernel
theorem dX10_write_85 : decode cX10_write 85 = .ok (.aload_n 0, 1) := by decide +kernel
theorem dX10_write_86 : decode cX10_write 86 = .ok (.bipush 59, 2) := by decide +kernel
theorem dX10_write_88 : decode cX10_write 88 = .ok (.invokevirtual 449, 3) := by decide +kernel
theorem dX10_write_91 : decode cX10_write 91 = .ok (.iinc 1 1, 3) := by decide +kernel
theorem dX10_write_94 : decode cX10_write 94 = .ok (.goto (-87), 3) := by decide +kernel
theorem dX10_write_97 : decode cX10_write 97 = .ok (.aload_n 0, 1) := by decide +kernel
theorem dX10_write_98 : decode cX10_write 98 = .ok (.bipush 61, 2) := by decide +kernel
theorem dX10_write_100 : decode cX10_write 100 = .ok (.invokevirtual 449, 3) := by decide +kernel
theorem dX10_write_103 : decode cX10_write 103 = .ok (.aload_n 0, 1) := by decide +kernel
theorem dX10_write_104 : decode cX10_write 104 = .ok (.aload_n 0, 1) := by decide +kernel
theorem dX10_write_105 : decode cX10_write 105 = .ok (.invokevirtual 231, 3) := by decide +kernel
theorem dX10_write_108 : decode cX10_write 108 = .ok (.invokevirtual 452, 3) := by decide +kernel
theorem dX10_write_111 : decode cX10_write 111 = .ok (.aload_n 0, 1) := by decide +kernel
theorem dX10_write_112 : decode cX10_write 112 = .ok (.bipush 46, 2) := by decide +kernel
theorem dX10_write_114 : decode cX10_write 114 = .ok (.invokevirtual 449, 3) := by decide +kernel
theorem dX10_write_117 : decode cX10_write 117 = .ok (.aload_n 0, 1) := by decide +kernel
theorem dX10_write_118 : decode cX10_write 118 = .ok (.getfield 446, 3) := by decide +kernel
theorem dX10_write_121 : decode cX10_write 121 = .ok (.ireturn, 1) := by decide +kernel
theorem dX10_octet_0 : decode cX10_octet 0 = .ok (.iload_n 1, 1) := by decide +kernel
theorem dX10_octet_1 : decode cX10_octet 1 = .ok (.iconst 0, 1) := by decide +kernel
theorem dX10_octet_2 : decode cX10_octet 2 = .ok (.aload_n 0, 1) := by decide +kernel
theorem dX10_octet_3 : decode cX10_octet 3 = .ok (.getfield 446, 3) := by decide +kernel
theorem dX10_octet_6 : decode cX10_octet 6 = .ok (.iconst 1, 1) := by decide +kernel
theorem dX10_octet_7 : decode cX10_octet 7 = .ok (.isub, 1) := by decide +kernel
theorem dX10_octet_8 : decode cX10_octet 8 = .ok (.invokestatic 81, 3) := by decide +kernel
theorem dX10_octet_11 : decode cX10_octet 11 = .ok (.ifCond .eq 12, 3) := by decide +kernel
theorem dX10_octet_14 : decode cX10_octet 14 = .ok (.aload_n 0, 1) := by decide +kernel
theorem dX10_octet_15 : decode cX10_octet 15 = .ok (.getfield 65, 3) := by decide +kernel
theorem dX10_octet_18 : decode cX10_octet 18 = .ok (.iload_n 1, 1) := by decide +kernel
