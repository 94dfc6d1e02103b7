theorem dX10_gain_18 : decode cX10_gain 18 = .ok (.iconst 0, 1) := by decide +kernel
theorem dX10_gain_19 : decode cX10_gain 19 = .ok (.istore_n 3, 1) := by decide +kernel
theorem dX10_gain_20 : decode cX10_gain 20 = .ok (.iload_n 3, 1) := by decide +kernel
theorem dX10_gain_21 : decode cX10_gain 21 = .ok (.bipush 8, 2) := by decide +kernel
theorem dX10_gain_23 : decode cX10_gain 23 = .ok (.if_icmp .ge 54, 3) := by decide +kernel
theorem dX10_gain_26 : decode cX10_gain 26 = .ok (.aload_n 0, 1) := by decide +kernel
theorem dX10_gain_27 : decode cX10_gain 27 = .ok (.iload_n 3, 1) := by decide +kernel
theorem dX10_gain_28 : decode cX10_gain 28 = .ok (.invokevirtual 221, 3) := by decide +kernel
theorem dX10_gain_31 : decode cX10_gain 31 = .ok (.ifCond .eq 40, 3) := by decide +kernel
theorem dX10_gain_34 : decode cX10_gain 34 = .ok (.iload_n 1, 1) := by decide +kernel
theorem dX10_gain_35 : decode cX10_gain 35 = .ok (.iconst (-1), 1) := by decide +kernel
theorem dX10_gain_36 : decode cX10_gain 36 = .ok (.if_icmp .eq 11, 3) := by decide +kernel
theorem dX10_gain_39 : decode cX10_gain 39 = .ok (.iload_n 3, 1) := by decide +kernel
theorem dX10_gain_40 : decode cX10_gain 40 = .ok (.iload_n 1, 1) := by decide +kernel
theorem dX10_gain_41 : decode cX10_gain 41 = .ok (.if_icmp .eq 6, 3) := by decide +kernel
theorem dX10_gain_44 : decode cX10_gain 44 = .ok (.goto 27, 3) := by decide +kernel
theorem dX10_gain_47 : decode cX10_gain 47 = .ok (.iload_n 2, 1) := by decide +kernel
theorem dX10_gain_48 : decode cX10_gain 48 = .ok (.aload_n 0, 1) := by decide +kernel
theorem dX10_gain_49 : decode cX10_gain 49 = .ok (.iload_n 3, 1) := by decide +kernel
theorem dX10_gain_50 : decode cX10_gain 50 = .ok (.invokestatic 218, 3) := by decide +kernel
theorem dX10_gain_53 : decode cX10_gain 53 = .ok (.iconst 2, 1) := by decide +kernel
theorem dX10_gain_54 : decode cX10_gain 54 = .ok (.iadd, 1) := by decide +kernel
theorem dX10_gain_55 : decode cX10_gain 55 = .ok (.invokevirtual 193, 3) := by decide +kernel
theorem dX10_gain_58 : decode cX10_gain 58 = .ok (.aload_n 0, 1) := by decide +kernel
theorem dX10_gain_59 : decode cX10_gain 59 = .ok (.iload_n 3, 1) := by decide +kernel
theorem dX10_gain_60 : decode cX10_gain 60 = .ok (.invokestatic 218, 3) := by decide +kernel
theorem dX10_gain_63 : decode cX10_gain 63 = .ok (.iconst 1, 1) := by decide +kernel
theorem dX10_gain_64 : decode cX10_gain 64 = .ok (.iadd, 1) := by decide +kernel
theorem dX10_gain_65 : decode cX10_gain 65 = .ok (.invokevirtual 193, 3) := by decide +kernel
theorem dX10_gain_68 : decode cX10_gain 68 = .ok (.isub, 1) := by decide +kernel
theorem dX10_gain_69 : decode cX10_gain 69 = .ok (.iadd, 1) := by decide +kernel
theorem dX10_gain_70 : decode cX10_gain 70 = .ok (.istore_n 2, 1) := by decide +kernel
theorem dX10_gain_71 : decode cX10_gain 71 = .ok (.iinc 3 1, 3) := by decide +kernel
theorem dX10_gain_74 : decode cX10_gain 74 = .ok (.goto (-54), 3) := by decide +kernel
theorem dX10_gain_77 : decode cX10_gain 77 = .ok (.iload_n 2, 1) := by decide +kernel
theorem dX10_gain_78 : decode cX10_gain 78 = .ok (.ireturn, 1) := by decide +kernel
theorem dX10_below_0 : decode cX10_below 0 = .ok (.iconst 0, 1) := by decide +kernel
theorem dX10_below_1 : decode cX10_below 1 = .ok (.istore_n 1, 1) := by decide +kernel
theorem dX10_below_2 : decode cX10_below 2 = .ok (.iconst 0, 1) := by decide +kernel
theorem dX10_below_3 : decode cX10_below 3 = .ok (.istore_n 2, 1) := by decide +kernel
theorem dX10_below_4 : decode cX10_below 4 = .ok (.iload_n 2, 1) := by decide +kernel
theorem dX10_below_5 : decode cX10_below 5 = .ok (.bipush 8, 2) := by decide +kernel
theorem dX10_below_7 : decode cX10_below 7 = .ok (.if_icmp .ge 42, 3) := by decide +kernel
theorem dX10_below_10 : decode cX10_below 10 = .ok (.iload_n 1, 1) := by decide +kernel
theorem dX10_below_11 : decode cX10_below 11 = .ok (.aload_n 0, 1) := by decide +kernel
theorem dX10_below_12 : decode cX10_below 12 = .ok (.iload_n 2, 1) := by decide +kernel
theorem dX10_below_13 : decode cX10_below 13 = .ok (.invokevirtual 203, 3) := by decide +kernel
theorem dX10_below_16 : decode cX10_below 16 = .ok (.ifCond .eq 24, 3) := by decide +kernel
theorem dX10_below_19 : decode cX10_below 19 = .ok (.aload_n 0, 1) := by decide +kernel
theorem dX10_below_20 : decode cX10_below 20 = .ok (.iconst 5, 1) := by decide +kernel
theorem dX10_below_21 : decode cX10_below 21 = .ok (.iload_n 2, 1) := by decide +kernel
theorem dX10_below_22 : decode cX10_below 22 = .ok (.iadd, 1) := by decide +kernel
theorem dX10_below_23 : decode cX10_below 23 = .ok (.invokevirtual 193, 3) := by decide +kernel
theorem dX10_below_26 : decode cX10_below 26 = .ok (.aload_n 0, 1) := by decide +kernel
theorem dX10_below_27 : decode cX10_below 27 = .ok (.iload_n 2, 1) := by decide +kernel
theorem dX10_below_28 : decode cX10_below 28 = .ok (.invokevirtual 237, 3) := by decide +kernel
theorem dX10_below_31 : decode cX10_below 31 = .ok (.if_icmp .ge 9, 3) := by decide +kernel
theorem dX10_below_34 : decode cX10_below 34 = .ok (.iconst 1, 1) := by decide +kernel
theorem dX10_below_35 : decode cX10_below 35 = .ok (.iload_n 2, 1) := by decide +kernel
theorem dX10_below_36 : decode cX10_below 36 = .ok (.ishl, 1) := by decide +kernel
theorem dX10_below_37 : decode cX10_below 37 = .ok (.goto 4, 3) := by decide +kernel
theorem dX10_below_40 : decode cX10_below 40 = .ok (.iconst 0, 1) := by decide +kernel
theorem dX10_below_41 : decode cX10_below 41 = .ok (.ior, 1) := by decide +kernel
theorem dX10_below_42 : decode cX10_below 42 = .ok (.istore_n 1, 1) := by decide +kernel
theorem dX10_below_43 : decode cX10_below 43 = .ok (.iinc 2 1, 3) := by decide +kernel
theorem dX10_below_46 : decode cX10_below 46 = .ok (.goto (-42), 3) := by decide +kernel
theorem dX10_below_49 : decode cX10_below 49 = .ok (.iload_n 1, 1) := by decide +kernel
theorem dX10_below_50 : decode cX10_below 50 = .ok (.ireturn, 1) := by decide +kernel
theorem dX10_stepAt_0 : decode cX10_stepAt 0 = .ok (.sipush 310, 3) := by decide +kernel
theorem dX10_stepAt_3 : decode cX10_stepAt 3 = .ok (.bipush 8, 2) := by decide +kernel
theorem dX10_stepAt_5 : decode cX10_stepAt 5 = .ok (.iload_n 0, 1) := by decide +kernel
theorem dX10_stepAt_6 : decode cX10_stepAt 6 = .ok (.imul, 1) := by decide +kernel
theorem dX10_stepAt_7 : decode cX10_stepAt 7 = .ok (.iadd, 1) := by decide +kernel
theorem dX10_stepAt_8 : decode cX10_stepAt 8 = .ok (.ireturn, 1) := by decide +kernel
theorem dX10_forgetSteps_0 : decode cX10_forgetSteps 0 = .ok (.aload_n 0, 1) := by decide +kernel
theorem dX10_forgetSteps_1 : decode cX10_forgetSteps 1 = .ok (.sipush 308, 3) := by decide +kernel
theorem dX10_forgetSteps_4 : decode cX10_forgetSteps 4 = .ok (.iconst 1, 1) := by decide +kernel
theorem dX10_forgetSteps_5 : decode cX10_forgetSteps 5 = .ok (.invokevirtual 71, 3) := by decide +kernel
theorem dX10_forgetSteps_8 : decode cX10_forgetSteps 8 = .ok (.aload_n 0, 1) := by decide +kernel
theorem dX10_forgetSteps_9 : decode cX10_forgetSteps 9 = .ok (.sipush 309, 3) := by decide +kernel
theorem dX10_forgetSteps_12 : decode cX10_forgetSteps 12 = .ok (.iconst 0, 1) := by decide +kernel
theorem dX10_forgetSteps_13 : decode cX10_forgetSteps 13 = .ok (.invokevirtual 71, 3) := by decide +kernel
theorem dX10_forgetSteps_16 : decode cX10_forgetSteps 16 = .ok (.iconst 0, 1) := by decide +kernel
theorem dX10_forgetSteps_17 : decode cX10_forgetSteps 17 = .ok (.istore_n 1, 1) := by decide +kernel
theorem dX10_forgetSteps_18 : decode cX10_forgetSteps 18 = .ok (.iload_n 1, 1) := by decide +kernel
theorem dX10_forgetSteps_19 : decode cX10_forgetSteps 19 = .ok (.bipush 56, 2) := by decide +kernel
theorem dX10_forgetSteps_21 : decode cX10_forgetSteps 21 = .ok (.if_icmp .ge 19, 3) := by decide +kernel
theorem dX10_forgetSteps_24 : decode cX10_forgetSteps 24 = .ok (.aload_n 0, 1) := by decide +kernel
theorem dX10_forgetSteps_25 : decode cX10_forgetSteps 25 = .ok (.sipush 310, 3) := by decide +kernel
theorem dX10_forgetSteps_28 : decode cX10_forgetSteps 28 = .ok (.iload_n 1, 1) := by decide +kernel
theorem dX10_forgetSteps_29 : decode cX10_forgetSteps 29 = .ok (.iadd, 1) := by decide +kernel
theorem dX10_forgetSteps_30 : decode cX10_forgetSteps 30 = .ok (.iconst 0, 1) := by decide +kernel
theorem dX10_forgetSteps_31 : decode cX10_forgetSteps 31 = .ok (.invokevirtual 71, 3) := by decide +kernel
theorem dX10_forgetSteps_34 : decode cX10_forgetSteps 34 = .ok (.iinc 1 1, 3) := by decide +kernel
theorem dX10_forgetSteps_37 : decode cX10_forgetSteps 37 = .ok (.goto (-19), 3) := by decide +kernel
theorem dX10_forgetSteps_40 : decode cX10_forgetSteps 40 = .ok (.return_, 1) := by decide +kernel
theorem dX10_weighBy_0 : decode cX10_weighBy 0 = .ok (.iconst 0, 1) := by decide +kernel
theorem dX10_weighBy_1 : decode cX10_weighBy 1 = .ok (.istore_n 2, 1) := by decide +kernel
theorem dX10_weighBy_2 : decode cX10_weighBy 2 = .ok (.iload_n 2, 1) := by decide +kernel
theorem dX10_weighBy_3 : decode cX10_weighBy 3 = .ok (.bipush 8, 2) := by decide +kernel
theorem dX10_weighBy_5 : decode cX10_weighBy 5 = .ok (.if_icmp .ge 23, 3) := by decide +kernel
theorem dX10_weighBy_8 : decode cX10_weighBy 8 = .ok (.aload_n 0, 1) := by decide +kernel
theorem dX10_weighBy_9 : decode cX10_weighBy 9 = .ok (.getfield 31, 3) := by decide +kernel
theorem dX10_weighBy_12 : decode cX10_weighBy 12 = .ok (.iload_n 2, 1) := by decide +kernel
theorem dX10_weighBy_13 : decode cX10_weighBy 13 = .ok (.aload_n 0, 1) := by decide +kernel
theorem dX10_weighBy_14 : decode cX10_weighBy 14 = .ok (.iload_n 1, 1) := by decide +kernel
theorem dX10_weighBy_15 : decode cX10_weighBy 15 = .ok (.iload_n 2, 1) := by decide +kernel
theorem dX10_weighBy_16 : decode cX10_weighBy 16 = .ok (.iadd, 1) := by decide +kernel
theorem dX10_weighBy_17 : decode cX10_weighBy 17 = .ok (.invokevirtual 193, 3) := by decide +kernel
theorem dX10_weighBy_20 : decode cX10_weighBy 20 = .ok (.i2l, 1) := by decide +kernel
theorem dX10_weighBy_21 : decode cX10_weighBy 21 = .ok (.lastore, 1) := by decide +kernel
theorem dX10_weighBy_22 : decode cX10_weighBy 22 = .ok (.iinc 2 1, 3) := by decide +kernel
theorem dX10_weighBy_25 : decode cX10_weighBy 25 = .ok (.goto (-23), 3) := by decide +kernel
theorem dX10_weighBy_28 : decode cX10_weighBy 28 = .ok (.return_, 1) := by decide +kernel
theorem dX10_notes_0 : decode cX10_notes 0 = .ok (.iconst 0, 1) := by decide +kernel
theorem dX10_notes_1 : decode cX10_notes 1 = .ok (.istore 4, 2) := by decide +kernel
theorem dX10_notes_3 : decode cX10_notes 3 = .ok (.iload 4, 2) := by decide +kernel
theorem dX10_notes_5 : decode cX10_notes 5 = .ok (.bipush 8, 2) := by decide +kernel
theorem dX10_notes_7 : decode cX10_notes 7 = .ok (.if_icmp .ge 44, 3) := by decide +kernel
theorem dX10_notes_10 : decode cX10_notes 10 = .ok (.aload_n 0, 1) := by decide +kernel
theorem dX10_notes_11 : decode cX10_notes 11 = .ok (.iload_n 1, 1) := by decide +kernel
theorem dX10_notes_12 : decode cX10_notes 12 = .ok (.invokestatic 243, 3) := by decide +kernel
theorem dX10_notes_15 : decode cX10_notes 15 = .ok (.iload 4, 2) := by decide +kernel
theorem dX10_notes_17 : decode cX10_notes 17 = .ok (.iadd, 1) := by decide +kernel
theorem dX10_notes_18 : decode cX10_notes 18 = .ok (.aload_n 0, 1) := by decide +kernel
theorem dX10_notes_19 : decode cX10_notes 19 = .ok (.getfield 35, 3) := by decide +kernel
theorem dX10_notes_22 : decode cX10_notes 22 = .ok (.iload 4, 2) := by decide +kernel
theorem dX10_notes_24 : decode cX10_notes 24 = .ok (.iaload, 1) := by decide +kernel
theorem dX10_notes_25 : decode cX10_notes 25 = .ok (.invokevirtual 71, 3) := by decide +kernel
theorem dX10_notes_28 : decode cX10_notes 28 = .ok (.aload_n 0, 1) := by decide +kernel
theorem dX10_notes_29 : decode cX10_notes 29 = .ok (.iload_n 2, 1) := by decide +kernel
theorem dX10_notes_30 : decode cX10_notes 30 = .ok (.iload 4, 2) := by decide +kernel
theorem dX10_notes_32 : decode cX10_notes 32 = .ok (.iadd, 1) := by decide +kernel
theorem dX10_notes_33 : decode cX10_notes 33 = .ok (.iload_n 3, 1) := by decide +kernel
theorem dX10_notes_34 : decode cX10_notes 34 = .ok (.aload_n 0, 1) := by decide +kernel
theorem dX10_notes_35 : decode cX10_notes 35 = .ok (.getfield 35, 3) := by decide +kernel
theorem dX10_notes_38 : decode cX10_notes 38 = .ok (.iload 4, 2) := by decide +kernel
theorem dX10_notes_40 : decode cX10_notes 40 = .ok (.iaload, 1) := by decide +kernel
theorem dX10_notes_41 : decode cX10_notes 41 = .ok (.imul, 1) := by decide +kernel
theorem dX10_notes_42 : decode cX10_notes 42 = .ok (.invokevirtual 246, 3) := by decide +kernel
theorem dX10_notes_45 : decode cX10_notes 45 = .ok (.iinc 4 1, 3) := by decide +kernel
theorem dX10_notes_48 : decode cX10_notes 48 = .ok (.goto (-45), 3) := by decide +kernel
theorem dX10_notes_51 : decode cX10_notes 51 = .ok (.return_, 1) := by decide +kernel
theorem dX10_moves_0 : decode cX10_moves 0 = .ok (.iconst 0, 1) := by decide +kernel
theorem dX10_moves_1 : decode cX10_moves 1 = .ok (.istore_n 3, 1) := by decide +kernel
theorem dX10_moves_2 : decode cX10_moves 2 = .ok (.iload_n 3, 1) := by decide +kernel
theorem dX10_moves_3 : decode cX10_moves 3 = .ok (.bipush 8, 2) := by decide +kernel
theorem dX10_moves_5 : decode cX10_moves 5 = .ok (.if_icmp .ge 24, 3) := by decide +kernel
theorem dX10_moves_8 : decode cX10_moves 8 = .ok (.aload_n 0, 1) := by decide +kernel
theorem dX10_moves_9 : decode cX10_moves 9 = .ok (.iload_n 1, 1) := by decide +kernel
theorem dX10_moves_10 : decode cX10_moves 10 = .ok (.iload_n 3, 1) := by decide +kernel
theorem dX10_moves_11 : decode cX10_moves 11 = .ok (.iadd, 1) := by decide +kernel
theorem dX10_moves_12 : decode cX10_moves 12 = .ok (.iload_n 2, 1) := by decide +kernel
theorem dX10_moves_13 : decode cX10_moves 13 = .ok (.aload_n 0, 1) := by decide +kernel
theorem dX10_moves_14 : decode cX10_moves 14 = .ok (.getfield 35, 3) := by decide +kernel
theorem dX10_moves_17 : decode cX10_moves 17 = .ok (.iload_n 3, 1) := by decide +kernel
theorem dX10_moves_18 : decode cX10_moves 18 = .ok (.iaload, 1) := by decide +kernel
theorem dX10_moves_19 : decode cX10_moves 19 = .ok (.imul, 1) := by decide +kernel
theorem dX10_moves_20 : decode cX10_moves 20 = .ok (.invokevirtual 246, 3) := by decide +kernel
theorem dX10_moves_23 : decode cX10_moves 23 = .ok (.iinc 3 1, 3) := by decide +kernel
theorem dX10_moves_26 : decode cX10_moves 26 = .ok (.goto (-24), 3) := by decide +kernel
theorem dX10_moves_29 : decode cX10_moves 29 = .ok (.return_, 1) := by decide +kernel
theorem dX10_chargeBack_0 : decode cX10_chargeBack 0 = .ok (.aload_n 0, 1) := by decide +kernel
theorem dX10_chargeBack_1 : decode cX10_chargeBack 1 = .ok (.bipush 29, 2) := by decide +kernel
theorem dX10_chargeBack_3 : decode cX10_chargeBack 3 = .ok (.invokevirtual 249, 3) := by decide +kernel
theorem dX10_chargeBack_6 : decode cX10_chargeBack 6 = .ok (.aload_n 0, 1) := by decide +kernel
theorem dX10_chargeBack_7 : decode cX10_chargeBack 7 = .ok (.iconst 0, 1) := by decide +kernel
theorem dX10_chargeBack_8 : decode cX10_chargeBack 8 = .ok (.iload_n 1, 1) := by decide +kernel
theorem dX10_chargeBack_9 : decode cX10_chargeBack 9 = .ok (.invokestatic 224, 3) := by decide +kernel
theorem dX10_chargeBack_12 : decode cX10_chargeBack 12 = .ok (.aload_n 0, 1) := by decide +kernel
theorem dX10_chargeBack_13 : decode cX10_chargeBack 13 = .ok (.bipush 29, 2) := by decide +kernel
theorem dX10_chargeBack_15 : decode cX10_chargeBack 15 = .ok (.invokevirtual 228, 3) := by decide +kernel
theorem dX10_chargeBack_18 : decode cX10_chargeBack 18 = .ok (.invokestatic 252, 3) := by decide +kernel
theorem dX10_chargeBack_21 : decode cX10_chargeBack 21 = .ok (.invokevirtual 209, 3) := by decide +kernel
theorem dX10_chargeBack_24 : decode cX10_chargeBack 24 = .ok (.aload_n 0, 1) := by decide +kernel
theorem dX10_chargeBack_25 : decode cX10_chargeBack 25 = .ok (.iconst 0, 1) := by decide +kernel
theorem dX10_chargeBack_26 : decode cX10_chargeBack 26 = .ok (.bipush 29, 2) := by decide +kernel
theorem dX10_chargeBack_28 : decode cX10_chargeBack 28 = .ok (.iconst (-1), 1) := by decide +kernel
theorem dX10_chargeBack_29 : decode cX10_chargeBack 29 = .ok (.invokevirtual 255, 3) := by decide +kernel
theorem dX10_chargeBack_32 : decode cX10_chargeBack 32 = .ok (.aload_n 0, 1) := by decide +kernel
theorem dX10_chargeBack_33 : decode cX10_chargeBack 33 = .ok (.bipush 37, 2) := by decide +kernel
theorem dX10_chargeBack_35 : decode cX10_chargeBack 35 = .ok (.iconst 1, 1) := by decide +kernel
theorem dX10_chargeBack_36 : decode cX10_chargeBack 36 = .ok (.invokevirtual 259, 3) := by decide +kernel
theorem dX10_chargeBack_39 : decode cX10_chargeBack 39 = .ok (.aload_n 0, 1) := by decide +kernel
theorem dX10_chargeBack_40 : decode cX10_chargeBack 40 = .ok (.bipush 37, 2) := by decide +kernel
theorem dX10_chargeBack_42 : decode cX10_chargeBack 42 = .ok (.invokevirtual 249, 3) := by decide +kernel
theorem dX10_chargeBack_45 : decode cX10_chargeBack 45 = .ok (.iconst 0, 1) := by decide +kernel
theorem dX10_chargeBack_46 : decode cX10_chargeBack 46 = .ok (.aload_n 0, 1) := by decide +kernel
theorem dX10_chargeBack_47 : decode cX10_chargeBack 47 = .ok (.iconst 2, 1) := by decide +kernel
theorem dX10_chargeBack_48 : decode cX10_chargeBack 48 = .ok (.invokevirtual 193, 3) := by decide +kernel
theorem dX10_chargeBack_51 : decode cX10_chargeBack 51 = .ok (.invokestatic 224, 3) := by decide +kernel
theorem dX10_chargeBack_54 : decode cX10_chargeBack 54 = .ok (.aload_n 0, 1) := by decide +kernel
theorem dX10_chargeBack_55 : decode cX10_chargeBack 55 = .ok (.bipush 37, 2) := by decide +kernel
theorem dX10_chargeBack_57 : decode cX10_chargeBack 57 = .ok (.invokevirtual 228, 3) := by decide +kernel
theorem dX10_chargeBack_60 : decode cX10_chargeBack 60 = .ok (.invokestatic 252, 3) := by decide +kernel
theorem dX10_chargeBack_63 : decode cX10_chargeBack 63 = .ok (.istore_n 2, 1) := by decide +kernel
theorem dX10_chargeBack_64 : decode cX10_chargeBack 64 = .ok (.aload_n 0, 1) := by decide +kernel
theorem dX10_chargeBack_65 : decode cX10_chargeBack 65 = .ok (.iload_n 2, 1) := by decide +kernel
theorem dX10_chargeBack_66 : decode cX10_chargeBack 66 = .ok (.invokevirtual 209, 3) := by decide +kernel
theorem dX10_chargeBack_69 : decode cX10_chargeBack 69 = .ok (.aload_n 0, 1) := by decide +kernel
theorem dX10_chargeBack_70 : decode cX10_chargeBack 70 = .ok (.iconst 1, 1) := by decide +kernel
theorem dX10_chargeBack_71 : decode cX10_chargeBack 71 = .ok (.iconst 5, 1) := by decide +kernel
theorem dX10_chargeBack_72 : decode cX10_chargeBack 72 = .ok (.iconst 1, 1) := by decide +kernel
theorem dX10_chargeBack_73 : decode cX10_chargeBack 73 = .ok (.invokevirtual 255, 3) := by decide +kernel
theorem dX10_chargeBack_76 : decode cX10_chargeBack 76 = .ok (.aload_n 0, 1) := by decide +kernel
theorem dX10_chargeBack_77 : decode cX10_chargeBack 77 = .ok (.bipush 37, 2) := by decide +kernel
theorem dX10_chargeBack_79 : decode cX10_chargeBack 79 = .ok (.iconst (-1), 1) := by decide +kernel
theorem dX10_chargeBack_80 : decode cX10_chargeBack 80 = .ok (.invokevirtual 259, 3) := by decide +kernel
theorem dX10_chargeBack_83 : decode cX10_chargeBack 83 = .ok (.aload_n 0, 1) := by decide +kernel
theorem dX10_chargeBack_84 : decode cX10_chargeBack 84 = .ok (.iconst 2, 1) := by decide +kernel
theorem dX10_chargeBack_85 : decode cX10_chargeBack 85 = .ok (.iload_n 2, 1) := by decide +kernel
theorem dX10_chargeBack_86 : decode cX10_chargeBack 86 = .ok (.ineg, 1) := by decide +kernel
theorem dX10_chargeBack_87 : decode cX10_chargeBack 87 = .ok (.invokevirtual 246, 3) := by decide +kernel
theorem dX10_chargeBack_90 : decode cX10_chargeBack 90 = .ok (.return_, 1) := by decide +kernel
theorem dX10_takeLoss_0 : decode cX10_takeLoss 0 = .ok (.iconst 0, 1) := by decide +kernel
theorem dX10_takeLoss_1 : decode cX10_takeLoss 1 = .ok (.iload_n 1, 1) := by decide +kernel
theorem dX10_takeLoss_2 : decode cX10_takeLoss 2 = .ok (.invokestatic 224, 3) := by decide +kernel
theorem dX10_takeLoss_5 : decode cX10_takeLoss 5 = .ok (.iconst 0, 1) := by decide +kernel
theorem dX10_takeLoss_6 : decode cX10_takeLoss 6 = .ok (.aload_n 0, 1) := by decide +kernel
theorem dX10_takeLoss_7 : decode cX10_takeLoss 7 = .ok (.iconst 2, 1) := by decide +kernel
theorem dX10_takeLoss_8 : decode cX10_takeLoss 8 = .ok (.invokevirtual 193, 3) := by decide +kernel
theorem dX10_takeLoss_11 : decode cX10_takeLoss 11 = .ok (.ineg, 1) := by decide +kernel
theorem dX10_takeLoss_12 : decode cX10_takeLoss 12 = .ok (.invokestatic 224, 3) := by decide +kernel
theorem dX10_takeLoss_15 : decode cX10_takeLoss 15 = .ok (.invokestatic 252, 3) := by decide +kernel
theorem dX10_takeLoss_18 : decode cX10_takeLoss 18 = .ok (.istore_n 2, 1) := by decide +kernel
theorem dX10_takeLoss_19 : decode cX10_takeLoss 19 = .ok (.aload_n 0, 1) := by decide +kernel
theorem dX10_takeLoss_20 : decode cX10_takeLoss 20 = .ok (.aload_n 0, 1) := by decide +kernel
theorem dX10_takeLoss_21 : decode cX10_takeLoss 21 = .ok (.iconst 0, 1) := by decide +kernel
theorem dX10_takeLoss_22 : decode cX10_takeLoss 22 = .ok (.invokevirtual 193, 3) := by decide +kernel
theorem dX10_takeLoss_25 : decode cX10_takeLoss 25 = .ok (.invokevirtual 262, 3) := by decide +kernel
theorem dX10_takeLoss_28 : decode cX10_takeLoss 28 = .ok (.aload_n 0, 1) := by decide +kernel
theorem dX10_takeLoss_29 : decode cX10_takeLoss 29 = .ok (.iload_n 2, 1) := by decide +kernel
theorem dX10_takeLoss_30 : decode cX10_takeLoss 30 = .ok (.invokevirtual 209, 3) := by decide +kernel
theorem dX10_takeLoss_33 : decode cX10_takeLoss 33 = .ok (.aload_n 0, 1) := by decide +kernel
theorem dX10_takeLoss_34 : decode cX10_takeLoss 34 = .ok (.iconst 2, 1) := by decide +kernel
theorem dX10_takeLoss_35 : decode cX10_takeLoss 35 = .ok (.iconst 5, 1) := by decide +kernel
theorem dX10_takeLoss_36 : decode cX10_takeLoss 36 = .ok (.iconst (-1), 1) := by decide +kernel
theorem dX10_takeLoss_37 : decode cX10_takeLoss 37 = .ok (.invokevirtual 255, 3) := by decide +kernel
theorem dX10_takeLoss_40 : decode cX10_takeLoss 40 = .ok (.aload_n 0, 1) := by decide +kernel
theorem dX10_takeLoss_41 : decode cX10_takeLoss 41 = .ok (.bipush 29, 2) := by decide +kernel
theorem dX10_takeLoss_43 : decode cX10_takeLoss 43 = .ok (.iconst 1, 1) := by decide +kernel
theorem dX10_takeLoss_44 : decode cX10_takeLoss 44 = .ok (.invokevirtual 259, 3) := by decide +kernel
theorem dX10_takeLoss_47 : decode cX10_takeLoss 47 = .ok (.aload_n 0, 1) := by decide +kernel
theorem dX10_takeLoss_48 : decode cX10_takeLoss 48 = .ok (.iconst 2, 1) := by decide +kernel
theorem dX10_takeLoss_49 : decode cX10_takeLoss 49 = .ok (.iload_n 2, 1) := by decide +kernel
theorem dX10_takeLoss_50 : decode cX10_takeLoss 50 = .ok (.invokevirtual 246, 3) := by decide +kernel
theorem dX10_takeLoss_53 : decode cX10_takeLoss 53 = .ok (.return_, 1) := by decide +kernel
theorem dX10_cure_0 : decode cX10_cure 0 = .ok (.iconst 0, 1) := by decide +kernel
theorem dX10_cure_1 : decode cX10_cure 1 = .ok (.istore_n 1, 1) := by decide +kernel
theorem dX10_cure_2 : decode cX10_cure 2 = .ok (.iconst 0, 1) := by decide +kernel
theorem dX10_cure_3 : decode cX10_cure 3 = .ok (.istore_n 2, 1) := by decide +kernel
theorem dX10_cure_4 : decode cX10_cure 4 = .ok (.iload_n 2, 1) := by decide +kernel
theorem dX10_cure_5 : decode cX10_cure 5 = .ok (.bipush 8, 2) := by decide +kernel
theorem dX10_cure_7 : decode cX10_cure 7 = .ok (.if_icmp .ge 51, 3) := by decide +kernel
theorem dX10_cure_10 : decode cX10_cure 10 = .ok (.aload_n 0, 1) := by decide +kernel
theorem dX10_cure_11 : decode cX10_cure 11 = .ok (.iload_n 2, 1) := by decide +kernel
theorem dX10_cure_12 : decode cX10_cure 12 = .ok (.invokevirtual 203, 3) := by decide +kernel
theorem dX10_cure_15 : decode cX10_cure 15 = .ok (.ifCond .eq 23, 3) := by decide +kernel
theorem dX10_cure_18 : decode cX10_cure 18 = .ok (.iconst 0, 1) := by decide +kernel
theorem dX10_cure_19 : decode cX10_cure 19 = .ok (.aload_n 0, 1) := by decide +kernel
theorem dX10_cure_20 : decode cX10_cure 20 = .ok (.iload_n 2, 1) := by decide +kernel
theorem dX10_cure_21 : decode cX10_cure 21 = .ok (.invokevirtual 237, 3) := by decide +kernel
theorem dX10_cure_24 : decode cX10_cure 24 = .ok (.aload_n 0, 1) := by decide +kernel
theorem dX10_cure_25 : decode cX10_cure 25 = .ok (.iconst 5, 1) := by decide +kernel
theorem dX10_cure_26 : decode cX10_cure 26 = .ok (.iload_n 2, 1) := by decide +kernel
theorem dX10_cure_27 : decode cX10_cure 27 = .ok (.iadd, 1) := by decide +kernel
theorem dX10_cure_28 : decode cX10_cure 28 = .ok (.invokevirtual 193, 3) := by decide +kernel
theorem dX10_cure_31 : decode cX10_cure 31 = .ok (.isub, 1) := by decide +kernel
theorem dX10_cure_32 : decode cX10_cure 32 = .ok (.invokestatic 224, 3) := by decide +kernel
theorem dX10_cure_35 : decode cX10_cure 35 = .ok (.goto 4, 3) := by decide +kernel
theorem dX10_cure_38 : decode cX10_cure 38 = .ok (.iconst 0, 1) := by decide +kernel
theorem dX10_cure_39 : decode cX10_cure 39 = .ok (.istore_n 3, 1) := by decide +kernel
theorem dX10_cure_40 : decode cX10_cure 40 = .ok (.aload_n 0, 1) := by decide +kernel
theorem dX10_cure_41 : decode cX10_cure 41 = .ok (.getfield 31, 3) := by decide +kernel
theorem dX10_cure_44 : decode cX10_cure 44 = .ok (.iload_n 2, 1) := by decide +kernel
theorem dX10_cure_45 : decode cX10_cure 45 = .ok (.iload_n 3, 1) := by decide +kernel
theorem dX10_cure_46 : decode cX10_cure 46 = .ok (.i2l, 1) := by decide +kernel
theorem dX10_cure_47 : decode cX10_cure 47 = .ok (.lastore, 1) := by decide +kernel
theorem dX10_cure_48 : decode cX10_cure 48 = .ok (.iload_n 1, 1) := by decide +kernel
theorem dX10_cure_49 : decode cX10_cure 49 = .ok (.iload_n 3, 1) := by decide +kernel
theorem dX10_cure_50 : decode cX10_cure 50 = .ok (.iadd, 1) := by decide +kernel
theorem dX10_cure_51 : decode cX10_cure 51 = .ok (.istore_n 1, 1) := by decide +kernel
theorem dX10_cure_52 : decode cX10_cure 52 = .ok (.iinc 2 1, 3) := by decide +kernel
theorem dX10_cure_55 : decode cX10_cure 55 = .ok (.goto (-51), 3) := by decide +kernel
theorem dX10_cure_58 : decode cX10_cure 58 = .ok (.iconst 0, 1) := by decide +kernel
theorem dX10_cure_59 : decode cX10_cure 59 = .ok (.aload_n 0, 1) := by decide +kernel
theorem dX10_cure_60 : decode cX10_cure 60 = .ok (.iconst 2, 1) := by decide +kernel
theorem dX10_cure_61 : decode cX10_cure 61 = .ok (.invokevirtual 193, 3) := by decide +kernel
theorem dX10_cure_64 : decode cX10_cure 64 = .ok (.invokestatic 224, 3) := by decide +kernel
theorem dX10_cure_67 : decode cX10_cure 67 = .ok (.iload_n 1, 1) := by decide +kernel
theorem dX10_cure_68 : decode cX10_cure 68 = .ok (.invokestatic 252, 3) := by decide +kernel
theorem dX10_cure_71 : decode cX10_cure 71 = .ok (.istore_n 2, 1) := by decide +kernel
theorem dX10_cure_72 : decode cX10_cure 72 = .ok (.aload_n 0, 1) := by decide +kernel
theorem dX10_cure_73 : decode cX10_cure 73 = .ok (.iload_n 2, 1) := by decide +kernel
theorem dX10_cure_74 : decode cX10_cure 74 = .ok (.invokevirtual 209, 3) := by decide +kernel
theorem dX10_cure_77 : decode cX10_cure 77 = .ok (.aload_n 0, 1) := by decide +kernel
theorem dX10_cure_78 : decode cX10_cure 78 = .ok (.iconst 3, 1) := by decide +kernel
theorem dX10_cure_79 : decode cX10_cure 79 = .ok (.iconst 5, 1) := by decide +kernel
theorem dX10_cure_80 : decode cX10_cure 80 = .ok (.iconst 1, 1) := by decide +kernel
theorem dX10_cure_81 : decode cX10_cure 81 = .ok (.invokevirtual 255, 3) := by decide +kernel
theorem dX10_cure_84 : decode cX10_cure 84 = .ok (.aload_n 0, 1) := by decide +kernel
theorem dX10_cure_85 : decode cX10_cure 85 = .ok (.iconst 2, 1) := by decide +kernel
theorem dX10_cure_86 : decode cX10_cure 86 = .ok (.iload_n 2, 1) := by decide +kernel
theorem dX10_cure_87 : decode cX10_cure 87 = .ok (.ineg, 1) := by decide +kernel
theorem dX10_cure_88 : decode cX10_cure 88 = .ok (.invokevirtual 246, 3) := by decide +kernel
theorem dX10_cure_91 : decode cX10_cure 91 = .ok (.return_, 1) := by decide +kernel
theorem dX10_specialAt_0 : decode cX10_specialAt 0 = .ok (.sipush 160, 3) := by decide +kernel
theorem dX10_specialAt_3 : decode cX10_specialAt 3 = .ok (.bipush 6, 2) := by decide +kernel
theorem dX10_specialAt_5 : decode cX10_specialAt 5 = .ok (.iload_n 0, 1) := by decide +kernel
theorem dX10_specialAt_6 : decode cX10_specialAt 6 = .ok (.imul, 1) := by decide +kernel
theorem dX10_specialAt_7 : decode cX10_specialAt 7 = .ok (.iadd, 1) := by decide +kernel
theorem dX10_specialAt_8 : decode cX10_specialAt 8 = .ok (.ireturn, 1) := by decide +kernel
theorem dX10_giveSpecials_0 : decode cX10_giveSpecials 0 = .ok (.iconst 0, 1) := by decide +kernel
theorem dX10_giveSpecials_1 : decode cX10_giveSpecials 1 = .ok (.istore_n 1, 1) := by decide +kernel
theorem dX10_giveSpecials_2 : decode cX10_giveSpecials 2 = .ok (.iload_n 1, 1) := by decide +kernel
theorem dX10_giveSpecials_3 : decode cX10_giveSpecials 3 = .ok (.aload_n 0, 1) := by decide +kernel
theorem dX10_giveSpecials_4 : decode cX10_giveSpecials 4 = .ok (.sipush 159, 3) := by decide +kernel
theorem dX10_giveSpecials_7 : decode cX10_giveSpecials 7 = .ok (.invokevirtual 193, 3) := by decide +kernel
theorem dX10_giveSpecials_10 : decode cX10_giveSpecials 10 = .ok (.if_icmp .ge 50, 3) := by decide +kernel
theorem dX10_giveSpecials_13 : decode cX10_giveSpecials 13 = .ok (.aload_n 0, 1) := by decide +kernel
theorem dX10_giveSpecials_14 : decode cX10_giveSpecials 14 = .ok (.iload_n 1, 1) := by decide +kernel
theorem dX10_giveSpecials_15 : decode cX10_giveSpecials 15 = .ok (.invokevirtual 265, 3) := by decide +kernel
theorem dX10_giveSpecials_18 : decode cX10_giveSpecials 18 = .ok (.istore_n 2, 1) := by decide +kernel
theorem dX10_giveSpecials_19 : decode cX10_giveSpecials 19 = .ok (.aload_n 0, 1) := by decide +kernel
theorem dX10_giveSpecials_20 : decode cX10_giveSpecials 20 = .ok (.iload_n 1, 1) := by decide +kernel
theorem dX10_giveSpecials_21 : decode cX10_giveSpecials 21 = .ok (.invokestatic 268, 3) := by decide +kernel
theorem dX10_giveSpecials_24 : decode cX10_giveSpecials 24 = .ok (.invokevirtual 193, 3) := by decide +kernel
theorem dX10_giveSpecials_27 : decode cX10_giveSpecials 27 = .ok (.istore_n 3, 1) := by decide +kernel
theorem dX10_giveSpecials_28 : decode cX10_giveSpecials 28 = .ok (.aload_n 0, 1) := by decide +kernel
theorem dX10_giveSpecials_29 : decode cX10_giveSpecials 29 = .ok (.iconst 5, 1) := by decide +kernel
theorem dX10_giveSpecials_30 : decode cX10_giveSpecials 30 = .ok (.iload_n 3, 1) := by decide +kernel
theorem dX10_giveSpecials_31 : decode cX10_giveSpecials 31 = .ok (.iadd, 1) := by decide +kernel
theorem dX10_giveSpecials_32 : decode cX10_giveSpecials 32 = .ok (.iload_n 2, 1) := by decide +kernel
theorem dX10_giveSpecials_33 : decode cX10_giveSpecials 33 = .ok (.invokevirtual 246, 3) := by decide +kernel
theorem dX10_giveSpecials_36 : decode cX10_giveSpecials 36 = .ok (.aload_n 0, 1) := by decide +kernel
theorem dX10_giveSpecials_37 : decode cX10_giveSpecials 37 = .ok (.iconst 4, 1) := by decide +kernel
theorem dX10_giveSpecials_38 : decode cX10_giveSpecials 38 = .ok (.invokestatic 243, 3) := by decide +kernel
theorem dX10_giveSpecials_41 : decode cX10_giveSpecials 41 = .ok (.iload_n 3, 1) := by decide +kernel
theorem dX10_giveSpecials_42 : decode cX10_giveSpecials 42 = .ok (.iadd, 1) := by decide +kernel
theorem dX10_giveSpecials_43 : decode cX10_giveSpecials 43 = .ok (.iload_n 2, 1) := by decide +kernel
theorem dX10_giveSpecials_44 : decode cX10_giveSpecials 44 = .ok (.invokevirtual 246, 3) := by decide +kernel
theorem dX10_giveSpecials_47 : decode cX10_giveSpecials 47 = .ok (.aload_n 0, 1) := by decide +kernel
theorem dX10_giveSpecials_48 : decode cX10_giveSpecials 48 = .ok (.iconst 2, 1) := by decide +kernel
theorem dX10_giveSpecials_49 : decode cX10_giveSpecials 49 = .ok (.iload_n 2, 1) := by decide +kernel
theorem dX10_giveSpecials_50 : decode cX10_giveSpecials 50 = .ok (.ineg, 1) := by decide +kernel
theorem dX10_giveSpecials_51 : decode cX10_giveSpecials 51 = .ok (.invokevirtual 246, 3) := by decide +kernel
theorem dX10_giveSpecials_54 : decode cX10_giveSpecials 54 = .ok (.iinc 1 1, 3) := by decide +kernel
theorem dX10_giveSpecials_57 : decode cX10_giveSpecials 57 = .ok (.goto (-55), 3) := by decide +kernel
theorem dX10_giveSpecials_60 : decode cX10_giveSpecials 60 = .ok (.return_, 1) := by decide +kernel
theorem dX10_share_0 : decode cX10_share 0 = .ok (.aload_n 0, 1) := by decide +kernel
theorem dX10_share_1 : decode cX10_share 1 = .ok (.iconst 2, 1) := by decide +kernel
theorem dX10_share_2 : decode cX10_share 2 = .ok (.invokevirtual 193, 3) := by decide +kernel
theorem dX10_share_5 : decode cX10_share 5 = .ok (.istore_n 1, 1) := by decide +kernel
theorem dX10_share_6 : decode cX10_share 6 = .ok (.aload_n 0, 1) := by decide +kernel
theorem dX10_share_7 : decode cX10_share 7 = .ok (.aload_n 0, 1) := by decide +kernel
theorem dX10_share_8 : decode cX10_share 8 = .ok (.iconst 5, 1) := by decide +kernel
theorem dX10_share_9 : decode cX10_share 9 = .ok (.invokevirtual 228, 3) := by decide +kernel
theorem dX10_share_12 : decode cX10_share 12 = .ok (.iload_n 1, 1) := by decide +kernel
theorem dX10_share_13 : decode cX10_share 13 = .ok (.iadd, 1) := by decide +kernel
theorem dX10_share_14 : decode cX10_share 14 = .ok (.invokevirtual 215, 3) := by decide +kernel
theorem dX10_share_17 : decode cX10_share 17 = .ok (.iconst 0, 1) := by decide +kernel
theorem dX10_share_18 : decode cX10_share 18 = .ok (.istore_n 2, 1) := by decide +kernel
theorem dX10_share_19 : decode cX10_share 19 = .ok (.iload_n 2, 1) := by decide +kernel
theorem dX10_share_20 : decode cX10_share 20 = .ok (.bipush 8, 2) := by decide +kernel
theorem dX10_share_22 : decode cX10_share 22 = .ok (.if_icmp .ge 97, 3) := by decide +kernel
theorem dX10_share_25 : decode cX10_share 25 = .ok (.aload_n 0, 1) := by decide +kernel
theorem dX10_share_26 : decode cX10_share 26 = .ok (.iload_n 2, 1) := by decide +kernel
theorem dX10_share_27 : decode cX10_share 27 = .ok (.invokevirtual 203, 3) := by decide +kernel
theorem dX10_share_30 : decode cX10_share 30 = .ok (.ifCond .eq 20, 3) := by decide +kernel
theorem dX10_share_33 : decode cX10_share 33 = .ok (.aload_n 0, 1) := by decide +kernel
theorem dX10_share_34 : decode cX10_share 34 = .ok (.getfield 38, 3) := by decide +kernel
theorem dX10_share_37 : decode cX10_share 37 = .ok (.iload_n 2, 1) := by decide +kernel
theorem dX10_share_38 : decode cX10_share 38 = .ok (.iaload, 1) := by decide +kernel
theorem dX10_share_39 : decode cX10_share 39 = .ok (.aload_n 0, 1) := by decide +kernel
theorem dX10_share_40 : decode cX10_share 40 = .ok (.iconst 5, 1) := by decide +kernel
theorem dX10_share_41 : decode cX10_share 41 = .ok (.iload_n 2, 1) := by decide +kernel
theorem dX10_share_42 : decode cX10_share 42 = .ok (.iadd, 1) := by decide +kernel
theorem dX10_share_43 : decode cX10_share 43 = .ok (.invokevirtual 193, 3) := by decide +kernel
theorem dX10_share_46 : decode cX10_share 46 = .ok (.isub, 1) := by decide +kernel
theorem dX10_share_47 : decode cX10_share 47 = .ok (.goto 4, 3) := by decide +kernel
theorem dX10_share_50 : decode cX10_share 50 = .ok (.iconst 0, 1) := by decide +kernel
theorem dX10_share_51 : decode cX10_share 51 = .ok (.istore_n 3, 1) := by decide +kernel
theorem dX10_share_52 : decode cX10_share 52 = .ok (.aload_n 0, 1) := by decide +kernel
theorem dX10_share_53 : decode cX10_share 53 = .ok (.getfield 31, 3) := by decide +kernel
theorem dX10_share_56 : decode cX10_share 56 = .ok (.iload_n 2, 1) := by decide +kernel
theorem dX10_share_57 : decode cX10_share 57 = .ok (.iload_n 1, 1) := by decide +kernel
theorem dX10_share_58 : decode cX10_share 58 = .ok (.ifCond .le 12, 3) := by decide +kernel
theorem dX10_share_61 : decode cX10_share 61 = .ok (.iconst 0, 1) := by decide +kernel
theorem dX10_share_62 : decode cX10_share 62 = .ok (.iload_n 3, 1) := by decide +kernel
theorem dX10_share_63 : decode cX10_share 63 = .ok (.invokestatic 224, 3) := by decide +kernel
theorem dX10_share_66 : decode cX10_share 66 = .ok (.i2l, 1) := by decide +kernel
theorem dX10_share_67 : decode cX10_share 67 = .ok (.goto 10, 3) := by decide +kernel
theorem dX10_share_70 : decode cX10_share 70 = .ok (.iconst 0, 1) := by decide +kernel
theorem dX10_share_71 : decode cX10_share 71 = .ok (.iload_n 3, 1) := by decide +kernel
theorem dX10_share_72 : decode cX10_share 72 = .ok (.ineg, 1) := by decide +kernel
theorem dX10_share_73 : decode cX10_share 73 = .ok (.invokestatic 224, 3) := by decide +kernel
theorem dX10_share_76 : decode cX10_share 76 = .ok (.i2l, 1) := by decide +kernel
theorem dX10_share_77 : decode cX10_share 77 = .ok (.lastore, 1) := by decide +kernel
theorem dX10_share_78 : decode cX10_share 78 = .ok (.aload_n 0, 1) := by decide +kernel
theorem dX10_share_79 : decode cX10_share 79 = .ok (.getfield 44, 3) := by decide +kernel
theorem dX10_share_82 : decode cX10_share 82 = .ok (.iload_n 2, 1) := by decide +kernel
theorem dX10_share_83 : decode cX10_share 83 = .ok (.aload_n 0, 1) := by decide +kernel
theorem dX10_share_84 : decode cX10_share 84 = .ok (.iload_n 2, 1) := by decide +kernel
theorem dX10_share_85 : decode cX10_share 85 = .ok (.invokevirtual 203, 3) := by decide +kernel
theorem dX10_share_88 : decode cX10_share 88 = .ok (.ifCond .eq 23, 3) := by decide +kernel
theorem dX10_share_91 : decode cX10_share 91 = .ok (.iconst 0, 1) := by decide +kernel
theorem dX10_share_92 : decode cX10_share 92 = .ok (.aload_n 0, 1) := by decide +kernel
theorem dX10_share_93 : decode cX10_share 93 = .ok (.iconst 5, 1) := by decide +kernel
theorem dX10_share_94 : decode cX10_share 94 = .ok (.iload_n 2, 1) := by decide +kernel
theorem dX10_share_95 : decode cX10_share 95 = .ok (.iadd, 1) := by decide +kernel
theorem dX10_share_96 : decode cX10_share 96 = .ok (.invokevirtual 193, 3) := by decide +kernel
theorem dX10_share_99 : decode cX10_share 99 = .ok (.aload_n 0, 1) := by decide +kernel
theorem dX10_share_100 : decode cX10_share 100 = .ok (.iload_n 2, 1) := by decide +kernel
theorem dX10_share_101 : decode cX10_share 101 = .ok (.invokevirtual 237, 3) := by decide +kernel
theorem dX10_share_104 : decode cX10_share 104 = .ok (.isub, 1) := by decide +kernel
theorem dX10_share_105 : decode cX10_share 105 = .ok (.invokestatic 224, 3) := by decide +kernel
theorem dX10_share_108 : decode cX10_share 108 = .ok (.goto 4, 3) := by decide +kernel
theorem dX10_share_111 : decode cX10_share 111 = .ok (.iconst 0, 1) := by decide +kernel
theorem dX10_share_112 : decode cX10_share 112 = .ok (.iastore, 1) := by decide +kernel
theorem dX10_share_113 : decode cX10_share 113 = .ok (.iinc 2 1, 3) := by decide +kernel
theorem dX10_share_116 : decode cX10_share 116 = .ok (.goto (-97), 3) := by decide +kernel
theorem dX10_share_119 : decode cX10_share 119 = .ok (.aload_n 0, 1) := by decide +kernel
theorem dX10_share_120 : decode cX10_share 120 = .ok (.iload_n 1, 1) := by decide +kernel
theorem dX10_share_121 : decode cX10_share 121 = .ok (.ifCond .ge 8, 3) := by decide +kernel
theorem dX10_share_124 : decode cX10_share 124 = .ok (.iload_n 1, 1) := by decide +kernel
theorem dX10_share_125 : decode cX10_share 125 = .ok (.ineg, 1) := by decide +kernel
theorem dX10_share_126 : decode cX10_share 126 = .ok (.goto 4, 3) := by decide +kernel
theorem dX10_share_129 : decode cX10_share 129 = .ok (.iload_n 1, 1) := by decide +kernel
theorem dX10_share_130 : decode cX10_share 130 = .ok (.invokevirtual 209, 3) := by decide +kernel
theorem dX10_share_133 : decode cX10_share 133 = .ok (.iconst 0, 1) := by decide +kernel
theorem dX10_share_134 : decode cX10_share 134 = .ok (.istore_n 2, 1) := by decide +kernel
theorem dX10_share_135 : decode cX10_share 135 = .ok (.iload_n 2, 1) := by decide +kernel
theorem dX10_share_136 : decode cX10_share 136 = .ok (.bipush 8, 2) := by decide +kernel
theorem dX10_share_138 : decode cX10_share 138 = .ok (.if_icmp .ge 51, 3) := by decide +kernel
theorem dX10_share_141 : decode cX10_share 141 = .ok (.aload_n 0, 1) := by decide +kernel
theorem dX10_share_142 : decode cX10_share 142 = .ok (.iconst 5, 1) := by decide +kernel
theorem dX10_share_143 : decode cX10_share 143 = .ok (.invokestatic 243, 3) := by decide +kernel
theorem dX10_share_146 : decode cX10_share 146 = .ok (.iload_n 2, 1) := by decide +kernel
theorem dX10_share_147 : decode cX10_share 147 = .ok (.iadd, 1) := by decide +kernel
theorem dX10_share_148 : decode cX10_share 148 = .ok (.iload_n 1, 1) := by decide +kernel
theorem dX10_share_149 : decode cX10_share 149 = .ok (.ifCond .ge 13, 3) := by decide +kernel
theorem dX10_share_152 : decode cX10_share 152 = .ok (.aload_n 0, 1) := by decide +kernel
theorem dX10_share_153 : decode cX10_share 153 = .ok (.getfield 35, 3) := by decide +kernel
theorem dX10_share_156 : decode cX10_share 156 = .ok (.iload_n 2, 1) := by decide +kernel
theorem dX10_share_157 : decode cX10_share 157 = .ok (.iaload, 1) := by decide +kernel
theorem dX10_share_158 : decode cX10_share 158 = .ok (.ineg, 1) := by decide +kernel
theorem dX10_share_159 : decode cX10_share 159 = .ok (.goto 9, 3) := by decide +kernel
theorem dX10_share_162 : decode cX10_share 162 = .ok (.aload_n 0, 1) := by decide +kernel
theorem dX10_share_163 : decode cX10_share 163 = .ok (.getfield 35, 3) := by decide +kernel
theorem dX10_share_166 : decode cX10_share 166 = .ok (.iload_n 2, 1) := by decide +kernel
theorem dX10_share_167 : decode cX10_share 167 = .ok (.iaload, 1) := by decide +kernel
theorem dX10_share_168 : decode cX10_share 168 = .ok (.invokevirtual 71, 3) := by decide +kernel
theorem dX10_share_171 : decode cX10_share 171 = .ok (.aload_n 0, 1) := by decide +kernel
theorem dX10_share_172 : decode cX10_share 172 = .ok (.getfield 41, 3) := by decide +kernel
theorem dX10_share_175 : decode cX10_share 175 = .ok (.iload_n 2, 1) := by decide +kernel
theorem dX10_share_176 : decode cX10_share 176 = .ok (.aload_n 0, 1) := by decide +kernel
theorem dX10_share_177 : decode cX10_share 177 = .ok (.getfield 35, 3) := by decide +kernel
theorem dX10_share_180 : decode cX10_share 180 = .ok (.iload_n 2, 1) := by decide +kernel
theorem dX10_share_181 : decode cX10_share 181 = .ok (.iaload, 1) := by decide +kernel
theorem dX10_share_182 : decode cX10_share 182 = .ok (.iastore, 1) := by decide +kernel
theorem dX10_share_183 : decode cX10_share 183 = .ok (.iinc 2 1, 3) := by decide +kernel
theorem dX10_share_186 : decode cX10_share 186 = .ok (.goto (-51), 3) := by decide +kernel
theorem dX10_share_189 : decode cX10_share 189 = .ok (.iload_n 1, 1) := by decide +kernel
theorem dX10_share_190 : decode cX10_share 190 = .ok (.ifCond .ge 7, 3) := by decide +kernel
theorem dX10_share_193 : decode cX10_share 193 = .ok (.aload_n 0, 1) := by decide +kernel
theorem dX10_share_194 : decode cX10_share 194 = .ok (.invokevirtual 271, 3) := by decide +kernel
theorem dX10_share_197 : decode cX10_share 197 = .ok (.iconst 0, 1) := by decide +kernel
theorem dX10_share_198 : decode cX10_share 198 = .ok (.istore_n 2, 1) := by decide +kernel
theorem dX10_share_199 : decode cX10_share 199 = .ok (.iload_n 2, 1) := by decide +kernel
theorem dX10_share_200 : decode cX10_share 200 = .ok (.bipush 8, 2) := by decide +kernel
theorem dX10_share_202 : decode cX10_share 202 = .ok (.if_icmp .ge 50, 3) := by decide +kernel
theorem dX10_share_205 : decode cX10_share 205 = .ok (.iload_n 1, 1) := by decide +kernel
theorem dX10_share_206 : decode cX10_share 206 = .ok (.ifCond .ge 13, 3) := by decide +kernel
theorem dX10_share_209 : decode cX10_share 209 = .ok (.aload_n 0, 1) := by decide +kernel
theorem dX10_share_210 : decode cX10_share 210 = .ok (.getfield 41, 3) := by decide +kernel
theorem dX10_share_213 : decode cX10_share 213 = .ok (.iload_n 2, 1) := by decide +kernel
theorem dX10_share_214 : decode cX10_share 214 = .ok (.iaload, 1) := by decide +kernel
theorem dX10_share_215 : decode cX10_share 215 = .ok (.ineg, 1) := by decide +kernel
theorem dX10_share_216 : decode cX10_share 216 = .ok (.goto 9, 3) := by decide +kernel
theorem dX10_share_219 : decode cX10_share 219 = .ok (.aload_n 0, 1) := by decide +kernel
theorem dX10_share_220 : decode cX10_share 220 = .ok (.getfield 41, 3) := by decide +kernel
theorem dX10_share_223 : decode cX10_share 223 = .ok (.iload_n 2, 1) := by decide +kernel
theorem dX10_share_224 : decode cX10_share 224 = .ok (.iaload, 1) := by decide +kernel
theorem dX10_share_225 : decode cX10_share 225 = .ok (.istore_n 3, 1) := by decide +kernel
theorem dX10_share_226 : decode cX10_share 226 = .ok (.aload_n 0, 1) := by decide +kernel
theorem dX10_share_227 : decode cX10_share 227 = .ok (.bipush 6, 2) := by decide +kernel
theorem dX10_share_229 : decode cX10_share 229 = .ok (.invokestatic 243, 3) := by decide +kernel
theorem dX10_share_232 : decode cX10_share 232 = .ok (.iload_n 2, 1) := by decide +kernel
theorem dX10_share_233 : decode cX10_share 233 = .ok (.iadd, 1) := by decide +kernel
theorem dX10_share_234 : decode cX10_share 234 = .ok (.iload_n 3, 1) := by decide +kernel
theorem dX10_share_235 : decode cX10_share 235 = .ok (.invokevirtual 71, 3) := by decide +kernel
theorem dX10_share_238 : decode cX10_share 238 = .ok (.aload_n 0, 1) := by decide +kernel
theorem dX10_share_239 : decode cX10_share 239 = .ok (.iconst 5, 1) := by decide +kernel
theorem dX10_share_240 : decode cX10_share 240 = .ok (.iload_n 2, 1) := by decide +kernel
theorem dX10_share_241 : decode cX10_share 241 = .ok (.iadd, 1) := by decide +kernel
theorem dX10_share_242 : decode cX10_share 242 = .ok (.iload_n 3, 1) := by decide +kernel
theorem dX10_share_243 : decode cX10_share 243 = .ok (.invokevirtual 246, 3) := by decide +kernel
theorem dX10_share_246 : decode cX10_share 246 = .ok (.iinc 2 1, 3) := by decide +kernel
theorem dX10_share_249 : decode cX10_share 249 = .ok (.goto (-50), 3) := by decide +kernel
theorem dX10_share_252 : decode cX10_share 252 = .ok (.aload_n 0, 1) := by decide +kernel
theorem dX10_share_253 : decode cX10_share 253 = .ok (.iconst 2, 1) := by decide +kernel
theorem dX10_share_254 : decode cX10_share 254 = .ok (.iconst 0, 1) := by decide +kernel
theorem dX10_share_255 : decode cX10_share 255 = .ok (.invokevirtual 71, 3) := by decide +kernel
theorem dX10_share_258 : decode cX10_share 258 = .ok (.return_, 1) := by decide +kernel
theorem dX10_limit_0 : decode cX10_limit 0 = .ok (.aload_n 0, 1) := by decide +kernel
theorem dX10_limit_1 : decode cX10_limit 1 = .ok (.invokevirtual 274, 3) := by decide +kernel
theorem dX10_limit_4 : decode cX10_limit 4 = .ok (.istore_n 1, 1) := by decide +kernel
theorem dX10_limit_5 : decode cX10_limit 5 = .ok (.iload_n 1, 1) := by decide +kernel
theorem dX10_limit_6 : decode cX10_limit 6 = .ok (.ifCond .le 125, 3) := by decide +kernel
theorem dX10_limit_9 : decode cX10_limit 9 = .ok (.iconst 0, 1) := by decide +kernel
theorem dX10_limit_10 : decode cX10_limit 10 = .ok (.istore_n 2, 1) := by decide +kernel
theorem dX10_limit_11 : decode cX10_limit 11 = .ok (.iconst 0, 1) := by decide +kernel
theorem dX10_limit_12 : decode cX10_limit 12 = .ok (.istore_n 3, 1) := by decide +kernel
theorem dX10_limit_13 : decode cX10_limit 13 = .ok (.iload_n 3, 1) := by decide +kernel
theorem dX10_limit_14 : decode cX10_limit 14 = .ok (.bipush 8, 2) := by decide +kernel
theorem dX10_limit_16 : decode cX10_limit 16 = .ok (.if_icmp .ge 42, 3) := by decide +kernel
theorem dX10_limit_19 : decode cX10_limit 19 = .ok (.iload_n 2, 1) := by decide +kernel
theorem dX10_limit_20 : decode cX10_limit 20 = .ok (.aload_n 0, 1) := by decide +kernel
theorem dX10_limit_21 : decode cX10_limit 21 = .ok (.iload_n 3, 1) := by decide +kernel
theorem dX10_limit_22 : decode cX10_limit 22 = .ok (.invokevirtual 203, 3) := by decide +kernel
theorem dX10_limit_25 : decode cX10_limit 25 = .ok (.ifCond .eq 24, 3) := by decide +kernel
theorem dX10_limit_28 : decode cX10_limit 28 = .ok (.aload_n 0, 1) := by decide +kernel
theorem dX10_limit_29 : decode cX10_limit 29 = .ok (.getfield 41, 3) := by decide +kernel
theorem dX10_limit_32 : decode cX10_limit 32 = .ok (.iload_n 3, 1) := by decide +kernel
theorem dX10_limit_33 : decode cX10_limit 33 = .ok (.iaload, 1) := by decide +kernel
theorem dX10_limit_34 : decode cX10_limit 34 = .ok (.aload_n 0, 1) := by decide +kernel
theorem dX10_limit_35 : decode cX10_limit 35 = .ok (.getfield 44, 3) := by decide +kernel
theorem dX10_limit_38 : decode cX10_limit 38 = .ok (.iload_n 3, 1) := by decide +kernel
theorem dX10_limit_39 : decode cX10_limit 39 = .ok (.iaload, 1) := by decide +kernel
theorem dX10_limit_40 : decode cX10_limit 40 = .ok (.if_icmp .ge 9, 3) := by decide +kernel
theorem dX10_limit_43 : decode cX10_limit 43 = .ok (.iconst 1, 1) := by decide +kernel
theorem dX10_limit_44 : decode cX10_limit 44 = .ok (.iload_n 3, 1) := by decide +kernel
theorem dX10_limit_45 : decode cX10_limit 45 = .ok (.ishl, 1) := by decide +kernel
theorem dX10_limit_46 : decode cX10_limit 46 = .ok (.goto 4, 3) := by decide +kernel
theorem dX10_limit_49 : decode cX10_limit 49 = .ok (.iconst 0, 1) := by decide +kernel
theorem dX10_limit_50 : decode cX10_limit 50 = .ok (.ior, 1) := by decide +kernel
theorem dX10_limit_51 : decode cX10_limit 51 = .ok (.istore_n 2, 1) := by decide +kernel
theorem dX10_limit_52 : decode cX10_limit 52 = .ok (.iinc 3 1, 3) := by decide +kernel
theorem dX10_limit_55 : decode cX10_limit 55 = .ok (.goto (-42), 3) := by decide +kernel
theorem dX10_limit_58 : decode cX10_limit 58 = .ok (.iload_n 2, 1) := by decide +kernel
theorem dX10_limit_59 : decode cX10_limit 59 = .ok (.ifCond .ne 25, 3) := by decide +kernel
theorem dX10_limit_62 : decode cX10_limit 62 = .ok (.aload_n 0, 1) := by decide +kernel
theorem dX10_limit_63 : decode cX10_limit 63 = .ok (.sipush 309, 3) := by decide +kernel
theorem dX10_limit_66 : decode cX10_limit 66 = .ok (.iload_n 1, 1) := by decide +kernel
theorem dX10_limit_67 : decode cX10_limit 67 = .ok (.invokevirtual 71, 3) := by decide +kernel
theorem dX10_limit_70 : decode cX10_limit 70 = .ok (.aload_n 0, 1) := by decide +kernel
theorem dX10_limit_71 : decode cX10_limit 71 = .ok (.getfield 41, 3) := by decide +kernel
theorem dX10_limit_74 : decode cX10_limit 74 = .ok (.aload_n 0, 1) := by decide +kernel
theorem dX10_limit_75 : decode cX10_limit 75 = .ok (.invokevirtual 277, 3) := by decide +kernel
theorem dX10_limit_78 : decode cX10_limit 78 = .ok (.dup2, 1) := by decide +kernel
theorem dX10_limit_79 : decode cX10_limit 79 = .ok (.iaload, 1) := by decide +kernel
theorem dX10_limit_80 : decode cX10_limit 80 = .ok (.iload_n 1, 1) := by decide +kernel
theorem dX10_limit_81 : decode cX10_limit 81 = .ok (.iadd, 1) := by decide +kernel
theorem dX10_limit_82 : decode cX10_limit 82 = .ok (.iastore, 1) := by decide +kernel
theorem dX10_limit_83 : decode cX10_limit 83 = .ok (.return_, 1) := by decide +kernel
theorem dX10_limit_84 : decode cX10_limit 84 = .ok (.aload_n 0, 1) := by decide +kernel
theorem dX10_limit_85 : decode cX10_limit 85 = .ok (.iload_n 2, 1) := by decide +kernel
theorem dX10_limit_86 : decode cX10_limit 86 = .ok (.invokevirtual 262, 3) := by decide +kernel
theorem dX10_limit_89 : decode cX10_limit 89 = .ok (.aload_n 0, 1) := by decide +kernel
theorem dX10_limit_90 : decode cX10_limit 90 = .ok (.iload_n 1, 1) := by decide +kernel
theorem dX10_limit_91 : decode cX10_limit 91 = .ok (.invokevirtual 209, 3) := by decide +kernel
theorem dX10_limit_94 : decode cX10_limit 94 = .ok (.iconst 0, 1) := by decide +kernel
theorem dX10_limit_95 : decode cX10_limit 95 = .ok (.istore_n 3, 1) := by decide +kernel
theorem dX10_limit_96 : decode cX10_limit 96 = .ok (.iload_n 3, 1) := by decide +kernel
theorem dX10_limit_97 : decode cX10_limit 97 = .ok (.bipush 8, 2) := by decide +kernel
theorem dX10_limit_99 : decode cX10_limit 99 = .ok (.if_icmp .ge 24, 3) := by decide +kernel
theorem dX10_limit_102 : decode cX10_limit 102 = .ok (.aload_n 0, 1) := by decide +kernel
theorem dX10_limit_103 : decode cX10_limit 103 = .ok (.getfield 41, 3) := by decide +kernel
theorem dX10_limit_106 : decode cX10_limit 106 = .ok (.iload_n 3, 1) := by decide +kernel
theorem dX10_limit_107 : decode cX10_limit 107 = .ok (.dup2, 1) := by decide +kernel
theorem dX10_limit_108 : decode cX10_limit 108 = .ok (.iaload, 1) := by decide +kernel
theorem dX10_limit_109 : decode cX10_limit 109 = .ok (.aload_n 0, 1) := by decide +kernel
theorem dX10_limit_110 : decode cX10_limit 110 = .ok (.getfield 35, 3) := by decide +kernel
theorem dX10_limit_113 : decode cX10_limit 113 = .ok (.iload_n 3, 1) := by decide +kernel
theorem dX10_limit_114 : decode cX10_limit 114 = .ok (.iaload, 1) := by decide +kernel
theorem dX10_limit_115 : decode cX10_limit 115 = .ok (.iadd, 1) := by decide +kernel
theorem dX10_limit_116 : decode cX10_limit 116 = .ok (.iastore, 1) := by decide +kernel
theorem dX10_limit_117 : decode cX10_limit 117 = .ok (.iinc 3 1, 3) := by decide +kernel
theorem dX10_limit_120 : decode cX10_limit 120 = .ok (.goto (-24), 3) := by decide +kernel
theorem dX10_limit_123 : decode cX10_limit 123 = .ok (.aload_n 0, 1) := by decide +kernel
theorem dX10_limit_124 : decode cX10_limit 124 = .ok (.invokevirtual 274, 3) := by decide +kernel
theorem dX10_limit_127 : decode cX10_limit 127 = .ok (.istore_n 1, 1) := by decide +kernel
theorem dX10_limit_128 : decode cX10_limit 128 = .ok (.goto (-123), 3) := by decide +kernel
theorem dX10_limit_131 : decode cX10_limit 131 = .ok (.return_, 1) := by decide +kernel
theorem dX10_overSpace_0 : decode cX10_overSpace 0 = .ok (.iconst 0, 1) := by decide +kernel
theorem dX10_overSpace_1 : decode cX10_overSpace 1 = .ok (.istore_n 1, 1) := by decide +kernel
theorem dX10_overSpace_2 : decode cX10_overSpace 2 = .ok (.iconst 0, 1) := by decide +kernel
theorem dX10_overSpace_3 : decode cX10_overSpace 3 = .ok (.istore_n 2, 1) := by decide +kernel
theorem dX10_overSpace_4 : decode cX10_overSpace 4 = .ok (.iload_n 2, 1) := by decide +kernel
theorem dX10_overSpace_5 : decode cX10_overSpace 5 = .ok (.bipush 8, 2) := by decide +kernel
theorem dX10_overSpace_7 : decode cX10_overSpace 7 = .ok (.if_icmp .ge 55, 3) := by decide +kernel
theorem dX10_overSpace_10 : decode cX10_overSpace 10 = .ok (.aload_n 0, 1) := by decide +kernel
theorem dX10_overSpace_11 : decode cX10_overSpace 11 = .ok (.getfield 41, 3) := by decide +kernel
theorem dX10_overSpace_14 : decode cX10_overSpace 14 = .ok (.iload_n 2, 1) := by decide +kernel
theorem dX10_overSpace_15 : decode cX10_overSpace 15 = .ok (.iaload, 1) := by decide +kernel
theorem dX10_overSpace_16 : decode cX10_overSpace 16 = .ok (.aload_n 0, 1) := by decide +kernel
theorem dX10_overSpace_17 : decode cX10_overSpace 17 = .ok (.getfield 44, 3) := by decide +kernel
theorem dX10_overSpace_20 : decode cX10_overSpace 20 = .ok (.iload_n 2, 1) := by decide +kernel
theorem dX10_overSpace_21 : decode cX10_overSpace 21 = .ok (.iaload, 1) := by decide +kernel
theorem dX10_overSpace_22 : decode cX10_overSpace 22 = .ok (.if_icmp .gt 6, 3) := by decide +kernel
theorem dX10_overSpace_25 : decode cX10_overSpace 25 = .ok (.goto 31, 3) := by decide +kernel
theorem dX10_overSpace_28 : decode cX10_overSpace 28 = .ok (.iload_n 1, 1) := by decide +kernel
theorem dX10_overSpace_29 : decode cX10_overSpace 29 = .ok (.aload_n 0, 1) := by decide +kernel
theorem dX10_overSpace_30 : decode cX10_overSpace 30 = .ok (.getfield 41, 3) := by decide +kernel
theorem dX10_overSpace_33 : decode cX10_overSpace 33 = .ok (.iload_n 2, 1) := by decide +kernel
theorem dX10_overSpace_34 : decode cX10_overSpace 34 = .ok (.iaload, 1) := by decide +kernel
theorem dX10_overSpace_35 : decode cX10_overSpace 35 = .ok (.aload_n 0, 1) := by decide +kernel
theorem dX10_overSpace_36 : decode cX10_overSpace 36 = .ok (.getfield 44, 3) := by decide +kernel
theorem dX10_overSpace_39 : decode cX10_overSpace 39 = .ok (.iload_n 2, 1) := by decide +kernel
theorem dX10_overSpace_40 : decode cX10_overSpace 40 = .ok (.iaload, 1) := by decide +kernel
theorem dX10_overSpace_41 : decode cX10_overSpace 41 = .ok (.isub, 1) := by decide +kernel
theorem dX10_overSpace_42 : decode cX10_overSpace 42 = .ok (.iadd, 1) := by decide +kernel
theorem dX10_overSpace_43 : decode cX10_overSpace 43 = .ok (.istore_n 1, 1) := by decide +kernel
theorem dX10_overSpace_44 : decode cX10_overSpace 44 = .ok (.aload_n 0, 1) := by decide +kernel
theorem dX10_overSpace_45 : decode cX10_overSpace 45 = .ok (.getfield 41, 3) := by decide +kernel
theorem dX10_overSpace_48 : decode cX10_overSpace 48 = .ok (.iload_n 2, 1) := by decide +kernel
theorem dX10_overSpace_49 : decode cX10_overSpace 49 = .ok (.aload_n 0, 1) := by decide +kernel
theorem dX10_overSpace_50 : decode cX10_overSpace 50 = .ok (.getfield 44, 3) := by decide +kernel
theorem dX10_overSpace_53 : decode cX10_overSpace 53 = .ok (.iload_n 2, 1) := by decide +kernel
theorem dX10_overSpace_54 : decode cX10_overSpace 54 = .ok (.iaload, 1) := by decide +kernel
theorem dX10_overSpace_55 : decode cX10_overSpace 55 = .ok (.iastore, 1) := by decide +kernel
theorem dX10_overSpace_56 : decode cX10_overSpace 56 = .ok (.iinc 2 1, 3) := by decide +kernel
theorem dX10_overSpace_59 : decode cX10_overSpace 59 = .ok (.goto (-55), 3) := by decide +kernel
theorem dX10_overSpace_62 : decode cX10_overSpace 62 = .ok (.iload_n 1, 1) := by decide +kernel
theorem dX10_overSpace_63 : decode cX10_overSpace 63 = .ok (.ireturn, 1) := by decide +kernel
theorem dX10_firstThere_0 : decode cX10_firstThere 0 = .ok (.iconst 0, 1) := by decide +kernel
theorem dX10_firstThere_1 : decode cX10_firstThere 1 = .ok (.istore_n 1, 1) := by decide +kernel
theorem dX10_firstThere_2 : decode cX10_firstThere 2 = .ok (.aload_n 0, 1) := by decide +kernel
theorem dX10_firstThere_3 : decode cX10_firstThere 3 = .ok (.iload_n 1, 1) := by decide +kernel
theorem dX10_firstThere_4 : decode cX10_firstThere 4 = .ok (.invokevirtual 203, 3) := by decide +kernel
theorem dX10_firstThere_7 : decode cX10_firstThere 7 = .ok (.ifCond .ne 9, 3) := by decide +kernel
theorem dX10_firstThere_10 : decode cX10_firstThere 10 = .ok (.iinc 1 1, 3) := by decide +kernel
theorem dX10_firstThere_13 : decode cX10_firstThere 13 = .ok (.goto (-11), 3) := by decide +kernel
theorem dX10_firstThere_16 : decode cX10_firstThere 16 = .ok (.iload_n 1, 1) := by decide +kernel
theorem dX10_firstThere_17 : decode cX10_firstThere 17 = .ok (.ireturn, 1) := by decide +kernel
theorem dX10_closeYear_0 : decode cX10_closeYear 0 = .ok (.aload_n 0, 1) := by decide +kernel
theorem dX10_closeYear_1 : decode cX10_closeYear 1 = .ok (.invokevirtual 280, 3) := by decide +kernel
theorem dX10_closeYear_4 : decode cX10_closeYear 4 = .ok (.aload_n 0, 1) := by decide +kernel
theorem dX10_closeYear_5 : decode cX10_closeYear 5 = .ok (.invokevirtual 234, 3) := by decide +kernel
theorem dX10_closeYear_8 : decode cX10_closeYear 8 = .ok (.aload_n 0, 1) := by decide +kernel
theorem dX10_closeYear_9 : decode cX10_closeYear 9 = .ok (.iconst 4, 1) := by decide +kernel
theorem dX10_closeYear_10 : decode cX10_closeYear 10 = .ok (.invokevirtual 193, 3) := by decide +kernel
theorem dX10_closeYear_13 : decode cX10_closeYear 13 = .ok (.isub, 1) := by decide +kernel
theorem dX10_closeYear_14 : decode cX10_closeYear 14 = .ok (.istore_n 1, 1) := by decide +kernel
theorem dX10_closeYear_15 : decode cX10_closeYear 15 = .ok (.aload_n 0, 1) := by decide +kernel
theorem dX10_closeYear_16 : decode cX10_closeYear 16 = .ok (.iload_n 1, 1) := by decide +kernel
theorem dX10_closeYear_17 : decode cX10_closeYear 17 = .ok (.ineg, 1) := by decide +kernel
theorem dX10_closeYear_18 : decode cX10_closeYear 18 = .ok (.invokevirtual 283, 3) := by decide +kernel
theorem dX10_closeYear_21 : decode cX10_closeYear 21 = .ok (.aload_n 0, 1) := by decide +kernel
theorem dX10_closeYear_22 : decode cX10_closeYear 22 = .ok (.iload_n 1, 1) := by decide +kernel
theorem dX10_closeYear_23 : decode cX10_closeYear 23 = .ok (.invokevirtual 286, 3) := by decide +kernel
theorem dX10_closeYear_26 : decode cX10_closeYear 26 = .ok (.aload_n 0, 1) := by decide +kernel
theorem dX10_closeYear_27 : decode cX10_closeYear 27 = .ok (.invokevirtual 289, 3) := by decide +kernel
theorem dX10_closeYear_30 : decode cX10_closeYear 30 = .ok (.aload_n 0, 1) := by decide +kernel
theorem dX10_closeYear_31 : decode cX10_closeYear 31 = .ok (.invokevirtual 292, 3) := by decide +kernel
theorem dX10_closeYear_34 : decode cX10_closeYear 34 = .ok (.aload_n 0, 1) := by decide +kernel
theorem dX10_closeYear_35 : decode cX10_closeYear 35 = .ok (.invokevirtual 295, 3) := by decide +kernel
theorem dX10_closeYear_38 : decode cX10_closeYear 38 = .ok (.aload_n 0, 1) := by decide +kernel
theorem dX10_closeYear_39 : decode cX10_closeYear 39 = .ok (.iconst 4, 1) := by decide +kernel
theorem dX10_closeYear_40 : decode cX10_closeYear 40 = .ok (.aload_n 0, 1) := by decide +kernel
theorem dX10_closeYear_41 : decode cX10_closeYear 41 = .ok (.invokevirtual 234, 3) := by decide +kernel
theorem dX10_closeYear_44 : decode cX10_closeYear 44 = .ok (.invokevirtual 71, 3) := by decide +kernel
theorem dX10_closeYear_47 : decode cX10_closeYear 47 = .ok (.aload_n 0, 1) := by decide +kernel
theorem dX10_closeYear_48 : decode cX10_closeYear 48 = .ok (.iconst 1, 1) := by decide +kernel
theorem dX10_closeYear_49 : decode cX10_closeYear 49 = .ok (.iconst 1, 1) := by decide +kernel
theorem dX10_closeYear_50 : decode cX10_closeYear 50 = .ok (.invokevirtual 246, 3) := by decide +kernel
theorem dX10_closeYear_53 : decode cX10_closeYear 53 = .ok (.return_, 1) := by decide +kernel
theorem dX10_close_0 : decode cX10_close 0 = .ok (.aload_n 0, 1) := by decide +kernel
theorem dX10_close_1 : decode cX10_close 1 = .ok (.iconst 0, 1) := by decide +kernel
theorem dX10_close_2 : decode cX10_close 2 = .ok (.invokevirtual 193, 3) := by decide +kernel
theorem dX10_close_5 : decode cX10_close 5 = .ok (.ifCond .ne 9, 3) := by decide +kernel
theorem dX10_close_8 : decode cX10_close 8 = .ok (.aload_n 0, 1) := by decide +kernel
theorem dX10_close_9 : decode cX10_close 9 = .ok (.iconst (-1), 1) := by decide +kernel
theorem dX10_close_10 : decode cX10_close 10 = .ok (.invokevirtual 298, 3) := by decide +kernel
theorem dX10_close_13 : decode cX10_close 13 = .ok (.ireturn, 1) := by decide +kernel
theorem dX10_close_14 : decode cX10_close 14 = .ok (.aload_n 0, 1) := by decide +kernel
theorem dX10_close_15 : decode cX10_close 15 = .ok (.invokevirtual 85, 3) := by decide +kernel
theorem dX10_close_18 : decode cX10_close 18 = .ok (.aload_n 0, 1) := by decide +kernel
theorem dX10_close_19 : decode cX10_close 19 = .ok (.invokevirtual 301, 3) := by decide +kernel
theorem dX10_close_22 : decode cX10_close 22 = .ok (.aload_n 0, 1) := by decide +kernel
theorem dX10_close_23 : decode cX10_close 23 = .ok (.aload_n 0, 1) := by decide +kernel
theorem dX10_close_24 : decode cX10_close 24 = .ok (.iconst 1, 1) := by decide +kernel
theorem dX10_close_25 : decode cX10_close 25 = .ok (.invokevirtual 193, 3) := by decide +kernel
theorem dX10_close_28 : decode cX10_close 28 = .ok (.invokevirtual 304, 3) := by decide +kernel
theorem dX10_close_31 : decode cX10_close 31 = .ok (.ireturn, 1) := by decide +kernel
theorem dX10_step_0 : decode cX10_step 0 = .ok (.aload_n 0, 1) := by decide +kernel
theorem dX10_step_1 : decode cX10_step 1 = .ok (.sipush 308, 3) := by decide +kernel
theorem dX10_step_4 : decode cX10_step 4 = .ok (.invokevirtual 193, 3) := by decide +kernel
theorem dX10_step_7 : decode cX10_step 7 = .ok (.ifCond .eq 34, 3) := by decide +kernel
theorem dX10_step_10 : decode cX10_step 10 = .ok (.iload_n 1, 1) := by decide +kernel
theorem dX10_step_11 : decode cX10_step 11 = .ok (.iconst (-1), 1) := by decide +kernel
theorem dX10_step_12 : decode cX10_step 12 = .ok (.bipush 7, 2) := by decide +kernel
theorem dX10_step_14 : decode cX10_step 14 = .ok (.invokestatic 81, 3) := by decide +kernel
theorem dX10_step_17 : decode cX10_step 17 = .ok (.ifCond .eq 24, 3) := by decide +kernel
theorem dX10_step_20 : decode cX10_step 20 = .ok (.iload_n 2, 1) := by decide +kernel
theorem dX10_step_21 : decode cX10_step 21 = .ok (.iconst 0, 1) := by decide +kernel
theorem dX10_step_22 : decode cX10_step 22 = .ok (.bipush 7, 2) := by decide +kernel
theorem dX10_step_24 : decode cX10_step 24 = .ok (.invokestatic 81, 3) := by decide +kernel
theorem dX10_step_27 : decode cX10_step 27 = .ok (.ifCond .eq 14, 3) := by decide +kernel
theorem dX10_step_30 : decode cX10_step 30 = .ok (.iload_n 2, 1) := by decide +kernel
theorem dX10_step_31 : decode cX10_step 31 = .ok (.bipush 7, 2) := by decide +kernel
theorem dX10_step_33 : decode cX10_step 33 = .ok (.if_icmp .ne 11, 3) := by decide +kernel
theorem dX10_step_36 : decode cX10_step 36 = .ok (.iload_n 1, 1) := by decide +kernel
theorem dX10_step_37 : decode cX10_step 37 = .ok (.iconst (-1), 1) := by decide +kernel
theorem dX10_step_38 : decode cX10_step 38 = .ok (.if_icmp .eq 6, 3) := by decide +kernel
theorem dX10_step_41 : decode cX10_step 41 = .ok (.ldc 214, 2) := by decide +kernel
theorem dX10_step_43 : decode cX10_step 43 = .ok (.ireturn, 1) := by decide +kernel
theorem dX10_step_44 : decode cX10_step 44 = .ok (.iload_n 2, 1) := by decide +kernel
theorem dX10_step_45 : decode cX10_step 45 = .ok (.bipush 7, 2) := by decide +kernel
theorem dX10_step_47 : decode cX10_step 47 = .ok (.if_icmp .ne 11, 3) := by decide +kernel
theorem dX10_step_50 : decode cX10_step 50 = .ok (.aload_n 0, 1) := by decide +kernel
theorem dX10_step_51 : decode cX10_step 51 = .ok (.sipush 309, 3) := by decide +kernel
theorem dX10_step_54 : decode cX10_step 54 = .ok (.invokevirtual 193, 3) := by decide +kernel
theorem dX10_step_57 : decode cX10_step 57 = .ok (.ireturn, 1) := by decide +kernel
theorem dX10_step_58 : decode cX10_step 58 = .ok (.iload_n 1, 1) := by decide +kernel
theorem dX10_step_59 : decode cX10_step 59 = .ok (.iconst (-1), 1) := by decide +kernel
theorem dX10_step_60 : decode cX10_step 60 = .ok (.if_icmp .ne 14, 3) := by decide +kernel
theorem dX10_step_63 : decode cX10_step 63 = .ok (.aload_n 0, 1) := by decide +kernel
theorem dX10_step_64 : decode cX10_step 64 = .ok (.iload_n 2, 1) := by decide +kernel
theorem dX10_step_65 : decode cX10_step 65 = .ok (.invokestatic 243, 3) := by decide +kernel
theorem dX10_step_68 : decode cX10_step 68 = .ok (.invokevirtual 228, 3) := by decide +kernel
theorem dX10_step_71 : decode cX10_step 71 = .ok (.goto 13, 3) := by decide +kernel
theorem dX10_step_74 : decode cX10_step 74 = .ok (.aload_n 0, 1) := by decide +kernel
theorem dX10_step_75 : decode cX10_step 75 = .ok (.iload_n 2, 1) := by decide +kernel
theorem dX10_step_76 : decode cX10_step 76 = .ok (.invokestatic 243, 3) := by decide +kernel
theorem dX10_step_79 : decode cX10_step 79 = .ok (.iload_n 1, 1) := by decide +kernel
theorem dX10_step_80 : decode cX10_step 80 = .ok (.iadd, 1) := by decide +kernel
theorem dX10_step_81 : decode cX10_step 81 = .ok (.invokevirtual 193, 3) := by decide +kernel
theorem dX10_step_84 : decode cX10_step 84 = .ok (.ireturn, 1) := by decide +kernel
theorem dX10_does_0 : decode cX10_does 0 = .ok (.aload_n 0, 1) := by decide +kernel
theorem dX10_does_1 : decode cX10_does 1 = .ok (.getfield 50, 3) := by decide +kernel
theorem dX10_does_4 : decode cX10_does 4 = .ok (.aload_n 0, 1) := by decide +kernel
theorem dX10_does_5 : decode cX10_does 5 = .ok (.getfield 307, 3) := by decide +kernel
theorem dX10_does_8 : decode cX10_does 8 = .ok (.iload_n 1, 1) := by decide +kernel
theorem dX10_does_9 : decode cX10_does 9 = .ok (.iastore, 1) := by decide +kernel
theorem dX10_does_10 : decode cX10_does 10 = .ok (.aload_n 0, 1) := by decide +kernel
theorem dX10_does_11 : decode cX10_does 11 = .ok (.dup, 1) := by decide +kernel
theorem dX10_does_12 : decode cX10_does 12 = .ok (.getfield 307, 3) := by decide +kernel
theorem dX10_does_15 : decode cX10_does 15 = .ok (.iconst 1, 1) := by decide +kernel
theorem dX10_does_16 : decode cX10_does 16 = .ok (.iadd, 1) := by decide +kernel
theorem dX10_does_17 : decode cX10_does 17 = .ok (.putfield 307, 3) := by decide +kernel
theorem dX10_does_20 : decode cX10_does 20 = .ok (.return_, 1) := by decide +kernel
theorem dX10_nameHere_0 : decode cX10_nameHere 0 = .ok (.aload_n 0, 1) := by decide +kernel
theorem dX10_nameHere_1 : decode cX10_nameHere 1 = .ok (.bipush 114, 2) := by decide +kernel
theorem dX10_nameHere_3 : decode cX10_nameHere 3 = .ok (.bipush 101, 2) := by decide +kernel
theorem dX10_nameHere_5 : decode cX10_nameHere 5 = .ok (.bipush 115, 2) := by decide +kernel
theorem dX10_nameHere_7 : decode cX10_nameHere 7 = .ok (.bipush 117, 2) := by decide +kernel
theorem dX10_nameHere_9 : decode cX10_nameHere 9 = .ok (.bipush 108, 2) := by decide +kernel
theorem dX10_nameHere_11 : decode cX10_nameHere 11 = .ok (.bipush 116, 2) := by decide +kernel
theorem dX10_nameHere_13 : decode cX10_nameHere 13 = .ok (.invokestatic 310, 3) := by decide +kernel
theorem dX10_nameHere_16 : decode cX10_nameHere 16 = .ok (.invokevirtual 150, 3) := by decide +kernel
theorem dX10_nameHere_19 : decode cX10_nameHere 19 = .ok (.ifCond .eq 5, 3) := by decide +kernel
theorem dX10_nameHere_22 : decode cX10_nameHere 22 = .ok (.iconst 0, 1) := by decide +kernel
theorem dX10_nameHere_23 : decode cX10_nameHere 23 = .ok (.ireturn, 1) := by decide +kernel
theorem dX10_nameHere_24 : decode cX10_nameHere 24 = .ok (.aload_n 0, 1) := by decide +kernel
theorem dX10_nameHere_25 : decode cX10_nameHere 25 = .ok (.bipush 99, 2) := by decide +kernel
theorem dX10_nameHere_27 : decode cX10_nameHere 27 = .ok (.bipush 97, 2) := by decide +kernel
theorem dX10_nameHere_29 : decode cX10_nameHere 29 = .ok (.bipush 115, 2) := by decide +kernel
theorem dX10_nameHere_31 : decode cX10_nameHere 31 = .ok (.bipush 104, 2) := by decide +kernel
theorem dX10_nameHere_33 : decode cX10_nameHere 33 = .ok (.invokestatic 114, 3) := by decide +kernel
theorem dX10_nameHere_36 : decode cX10_nameHere 36 = .ok (.invokevirtual 150, 3) := by decide +kernel
theorem dX10_nameHere_39 : decode cX10_nameHere 39 = .ok (.ifCond .eq 5, 3) := by decide +kernel
theorem dX10_nameHere_42 : decode cX10_nameHere 42 = .ok (.iconst 1, 1) := by decide +kernel
theorem dX10_nameHere_43 : decode cX10_nameHere 43 = .ok (.ireturn, 1) := by decide +kernel
theorem dX10_nameHere_44 : decode cX10_nameHere 44 = .ok (.aload_n 0, 1) := by decide +kernel
theorem dX10_nameHere_45 : decode cX10_nameHere 45 = .ok (.bipush 104, 2) := by decide +kernel
theorem dX10_nameHere_47 : decode cX10_nameHere 47 = .ok (.bipush 101, 2) := by decide +kernel
theorem dX10_nameHere_49 : decode cX10_nameHere 49 = .ok (.bipush 108, 2) := by decide +kernel
theorem dX10_nameHere_51 : decode cX10_nameHere 51 = .ok (.bipush 100, 2) := by decide +kernel
theorem dX10_nameHere_53 : decode cX10_nameHere 53 = .ok (.invokestatic 114, 3) := by decide +kernel
theorem dX10_nameHere_56 : decode cX10_nameHere 56 = .ok (.invokevirtual 150, 3) := by decide +kernel
theorem dX10_nameHere_59 : decode cX10_nameHere 59 = .ok (.ifCond .eq 5, 3) := by decide +kernel
theorem dX10_nameHere_62 : decode cX10_nameHere 62 = .ok (.iconst 2, 1) := by decide +kernel
theorem dX10_nameHere_63 : decode cX10_nameHere 63 = .ok (.ireturn, 1) := by decide +kernel
theorem dX10_nameHere_64 : decode cX10_nameHere 64 = .ok (.aload_n 0, 1) := by decide +kernel
theorem dX10_nameHere_65 : decode cX10_nameHere 65 = .ok (.bipush 121, 2) := by decide +kernel
theorem dX10_nameHere_67 : decode cX10_nameHere 67 = .ok (.bipush 101, 2) := by decide +kernel
theorem dX10_nameHere_69 : decode cX10_nameHere 69 = .ok (.bipush 97, 2) := by decide +kernel
theorem dX10_nameHere_71 : decode cX10_nameHere 71 = .ok (.bipush 114, 2) := by decide +kernel
theorem dX10_nameHere_73 : decode cX10_nameHere 73 = .ok (.invokestatic 114, 3) := by decide +kernel
theorem dX10_nameHere_76 : decode cX10_nameHere 76 = .ok (.invokevirtual 150, 3) := by decide +kernel
theorem dX10_nameHere_79 : decode cX10_nameHere 79 = .ok (.ifCond .eq 5, 3) := by decide +kernel
theorem dX10_nameHere_82 : decode cX10_nameHere 82 = .ok (.iconst 3, 1) := by decide +kernel
theorem dX10_nameHere_83 : decode cX10_nameHere 83 = .ok (.ireturn, 1) := by decide +kernel
theorem dX10_nameHere_84 : decode cX10_nameHere 84 = .ok (.aload_n 0, 1) := by decide +kernel
theorem dX10_nameHere_85 : decode cX10_nameHere 85 = .ok (.bipush 110, 2) := by decide +kernel
theorem dX10_nameHere_87 : decode cX10_nameHere 87 = .ok (.bipush 101, 2) := by decide +kernel
theorem dX10_nameHere_89 : decode cX10_nameHere 89 = .ok (.bipush 116, 2) := by decide +kernel
theorem dX10_nameHere_91 : decode cX10_nameHere 91 = .ok (.invokestatic 110, 3) := by decide +kernel
theorem dX10_nameHere_94 : decode cX10_nameHere 94 = .ok (.invokevirtual 150, 3) := by decide +kernel
theorem dX10_nameHere_97 : decode cX10_nameHere 97 = .ok (.ifCond .eq 5, 3) := by decide +kernel
theorem dX10_nameHere_100 : decode cX10_nameHere 100 = .ok (.iconst 4, 1) := by decide +kernel
theorem dX10_nameHere_101 : decode cX10_nameHere 101 = .ok (.ireturn, 1) := by decide +kernel
theorem dX10_nameHere_102 : decode cX10_nameHere 102 = .ok (.aload_n 0, 1) := by decide +kernel
theorem dX10_nameHere_103 : decode cX10_nameHere 103 = .ok (.bipush 99, 2) := by decide +kernel
theorem dX10_nameHere_105 : decode cX10_nameHere 105 = .ok (.bipush 97, 2) := by decide +kernel
theorem dX10_nameHere_107 : decode cX10_nameHere 107 = .ok (.bipush 112, 2) := by decide +kernel
theorem dX10_nameHere_109 : decode cX10_nameHere 109 = .ok (.bipush 105, 2) := by decide +kernel
theorem dX10_nameHere_111 : decode cX10_nameHere 111 = .ok (.bipush 116, 2) := by decide +kernel
theorem dX10_nameHere_113 : decode cX10_nameHere 113 = .ok (.bipush 97, 2) := by decide +kernel
theorem dX10_nameHere_115 : decode cX10_nameHere 115 = .ok (.invokestatic 310, 3) := by decide +kernel
theorem dX10_nameHere_118 : decode cX10_nameHere 118 = .ok (.bipush 108, 2) := by decide +kernel
theorem dX10_nameHere_120 : decode cX10_nameHere 120 = .ok (.invokestatic 106, 3) := by decide +kernel
theorem dX10_nameHere_123 : decode cX10_nameHere 123 = .ok (.invokevirtual 150, 3) := by decide +kernel
theorem dX10_nameHere_126 : decode cX10_nameHere 126 = .ok (.ifCond .eq 6, 3) := by decide +kernel
theorem dX10_nameHere_129 : decode cX10_nameHere 129 = .ok (.bipush 10, 2) := by decide +kernel
theorem dX10_nameHere_131 : decode cX10_nameHere 131 = .ok (.ireturn, 1) := by decide +kernel
theorem dX10_nameHere_132 : decode cX10_nameHere 132 = .ok (.aload_n 0, 1) := by decide +kernel
theorem dX10_nameHere_133 : decode cX10_nameHere 133 = .ok (.bipush 115, 2) := by decide +kernel
theorem dX10_nameHere_135 : decode cX10_nameHere 135 = .ok (.bipush 104, 2) := by decide +kernel
theorem dX10_nameHere_137 : decode cX10_nameHere 137 = .ok (.bipush 97, 2) := by decide +kernel
theorem dX10_nameHere_139 : decode cX10_nameHere 139 = .ok (.bipush 114, 2) := by decide +kernel
theorem dX10_nameHere_141 : decode cX10_nameHere 141 = .ok (.bipush 101, 2) := by decide +kernel
theorem dX10_nameHere_143 : decode cX10_nameHere 143 = .ok (.invokestatic 118, 3) := by decide +kernel
theorem dX10_nameHere_146 : decode cX10_nameHere 146 = .ok (.invokevirtual 150, 3) := by decide +kernel
theorem dX10_nameHere_149 : decode cX10_nameHere 149 = .ok (.ifCond .eq 8, 3) := by decide +kernel
theorem dX10_nameHere_152 : decode cX10_nameHere 152 = .ok (.bipush 20, 2) := by decide +kernel
theorem dX10_nameHere_154 : decode cX10_nameHere 154 = .ok (.goto 4, 3) := by decide +kernel
theorem dX10_nameHere_157 : decode cX10_nameHere 157 = .ok (.iconst (-1), 1) := by decide +kernel
theorem dX10_nameHere_158 : decode cX10_nameHere 158 = .ok (.ireturn, 1) := by decide +kernel
theorem dX10_readThing_0 : decode cX10_readThing 0 = .ok (.aload_n 0, 1) := by decide +kernel
theorem dX10_readThing_1 : decode cX10_readThing 1 = .ok (.invokevirtual 314, 3) := by decide +kernel
theorem dX10_readThing_4 : decode cX10_readThing 4 = .ok (.istore_n 1, 1) := by decide +kernel
theorem dX10_readThing_5 : decode cX10_readThing 5 = .ok (.iload_n 1, 1) := by decide +kernel
theorem dX10_readThing_6 : decode cX10_readThing 6 = .ok (.iconst (-1), 1) := by decide +kernel
theorem dX10_readThing_7 : decode cX10_readThing 7 = .ok (.if_icmp .ne 20, 3) := by decide +kernel
theorem dX10_readThing_10 : decode cX10_readThing 10 = .ok (.aload_n 0, 1) := by decide +kernel
theorem dX10_readThing_11 : decode cX10_readThing 11 = .ok (.getfield 129, 3) := by decide +kernel
theorem dX10_readThing_14 : decode cX10_readThing 14 = .ok (.iconst 2, 1) := by decide +kernel
theorem dX10_readThing_15 : decode cX10_readThing 15 = .ok (.if_icmp .ne 21, 3) := by decide +kernel
theorem dX10_readThing_18 : decode cX10_readThing 18 = .ok (.aload_n 0, 1) := by decide +kernel
theorem dX10_readThing_19 : decode cX10_readThing 19 = .ok (.getfield 143, 3) := by decide +kernel
theorem dX10_readThing_22 : decode cX10_readThing 22 = .ok (.ldc 179, 2) := by decide +kernel
theorem dX10_readThing_24 : decode cX10_readThing 24 = .ok (.if_icmp .gt 12, 3) := by decide +kernel
theorem dX10_readThing_27 : decode cX10_readThing 27 = .ok (.aload_n 0, 1) := by decide +kernel
theorem dX10_readThing_28 : decode cX10_readThing 28 = .ok (.getfield 317, 3) := by decide +kernel
theorem dX10_readThing_31 : decode cX10_readThing 31 = .ok (.bipush 40, 2) := by decide +kernel
theorem dX10_readThing_33 : decode cX10_readThing 33 = .ok (.if_icmp .ne 8, 3) := by decide +kernel
theorem dX10_readThing_36 : decode cX10_readThing 36 = .ok (.aload_n 0, 1) := by decide +kernel
theorem dX10_readThing_37 : decode cX10_readThing 37 = .ok (.invokevirtual 154, 3) := by decide +kernel
theorem dX10_readThing_40 : decode cX10_readThing 40 = .ok (.ireturn, 1) := by decide +kernel
theorem dX10_readThing_41 : decode cX10_readThing 41 = .ok (.aload_n 0, 1) := by decide +kernel
theorem dX10_readThing_42 : decode cX10_readThing 42 = .ok (.dup, 1) := by decide +kernel
theorem dX10_readThing_43 : decode cX10_readThing 43 = .ok (.getfield 317, 3) := by decide +kernel
theorem dX10_readThing_46 : decode cX10_readThing 46 = .ok (.iconst 1, 1) := by decide +kernel
theorem dX10_readThing_47 : decode cX10_readThing 47 = .ok (.iadd, 1) := by decide +kernel
theorem dX10_readThing_48 : decode cX10_readThing 48 = .ok (.putfield 317, 3) := by decide +kernel
theorem dX10_readThing_51 : decode cX10_readThing 51 = .ok (.iload_n 1, 1) := by decide +kernel
theorem dX10_readThing_52 : decode cX10_readThing 52 = .ok (.iconst (-1), 1) := by decide +kernel
theorem dX10_readThing_53 : decode cX10_readThing 53 = .ok (.if_icmp .ne 17, 3) := by decide +kernel
theorem dX10_readThing_56 : decode cX10_readThing 56 = .ok (.aload_n 0, 1) := by decide +kernel
theorem dX10_readThing_57 : decode cX10_readThing 57 = .ok (.aload_n 0, 1) := by decide +kernel
theorem dX10_readThing_58 : decode cX10_readThing 58 = .ok (.getfield 143, 3) := by decide +kernel
theorem dX10_readThing_61 : decode cX10_readThing 61 = .ok (.invokevirtual 320, 3) := by decide +kernel
theorem dX10_readThing_64 : decode cX10_readThing 64 = .ok (.aload_n 0, 1) := by decide +kernel
theorem dX10_readThing_65 : decode cX10_readThing 65 = .ok (.invokevirtual 147, 3) := by decide +kernel
theorem dX10_readThing_68 : decode cX10_readThing 68 = .ok (.iconst 1, 1) := by decide +kernel
theorem dX10_readThing_69 : decode cX10_readThing 69 = .ok (.ireturn, 1) := by decide +kernel
theorem dX10_readThing_70 : decode cX10_readThing 70 = .ok (.aload_n 0, 1) := by decide +kernel
theorem dX10_readThing_71 : decode cX10_readThing 71 = .ok (.invokevirtual 147, 3) := by decide +kernel
theorem dX10_readThing_74 : decode cX10_readThing 74 = .ok (.iload_n 1, 1) := by decide +kernel
theorem dX10_readThing_75 : decode cX10_readThing 75 = .ok (.bipush 10, 2) := by decide +kernel
theorem dX10_readThing_77 : decode cX10_readThing 77 = .ok (.if_icmp .ge 14, 3) := by decide +kernel
theorem dX10_readThing_80 : decode cX10_readThing 80 = .ok (.aload_n 0, 1) := by decide +kernel
theorem dX10_readThing_81 : decode cX10_readThing 81 = .ok (.ldc_w 323, 3) := by decide +kernel
theorem dX10_readThing_84 : decode cX10_readThing 84 = .ok (.iload_n 1, 1) := by decide +kernel
theorem dX10_readThing_85 : decode cX10_readThing 85 = .ok (.iadd, 1) := by decide +kernel
theorem dX10_readThing_86 : decode cX10_readThing 86 = .ok (.invokevirtual 320, 3) := by decide +kernel
theorem dX10_readThing_89 : decode cX10_readThing 89 = .ok (.iconst 1, 1) := by decide +kernel
theorem dX10_readThing_90 : decode cX10_readThing 90 = .ok (.ireturn, 1) := by decide +kernel
theorem dX10_readThing_91 : decode cX10_readThing 91 = .ok (.aload_n 0, 1) := by decide +kernel
theorem dX10_readThing_92 : decode cX10_readThing 92 = .ok (.invokevirtual 324, 3) := by decide +kernel
theorem dX10_readThing_95 : decode cX10_readThing 95 = .ok (.ifCond .ne 5, 3) := by decide +kernel
theorem dX10_readThing_98 : decode cX10_readThing 98 = .ok (.iconst 0, 1) := by decide +kernel
theorem dX10_readThing_99 : decode cX10_readThing 99 = .ok (.ireturn, 1) := by decide +kernel
theorem dX10_readThing_100 : decode cX10_readThing 100 = .ok (.aload_n 0, 1) := by decide +kernel
theorem dX10_readThing_101 : decode cX10_readThing 101 = .ok (.ldc_w 323, 3) := by decide +kernel
theorem dX10_readThing_104 : decode cX10_readThing 104 = .ok (.iload_n 1, 1) := by decide +kernel
theorem dX10_readThing_105 : decode cX10_readThing 105 = .ok (.iadd, 1) := by decide +kernel
theorem dX10_readThing_106 : decode cX10_readThing 106 = .ok (.aload_n 0, 1) := by decide +kernel
theorem dX10_readThing_107 : decode cX10_readThing 107 = .ok (.getfield 158, 3) := by decide +kernel
theorem dX10_readThing_110 : decode cX10_readThing 110 = .ok (.iadd, 1) := by decide +kernel
theorem dX10_readThing_111 : decode cX10_readThing 111 = .ok (.invokevirtual 320, 3) := by decide +kernel
theorem dX10_readThing_114 : decode cX10_readThing 114 = .ok (.iconst 1, 1) := by decide +kernel
theorem dX10_readThing_115 : decode cX10_readThing 115 = .ok (.ireturn, 1) := by decide +kernel
theorem dX10_readProduct_0 : decode cX10_readProduct 0 = .ok (.aload_n 0, 1) := by decide +kernel
theorem dX10_readProduct_1 : decode cX10_readProduct 1 = .ok (.invokevirtual 327, 3) := by decide +kernel
theorem dX10_readProduct_4 : decode cX10_readProduct 4 = .ok (.ifCond .ne 5, 3) := by decide +kernel
theorem dX10_readProduct_7 : decode cX10_readProduct 7 = .ok (.iconst 0, 1) := by decide +kernel
theorem dX10_readProduct_8 : decode cX10_readProduct 8 = .ok (.ireturn, 1) := by decide +kernel
theorem dX10_readProduct_9 : decode cX10_readProduct 9 = .ok (.aload_n 0, 1) := by decide +kernel
theorem dX10_readProduct_10 : decode cX10_readProduct 10 = .ok (.getfield 129, 3) := by decide +kernel
theorem dX10_readProduct_13 : decode cX10_readProduct 13 = .ok (.bipush 42, 2) := by decide +kernel
theorem dX10_readProduct_15 : decode cX10_readProduct 15 = .ok (.if_icmp .eq 12, 3) := by decide +kernel
theorem dX10_readProduct_18 : decode cX10_readProduct 18 = .ok (.aload_n 0, 1) := by decide +kernel
theorem dX10_readProduct_19 : decode cX10_readProduct 19 = .ok (.getfield 129, 3) := by decide +kernel
theorem dX10_readProduct_22 : decode cX10_readProduct 22 = .ok (.bipush 47, 2) := by decide +kernel
theorem dX10_readProduct_24 : decode cX10_readProduct 24 = .ok (.if_icmp .ne 33, 3) := by decide +kernel
theorem dX10_readProduct_27 : decode cX10_readProduct 27 = .ok (.aload_n 0, 1) := by decide +kernel
theorem dX10_readProduct_28 : decode cX10_readProduct 28 = .ok (.getfield 129, 3) := by decide +kernel
theorem dX10_readProduct_31 : decode cX10_readProduct 31 = .ok (.istore_n 1, 1) := by decide +kernel
theorem dX10_readProduct_32 : decode cX10_readProduct 32 = .ok (.aload_n 0, 1) := by decide +kernel
theorem dX10_readProduct_33 : decode cX10_readProduct 33 = .ok (.invokevirtual 147, 3) := by decide +kernel
theorem dX10_readProduct_36 : decode cX10_readProduct 36 = .ok (.aload_n 0, 1) := by decide +kernel
theorem dX10_readProduct_37 : decode cX10_readProduct 37 = .ok (.invokevirtual 327, 3) := by decide +kernel
theorem dX10_readProduct_40 : decode cX10_readProduct 40 = .ok (.ifCond .ne 5, 3) := by decide +kernel
theorem dX10_readProduct_43 : decode cX10_readProduct 43 = .ok (.iconst 0, 1) := by decide +kernel
theorem dX10_readProduct_44 : decode cX10_readProduct 44 = .ok (.ireturn, 1) := by decide +kernel
theorem dX10_readProduct_45 : decode cX10_readProduct 45 = .ok (.aload_n 0, 1) := by decide +kernel
theorem dX10_readProduct_46 : decode cX10_readProduct 46 = .ok (.ldc_w 330, 3) := by decide +kernel
theorem dX10_readProduct_49 : decode cX10_readProduct 49 = .ok (.iload_n 1, 1) := by decide +kernel
theorem dX10_readProduct_50 : decode cX10_readProduct 50 = .ok (.iadd, 1) := by decide +kernel
theorem dX10_readProduct_51 : decode cX10_readProduct 51 = .ok (.invokevirtual 320, 3) := by decide +kernel
theorem dX10_readProduct_54 : decode cX10_readProduct 54 = .ok (.goto (-45), 3) := by decide +kernel
theorem dX10_readProduct_57 : decode cX10_readProduct 57 = .ok (.iconst 1, 1) := by decide +kernel
theorem dX10_readProduct_58 : decode cX10_readProduct 58 = .ok (.ireturn, 1) := by decide +kernel
theorem dX10_readSum_0 : decode cX10_readSum 0 = .ok (.aload_n 0, 1) := by decide +kernel
theorem dX10_readSum_1 : decode cX10_readSum 1 = .ok (.invokevirtual 331, 3) := by decide +kernel
theorem dX10_readSum_4 : decode cX10_readSum 4 = .ok (.ifCond .ne 5, 3) := by decide +kernel
theorem dX10_readSum_7 : decode cX10_readSum 7 = .ok (.iconst 0, 1) := by decide +kernel
theorem dX10_readSum_8 : decode cX10_readSum 8 = .ok (.ireturn, 1) := by decide +kernel
theorem dX10_readSum_9 : decode cX10_readSum 9 = .ok (.aload_n 0, 1) := by decide +kernel
theorem dX10_readSum_10 : decode cX10_readSum 10 = .ok (.getfield 129, 3) := by decide +kernel
theorem dX10_readSum_13 : decode cX10_readSum 13 = .ok (.bipush 43, 2) := by decide +kernel
theorem dX10_readSum_15 : decode cX10_readSum 15 = .ok (.if_icmp .eq 12, 3) := by decide +kernel
theorem dX10_readSum_18 : decode cX10_readSum 18 = .ok (.aload_n 0, 1) := by decide +kernel
theorem dX10_readSum_19 : decode cX10_readSum 19 = .ok (.getfield 129, 3) := by decide +kernel
theorem dX10_readSum_22 : decode cX10_readSum 22 = .ok (.bipush 45, 2) := by decide +kernel
theorem dX10_readSum_24 : decode cX10_readSum 24 = .ok (.if_icmp .ne 33, 3) := by decide +kernel
theorem dX10_readSum_27 : decode cX10_readSum 27 = .ok (.aload_n 0, 1) := by decide +kernel
theorem dX10_readSum_28 : decode cX10_readSum 28 = .ok (.getfield 129, 3) := by decide +kernel
theorem dX10_readSum_31 : decode cX10_readSum 31 = .ok (.istore_n 1, 1) := by decide +kernel
theorem dX10_readSum_32 : decode cX10_readSum 32 = .ok (.aload_n 0, 1) := by decide +kernel
theorem dX10_readSum_33 : decode cX10_readSum 33 = .ok (.invokevirtual 147, 3) := by decide +kernel
theorem dX10_readSum_36 : decode cX10_readSum 36 = .ok (.aload_n 0, 1) := by decide +kernel
theorem dX10_readSum_37 : decode cX10_readSum 37 = .ok (.invokevirtual 331, 3) := by decide +kernel
theorem dX10_readSum_40 : decode cX10_readSum 40 = .ok (.ifCond .ne 5, 3) := by decide +kernel
theorem dX10_readSum_43 : decode cX10_readSum 43 = .ok (.iconst 0, 1) := by decide +kernel
theorem dX10_readSum_44 : decode cX10_readSum 44 = .ok (.ireturn, 1) := by decide +kernel
theorem dX10_readSum_45 : decode cX10_readSum 45 = .ok (.aload_n 0, 1) := by decide +kernel
theorem dX10_readSum_46 : decode cX10_readSum 46 = .ok (.ldc_w 330, 3) := by decide +kernel
theorem dX10_readSum_49 : decode cX10_readSum 49 = .ok (.iload_n 1, 1) := by decide +kernel
theorem dX10_readSum_50 : decode cX10_readSum 50 = .ok (.iadd, 1) := by decide +kernel
theorem dX10_readSum_51 : decode cX10_readSum 51 = .ok (.invokevirtual 320, 3) := by decide +kernel
theorem dX10_readSum_54 : decode cX10_readSum 54 = .ok (.goto (-45), 3) := by decide +kernel
theorem dX10_readSum_57 : decode cX10_readSum 57 = .ok (.iconst 1, 1) := by decide +kernel
theorem dX10_readSum_58 : decode cX10_readSum 58 = .ok (.ireturn, 1) := by decide +kernel
theorem dX10_readSpecial_0 : decode cX10_readSpecial 0 = .ok (.aload_n 0, 1) := by decide +kernel
theorem dX10_readSpecial_1 : decode cX10_readSpecial 1 = .ok (.bipush 103, 2) := by decide +kernel
theorem dX10_readSpecial_3 : decode cX10_readSpecial 3 = .ok (.bipush 105, 2) := by decide +kernel
theorem dX10_readSpecial_5 : decode cX10_readSpecial 5 = .ok (.bipush 118, 2) := by decide +kernel
theorem dX10_readSpecial_7 : decode cX10_readSpecial 7 = .ok (.bipush 101, 2) := by decide +kernel
theorem dX10_readSpecial_9 : decode cX10_readSpecial 9 = .ok (.invokestatic 114, 3) := by decide +kernel
theorem dX10_readSpecial_12 : decode cX10_readSpecial 12 = .ok (.invokevirtual 150, 3) := by decide +kernel
theorem dX10_readSpecial_15 : decode cX10_readSpecial 15 = .ok (.ifCond .eq 12, 3) := by decide +kernel
theorem dX10_readSpecial_18 : decode cX10_readSpecial 18 = .ok (.aload_n 0, 1) := by decide +kernel
theorem dX10_readSpecial_19 : decode cX10_readSpecial 19 = .ok (.getfield 334, 3) := by decide +kernel
theorem dX10_readSpecial_22 : decode cX10_readSpecial 22 = .ok (.bipush 8, 2) := by decide +kernel
theorem dX10_readSpecial_24 : decode cX10_readSpecial 24 = .ok (.if_icmp .ne 8, 3) := by decide +kernel
theorem dX10_readSpecial_27 : decode cX10_readSpecial 27 = .ok (.aload_n 0, 1) := by decide +kernel
theorem dX10_readSpecial_28 : decode cX10_readSpecial 28 = .ok (.invokevirtual 154, 3) := by decide +kernel
theorem dX10_readSpecial_31 : decode cX10_readSpecial 31 = .ok (.ireturn, 1) := by decide +kernel
theorem dX10_readSpecial_32 : decode cX10_readSpecial 32 = .ok (.aload_n 0, 1) := by decide +kernel
theorem dX10_readSpecial_33 : decode cX10_readSpecial 33 = .ok (.invokevirtual 147, 3) := by decide +kernel
theorem dX10_readSpecial_36 : decode cX10_readSpecial 36 = .ok (.aload_n 0, 1) := by decide +kernel
theorem dX10_readSpecial_37 : decode cX10_readSpecial 37 = .ok (.invokevirtual 324, 3) := by decide +kernel
theorem dX10_readSpecial_40 : decode cX10_readSpecial 40 = .ok (.ifCond .ne 5, 3) := by decide +kernel
theorem dX10_readSpecial_43 : decode cX10_readSpecial 43 = .ok (.iconst 0, 1) := by decide +kernel
theorem dX10_readSpecial_44 : decode cX10_readSpecial 44 = .ok (.ireturn, 1) := by decide +kernel
theorem dX10_readSpecial_45 : decode cX10_readSpecial 45 = .ok (.bipush 6, 2) := by decide +kernel
theorem dX10_readSpecial_47 : decode cX10_readSpecial 47 = .ok (.aload_n 0, 1) := by decide +kernel
theorem dX10_readSpecial_48 : decode cX10_readSpecial 48 = .ok (.getfield 334, 3) := by decide +kernel
theorem dX10_readSpecial_51 : decode cX10_readSpecial 51 = .ok (.imul, 1) := by decide +kernel
theorem dX10_readSpecial_52 : decode cX10_readSpecial 52 = .ok (.istore_n 1, 1) := by decide +kernel
theorem dX10_readSpecial_53 : decode cX10_readSpecial 53 = .ok (.aload_n 0, 1) := by decide +kernel
theorem dX10_readSpecial_54 : decode cX10_readSpecial 54 = .ok (.getfield 47, 3) := by decide +kernel
theorem dX10_readSpecial_57 : decode cX10_readSpecial 57 = .ok (.iload_n 1, 1) := by decide +kernel
theorem dX10_readSpecial_58 : decode cX10_readSpecial 58 = .ok (.aload_n 0, 1) := by decide +kernel
theorem dX10_readSpecial_59 : decode cX10_readSpecial 59 = .ok (.getfield 158, 3) := by decide +kernel
theorem dX10_readSpecial_62 : decode cX10_readSpecial 62 = .ok (.iastore, 1) := by decide +kernel
theorem dX10_readSpecial_63 : decode cX10_readSpecial 63 = .ok (.aload_n 0, 1) := by decide +kernel
theorem dX10_readSpecial_64 : decode cX10_readSpecial 64 = .ok (.getfield 47, 3) := by decide +kernel
theorem dX10_readSpecial_67 : decode cX10_readSpecial 67 = .ok (.iload_n 1, 1) := by decide +kernel
theorem dX10_readSpecial_68 : decode cX10_readSpecial 68 = .ok (.iconst 1, 1) := by decide +kernel
theorem dX10_readSpecial_69 : decode cX10_readSpecial 69 = .ok (.iadd, 1) := by decide +kernel
theorem dX10_readSpecial_70 : decode cX10_readSpecial 70 = .ok (.iconst 0, 1) := by decide +kernel
theorem dX10_readSpecial_71 : decode cX10_readSpecial 71 = .ok (.iastore, 1) := by decide +kernel
theorem dX10_readSpecial_72 : decode cX10_readSpecial 72 = .ok (.aload_n 0, 1) := by decide +kernel
theorem dX10_readSpecial_73 : decode cX10_readSpecial 73 = .ok (.getfield 47, 3) := by decide +kernel
theorem dX10_readSpecial_76 : decode cX10_readSpecial 76 = .ok (.iload_n 1, 1) := by decide +kernel
theorem dX10_readSpecial_77 : decode cX10_readSpecial 77 = .ok (.iconst 2, 1) := by decide +kernel
theorem dX10_readSpecial_78 : decode cX10_readSpecial 78 = .ok (.iadd, 1) := by decide +kernel
theorem dX10_readSpecial_79 : decode cX10_readSpecial 79 = .ok (.aload_n 0, 1) := by decide +kernel
theorem dX10_readSpecial_80 : decode cX10_readSpecial 80 = .ok (.getfield 307, 3) := by decide +kernel
theorem dX10_readSpecial_83 : decode cX10_readSpecial 83 = .ok (.iastore, 1) := by decide +kernel
theorem dX10_readSpecial_84 : decode cX10_readSpecial 84 = .ok (.aload_n 0, 1) := by decide +kernel
theorem dX10_readSpecial_85 : decode cX10_readSpecial 85 = .ok (.invokevirtual 337, 3) := by decide +kernel
theorem dX10_readSpecial_88 : decode cX10_readSpecial 88 = .ok (.ifCond .ne 5, 3) := by decide +kernel
theorem dX10_readSpecial_91 : decode cX10_readSpecial 91 = .ok (.iconst 0, 1) := by decide +kernel
theorem dX10_readSpecial_92 : decode cX10_readSpecial 92 = .ok (.ireturn, 1) := by decide +kernel
theorem dX10_readSpecial_93 : decode cX10_readSpecial 93 = .ok (.aload_n 0, 1) := by decide +kernel
theorem dX10_readSpecial_94 : decode cX10_readSpecial 94 = .ok (.getfield 47, 3) := by decide +kernel
theorem dX10_readSpecial_97 : decode cX10_readSpecial 97 = .ok (.iload_n 1, 1) := by decide +kernel
theorem dX10_readSpecial_98 : decode cX10_readSpecial 98 = .ok (.iconst 3, 1) := by decide +kernel
theorem dX10_readSpecial_99 : decode cX10_readSpecial 99 = .ok (.iadd, 1) := by decide +kernel
theorem dX10_readSpecial_100 : decode cX10_readSpecial 100 = .ok (.aload_n 0, 1) := by decide +kernel
theorem dX10_readSpecial_101 : decode cX10_readSpecial 101 = .ok (.getfield 307, 3) := by decide +kernel
theorem dX10_readSpecial_104 : decode cX10_readSpecial 104 = .ok (.iastore, 1) := by decide +kernel
theorem dX10_readSpecial_105 : decode cX10_readSpecial 105 = .ok (.aload_n 0, 1) := by decide +kernel
theorem dX10_readSpecial_106 : decode cX10_readSpecial 106 = .ok (.getfield 47, 3) := by decide +kernel
theorem dX10_readSpecial_109 : decode cX10_readSpecial 109 = .ok (.iload_n 1, 1) := by decide +kernel
theorem dX10_readSpecial_110 : decode cX10_readSpecial 110 = .ok (.iconst 4, 1) := by decide +kernel
theorem dX10_readSpecial_111 : decode cX10_readSpecial 111 = .ok (.iadd, 1) := by decide +kernel
theorem dX10_readSpecial_112 : decode cX10_readSpecial 112 = .ok (.aload_n 0, 1) := by decide +kernel
theorem dX10_readSpecial_113 : decode cX10_readSpecial 113 = .ok (.getfield 307, 3) := by decide +kernel
theorem dX10_readSpecial_116 : decode cX10_readSpecial 116 = .ok (.iastore, 1) := by decide +kernel
theorem dX10_readSpecial_117 : decode cX10_readSpecial 117 = .ok (.aload_n 0, 1) := by decide +kernel
theorem dX10_readSpecial_118 : decode cX10_readSpecial 118 = .ok (.getfield 47, 3) := by decide +kernel
theorem dX10_readSpecial_121 : decode cX10_readSpecial 121 = .ok (.iload_n 1, 1) := by decide +kernel
theorem dX10_readSpecial_122 : decode cX10_readSpecial 122 = .ok (.iconst 5, 1) := by decide +kernel
theorem dX10_readSpecial_123 : decode cX10_readSpecial 123 = .ok (.iadd, 1) := by decide +kernel
theorem dX10_readSpecial_124 : decode cX10_readSpecial 124 = .ok (.aload_n 0, 1) := by decide +kernel
theorem dX10_readSpecial_125 : decode cX10_readSpecial 125 = .ok (.getfield 307, 3) := by decide +kernel
theorem dX10_readSpecial_128 : decode cX10_readSpecial 128 = .ok (.iastore, 1) := by decide +kernel
theorem dX10_readSpecial_129 : decode cX10_readSpecial 129 = .ok (.aload_n 0, 1) := by decide +kernel
theorem dX10_readSpecial_130 : decode cX10_readSpecial 130 = .ok (.bipush 119, 2) := by decide +kernel
theorem dX10_readSpecial_132 : decode cX10_readSpecial 132 = .ok (.bipush 104, 2) := by decide +kernel
theorem dX10_readSpecial_134 : decode cX10_readSpecial 134 = .ok (.bipush 101, 2) := by decide +kernel
theorem dX10_readSpecial_136 : decode cX10_readSpecial 136 = .ok (.bipush 110, 2) := by decide +kernel
theorem dX10_readSpecial_138 : decode cX10_readSpecial 138 = .ok (.invokestatic 114, 3) := by decide +kernel
theorem dX10_readSpecial_141 : decode cX10_readSpecial 141 = .ok (.invokevirtual 150, 3) := by decide +kernel
theorem dX10_readSpecial_144 : decode cX10_readSpecial 144 = .ok (.ifCond .eq 88, 3) := by decide +kernel
theorem dX10_readSpecial_147 : decode cX10_readSpecial 147 = .ok (.aload_n 0, 1) := by decide +kernel
theorem dX10_readSpecial_148 : decode cX10_readSpecial 148 = .ok (.invokevirtual 147, 3) := by decide +kernel
theorem dX10_readSpecial_151 : decode cX10_readSpecial 151 = .ok (.aload_n 0, 1) := by decide +kernel
theorem dX10_readSpecial_152 : decode cX10_readSpecial 152 = .ok (.invokevirtual 337, 3) := by decide +kernel
theorem dX10_readSpecial_155 : decode cX10_readSpecial 155 = .ok (.ifCond .ne 5, 3) := by decide +kernel
theorem dX10_readSpecial_158 : decode cX10_readSpecial 158 = .ok (.iconst 0, 1) := by decide +kernel
theorem dX10_readSpecial_159 : decode cX10_readSpecial 159 = .ok (.ireturn, 1) := by decide +kernel
theorem dX10_readSpecial_160 : decode cX10_readSpecial 160 = .ok (.aload_n 0, 1) := by decide +kernel
theorem dX10_readSpecial_161 : decode cX10_readSpecial 161 = .ok (.getfield 47, 3) := by decide +kernel
theorem dX10_readSpecial_164 : decode cX10_readSpecial 164 = .ok (.iload_n 1, 1) := by decide +kernel
theorem dX10_readSpecial_165 : decode cX10_readSpecial 165 = .ok (.iconst 4, 1) := by decide +kernel
theorem dX10_readSpecial_166 : decode cX10_readSpecial 166 = .ok (.iadd, 1) := by decide +kernel
theorem dX10_readSpecial_167 : decode cX10_readSpecial 167 = .ok (.aload_n 0, 1) := by decide +kernel
theorem dX10_readSpecial_168 : decode cX10_readSpecial 168 = .ok (.getfield 307, 3) := by decide +kernel
theorem dX10_readSpecial_171 : decode cX10_readSpecial 171 = .ok (.iastore, 1) := by decide +kernel
theorem dX10_readSpecial_172 : decode cX10_readSpecial 172 = .ok (.aload_n 0, 1) := by decide +kernel
theorem dX10_readSpecial_173 : decode cX10_readSpecial 173 = .ok (.getfield 47, 3) := by decide +kernel
theorem dX10_readSpecial_176 : decode cX10_readSpecial 176 = .ok (.iload_n 1, 1) := by decide +kernel
theorem dX10_readSpecial_177 : decode cX10_readSpecial 177 = .ok (.iconst 1, 1) := by decide +kernel
theorem dX10_readSpecial_178 : decode cX10_readSpecial 178 = .ok (.iadd, 1) := by decide +kernel
theorem dX10_readSpecial_179 : decode cX10_readSpecial 179 = .ok (.aload_n 0, 1) := by decide +kernel
theorem dX10_readSpecial_180 : decode cX10_readSpecial 180 = .ok (.getfield 129, 3) := by decide +kernel
theorem dX10_readSpecial_183 : decode cX10_readSpecial 183 = .ok (.iastore, 1) := by decide +kernel
theorem dX10_readSpecial_184 : decode cX10_readSpecial 184 = .ok (.aload_n 0, 1) := by decide +kernel
theorem dX10_readSpecial_185 : decode cX10_readSpecial 185 = .ok (.getfield 129, 3) := by decide +kernel
theorem dX10_readSpecial_188 : decode cX10_readSpecial 188 = .ok (.bipush 60, 2) := by decide +kernel
theorem dX10_readSpecial_190 : decode cX10_readSpecial 190 = .ok (.if_icmp .eq 17, 3) := by decide +kernel
theorem dX10_readSpecial_193 : decode cX10_readSpecial 193 = .ok (.aload_n 0, 1) := by decide +kernel
theorem dX10_readSpecial_194 : decode cX10_readSpecial 194 = .ok (.getfield 129, 3) := by decide +kernel
theorem dX10_readSpecial_197 : decode cX10_readSpecial 197 = .ok (.bipush 62, 2) := by decide +kernel
theorem dX10_readSpecial_199 : decode cX10_readSpecial 199 = .ok (.if_icmp .eq 8, 3) := by decide +kernel
theorem dX10_readSpecial_202 : decode cX10_readSpecial 202 = .ok (.aload_n 0, 1) := by decide +kernel
theorem dX10_readSpecial_203 : decode cX10_readSpecial 203 = .ok (.invokevirtual 154, 3) := by decide +kernel
theorem dX10_readSpecial_206 : decode cX10_readSpecial 206 = .ok (.ireturn, 1) := by decide +kernel
theorem dX10_readSpecial_207 : decode cX10_readSpecial 207 = .ok (.aload_n 0, 1) := by decide +kernel
theorem dX10_readSpecial_208 : decode cX10_readSpecial 208 = .ok (.invokevirtual 147, 3) := by decide +kernel
theorem dX10_readSpecial_211 : decode cX10_readSpecial 211 = .ok (.aload_n 0, 1) := by decide +kernel
theorem dX10_readSpecial_212 : decode cX10_readSpecial 212 = .ok (.invokevirtual 337, 3) := by decide +kernel
theorem dX10_readSpecial_215 : decode cX10_readSpecial 215 = .ok (.ifCond .ne 5, 3) := by decide +kernel
theorem dX10_readSpecial_218 : decode cX10_readSpecial 218 = .ok (.iconst 0, 1) := by decide +kernel
theorem dX10_readSpecial_219 : decode cX10_readSpecial 219 = .ok (.ireturn, 1) := by decide +kernel
theorem dX10_readSpecial_220 : decode cX10_readSpecial 220 = .ok (.aload_n 0, 1) := by decide +kernel
theorem dX10_readSpecial_221 : decode cX10_readSpecial 221 = .ok (.getfield 47, 3) := by decide +kernel
theorem dX10_readSpecial_224 : decode cX10_readSpecial 224 = .ok (.iload_n 1, 1) := by decide +kernel
theorem dX10_readSpecial_225 : decode cX10_readSpecial 225 = .ok (.iconst 5, 1) := by decide +kernel
theorem dX10_readSpecial_226 : decode cX10_readSpecial 226 = .ok (.iadd, 1) := by decide +kernel
theorem dX10_readSpecial_227 : decode cX10_readSpecial 227 = .ok (.aload_n 0, 1) := by decide +kernel
theorem dX10_readSpecial_228 : decode cX10_readSpecial 228 = .ok (.getfield 307, 3) := by decide +kernel
theorem dX10_readSpecial_231 : decode cX10_readSpecial 231 = .ok (.iastore, 1) := by decide +kernel
theorem dX10_readSpecial_232 : decode cX10_readSpecial 232 = .ok (.aload_n 0, 1) := by decide +kernel
theorem dX10_readSpecial_233 : decode cX10_readSpecial 233 = .ok (.dup, 1) := by decide +kernel
theorem dX10_readSpecial_234 : decode cX10_readSpecial 234 = .ok (.getfield 334, 3) := by decide +kernel
theorem dX10_readSpecial_237 : decode cX10_readSpecial 237 = .ok (.iconst 1, 1) := by decide +kernel
theorem dX10_readSpecial_238 : decode cX10_readSpecial 238 = .ok (.iadd, 1) := by decide +kernel
theorem dX10_readSpecial_239 : decode cX10_readSpecial 239 = .ok (.putfield 334, 3) := by decide +kernel
theorem dX10_readSpecial_242 : decode cX10_readSpecial 242 = .ok (.aload_n 0, 1) := by decide +kernel
theorem dX10_readSpecial_243 : decode cX10_readSpecial 243 = .ok (.bipush 59, 2) := by decide +kernel
theorem dX10_readSpecial_245 : decode cX10_readSpecial 245 = .ok (.invokevirtual 170, 3) := by decide +kernel
theorem dX10_readSpecial_248 : decode cX10_readSpecial 248 = .ok (.ireturn, 1) := by decide +kernel
theorem dX10_readSpecials_0 : decode cX10_readSpecials 0 = .ok (.aload_n 0, 1) := by decide +kernel
theorem dX10_readSpecials_1 : decode cX10_readSpecials 1 = .ok (.invokevirtual 173, 3) := by decide +kernel
theorem dX10_readSpecials_4 : decode cX10_readSpecials 4 = .ok (.aload_n 0, 1) := by decide +kernel
theorem dX10_readSpecials_5 : decode cX10_readSpecials 5 = .ok (.iconst 0, 1) := by decide +kernel
theorem dX10_readSpecials_6 : decode cX10_readSpecials 6 = .ok (.putfield 334, 3) := by decide +kernel
theorem dX10_readSpecials_9 : decode cX10_readSpecials 9 = .ok (.aload_n 0, 1) := by decide +kernel
theorem dX10_readSpecials_10 : decode cX10_readSpecials 10 = .ok (.iconst 0, 1) := by decide +kernel
theorem dX10_readSpecials_11 : decode cX10_readSpecials 11 = .ok (.putfield 307, 3) := by decide +kernel
theorem dX10_readSpecials_14 : decode cX10_readSpecials 14 = .ok (.aload_n 0, 1) := by decide +kernel
theorem dX10_readSpecials_15 : decode cX10_readSpecials 15 = .ok (.iconst 0, 1) := by decide +kernel
theorem dX10_readSpecials_16 : decode cX10_readSpecials 16 = .ok (.putfield 317, 3) := by decide +kernel
theorem dX10_readSpecials_19 : decode cX10_readSpecials 19 = .ok (.aload_n 0, 1) := by decide +kernel
theorem dX10_readSpecials_20 : decode cX10_readSpecials 20 = .ok (.getfield 129, 3) := by decide +kernel
theorem dX10_readSpecials_23 : decode cX10_readSpecials 23 = .ok (.ifCond .eq 12, 3) := by decide +kernel
theorem dX10_readSpecials_26 : decode cX10_readSpecials 26 = .ok (.aload_n 0, 1) := by decide +kernel
theorem dX10_readSpecials_27 : decode cX10_readSpecials 27 = .ok (.invokevirtual 340, 3) := by decide +kernel
theorem dX10_readSpecials_30 : decode cX10_readSpecials 30 = .ok (.ifCond .ne (-11), 3) := by decide +kernel
theorem dX10_readSpecials_33 : decode cX10_readSpecials 33 = .ok (.iconst 0, 1) := by decide +kernel
theorem dX10_readSpecials_34 : decode cX10_readSpecials 34 = .ok (.ireturn, 1) := by decide +kernel
theorem dX10_readSpecials_35 : decode cX10_readSpecials 35 = .ok (.iconst 1, 1) := by decide +kernel
theorem dX10_readSpecials_36 : decode cX10_readSpecials 36 = .ok (.ireturn, 1) := by decide +kernel
theorem dX10_specials_0 : decode cX10_specials 0 = .ok (.aload_n 0, 1) := by decide +kernel
theorem dX10_specials_1 : decode cX10_specials 1 = .ok (.invokevirtual 343, 3) := by decide +kernel
theorem dX10_specials_4 : decode cX10_specials 4 = .ok (.istore_n 1, 1) := by decide +kernel
theorem dX10_specials_5 : decode cX10_specials 5 = .ok (.aload_n 0, 1) := by decide +kernel
theorem dX10_specials_6 : decode cX10_specials 6 = .ok (.iconst 0, 1) := by decide +kernel
theorem dX10_specials_7 : decode cX10_specials 7 = .ok (.putfield 88, 3) := by decide +kernel
theorem dX10_specials_10 : decode cX10_specials 10 = .ok (.iload_n 1, 1) := by decide +kernel
theorem dX10_specials_11 : decode cX10_specials 11 = .ok (.ifCond .ne 5, 3) := by decide +kernel
theorem dX10_specials_14 : decode cX10_specials 14 = .ok (.iconst (-1), 1) := by decide +kernel
theorem dX10_specials_15 : decode cX10_specials 15 = .ok (.ireturn, 1) := by decide +kernel
theorem dX10_specials_16 : decode cX10_specials 16 = .ok (.aload_n 0, 1) := by decide +kernel
theorem dX10_specials_17 : decode cX10_specials 17 = .ok (.invokevirtual 85, 3) := by decide +kernel
theorem dX10_specials_20 : decode cX10_specials 20 = .ok (.aload_n 0, 1) := by decide +kernel
theorem dX10_specials_21 : decode cX10_specials 21 = .ok (.sipush 159, 3) := by decide +kernel
theorem dX10_specials_24 : decode cX10_specials 24 = .ok (.aload_n 0, 1) := by decide +kernel
theorem dX10_specials_25 : decode cX10_specials 25 = .ok (.getfield 334, 3) := by decide +kernel
theorem dX10_specials_28 : decode cX10_specials 28 = .ok (.invokevirtual 71, 3) := by decide +kernel
theorem dX10_specials_31 : decode cX10_specials 31 = .ok (.iconst 0, 1) := by decide +kernel
theorem dX10_specials_32 : decode cX10_specials 32 = .ok (.istore_n 2, 1) := by decide +kernel
theorem dX10_specials_33 : decode cX10_specials 33 = .ok (.iload_n 2, 1) := by decide +kernel
theorem dX10_specials_34 : decode cX10_specials 34 = .ok (.bipush 6, 2) := by decide +kernel
theorem dX10_specials_36 : decode cX10_specials 36 = .ok (.aload_n 0, 1) := by decide +kernel
theorem dX10_specials_37 : decode cX10_specials 37 = .ok (.getfield 334, 3) := by decide +kernel
theorem dX10_specials_40 : decode cX10_specials 40 = .ok (.imul, 1) := by decide +kernel
theorem dX10_specials_41 : decode cX10_specials 41 = .ok (.if_icmp .ge 24, 3) := by decide +kernel
theorem dX10_specials_44 : decode cX10_specials 44 = .ok (.aload_n 0, 1) := by decide +kernel
theorem dX10_specials_45 : decode cX10_specials 45 = .ok (.sipush 160, 3) := by decide +kernel
theorem dX10_specials_48 : decode cX10_specials 48 = .ok (.iload_n 2, 1) := by decide +kernel
theorem dX10_specials_49 : decode cX10_specials 49 = .ok (.iadd, 1) := by decide +kernel
theorem dX10_specials_50 : decode cX10_specials 50 = .ok (.aload_n 0, 1) := by decide +kernel
theorem dX10_specials_51 : decode cX10_specials 51 = .ok (.getfield 47, 3) := by decide +kernel
theorem dX10_specials_54 : decode cX10_specials 54 = .ok (.iload_n 2, 1) := by decide +kernel
theorem dX10_specials_55 : decode cX10_specials 55 = .ok (.iaload, 1) := by decide +kernel
theorem dX10_specials_56 : decode cX10_specials 56 = .ok (.invokevirtual 71, 3) := by decide +kernel
theorem dX10_specials_59 : decode cX10_specials 59 = .ok (.iinc 2 1, 3) := by decide +kernel
theorem dX10_specials_62 : decode cX10_specials 62 = .ok (.goto (-29), 3) := by decide +kernel
theorem dX10_specials_65 : decode cX10_specials 65 = .ok (.iconst 0, 1) := by decide +kernel
theorem dX10_specials_66 : decode cX10_specials 66 = .ok (.istore_n 2, 1) := by decide +kernel
theorem dX10_specials_67 : decode cX10_specials 67 = .ok (.iload_n 2, 1) := by decide +kernel
theorem dX10_specials_68 : decode cX10_specials 68 = .ok (.aload_n 0, 1) := by decide +kernel
theorem dX10_specials_69 : decode cX10_specials 69 = .ok (.getfield 307, 3) := by decide +kernel
theorem dX10_specials_72 : decode cX10_specials 72 = .ok (.if_icmp .ge 24, 3) := by decide +kernel
theorem dX10_specials_75 : decode cX10_specials 75 = .ok (.aload_n 0, 1) := by decide +kernel
theorem dX10_specials_76 : decode cX10_specials 76 = .ok (.sipush 208, 3) := by decide +kernel
theorem dX10_specials_79 : decode cX10_specials 79 = .ok (.iload_n 2, 1) := by decide +kernel
theorem dX10_specials_80 : decode cX10_specials 80 = .ok (.iadd, 1) := by decide +kernel
theorem dX10_specials_81 : decode cX10_specials 81 = .ok (.aload_n 0, 1) := by decide +kernel
theorem dX10_specials_82 : decode cX10_specials 82 = .ok (.getfield 50, 3) := by decide +kernel
theorem dX10_specials_85 : decode cX10_specials 85 = .ok (.iload_n 2, 1) := by decide +kernel
theorem dX10_specials_86 : decode cX10_specials 86 = .ok (.iaload, 1) := by decide +kernel
theorem dX10_specials_87 : decode cX10_specials 87 = .ok (.invokevirtual 71, 3) := by decide +kernel
theorem dX10_specials_90 : decode cX10_specials 90 = .ok (.iinc 2 1, 3) := by decide +kernel
theorem dX10_specials_93 : decode cX10_specials 93 = .ok (.goto (-26), 3) := by decide +kernel
theorem dX10_specials_96 : decode cX10_specials 96 = .ok (.aload_n 0, 1) := by decide +kernel
theorem dX10_specials_97 : decode cX10_specials 97 = .ok (.getfield 334, 3) := by decide +kernel
theorem dX10_specials_100 : decode cX10_specials 100 = .ok (.ireturn, 1) := by decide +kernel
theorem dX10_nameNow_0 : decode cX10_nameNow 0 = .ok (.iload_n 1, 1) := by decide +kernel
theorem dX10_nameNow_1 : decode cX10_nameNow 1 = .ok (.tableswitch 63 0 4 #[35, 41, 47, 52, 58], 35) := by decide +kernel
theorem dX10_nameNow_36 : decode cX10_nameNow 36 = .ok (.aload_n 0, 1) := by decide +kernel
theorem dX10_nameNow_37 : decode cX10_nameNow 37 = .ok (.iconst 2, 1) := by decide +kernel
theorem dX10_nameNow_38 : decode cX10_nameNow 38 = .ok (.invokevirtual 193, 3) := by decide +kernel
theorem dX10_nameNow_41 : decode cX10_nameNow 41 = .ok (.ireturn, 1) := by decide +kernel
theorem dX10_nameNow_42 : decode cX10_nameNow 42 = .ok (.aload_n 0, 1) := by decide +kernel
theorem dX10_nameNow_43 : decode cX10_nameNow 43 = .ok (.iconst 3, 1) := by decide +kernel
theorem dX10_nameNow_44 : decode cX10_nameNow 44 = .ok (.invokevirtual 193, 3) := by decide +kernel
theorem dX10_nameNow_47 : decode cX10_nameNow 47 = .ok (.ireturn, 1) := by decide +kernel
theorem dX10_nameNow_48 : decode cX10_nameNow 48 = .ok (.aload_n 0, 1) := by decide +kernel
theorem dX10_nameNow_49 : decode cX10_nameNow 49 = .ok (.invokevirtual 234, 3) := by decide +kernel
theorem dX10_nameNow_52 : decode cX10_nameNow 52 = .ok (.ireturn, 1) := by decide +kernel
theorem dX10_nameNow_53 : decode cX10_nameNow 53 = .ok (.aload_n 0, 1) := by decide +kernel
theorem dX10_nameNow_54 : decode cX10_nameNow 54 = .ok (.iconst 1, 1) := by decide +kernel
theorem dX10_nameNow_55 : decode cX10_nameNow 55 = .ok (.invokevirtual 193, 3) := by decide +kernel
theorem dX10_nameNow_58 : decode cX10_nameNow 58 = .ok (.ireturn, 1) := by decide +kernel
theorem dX10_nameNow_59 : decode cX10_nameNow 59 = .ok (.aload_n 0, 1) := by decide +kernel
theorem dX10_nameNow_60 : decode cX10_nameNow 60 = .ok (.invokevirtual 231, 3) := by decide +kernel
theorem dX10_nameNow_63 : decode cX10_nameNow 63 = .ok (.ireturn, 1) := by decide +kernel
theorem dX10_nameNow_64 : decode cX10_nameNow 64 = .ok (.iload_n 1, 1) := by decide +kernel
theorem dX10_nameNow_65 : decode cX10_nameNow 65 = .ok (.bipush 20, 2) := by decide +kernel
theorem dX10_nameNow_67 : decode cX10_nameNow 67 = .ok (.if_icmp .ge 16, 3) := by decide +kernel
theorem dX10_nameNow_70 : decode cX10_nameNow 70 = .ok (.aload_n 0, 1) := by decide +kernel
theorem dX10_nameNow_71 : decode cX10_nameNow 71 = .ok (.iconst 5, 1) := by decide +kernel
theorem dX10_nameNow_72 : decode cX10_nameNow 72 = .ok (.iload_n 1, 1) := by decide +kernel
theorem dX10_nameNow_73 : decode cX10_nameNow 73 = .ok (.iadd, 1) := by decide +kernel
theorem dX10_nameNow_74 : decode cX10_nameNow 74 = .ok (.bipush 10, 2) := by decide +kernel
theorem dX10_nameNow_76 : decode cX10_nameNow 76 = .ok (.isub, 1) := by decide +kernel
theorem dX10_nameNow_77 : decode cX10_nameNow 77 = .ok (.invokevirtual 193, 3) := by decide +kernel
theorem dX10_nameNow_80 : decode cX10_nameNow 80 = .ok (.goto 14, 3) := by decide +kernel
theorem dX10_nameNow_83 : decode cX10_nameNow 83 = .ok (.aload_n 0, 1) := by decide +kernel
theorem dX10_nameNow_84 : decode cX10_nameNow 84 = .ok (.bipush 29, 2) := by decide +kernel
theorem dX10_nameNow_86 : decode cX10_nameNow 86 = .ok (.iload_n 1, 1) := by decide +kernel
theorem dX10_nameNow_87 : decode cX10_nameNow 87 = .ok (.iadd, 1) := by decide +kernel
theorem dX10_nameNow_88 : decode cX10_nameNow 88 = .ok (.bipush 20, 2) := by decide +kernel
theorem dX10_nameNow_90 : decode cX10_nameNow 90 = .ok (.isub, 1) := by decide +kernel
theorem dX10_nameNow_91 : decode cX10_nameNow 91 = .ok (.invokevirtual 193, 3) := by decide +kernel
theorem dX10_nameNow_94 : decode cX10_nameNow 94 = .ok (.ireturn, 1) := by decide +kernel
theorem dX10_joined_0 : decode cX10_joined 0 = .ok (.iload_n 0, 1) := by decide +kernel
theorem dX10_joined_1 : decode cX10_joined 1 = .ok (.tableswitch 43 42 45 #[39, 31, 43, 35], 31) := by decide +kernel
theorem dX10_joined_32 : decode cX10_joined 32 = .ok (.iload_n 1, 1) := by decide +kernel
theorem dX10_joined_33 : decode cX10_joined 33 = .ok (.iload_n 2, 1) := by decide +kernel
theorem dX10_joined_34 : decode cX10_joined 34 = .ok (.iadd, 1) := by decide +kernel
theorem dX10_joined_35 : decode cX10_joined 35 = .ok (.ireturn, 1) := by decide +kernel
theorem dX10_joined_36 : decode cX10_joined 36 = .ok (.iload_n 1, 1) := by decide +kernel
theorem dX10_joined_37 : decode cX10_joined 37 = .ok (.iload_n 2, 1) := by decide +kernel
theorem dX10_joined_38 : decode cX10_joined 38 = .ok (.isub, 1) := by decide +kernel
theorem dX10_joined_39 : decode cX10_joined 39 = .ok (.ireturn, 1) := by decide +kernel
theorem dX10_joined_40 : decode cX10_joined 40 = .ok (.iload_n 1, 1) := by decide +kernel
theorem dX10_joined_41 : decode cX10_joined 41 = .ok (.iload_n 2, 1) := by decide +kernel
theorem dX10_joined_42 : decode cX10_joined 42 = .ok (.imul, 1) := by decide +kernel
theorem dX10_joined_43 : decode cX10_joined 43 = .ok (.ireturn, 1) := by decide +kernel
theorem dX10_joined_44 : decode cX10_joined 44 = .ok (.iload_n 2, 1) := by decide +kernel
theorem dX10_joined_45 : decode cX10_joined 45 = .ok (.ifCond .ne 7, 3) := by decide +kernel
theorem dX10_joined_48 : decode cX10_joined 48 = .ok (.iconst 0, 1) := by decide +kernel
theorem dX10_joined_49 : decode cX10_joined 49 = .ok (.goto 6, 3) := by decide +kernel
theorem dX10_joined_52 : decode cX10_joined 52 = .ok (.iload_n 1, 1) := by decide +kernel
theorem dX10_joined_53 : decode cX10_joined 53 = .ok (.iload_n 2, 1) := by decide +kernel
theorem dX10_joined_54 : decode cX10_joined 54 = .ok (.idiv, 1) := by decide +kernel
theorem dX10_joined_55 : decode cX10_joined 55 = .ok (.ireturn, 1) := by decide +kernel
theorem dX10_worked_0 : decode cX10_worked 0 = .ok (.iconst 0, 1) := by decide +kernel
theorem dX10_worked_1 : decode cX10_worked 1 = .ok (.istore_n 3, 1) := by decide +kernel
theorem dX10_worked_2 : decode cX10_worked 2 = .ok (.iload_n 1, 1) := by decide +kernel
theorem dX10_worked_3 : decode cX10_worked 3 = .ok (.istore 4, 2) := by decide +kernel
theorem dX10_worked_5 : decode cX10_worked 5 = .ok (.iload 4, 2) := by decide +kernel
theorem dX10_worked_7 : decode cX10_worked 7 = .ok (.iload_n 2, 1) := by decide +kernel
theorem dX10_worked_8 : decode cX10_worked 8 = .ok (.if_icmp .ge 98, 3) := by decide +kernel
theorem dX10_worked_11 : decode cX10_worked 11 = .ok (.aload_n 0, 1) := by decide +kernel
theorem dX10_worked_12 : decode cX10_worked 12 = .ok (.sipush 208, 3) := by decide +kernel
theorem dX10_worked_15 : decode cX10_worked 15 = .ok (.iload 4, 2) := by decide +kernel
theorem dX10_worked_17 : decode cX10_worked 17 = .ok (.iadd, 1) := by decide +kernel
theorem dX10_worked_18 : decode cX10_worked 18 = .ok (.invokevirtual 193, 3) := by decide +kernel
theorem dX10_worked_21 : decode cX10_worked 21 = .ok (.istore 5, 2) := by decide +kernel
theorem dX10_worked_23 : decode cX10_worked 23 = .ok (.iload 5, 2) := by decide +kernel
theorem dX10_worked_25 : decode cX10_worked 25 = .ok (.ldc_w 330, 3) := by decide +kernel
theorem dX10_worked_28 : decode cX10_worked 28 = .ok (.if_icmp .ge 38, 3) := by decide +kernel
theorem dX10_worked_31 : decode cX10_worked 31 = .ok (.aload_n 0, 1) := by decide +kernel
theorem dX10_worked_32 : decode cX10_worked 32 = .ok (.getfield 53, 3) := by decide +kernel
theorem dX10_worked_35 : decode cX10_worked 35 = .ok (.iload_n 3, 1) := by decide +kernel
theorem dX10_worked_36 : decode cX10_worked 36 = .ok (.iload 5, 2) := by decide +kernel
theorem dX10_worked_38 : decode cX10_worked 38 = .ok (.ldc_w 323, 3) := by decide +kernel
theorem dX10_worked_41 : decode cX10_worked 41 = .ok (.if_icmp .ge 8, 3) := by decide +kernel
theorem dX10_worked_44 : decode cX10_worked 44 = .ok (.iload 5, 2) := by decide +kernel
theorem dX10_worked_46 : decode cX10_worked 46 = .ok (.goto 13, 3) := by decide +kernel
theorem dX10_worked_49 : decode cX10_worked 49 = .ok (.aload_n 0, 1) := by decide +kernel
theorem dX10_worked_50 : decode cX10_worked 50 = .ok (.iload 5, 2) := by decide +kernel
theorem dX10_worked_52 : decode cX10_worked 52 = .ok (.ldc_w 323, 3) := by decide +kernel
theorem dX10_worked_55 : decode cX10_worked 55 = .ok (.isub, 1) := by decide +kernel
theorem dX10_worked_56 : decode cX10_worked 56 = .ok (.invokevirtual 346, 3) := by decide +kernel
theorem dX10_worked_59 : decode cX10_worked 59 = .ok (.iastore, 1) := by decide +kernel
theorem dX10_worked_60 : decode cX10_worked 60 = .ok (.iinc 3 1, 3) := by decide +kernel
theorem dX10_worked_63 : decode cX10_worked 63 = .ok (.goto 37, 3) := by decide +kernel
theorem dX10_worked_66 : decode cX10_worked 66 = .ok (.iinc 3 (-1), 3) := by decide +kernel
theorem dX10_worked_69 : decode cX10_worked 69 = .ok (.aload_n 0, 1) := by decide +kernel
theorem dX10_worked_70 : decode cX10_worked 70 = .ok (.getfield 53, 3) := by decide +kernel
theorem dX10_worked_73 : decode cX10_worked 73 = .ok (.iload_n 3, 1) := by decide +kernel
theorem dX10_worked_74 : decode cX10_worked 74 = .ok (.iconst 1, 1) := by decide +kernel
theorem dX10_worked_75 : decode cX10_worked 75 = .ok (.isub, 1) := by decide +kernel
theorem dX10_worked_76 : decode cX10_worked 76 = .ok (.iload 5, 2) := by decide +kernel
theorem dX10_worked_78 : decode cX10_worked 78 = .ok (.ldc_w 330, 3) := by decide +kernel
theorem dX10_worked_81 : decode cX10_worked 81 = .ok (.isub, 1) := by decide +kernel
theorem dX10_worked_82 : decode cX10_worked 82 = .ok (.aload_n 0, 1) := by decide +kernel
theorem dX10_worked_83 : decode cX10_worked 83 = .ok (.getfield 53, 3) := by decide +kernel
theorem dX10_worked_86 : decode cX10_worked 86 = .ok (.iload_n 3, 1) := by decide +kernel
theorem dX10_worked_87 : decode cX10_worked 87 = .ok (.iconst 1, 1) := by decide +kernel
theorem dX10_worked_88 : decode cX10_worked 88 = .ok (.isub, 1) := by decide +kernel
theorem dX10_worked_89 : decode cX10_worked 89 = .ok (.iaload, 1) := by decide +kernel
theorem dX10_worked_90 : decode cX10_worked 90 = .ok (.aload_n 0, 1) := by decide +kernel
theorem dX10_worked_91 : decode cX10_worked 91 = .ok (.getfield 53, 3) := by decide +kernel
theorem dX10_worked_94 : decode cX10_worked 94 = .ok (.iload_n 3, 1) := by decide +kernel
theorem dX10_worked_95 : decode cX10_worked 95 = .ok (.iaload, 1) := by decide +kernel
theorem dX10_worked_96 : decode cX10_worked 96 = .ok (.invokestatic 349, 3) := by decide +kernel
theorem dX10_worked_99 : decode cX10_worked 99 = .ok (.iastore, 1) := by decide +kernel
theorem dX10_worked_100 : decode cX10_worked 100 = .ok (.iinc 4 1, 3) := by decide +kernel
theorem dX10_worked_103 : decode cX10_worked 103 = .ok (.goto (-98), 3) := by decide +kernel
theorem dX10_worked_106 : decode cX10_worked 106 = .ok (.aload_n 0, 1) := by decide +kernel
theorem dX10_worked_107 : decode cX10_worked 107 = .ok (.getfield 53, 3) := by decide +kernel
theorem dX10_worked_110 : decode cX10_worked 110 = .ok (.iconst 0, 1) := by decide +kernel
theorem dX10_worked_111 : decode cX10_worked 111 = .ok (.iaload, 1) := by decide +kernel
theorem dX10_worked_112 : decode cX10_worked 112 = .ok (.ireturn, 1) := by decide +kernel
theorem dX10_givesNow_0 : decode cX10_givesNow 0 = .ok (.iload_n 1, 1) := by decide +kernel
theorem dX10_givesNow_1 : decode cX10_givesNow 1 = .ok (.invokestatic 268, 3) := by decide +kernel
theorem dX10_givesNow_4 : decode cX10_givesNow 4 = .ok (.istore_n 2, 1) := by decide +kernel
theorem dX10_givesNow_5 : decode cX10_givesNow 5 = .ok (.aload_n 0, 1) := by decide +kernel
theorem dX10_givesNow_6 : decode cX10_givesNow 6 = .ok (.aload_n 0, 1) := by decide +kernel
theorem dX10_givesNow_7 : decode cX10_givesNow 7 = .ok (.iload_n 2, 1) := by decide +kernel
theorem dX10_givesNow_8 : decode cX10_givesNow 8 = .ok (.invokevirtual 193, 3) := by decide +kernel
theorem dX10_givesNow_11 : decode cX10_givesNow 11 = .ok (.invokevirtual 203, 3) := by decide +kernel
theorem dX10_givesNow_14 : decode cX10_givesNow 14 = .ok (.ifCond .eq 11, 3) := by decide +kernel
theorem dX10_givesNow_17 : decode cX10_givesNow 17 = .ok (.aload_n 0, 1) := by decide +kernel
theorem dX10_givesNow_18 : decode cX10_givesNow 18 = .ok (.iconst 2, 1) := by decide +kernel
theorem dX10_givesNow_19 : decode cX10_givesNow 19 = .ok (.invokevirtual 193, 3) := by decide +kernel
theorem dX10_givesNow_22 : decode cX10_givesNow 22 = .ok (.ifCond .gt 5, 3) := by decide +kernel
theorem dX10_givesNow_25 : decode cX10_givesNow 25 = .ok (.iconst 0, 1) := by decide +kernel
theorem dX10_givesNow_26 : decode cX10_givesNow 26 = .ok (.ireturn, 1) := by decide +kernel
theorem dX10_givesNow_27 : decode cX10_givesNow 27 = .ok (.aload_n 0, 1) := by decide +kernel
theorem dX10_givesNow_28 : decode cX10_givesNow 28 = .ok (.iload_n 2, 1) := by decide +kernel
theorem dX10_givesNow_29 : decode cX10_givesNow 29 = .ok (.iconst 1, 1) := by decide +kernel
theorem dX10_givesNow_30 : decode cX10_givesNow 30 = .ok (.iadd, 1) := by decide +kernel
theorem dX10_givesNow_31 : decode cX10_givesNow 31 = .ok (.invokevirtual 193, 3) := by decide +kernel
theorem dX10_givesNow_34 : decode cX10_givesNow 34 = .ok (.istore_n 3, 1) := by decide +kernel
theorem dX10_givesNow_35 : decode cX10_givesNow 35 = .ok (.iload_n 3, 1) := by decide +kernel
theorem dX10_givesNow_36 : decode cX10_givesNow 36 = .ok (.ifCond .eq 68, 3) := by decide +kernel
theorem dX10_givesNow_39 : decode cX10_givesNow 39 = .ok (.aload_n 0, 1) := by decide +kernel
theorem dX10_givesNow_40 : decode cX10_givesNow 40 = .ok (.aload_n 0, 1) := by decide +kernel
theorem dX10_givesNow_41 : decode cX10_givesNow 41 = .ok (.iload_n 2, 1) := by decide +kernel
theorem dX10_givesNow_42 : decode cX10_givesNow 42 = .ok (.iconst 3, 1) := by decide +kernel
theorem dX10_givesNow_43 : decode cX10_givesNow 43 = .ok (.iadd, 1) := by decide +kernel
theorem dX10_givesNow_44 : decode cX10_givesNow 44 = .ok (.invokevirtual 193, 3) := by decide +kernel
theorem dX10_givesNow_47 : decode cX10_givesNow 47 = .ok (.aload_n 0, 1) := by decide +kernel
theorem dX10_givesNow_48 : decode cX10_givesNow 48 = .ok (.iload_n 2, 1) := by decide +kernel
theorem dX10_givesNow_49 : decode cX10_givesNow 49 = .ok (.iconst 4, 1) := by decide +kernel
theorem dX10_givesNow_50 : decode cX10_givesNow 50 = .ok (.iadd, 1) := by decide +kernel
theorem dX10_givesNow_51 : decode cX10_givesNow 51 = .ok (.invokevirtual 193, 3) := by decide +kernel
theorem dX10_givesNow_54 : decode cX10_givesNow 54 = .ok (.invokevirtual 353, 3) := by decide +kernel
theorem dX10_givesNow_57 : decode cX10_givesNow 57 = .ok (.istore 4, 2) := by decide +kernel
theorem dX10_givesNow_59 : decode cX10_givesNow 59 = .ok (.aload_n 0, 1) := by decide +kernel
theorem dX10_givesNow_60 : decode cX10_givesNow 60 = .ok (.aload_n 0, 1) := by decide +kernel
theorem dX10_givesNow_61 : decode cX10_givesNow 61 = .ok (.iload_n 2, 1) := by decide +kernel
theorem dX10_givesNow_62 : decode cX10_givesNow 62 = .ok (.iconst 4, 1) := by decide +kernel
theorem dX10_givesNow_63 : decode cX10_givesNow 63 = .ok (.iadd, 1) := by decide +kernel
theorem dX10_givesNow_64 : decode cX10_givesNow 64 = .ok (.invokevirtual 193, 3) := by decide +kernel
theorem dX10_givesNow_67 : decode cX10_givesNow 67 = .ok (.aload_n 0, 1) := by decide +kernel
theorem dX10_givesNow_68 : decode cX10_givesNow 68 = .ok (.iload_n 2, 1) := by decide +kernel
theorem dX10_givesNow_69 : decode cX10_givesNow 69 = .ok (.iconst 5, 1) := by decide +kernel
theorem dX10_givesNow_70 : decode cX10_givesNow 70 = .ok (.iadd, 1) := by decide +kernel
theorem dX10_givesNow_71 : decode cX10_givesNow 71 = .ok (.invokevirtual 193, 3) := by decide +kernel
theorem dX10_givesNow_74 : decode cX10_givesNow 74 = .ok (.invokevirtual 353, 3) := by decide +kernel
theorem dX10_givesNow_77 : decode cX10_givesNow 77 = .ok (.istore 5, 2) := by decide +kernel
theorem dX10_givesNow_79 : decode cX10_givesNow 79 = .ok (.iload_n 3, 1) := by decide +kernel
theorem dX10_givesNow_80 : decode cX10_givesNow 80 = .ok (.bipush 60, 2) := by decide +kernel
theorem dX10_givesNow_82 : decode cX10_givesNow 82 = .ok (.if_icmp .ne 13, 3) := by decide +kernel
theorem dX10_givesNow_85 : decode cX10_givesNow 85 = .ok (.iload 4, 2) := by decide +kernel
theorem dX10_givesNow_87 : decode cX10_givesNow 87 = .ok (.iload 5, 2) := by decide +kernel
theorem dX10_givesNow_89 : decode cX10_givesNow 89 = .ok (.if_icmp .lt 15, 3) := by decide +kernel
theorem dX10_givesNow_92 : decode cX10_givesNow 92 = .ok (.goto 10, 3) := by decide +kernel
theorem dX10_givesNow_95 : decode cX10_givesNow 95 = .ok (.iload 4, 2) := by decide +kernel
theorem dX10_givesNow_97 : decode cX10_givesNow 97 = .ok (.iload 5, 2) := by decide +kernel
theorem dX10_givesNow_99 : decode cX10_givesNow 99 = .ok (.if_icmp .gt 5, 3) := by decide +kernel
theorem dX10_givesNow_102 : decode cX10_givesNow 102 = .ok (.iconst 0, 1) := by decide +kernel
theorem dX10_givesNow_103 : decode cX10_givesNow 103 = .ok (.ireturn, 1) := by decide +kernel
theorem dX10_givesNow_104 : decode cX10_givesNow 104 = .ok (.aload_n 0, 1) := by decide +kernel
theorem dX10_givesNow_105 : decode cX10_givesNow 105 = .ok (.iconst 2, 1) := by decide +kernel
theorem dX10_givesNow_106 : decode cX10_givesNow 106 = .ok (.invokevirtual 193, 3) := by decide +kernel
theorem dX10_givesNow_109 : decode cX10_givesNow 109 = .ok (.iconst 0, 1) := by decide +kernel
theorem dX10_givesNow_110 : decode cX10_givesNow 110 = .ok (.aload_n 0, 1) := by decide +kernel
theorem dX10_givesNow_111 : decode cX10_givesNow 111 = .ok (.aload_n 0, 1) := by decide +kernel
theorem dX10_givesNow_112 : decode cX10_givesNow 112 = .ok (.iload_n 2, 1) := by decide +kernel
theorem dX10_givesNow_113 : decode cX10_givesNow 113 = .ok (.iconst 2, 1) := by decide +kernel
theorem dX10_givesNow_114 : decode cX10_givesNow 114 = .ok (.iadd, 1) := by decide +kernel
theorem dX10_givesNow_115 : decode cX10_givesNow 115 = .ok (.invokevirtual 193, 3) := by decide +kernel
theorem dX10_givesNow_118 : decode cX10_givesNow 118 = .ok (.aload_n 0, 1) := by decide +kernel
theorem dX10_givesNow_119 : decode cX10_givesNow 119 = .ok (.iload_n 2, 1) := by decide +kernel
theorem dX10_givesNow_120 : decode cX10_givesNow 120 = .ok (.iconst 3, 1) := by decide +kernel
theorem dX10_givesNow_121 : decode cX10_givesNow 121 = .ok (.iadd, 1) := by decide +kernel
theorem dX10_givesNow_122 : decode cX10_givesNow 122 = .ok (.invokevirtual 193, 3) := by decide +kernel
theorem dX10_givesNow_125 : decode cX10_givesNow 125 = .ok (.invokevirtual 353, 3) := by decide +kernel
theorem dX10_givesNow_128 : decode cX10_givesNow 128 = .ok (.invokestatic 224, 3) := by decide +kernel
theorem dX10_givesNow_131 : decode cX10_givesNow 131 = .ok (.invokestatic 252, 3) := by decide +kernel
theorem dX10_givesNow_134 : decode cX10_givesNow 134 = .ok (.ireturn, 1) := by decide +kernel
theorem dX10_special_0 : decode cX10_special 0 = .ok (.iload_n 1, 1) := by decide +kernel
theorem dX10_special_1 : decode cX10_special 1 = .ok (.iconst 0, 1) := by decide +kernel
theorem dX10_special_2 : decode cX10_special 2 = .ok (.aload_n 0, 1) := by decide +kernel
theorem dX10_special_3 : decode cX10_special 3 = .ok (.sipush 159, 3) := by decide +kernel
theorem dX10_special_6 : decode cX10_special 6 = .ok (.invokevirtual 193, 3) := by decide +kernel
theorem dX10_special_9 : decode cX10_special 9 = .ok (.iconst 1, 1) := by decide +kernel
theorem dX10_special_10 : decode cX10_special 10 = .ok (.isub, 1) := by decide +kernel
theorem dX10_special_11 : decode cX10_special 11 = .ok (.invokestatic 81, 3) := by decide +kernel
theorem dX10_special_14 : decode cX10_special 14 = .ok (.ifCond .eq 12, 3) := by decide +kernel
theorem dX10_special_17 : decode cX10_special 17 = .ok (.iload_n 2, 1) := by decide +kernel
theorem dX10_special_18 : decode cX10_special 18 = .ok (.iconst 0, 1) := by decide +kernel
theorem dX10_special_19 : decode cX10_special 19 = .ok (.iconst 2, 1) := by decide +kernel
theorem dX10_special_20 : decode cX10_special 20 = .ok (.invokestatic 81, 3) := by decide +kernel
theorem dX10_special_23 : decode cX10_special 23 = .ok (.ifCond .ne 6, 3) := by decide +kernel
theorem dX10_special_26 : decode cX10_special 26 = .ok (.ldc 214, 2) := by decide +kernel
theorem dX10_special_28 : decode cX10_special 28 = .ok (.ireturn, 1) := by decide +kernel
theorem dX10_special_29 : decode cX10_special 29 = .ok (.iload_n 1, 1) := by decide +kernel
theorem dX10_special_30 : decode cX10_special 30 = .ok (.invokestatic 268, 3) := by decide +kernel
theorem dX10_special_33 : decode cX10_special 33 = .ok (.istore_n 3, 1) := by decide +kernel
theorem dX10_special_34 : decode cX10_special 34 = .ok (.iload_n 2, 1) := by decide +kernel
theorem dX10_special_35 : decode cX10_special 35 = .ok (.ifCond .ne 11, 3) := by decide +kernel
theorem dX10_special_38 : decode cX10_special 38 = .ok (.aload_n 0, 1) := by decide +kernel
theorem dX10_special_39 : decode cX10_special 39 = .ok (.iload_n 3, 1) := by decide +kernel
theorem dX10_special_40 : decode cX10_special 40 = .ok (.invokevirtual 193, 3) := by decide +kernel
theorem dX10_special_43 : decode cX10_special 43 = .ok (.goto 34, 3) := by decide +kernel
theorem dX10_special_46 : decode cX10_special 46 = .ok (.iload_n 2, 1) := by decide +kernel
theorem dX10_special_47 : decode cX10_special 47 = .ok (.iconst 1, 1) := by decide +kernel
theorem dX10_special_48 : decode cX10_special 48 = .ok (.if_icmp .ne 24, 3) := by decide +kernel
theorem dX10_special_51 : decode cX10_special 51 = .ok (.aload_n 0, 1) := by decide +kernel
theorem dX10_special_52 : decode cX10_special 52 = .ok (.aload_n 0, 1) := by decide +kernel
theorem dX10_special_53 : decode cX10_special 53 = .ok (.iload_n 3, 1) := by decide +kernel
theorem dX10_special_54 : decode cX10_special 54 = .ok (.iconst 2, 1) := by decide +kernel
theorem dX10_special_55 : decode cX10_special 55 = .ok (.iadd, 1) := by decide +kernel
theorem dX10_special_56 : decode cX10_special 56 = .ok (.invokevirtual 193, 3) := by decide +kernel
theorem dX10_special_59 : decode cX10_special 59 = .ok (.aload_n 0, 1) := by decide +kernel
theorem dX10_special_60 : decode cX10_special 60 = .ok (.iload_n 3, 1) := by decide +kernel
theorem dX10_special_61 : decode cX10_special 61 = .ok (.iconst 3, 1) := by decide +kernel
theorem dX10_special_62 : decode cX10_special 62 = .ok (.iadd, 1) := by decide +kernel
theorem dX10_special_63 : decode cX10_special 63 = .ok (.invokevirtual 193, 3) := by decide +kernel
theorem dX10_special_66 : decode cX10_special 66 = .ok (.invokevirtual 353, 3) := by decide +kernel
theorem dX10_special_69 : decode cX10_special 69 = .ok (.goto 8, 3) := by decide +kernel
theorem dX10_special_72 : decode cX10_special 72 = .ok (.aload_n 0, 1) := by decide +kernel
theorem dX10_special_73 : decode cX10_special 73 = .ok (.iload_n 1, 1) := by decide +kernel
theorem dX10_special_74 : decode cX10_special 74 = .ok (.invokevirtual 265, 3) := by decide +kernel
theorem dX10_special_77 : decode cX10_special 77 = .ok (.ireturn, 1) := by decide +kernel
theorem dX10_refuse_0 : decode cX10_refuse 0 = .ok (.aload_n 0, 1) := by decide +kernel
theorem dX10_refuse_1 : decode cX10_refuse 1 = .ok (.iconst 0, 1) := by decide +kernel
theorem dX10_refuse_2 : decode cX10_refuse 2 = .ok (.putfield 356, 3) := by decide +kernel
theorem dX10_refuse_5 : decode cX10_refuse 5 = .ok (.iload_n 1, 1) := by decide +kernel
theorem dX10_refuse_6 : decode cX10_refuse 6 = .ok (.ireturn, 1) := by decide +kernel
theorem dX10_tells_0 : decode cX10_tells 0 = .ok (.aload_n 0, 1) := by decide +kernel
theorem dX10_tells_1 : decode cX10_tells 1 = .ok (.iconst 1, 1) := by decide +kernel
theorem dX10_tells_2 : decode cX10_tells 2 = .ok (.putfield 356, 3) := by decide +kernel
theorem dX10_tells_5 : decode cX10_tells 5 = .ok (.iload_n 1, 1) := by decide +kernel
theorem dX10_tells_6 : decode cX10_tells 6 = .ok (.ireturn, 1) := by decide +kernel
theorem dX10_become_0 : decode cX10_become 0 = .ok (.aload_n 0, 1) := by decide +kernel
theorem dX10_become_1 : decode cX10_become 1 = .ok (.invokevirtual 85, 3) := by decide +kernel
theorem dX10_become_4 : decode cX10_become 4 = .ok (.aload_n 0, 1) := by decide +kernel
theorem dX10_become_5 : decode cX10_become 5 = .ok (.iload_n 1, 1) := by decide +kernel
theorem dX10_become_6 : decode cX10_become 6 = .ok (.invokevirtual 193, 3) := by decide +kernel
theorem dX10_become_9 : decode cX10_become 9 = .ok (.istore_n 3, 1) := by decide +kernel
theorem dX10_become_10 : decode cX10_become 10 = .ok (.aload_n 0, 1) := by decide +kernel
theorem dX10_become_11 : decode cX10_become 11 = .ok (.iload_n 1, 1) := by decide +kernel
theorem dX10_become_12 : decode cX10_become 12 = .ok (.iload_n 2, 1) := by decide +kernel
theorem dX10_become_13 : decode cX10_become 13 = .ok (.invokevirtual 71, 3) := by decide +kernel
theorem dX10_become_16 : decode cX10_become 16 = .ok (.iload_n 3, 1) := by decide +kernel
theorem dX10_become_17 : decode cX10_become 17 = .ok (.ireturn, 1) := by decide +kernel
theorem dX10_duty_0 : decode cX10_duty 0 = .ok (.aload_n 0, 1) := by decide +kernel
theorem dX10_duty_1 : decode cX10_duty 1 = .ok (.iload_n 1, 1) := by decide +kernel
theorem dX10_duty_2 : decode cX10_duty 2 = .ok (.invokevirtual 203, 3) := by decide +kernel
theorem dX10_duty_5 : decode cX10_duty 5 = .ok (.ifCond .eq 26, 3) := by decide +kernel
theorem dX10_duty_8 : decode cX10_duty 8 = .ok (.iload_n 2, 1) := by decide +kernel
theorem dX10_duty_9 : decode cX10_duty 9 = .ok (.iconst 0, 1) := by decide +kernel
theorem dX10_duty_10 : decode cX10_duty 10 = .ok (.ldc_w 360, 3) := by decide +kernel
theorem dX10_duty_13 : decode cX10_duty 13 = .ok (.invokestatic 81, 3) := by decide +kernel
theorem dX10_duty_16 : decode cX10_duty 16 = .ok (.ifCond .eq 15, 3) := by decide +kernel
theorem dX10_duty_19 : decode cX10_duty 19 = .ok (.aload_n 0, 1) := by decide +kernel
theorem dX10_duty_20 : decode cX10_duty 20 = .ok (.bipush 13, 2) := by decide +kernel
theorem dX10_duty_22 : decode cX10_duty 22 = .ok (.iload_n 1, 1) := by decide +kernel
theorem dX10_duty_23 : decode cX10_duty 23 = .ok (.iadd, 1) := by decide +kernel
theorem dX10_duty_24 : decode cX10_duty 24 = .ok (.iload_n 2, 1) := by decide +kernel
theorem dX10_duty_25 : decode cX10_duty 25 = .ok (.invokevirtual 361, 3) := by decide +kernel
theorem dX10_duty_28 : decode cX10_duty 28 = .ok (.goto 4, 3) := by decide +kernel
theorem dX10_duty_31 : decode cX10_duty 31 = .ok (.iconst (-1), 1) := by decide +kernel
theorem dX10_duty_32 : decode cX10_duty 32 = .ok (.ireturn, 1) := by decide +kernel
theorem dX10_ratio_0 : decode cX10_ratio 0 = .ok (.aload_n 0, 1) := by decide +kernel
theorem dX10_ratio_1 : decode cX10_ratio 1 = .ok (.iload_n 1, 1) := by decide +kernel
theorem dX10_ratio_2 : decode cX10_ratio 2 = .ok (.invokevirtual 203, 3) := by decide +kernel
theorem dX10_ratio_5 : decode cX10_ratio 5 = .ok (.ifCond .eq 25, 3) := by decide +kernel
theorem dX10_ratio_8 : decode cX10_ratio 8 = .ok (.iload_n 2, 1) := by decide +kernel
theorem dX10_ratio_9 : decode cX10_ratio 9 = .ok (.iconst 0, 1) := by decide +kernel
theorem dX10_ratio_10 : decode cX10_ratio 10 = .ok (.bipush 99, 2) := by decide +kernel
theorem dX10_ratio_12 : decode cX10_ratio 12 = .ok (.invokestatic 81, 3) := by decide +kernel
theorem dX10_ratio_15 : decode cX10_ratio 15 = .ok (.ifCond .eq 15, 3) := by decide +kernel
theorem dX10_ratio_18 : decode cX10_ratio 18 = .ok (.aload_n 0, 1) := by decide +kernel
theorem dX10_ratio_19 : decode cX10_ratio 19 = .ok (.bipush 21, 2) := by decide +kernel
theorem dX10_ratio_21 : decode cX10_ratio 21 = .ok (.iload_n 1, 1) := by decide +kernel
theorem dX10_ratio_22 : decode cX10_ratio 22 = .ok (.iadd, 1) := by decide +kernel
theorem dX10_ratio_23 : decode cX10_ratio 23 = .ok (.iload_n 2, 1) := by decide +kernel
theorem dX10_ratio_24 : decode cX10_ratio 24 = .ok (.invokevirtual 361, 3) := by decide +kernel
theorem dX10_ratio_27 : decode cX10_ratio 27 = .ok (.goto 4, 3) := by decide +kernel
theorem dX10_ratio_30 : decode cX10_ratio 30 = .ok (.iconst (-1), 1) := by decide +kernel
theorem dX10_ratio_31 : decode cX10_ratio 31 = .ok (.ireturn, 1) := by decide +kernel
theorem dX10_brings_0 : decode cX10_brings 0 = .ok (.aload_n 0, 1) := by decide +kernel
theorem dX10_brings_1 : decode cX10_brings 1 = .ok (.invokevirtual 85, 3) := by decide +kernel
theorem dX10_brings_4 : decode cX10_brings 4 = .ok (.aload_n 0, 1) := by decide +kernel
theorem dX10_brings_5 : decode cX10_brings 5 = .ok (.iconst 3, 1) := by decide +kernel
theorem dX10_brings_6 : decode cX10_brings 6 = .ok (.iload_n 2, 1) := by decide +kernel
theorem dX10_brings_7 : decode cX10_brings 7 = .ok (.invokevirtual 246, 3) := by decide +kernel
theorem dX10_brings_10 : decode cX10_brings 10 = .ok (.aload_n 0, 1) := by decide +kernel
theorem dX10_brings_11 : decode cX10_brings 11 = .ok (.iconst 5, 1) := by decide +kernel
theorem dX10_brings_12 : decode cX10_brings 12 = .ok (.iload_n 1, 1) := by decide +kernel
theorem dX10_brings_13 : decode cX10_brings 13 = .ok (.iadd, 1) := by decide +kernel
theorem dX10_brings_14 : decode cX10_brings 14 = .ok (.iload_n 2, 1) := by decide +kernel
theorem dX10_brings_15 : decode cX10_brings 15 = .ok (.invokevirtual 246, 3) := by decide +kernel
theorem dX10_brings_18 : decode cX10_brings 18 = .ok (.aload_n 0, 1) := by decide +kernel
theorem dX10_brings_19 : decode cX10_brings 19 = .ok (.aload_n 0, 1) := by decide +kernel
theorem dX10_brings_20 : decode cX10_brings 20 = .ok (.iconst 5, 1) := by decide +kernel
theorem dX10_brings_21 : decode cX10_brings 21 = .ok (.iload_n 1, 1) := by decide +kernel
theorem dX10_brings_22 : decode cX10_brings 22 = .ok (.iadd, 1) := by decide +kernel
theorem dX10_brings_23 : decode cX10_brings 23 = .ok (.invokevirtual 193, 3) := by decide +kernel
theorem dX10_brings_26 : decode cX10_brings 26 = .ok (.invokevirtual 304, 3) := by decide +kernel
theorem dX10_brings_29 : decode cX10_brings 29 = .ok (.ireturn, 1) := by decide +kernel
theorem dX10_pay_0 : decode cX10_pay 0 = .ok (.aload_n 0, 1) := by decide +kernel
theorem dX10_pay_1 : decode cX10_pay 1 = .ok (.iload_n 1, 1) := by decide +kernel
theorem dX10_pay_2 : decode cX10_pay 2 = .ok (.invokevirtual 203, 3) := by decide +kernel
theorem dX10_pay_5 : decode cX10_pay 5 = .ok (.ifCond .eq 22, 3) := by decide +kernel
theorem dX10_pay_8 : decode cX10_pay 8 = .ok (.iload_n 2, 1) := by decide +kernel
theorem dX10_pay_9 : decode cX10_pay 9 = .ok (.iconst 1, 1) := by decide +kernel
theorem dX10_pay_10 : decode cX10_pay 10 = .ok (.ldc 146, 2) := by decide +kernel
theorem dX10_pay_12 : decode cX10_pay 12 = .ok (.invokestatic 81, 3) := by decide +kernel
