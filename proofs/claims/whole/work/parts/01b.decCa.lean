theorem dX0_init_0 : decode cX0_init 0 = .ok (.aload_n 0, 1) := by decide +kernel
theorem dX0_init_1 : decode cX0_init 1 = .ok (.invokespecial 3, 3) := by decide +kernel
theorem dX0_init_4 : decode cX0_init 4 = .ok (.aload_n 0, 1) := by decide +kernel
theorem dX0_init_5 : decode cX0_init 5 = .ok (.iconst (-1), 1) := by decide +kernel
theorem dX0_init_6 : decode cX0_init 6 = .ok (.putfield 9, 3) := by decide +kernel
theorem dX0_init_9 : decode cX0_init 9 = .ok (.aload_n 0, 1) := by decide +kernel
theorem dX0_init_10 : decode cX0_init 10 = .ok (.bipush 30, 2) := by decide +kernel
theorem dX0_init_12 : decode cX0_init 12 = .ok (.newarray .int, 2) := by decide +kernel
theorem dX0_init_14 : decode cX0_init 14 = .ok (.putfield 15, 3) := by decide +kernel
theorem dX0_init_17 : decode cX0_init 17 = .ok (.aload_n 0, 1) := by decide +kernel
theorem dX0_init_18 : decode cX0_init 18 = .ok (.bipush 30, 2) := by decide +kernel
theorem dX0_init_20 : decode cX0_init 20 = .ok (.newarray .int, 2) := by decide +kernel
theorem dX0_init_22 : decode cX0_init 22 = .ok (.putfield 19, 3) := by decide +kernel
theorem dX0_init_25 : decode cX0_init 25 = .ok (.aload_n 0, 1) := by decide +kernel
theorem dX0_init_26 : decode cX0_init 26 = .ok (.bipush 30, 2) := by decide +kernel
theorem dX0_init_28 : decode cX0_init 28 = .ok (.newarray .int, 2) := by decide +kernel
theorem dX0_init_30 : decode cX0_init 30 = .ok (.putfield 22, 3) := by decide +kernel
theorem dX0_init_33 : decode cX0_init 33 = .ok (.aload_n 0, 1) := by decide +kernel
theorem dX0_init_34 : decode cX0_init 34 = .ok (.bipush 30, 2) := by decide +kernel
theorem dX0_init_36 : decode cX0_init 36 = .ok (.newarray .int, 2) := by decide +kernel
theorem dX0_init_38 : decode cX0_init 38 = .ok (.putfield 25, 3) := by decide +kernel
theorem dX0_init_41 : decode cX0_init 41 = .ok (.return_, 1) := by decide +kernel
theorem dX0_startRows_0 : decode cX0_startRows 0 = .ok (.aload_n 0, 1) := by decide +kernel
theorem dX0_startRows_1 : decode cX0_startRows 1 = .ok (.iconst 0, 1) := by decide +kernel
theorem dX0_startRows_2 : decode cX0_startRows 2 = .ok (.putfield 28, 3) := by decide +kernel
theorem dX0_startRows_5 : decode cX0_startRows 5 = .ok (.aload_n 0, 1) := by decide +kernel
theorem dX0_startRows_6 : decode cX0_startRows 6 = .ok (.iconst (-1), 1) := by decide +kernel
theorem dX0_startRows_7 : decode cX0_startRows 7 = .ok (.putfield 9, 3) := by decide +kernel
theorem dX0_startRows_10 : decode cX0_startRows 10 = .ok (.return_, 1) := by decide +kernel
theorem dX0_addRow_0 : decode cX0_addRow 0 = .ok (.aload_n 0, 1) := by decide +kernel
theorem dX0_addRow_1 : decode cX0_addRow 1 = .ok (.getfield 28, 3) := by decide +kernel
theorem dX0_addRow_4 : decode cX0_addRow 4 = .ok (.bipush 30, 2) := by decide +kernel
theorem dX0_addRow_6 : decode cX0_addRow 6 = .ok (.if_icmp .ge 23, 3) := by decide +kernel
theorem dX0_addRow_9 : decode cX0_addRow 9 = .ok (.aload_n 0, 1) := by decide +kernel
theorem dX0_addRow_10 : decode cX0_addRow 10 = .ok (.getfield 15, 3) := by decide +kernel
theorem dX0_addRow_13 : decode cX0_addRow 13 = .ok (.aload_n 0, 1) := by decide +kernel
theorem dX0_addRow_14 : decode cX0_addRow 14 = .ok (.getfield 28, 3) := by decide +kernel
theorem dX0_addRow_17 : decode cX0_addRow 17 = .ok (.iload_n 1, 1) := by decide +kernel
theorem dX0_addRow_18 : decode cX0_addRow 18 = .ok (.iastore, 1) := by decide +kernel
theorem dX0_addRow_19 : decode cX0_addRow 19 = .ok (.aload_n 0, 1) := by decide +kernel
theorem dX0_addRow_20 : decode cX0_addRow 20 = .ok (.dup, 1) := by decide +kernel
theorem dX0_addRow_21 : decode cX0_addRow 21 = .ok (.getfield 28, 3) := by decide +kernel
theorem dX0_addRow_24 : decode cX0_addRow 24 = .ok (.iconst 1, 1) := by decide +kernel
theorem dX0_addRow_25 : decode cX0_addRow 25 = .ok (.iadd, 1) := by decide +kernel
theorem dX0_addRow_26 : decode cX0_addRow 26 = .ok (.putfield 28, 3) := by decide +kernel
theorem dX0_addRow_29 : decode cX0_addRow 29 = .ok (.return_, 1) := by decide +kernel
theorem dX0_readActs_0 : decode cX0_readActs 0 = .ok (.aload_n 1, 1) := by decide +kernel
theorem dX0_readActs_1 : decode cX0_readActs 1 = .ok (.invokevirtual 31, 3) := by decide +kernel
theorem dX0_readActs_4 : decode cX0_readActs 4 = .ok (.iconst 0, 1) := by decide +kernel
theorem dX0_readActs_5 : decode cX0_readActs 5 = .ok (.istore_n 2, 1) := by decide +kernel
theorem dX0_readActs_6 : decode cX0_readActs 6 = .ok (.iconst 0, 1) := by decide +kernel
theorem dX0_readActs_7 : decode cX0_readActs 7 = .ok (.istore_n 3, 1) := by decide +kernel
theorem dX0_readActs_8 : decode cX0_readActs 8 = .ok (.iload_n 3, 1) := by decide +kernel
theorem dX0_readActs_9 : decode cX0_readActs 9 = .ok (.bipush 30, 2) := by decide +kernel
theorem dX0_readActs_11 : decode cX0_readActs 11 = .ok (.if_icmp .ge 30, 3) := by decide +kernel
theorem dX0_readActs_14 : decode cX0_readActs 14 = .ok (.aload_n 1, 1) := by decide +kernel
theorem dX0_readActs_15 : decode cX0_readActs 15 = .ok (.invokevirtual 36, 3) := by decide +kernel
theorem dX0_readActs_18 : decode cX0_readActs 18 = .ok (.ifCond .ne 23, 3) := by decide +kernel
theorem dX0_readActs_21 : decode cX0_readActs 21 = .ok (.aload_n 0, 1) := by decide +kernel
theorem dX0_readActs_22 : decode cX0_readActs 22 = .ok (.aload_n 1, 1) := by decide +kernel
theorem dX0_readActs_23 : decode cX0_readActs 23 = .ok (.iload_n 3, 1) := by decide +kernel
theorem dX0_readActs_24 : decode cX0_readActs 24 = .ok (.invokevirtual 40, 3) := by decide +kernel
theorem dX0_readActs_27 : decode cX0_readActs 27 = .ok (.ifCond .ne 5, 3) := by decide +kernel
theorem dX0_readActs_30 : decode cX0_readActs 30 = .ok (.iconst (-1), 1) := by decide +kernel
theorem dX0_readActs_31 : decode cX0_readActs 31 = .ok (.ireturn, 1) := by decide +kernel
theorem dX0_readActs_32 : decode cX0_readActs 32 = .ok (.iinc 2 1, 3) := by decide +kernel
theorem dX0_readActs_35 : decode cX0_readActs 35 = .ok (.iinc 3 1, 3) := by decide +kernel
theorem dX0_readActs_38 : decode cX0_readActs 38 = .ok (.goto (-30), 3) := by decide +kernel
theorem dX0_readActs_41 : decode cX0_readActs 41 = .ok (.aload_n 1, 1) := by decide +kernel
theorem dX0_readActs_42 : decode cX0_readActs 42 = .ok (.invokevirtual 44, 3) := by decide +kernel
theorem dX0_readActs_45 : decode cX0_readActs 45 = .ok (.ifCond .eq 7, 3) := by decide +kernel
theorem dX0_readActs_48 : decode cX0_readActs 48 = .ok (.iload_n 2, 1) := by decide +kernel
theorem dX0_readActs_49 : decode cX0_readActs 49 = .ok (.goto 4, 3) := by decide +kernel
theorem dX0_readActs_52 : decode cX0_readActs 52 = .ok (.iconst (-1), 1) := by decide +kernel
theorem dX0_readActs_53 : decode cX0_readActs 53 = .ok (.ireturn, 1) := by decide +kernel
theorem dX0_readAct_0 : decode cX0_readAct 0 = .ok (.aload_n 0, 1) := by decide +kernel
theorem dX0_readAct_1 : decode cX0_readAct 1 = .ok (.getfield 19, 3) := by decide +kernel
theorem dX0_readAct_4 : decode cX0_readAct 4 = .ok (.iload_n 2, 1) := by decide +kernel
theorem dX0_readAct_5 : decode cX0_readAct 5 = .ok (.aload_n 1, 1) := by decide +kernel
theorem dX0_readAct_6 : decode cX0_readAct 6 = .ok (.invokestatic 47, 3) := by decide +kernel
theorem dX0_readAct_9 : decode cX0_readAct 9 = .ok (.iastore, 1) := by decide +kernel
theorem dX0_readAct_10 : decode cX0_readAct 10 = .ok (.aload_n 0, 1) := by decide +kernel
theorem dX0_readAct_11 : decode cX0_readAct 11 = .ok (.getfield 22, 3) := by decide +kernel
theorem dX0_readAct_14 : decode cX0_readAct 14 = .ok (.iload_n 2, 1) := by decide +kernel
theorem dX0_readAct_15 : decode cX0_readAct 15 = .ok (.iconst 0, 1) := by decide +kernel
theorem dX0_readAct_16 : decode cX0_readAct 16 = .ok (.iastore, 1) := by decide +kernel
theorem dX0_readAct_17 : decode cX0_readAct 17 = .ok (.aload_n 0, 1) := by decide +kernel
theorem dX0_readAct_18 : decode cX0_readAct 18 = .ok (.getfield 25, 3) := by decide +kernel
theorem dX0_readAct_21 : decode cX0_readAct 21 = .ok (.iload_n 2, 1) := by decide +kernel
theorem dX0_readAct_22 : decode cX0_readAct 22 = .ok (.iconst 0, 1) := by decide +kernel
theorem dX0_readAct_23 : decode cX0_readAct 23 = .ok (.iastore, 1) := by decide +kernel
theorem dX0_readAct_24 : decode cX0_readAct 24 = .ok (.aload_n 0, 1) := by decide +kernel
theorem dX0_readAct_25 : decode cX0_readAct 25 = .ok (.getfield 19, 3) := by decide +kernel
theorem dX0_readAct_28 : decode cX0_readAct 28 = .ok (.iload_n 2, 1) := by decide +kernel
theorem dX0_readAct_29 : decode cX0_readAct 29 = .ok (.iaload, 1) := by decide +kernel
theorem dX0_readAct_30 : decode cX0_readAct 30 = .ok (.iconst (-1), 1) := by decide +kernel
theorem dX0_readAct_31 : decode cX0_readAct 31 = .ok (.if_icmp .ne 8, 3) := by decide +kernel
theorem dX0_readAct_34 : decode cX0_readAct 34 = .ok (.aload_n 1, 1) := by decide +kernel
theorem dX0_readAct_35 : decode cX0_readAct 35 = .ok (.invokevirtual 51, 3) := by decide +kernel
theorem dX0_readAct_38 : decode cX0_readAct 38 = .ok (.ireturn, 1) := by decide +kernel
theorem dX0_readAct_39 : decode cX0_readAct 39 = .ok (.aload_n 1, 1) := by decide +kernel
theorem dX0_readAct_40 : decode cX0_readAct 40 = .ok (.invokevirtual 54, 3) := by decide +kernel
theorem dX0_readAct_43 : decode cX0_readAct 43 = .ok (.aload_n 0, 1) := by decide +kernel
theorem dX0_readAct_44 : decode cX0_readAct 44 = .ok (.aload_n 1, 1) := by decide +kernel
theorem dX0_readAct_45 : decode cX0_readAct 45 = .ok (.iload_n 2, 1) := by decide +kernel
theorem dX0_readAct_46 : decode cX0_readAct 46 = .ok (.invokevirtual 57, 3) := by decide +kernel
theorem dX0_readAct_49 : decode cX0_readAct 49 = .ok (.ifCond .eq 25, 3) := by decide +kernel
theorem dX0_readAct_52 : decode cX0_readAct 52 = .ok (.aload_n 0, 1) := by decide +kernel
theorem dX0_readAct_53 : decode cX0_readAct 53 = .ok (.aload_n 1, 1) := by decide +kernel
theorem dX0_readAct_54 : decode cX0_readAct 54 = .ok (.iload_n 2, 1) := by decide +kernel
theorem dX0_readAct_55 : decode cX0_readAct 55 = .ok (.invokevirtual 60, 3) := by decide +kernel
theorem dX0_readAct_58 : decode cX0_readAct 58 = .ok (.ifCond .eq 16, 3) := by decide +kernel
theorem dX0_readAct_61 : decode cX0_readAct 61 = .ok (.aload_n 1, 1) := by decide +kernel
theorem dX0_readAct_62 : decode cX0_readAct 62 = .ok (.bipush 59, 2) := by decide +kernel
theorem dX0_readAct_64 : decode cX0_readAct 64 = .ok (.invokevirtual 63, 3) := by decide +kernel
theorem dX0_readAct_67 : decode cX0_readAct 67 = .ok (.ifCond .eq 7, 3) := by decide +kernel
theorem dX0_readAct_70 : decode cX0_readAct 70 = .ok (.iconst 1, 1) := by decide +kernel
theorem dX0_readAct_71 : decode cX0_readAct 71 = .ok (.goto 4, 3) := by decide +kernel
theorem dX0_readAct_74 : decode cX0_readAct 74 = .ok (.iconst 0, 1) := by decide +kernel
theorem dX0_readAct_75 : decode cX0_readAct 75 = .ok (.ireturn, 1) := by decide +kernel
theorem dX0_readWho_0 : decode cX0_readWho 0 = .ok (.aload_n 0, 1) := by decide +kernel
theorem dX0_readWho_1 : decode cX0_readWho 1 = .ok (.getfield 19, 3) := by decide +kernel
theorem dX0_readWho_4 : decode cX0_readWho 4 = .ok (.iload_n 2, 1) := by decide +kernel
theorem dX0_readWho_5 : decode cX0_readWho 5 = .ok (.iaload, 1) := by decide +kernel
theorem dX0_readWho_6 : decode cX0_readWho 6 = .ok (.tableswitch 69 0 5 #[38, 38, 40, 40, 40, 40], 38) := by decide +kernel
theorem dX0_readWho_44 : decode cX0_readWho 44 = .ok (.iconst 1, 1) := by decide +kernel
theorem dX0_readWho_45 : decode cX0_readWho 45 = .ok (.ireturn, 1) := by decide +kernel
theorem dX0_readWho_46 : decode cX0_readWho 46 = .ok (.aload_n 0, 1) := by decide +kernel
theorem dX0_readWho_47 : decode cX0_readWho 47 = .ok (.getfield 22, 3) := by decide +kernel
theorem dX0_readWho_50 : decode cX0_readWho 50 = .ok (.iload_n 2, 1) := by decide +kernel
theorem dX0_readWho_51 : decode cX0_readWho 51 = .ok (.aload_n 1, 1) := by decide +kernel
theorem dX0_readWho_52 : decode cX0_readWho 52 = .ok (.iconst 0, 1) := by decide +kernel
theorem dX0_readWho_53 : decode cX0_readWho 53 = .ok (.bipush 7, 2) := by decide +kernel
theorem dX0_readWho_55 : decode cX0_readWho 55 = .ok (.invokevirtual 67, 3) := by decide +kernel
theorem dX0_readWho_58 : decode cX0_readWho 58 = .ok (.iastore, 1) := by decide +kernel
theorem dX0_readWho_59 : decode cX0_readWho 59 = .ok (.aload_n 0, 1) := by decide +kernel
theorem dX0_readWho_60 : decode cX0_readWho 60 = .ok (.getfield 22, 3) := by decide +kernel
theorem dX0_readWho_63 : decode cX0_readWho 63 = .ok (.iload_n 2, 1) := by decide +kernel
theorem dX0_readWho_64 : decode cX0_readWho 64 = .ok (.iaload, 1) := by decide +kernel
theorem dX0_readWho_65 : decode cX0_readWho 65 = .ok (.iconst (-1), 1) := by decide +kernel
theorem dX0_readWho_66 : decode cX0_readWho 66 = .ok (.if_icmp .eq 7, 3) := by decide +kernel
theorem dX0_readWho_69 : decode cX0_readWho 69 = .ok (.iconst 1, 1) := by decide +kernel
theorem dX0_readWho_70 : decode cX0_readWho 70 = .ok (.goto 4, 3) := by decide +kernel
theorem dX0_readWho_73 : decode cX0_readWho 73 = .ok (.iconst 0, 1) := by decide +kernel
theorem dX0_readWho_74 : decode cX0_readWho 74 = .ok (.ireturn, 1) := by decide +kernel
theorem dX0_readWho_75 : decode cX0_readWho 75 = .ok (.aload_n 0, 1) := by decide +kernel
theorem dX0_readWho_76 : decode cX0_readWho 76 = .ok (.getfield 22, 3) := by decide +kernel
theorem dX0_readWho_79 : decode cX0_readWho 79 = .ok (.iload_n 2, 1) := by decide +kernel
theorem dX0_readWho_80 : decode cX0_readWho 80 = .ok (.aload_n 1, 1) := by decide +kernel
theorem dX0_readWho_81 : decode cX0_readWho 81 = .ok (.invokevirtual 71, 3) := by decide +kernel
theorem dX0_readWho_84 : decode cX0_readWho 84 = .ok (.iastore, 1) := by decide +kernel
theorem dX0_readWho_85 : decode cX0_readWho 85 = .ok (.aload_n 0, 1) := by decide +kernel
theorem dX0_readWho_86 : decode cX0_readWho 86 = .ok (.getfield 22, 3) := by decide +kernel
theorem dX0_readWho_89 : decode cX0_readWho 89 = .ok (.iload_n 2, 1) := by decide +kernel
theorem dX0_readWho_90 : decode cX0_readWho 90 = .ok (.iaload, 1) := by decide +kernel
theorem dX0_readWho_91 : decode cX0_readWho 91 = .ok (.iconst (-1), 1) := by decide +kernel
theorem dX0_readWho_92 : decode cX0_readWho 92 = .ok (.if_icmp .eq 7, 3) := by decide +kernel
theorem dX0_readWho_95 : decode cX0_readWho 95 = .ok (.iconst 1, 1) := by decide +kernel
theorem dX0_readWho_96 : decode cX0_readWho 96 = .ok (.goto 4, 3) := by decide +kernel
theorem dX0_readWho_99 : decode cX0_readWho 99 = .ok (.iconst 0, 1) := by decide +kernel
theorem dX0_readWho_100 : decode cX0_readWho 100 = .ok (.ireturn, 1) := by decide +kernel
theorem dX0_readAmount_0 : decode cX0_readAmount 0 = .ok (.aload_n 0, 1) := by decide +kernel
theorem dX0_readAmount_1 : decode cX0_readAmount 1 = .ok (.getfield 19, 3) := by decide +kernel
theorem dX0_readAmount_4 : decode cX0_readAmount 4 = .ok (.iload_n 2, 1) := by decide +kernel
theorem dX0_readAmount_5 : decode cX0_readAmount 5 = .ok (.iaload, 1) := by decide +kernel
theorem dX0_readAmount_6 : decode cX0_readAmount 6 = .ok (.ifCond .eq 14, 3) := by decide +kernel
theorem dX0_readAmount_9 : decode cX0_readAmount 9 = .ok (.aload_n 0, 1) := by decide +kernel
theorem dX0_readAmount_10 : decode cX0_readAmount 10 = .ok (.getfield 19, 3) := by decide +kernel
theorem dX0_readAmount_13 : decode cX0_readAmount 13 = .ok (.iload_n 2, 1) := by decide +kernel
theorem dX0_readAmount_14 : decode cX0_readAmount 14 = .ok (.iaload, 1) := by decide +kernel
theorem dX0_readAmount_15 : decode cX0_readAmount 15 = .ok (.bipush 9, 2) := by decide +kernel
theorem dX0_readAmount_17 : decode cX0_readAmount 17 = .ok (.if_icmp .ne 5, 3) := by decide +kernel
theorem dX0_readAmount_20 : decode cX0_readAmount 20 = .ok (.iconst 1, 1) := by decide +kernel
theorem dX0_readAmount_21 : decode cX0_readAmount 21 = .ok (.ireturn, 1) := by decide +kernel
theorem dX0_readAmount_22 : decode cX0_readAmount 22 = .ok (.aload_n 0, 1) := by decide +kernel
theorem dX0_readAmount_23 : decode cX0_readAmount 23 = .ok (.getfield 19, 3) := by decide +kernel
theorem dX0_readAmount_26 : decode cX0_readAmount 26 = .ok (.iload_n 2, 1) := by decide +kernel
theorem dX0_readAmount_27 : decode cX0_readAmount 27 = .ok (.iaload, 1) := by decide +kernel
theorem dX0_readAmount_28 : decode cX0_readAmount 28 = .ok (.iconst 1, 1) := by decide +kernel
theorem dX0_readAmount_29 : decode cX0_readAmount 29 = .ok (.if_icmp .ne 16, 3) := by decide +kernel
theorem dX0_readAmount_32 : decode cX0_readAmount 32 = .ok (.aload_n 1, 1) := by decide +kernel
theorem dX0_readAmount_33 : decode cX0_readAmount 33 = .ok (.bipush 45, 2) := by decide +kernel
theorem dX0_readAmount_35 : decode cX0_readAmount 35 = .ok (.invokevirtual 75, 3) := by decide +kernel
theorem dX0_readAmount_38 : decode cX0_readAmount 38 = .ok (.ifCond .eq 7, 3) := by decide +kernel
theorem dX0_readAmount_41 : decode cX0_readAmount 41 = .ok (.iconst 1, 1) := by decide +kernel
theorem dX0_readAmount_42 : decode cX0_readAmount 42 = .ok (.goto 4, 3) := by decide +kernel
theorem dX0_readAmount_45 : decode cX0_readAmount 45 = .ok (.iconst 0, 1) := by decide +kernel
theorem dX0_readAmount_46 : decode cX0_readAmount 46 = .ok (.istore_n 3, 1) := by decide +kernel
theorem dX0_readAmount_47 : decode cX0_readAmount 47 = .ok (.iload_n 3, 1) := by decide +kernel
theorem dX0_readAmount_48 : decode cX0_readAmount 48 = .ok (.ifCond .eq 7, 3) := by decide +kernel
theorem dX0_readAmount_51 : decode cX0_readAmount 51 = .ok (.aload_n 1, 1) := by decide +kernel
theorem dX0_readAmount_52 : decode cX0_readAmount 52 = .ok (.invokevirtual 54, 3) := by decide +kernel
theorem dX0_readAmount_55 : decode cX0_readAmount 55 = .ok (.aload_n 1, 1) := by decide +kernel
theorem dX0_readAmount_56 : decode cX0_readAmount 56 = .ok (.iconst 0, 1) := by decide +kernel
theorem dX0_readAmount_57 : decode cX0_readAmount 57 = .ok (.ldc 78, 2) := by decide +kernel
theorem dX0_readAmount_59 : decode cX0_readAmount 59 = .ok (.invokevirtual 67, 3) := by decide +kernel
theorem dX0_readAmount_62 : decode cX0_readAmount 62 = .ok (.istore 4, 2) := by decide +kernel
theorem dX0_readAmount_64 : decode cX0_readAmount 64 = .ok (.aload_n 0, 1) := by decide +kernel
theorem dX0_readAmount_65 : decode cX0_readAmount 65 = .ok (.getfield 25, 3) := by decide +kernel
theorem dX0_readAmount_68 : decode cX0_readAmount 68 = .ok (.iload_n 2, 1) := by decide +kernel
theorem dX0_readAmount_69 : decode cX0_readAmount 69 = .ok (.iload_n 3, 1) := by decide +kernel
theorem dX0_readAmount_70 : decode cX0_readAmount 70 = .ok (.ifCond .eq 9, 3) := by decide +kernel
theorem dX0_readAmount_73 : decode cX0_readAmount 73 = .ok (.iload 4, 2) := by decide +kernel
theorem dX0_readAmount_75 : decode cX0_readAmount 75 = .ok (.ineg, 1) := by decide +kernel
theorem dX0_readAmount_76 : decode cX0_readAmount 76 = .ok (.goto 5, 3) := by decide +kernel
theorem dX0_readAmount_79 : decode cX0_readAmount 79 = .ok (.iload 4, 2) := by decide +kernel
theorem dX0_readAmount_81 : decode cX0_readAmount 81 = .ok (.iastore, 1) := by decide +kernel
theorem dX0_readAmount_82 : decode cX0_readAmount 82 = .ok (.iload 4, 2) := by decide +kernel
theorem dX0_readAmount_84 : decode cX0_readAmount 84 = .ok (.iconst (-1), 1) := by decide +kernel
theorem dX0_readAmount_85 : decode cX0_readAmount 85 = .ok (.if_icmp .eq 7, 3) := by decide +kernel
theorem dX0_readAmount_88 : decode cX0_readAmount 88 = .ok (.iconst 1, 1) := by decide +kernel
theorem dX0_readAmount_89 : decode cX0_readAmount 89 = .ok (.goto 4, 3) := by decide +kernel
theorem dX0_readAmount_92 : decode cX0_readAmount 92 = .ok (.iconst 0, 1) := by decide +kernel
theorem dX0_readAmount_93 : decode cX0_readAmount 93 = .ok (.ireturn, 1) := by decide +kernel
theorem dX0_actHere_0 : decode cX0_actHere 0 = .ok (.aload_n 0, 1) := by decide +kernel
theorem dX0_actHere_1 : decode cX0_actHere 1 = .ok (.ldc 79, 2) := by decide +kernel
theorem dX0_actHere_3 : decode cX0_actHere 3 = .ok (.invokevirtual 81, 3) := by decide +kernel
theorem dX0_actHere_6 : decode cX0_actHere 6 = .ok (.ifCond .eq 5, 3) := by decide +kernel
theorem dX0_actHere_9 : decode cX0_actHere 9 = .ok (.iconst 0, 1) := by decide +kernel
theorem dX0_actHere_10 : decode cX0_actHere 10 = .ok (.ireturn, 1) := by decide +kernel
theorem dX0_actHere_11 : decode cX0_actHere 11 = .ok (.aload_n 0, 1) := by decide +kernel
theorem dX0_actHere_12 : decode cX0_actHere 12 = .ok (.ldc 85, 2) := by decide +kernel
theorem dX0_actHere_14 : decode cX0_actHere 14 = .ok (.invokevirtual 81, 3) := by decide +kernel
theorem dX0_actHere_17 : decode cX0_actHere 17 = .ok (.ifCond .eq 5, 3) := by decide +kernel
theorem dX0_actHere_20 : decode cX0_actHere 20 = .ok (.iconst 1, 1) := by decide +kernel
theorem dX0_actHere_21 : decode cX0_actHere 21 = .ok (.ireturn, 1) := by decide +kernel
theorem dX0_actHere_22 : decode cX0_actHere 22 = .ok (.aload_n 0, 1) := by decide +kernel
theorem dX0_actHere_23 : decode cX0_actHere 23 = .ok (.ldc 87, 2) := by decide +kernel
theorem dX0_actHere_25 : decode cX0_actHere 25 = .ok (.invokevirtual 81, 3) := by decide +kernel
theorem dX0_actHere_28 : decode cX0_actHere 28 = .ok (.ifCond .eq 5, 3) := by decide +kernel
theorem dX0_actHere_31 : decode cX0_actHere 31 = .ok (.iconst 2, 1) := by decide +kernel
theorem dX0_actHere_32 : decode cX0_actHere 32 = .ok (.ireturn, 1) := by decide +kernel
theorem dX0_actHere_33 : decode cX0_actHere 33 = .ok (.aload_n 0, 1) := by decide +kernel
theorem dX0_actHere_34 : decode cX0_actHere 34 = .ok (.ldc 89, 2) := by decide +kernel
theorem dX0_actHere_36 : decode cX0_actHere 36 = .ok (.invokevirtual 81, 3) := by decide +kernel
theorem dX0_actHere_39 : decode cX0_actHere 39 = .ok (.ifCond .eq 5, 3) := by decide +kernel
theorem dX0_actHere_42 : decode cX0_actHere 42 = .ok (.iconst 3, 1) := by decide +kernel
theorem dX0_actHere_43 : decode cX0_actHere 43 = .ok (.ireturn, 1) := by decide +kernel
theorem dX0_actHere_44 : decode cX0_actHere 44 = .ok (.aload_n 0, 1) := by decide +kernel
theorem dX0_actHere_45 : decode cX0_actHere 45 = .ok (.ldc 91, 2) := by decide +kernel
theorem dX0_actHere_47 : decode cX0_actHere 47 = .ok (.invokevirtual 81, 3) := by decide +kernel
theorem dX0_actHere_50 : decode cX0_actHere 50 = .ok (.ifCond .eq 5, 3) := by decide +kernel
theorem dX0_actHere_53 : decode cX0_actHere 53 = .ok (.iconst 4, 1) := by decide +kernel
theorem dX0_actHere_54 : decode cX0_actHere 54 = .ok (.ireturn, 1) := by decide +kernel
theorem dX0_actHere_55 : decode cX0_actHere 55 = .ok (.aload_n 0, 1) := by decide +kernel
theorem dX0_actHere_56 : decode cX0_actHere 56 = .ok (.ldc 93, 2) := by decide +kernel
theorem dX0_actHere_58 : decode cX0_actHere 58 = .ok (.invokevirtual 81, 3) := by decide +kernel
theorem dX0_actHere_61 : decode cX0_actHere 61 = .ok (.ifCond .eq 5, 3) := by decide +kernel
theorem dX0_actHere_64 : decode cX0_actHere 64 = .ok (.iconst 5, 1) := by decide +kernel
theorem dX0_actHere_65 : decode cX0_actHere 65 = .ok (.ireturn, 1) := by decide +kernel
theorem dX0_actHere_66 : decode cX0_actHere 66 = .ok (.aload_n 0, 1) := by decide +kernel
theorem dX0_actHere_67 : decode cX0_actHere 67 = .ok (.ldc 95, 2) := by decide +kernel
theorem dX0_actHere_69 : decode cX0_actHere 69 = .ok (.invokevirtual 81, 3) := by decide +kernel
theorem dX0_actHere_72 : decode cX0_actHere 72 = .ok (.ifCond .eq 6, 3) := by decide +kernel
theorem dX0_actHere_75 : decode cX0_actHere 75 = .ok (.bipush 6, 2) := by decide +kernel
theorem dX0_actHere_77 : decode cX0_actHere 77 = .ok (.ireturn, 1) := by decide +kernel
theorem dX0_actHere_78 : decode cX0_actHere 78 = .ok (.aload_n 0, 1) := by decide +kernel
theorem dX0_actHere_79 : decode cX0_actHere 79 = .ok (.ldc 97, 2) := by decide +kernel
theorem dX0_actHere_81 : decode cX0_actHere 81 = .ok (.invokevirtual 81, 3) := by decide +kernel
theorem dX0_actHere_84 : decode cX0_actHere 84 = .ok (.ifCond .eq 6, 3) := by decide +kernel
theorem dX0_actHere_87 : decode cX0_actHere 87 = .ok (.bipush 7, 2) := by decide +kernel
theorem dX0_actHere_89 : decode cX0_actHere 89 = .ok (.ireturn, 1) := by decide +kernel
theorem dX0_actHere_90 : decode cX0_actHere 90 = .ok (.aload_n 0, 1) := by decide +kernel
theorem dX0_actHere_91 : decode cX0_actHere 91 = .ok (.ldc 99, 2) := by decide +kernel
theorem dX0_actHere_93 : decode cX0_actHere 93 = .ok (.invokevirtual 81, 3) := by decide +kernel
theorem dX0_actHere_96 : decode cX0_actHere 96 = .ok (.ifCond .eq 6, 3) := by decide +kernel
theorem dX0_actHere_99 : decode cX0_actHere 99 = .ok (.bipush 8, 2) := by decide +kernel
theorem dX0_actHere_101 : decode cX0_actHere 101 = .ok (.ireturn, 1) := by decide +kernel
theorem dX0_actHere_102 : decode cX0_actHere 102 = .ok (.aload_n 0, 1) := by decide +kernel
theorem dX0_actHere_103 : decode cX0_actHere 103 = .ok (.ldc 101, 2) := by decide +kernel
theorem dX0_actHere_105 : decode cX0_actHere 105 = .ok (.invokevirtual 81, 3) := by decide +kernel
theorem dX0_actHere_108 : decode cX0_actHere 108 = .ok (.ifCond .eq 8, 3) := by decide +kernel
theorem dX0_actHere_111 : decode cX0_actHere 111 = .ok (.bipush 9, 2) := by decide +kernel
theorem dX0_actHere_113 : decode cX0_actHere 113 = .ok (.goto 4, 3) := by decide +kernel
theorem dX0_actHere_116 : decode cX0_actHere 116 = .ok (.iconst (-1), 1) := by decide +kernel
theorem dX0_actHere_117 : decode cX0_actHere 117 = .ok (.ireturn, 1) := by decide +kernel
theorem dX1_init_0 : decode cX1_init 0 = .ok (.aload_n 0, 1) := by decide +kernel
theorem dX1_init_1 : decode cX1_init 1 = .ok (.invokespecial 3, 3) := by decide +kernel
theorem dX1_init_4 : decode cX1_init 4 = .ok (.aload_n 0, 1) := by decide +kernel
theorem dX1_init_5 : decode cX1_init 5 = .ok (.bipush 8, 2) := by decide +kernel
theorem dX1_init_7 : decode cX1_init 7 = .ok (.newarray .int, 2) := by decide +kernel
theorem dX1_init_9 : decode cX1_init 9 = .ok (.putfield 9, 3) := by decide +kernel
theorem dX1_init_12 : decode cX1_init 12 = .ok (.aload_n 0, 1) := by decide +kernel
theorem dX1_init_13 : decode cX1_init 13 = .ok (.bipush 8, 2) := by decide +kernel
theorem dX1_init_15 : decode cX1_init 15 = .ok (.newarray .int, 2) := by decide +kernel
theorem dX1_init_17 : decode cX1_init 17 = .ok (.putfield 15, 3) := by decide +kernel
theorem dX1_init_20 : decode cX1_init 20 = .ok (.aload_n 0, 1) := by decide +kernel
theorem dX1_init_21 : decode cX1_init 21 = .ok (.bipush 8, 2) := by decide +kernel
theorem dX1_init_23 : decode cX1_init 23 = .ok (.newarray .int, 2) := by decide +kernel
theorem dX1_init_25 : decode cX1_init 25 = .ok (.putfield 18, 3) := by decide +kernel
theorem dX1_init_28 : decode cX1_init 28 = .ok (.aload_n 0, 1) := by decide +kernel
theorem dX1_init_29 : decode cX1_init 29 = .ok (.bipush 8, 2) := by decide +kernel
theorem dX1_init_31 : decode cX1_init 31 = .ok (.newarray .int, 2) := by decide +kernel
theorem dX1_init_33 : decode cX1_init 33 = .ok (.putfield 21, 3) := by decide +kernel
theorem dX1_init_36 : decode cX1_init 36 = .ok (.aload_n 0, 1) := by decide +kernel
theorem dX1_init_37 : decode cX1_init 37 = .ok (.bipush 8, 2) := by decide +kernel
theorem dX1_init_39 : decode cX1_init 39 = .ok (.newarray .int, 2) := by decide +kernel
theorem dX1_init_41 : decode cX1_init 41 = .ok (.putfield 24, 3) := by decide +kernel
theorem dX1_init_44 : decode cX1_init 44 = .ok (.aload_n 0, 1) := by decide +kernel
theorem dX1_init_45 : decode cX1_init 45 = .ok (.bipush 8, 2) := by decide +kernel
theorem dX1_init_47 : decode cX1_init 47 = .ok (.newarray .int, 2) := by decide +kernel
theorem dX1_init_49 : decode cX1_init 49 = .ok (.putfield 27, 3) := by decide +kernel
theorem dX1_init_52 : decode cX1_init 52 = .ok (.aload_n 0, 1) := by decide +kernel
theorem dX1_init_53 : decode cX1_init 53 = .ok (.bipush 8, 2) := by decide +kernel
theorem dX1_init_55 : decode cX1_init 55 = .ok (.newarray .int, 2) := by decide +kernel
theorem dX1_init_57 : decode cX1_init 57 = .ok (.putfield 30, 3) := by decide +kernel
theorem dX1_init_60 : decode cX1_init 60 = .ok (.aload_n 0, 1) := by decide +kernel
theorem dX1_init_61 : decode cX1_init 61 = .ok (.bipush 8, 2) := by decide +kernel
theorem dX1_init_63 : decode cX1_init 63 = .ok (.newarray .int, 2) := by decide +kernel
theorem dX1_init_65 : decode cX1_init 65 = .ok (.putfield 33, 3) := by decide +kernel
theorem dX1_init_68 : decode cX1_init 68 = .ok (.return_, 1) := by decide +kernel
theorem dX1_copyBooks_0 : decode cX1_copyBooks 0 = .ok (.aload_n 0, 1) := by decide +kernel
theorem dX1_copyBooks_1 : decode cX1_copyBooks 1 = .ok (.aload_n 1, 1) := by decide +kernel
theorem dX1_copyBooks_2 : decode cX1_copyBooks 2 = .ok (.getfield 36, 3) := by decide +kernel
theorem dX1_copyBooks_5 : decode cX1_copyBooks 5 = .ok (.putfield 36, 3) := by decide +kernel
theorem dX1_copyBooks_8 : decode cX1_copyBooks 8 = .ok (.aload_n 0, 1) := by decide +kernel
theorem dX1_copyBooks_9 : decode cX1_copyBooks 9 = .ok (.aload_n 1, 1) := by decide +kernel
theorem dX1_copyBooks_10 : decode cX1_copyBooks 10 = .ok (.getfield 40, 3) := by decide +kernel
theorem dX1_copyBooks_13 : decode cX1_copyBooks 13 = .ok (.putfield 40, 3) := by decide +kernel
theorem dX1_copyBooks_16 : decode cX1_copyBooks 16 = .ok (.aload_n 0, 1) := by decide +kernel
theorem dX1_copyBooks_17 : decode cX1_copyBooks 17 = .ok (.aload_n 1, 1) := by decide +kernel
theorem dX1_copyBooks_18 : decode cX1_copyBooks 18 = .ok (.getfield 43, 3) := by decide +kernel
theorem dX1_copyBooks_21 : decode cX1_copyBooks 21 = .ok (.putfield 43, 3) := by decide +kernel
theorem dX1_copyBooks_24 : decode cX1_copyBooks 24 = .ok (.aload_n 0, 1) := by decide +kernel
theorem dX1_copyBooks_25 : decode cX1_copyBooks 25 = .ok (.aload_n 1, 1) := by decide +kernel
theorem dX1_copyBooks_26 : decode cX1_copyBooks 26 = .ok (.getfield 46, 3) := by decide +kernel
theorem dX1_copyBooks_29 : decode cX1_copyBooks 29 = .ok (.putfield 46, 3) := by decide +kernel
theorem dX1_copyBooks_32 : decode cX1_copyBooks 32 = .ok (.aload_n 0, 1) := by decide +kernel
theorem dX1_copyBooks_33 : decode cX1_copyBooks 33 = .ok (.aload_n 1, 1) := by decide +kernel
theorem dX1_copyBooks_34 : decode cX1_copyBooks 34 = .ok (.getfield 49, 3) := by decide +kernel
theorem dX1_copyBooks_37 : decode cX1_copyBooks 37 = .ok (.putfield 49, 3) := by decide +kernel
theorem dX1_copyBooks_40 : decode cX1_copyBooks 40 = .ok (.aload_n 0, 1) := by decide +kernel
theorem dX1_copyBooks_41 : decode cX1_copyBooks 41 = .ok (.aload_n 1, 1) := by decide +kernel
theorem dX1_copyBooks_42 : decode cX1_copyBooks 42 = .ok (.getfield 52, 3) := by decide +kernel
theorem dX1_copyBooks_45 : decode cX1_copyBooks 45 = .ok (.putfield 52, 3) := by decide +kernel
theorem dX1_copyBooks_48 : decode cX1_copyBooks 48 = .ok (.aload_n 1, 1) := by decide +kernel
theorem dX1_copyBooks_49 : decode cX1_copyBooks 49 = .ok (.getfield 9, 3) := by decide +kernel
theorem dX1_copyBooks_52 : decode cX1_copyBooks 52 = .ok (.aload_n 0, 1) := by decide +kernel
theorem dX1_copyBooks_53 : decode cX1_copyBooks 53 = .ok (.getfield 9, 3) := by decide +kernel
theorem dX1_copyBooks_56 : decode cX1_copyBooks 56 = .ok (.invokestatic 55, 3) := by decide +kernel
theorem dX1_copyBooks_59 : decode cX1_copyBooks 59 = .ok (.aload_n 1, 1) := by decide +kernel
theorem dX1_copyBooks_60 : decode cX1_copyBooks 60 = .ok (.getfield 15, 3) := by decide +kernel
theorem dX1_copyBooks_63 : decode cX1_copyBooks 63 = .ok (.aload_n 0, 1) := by decide +kernel
theorem dX1_copyBooks_64 : decode cX1_copyBooks 64 = .ok (.getfield 15, 3) := by decide +kernel
theorem dX1_copyBooks_67 : decode cX1_copyBooks 67 = .ok (.invokestatic 55, 3) := by decide +kernel
theorem dX1_copyBooks_70 : decode cX1_copyBooks 70 = .ok (.aload_n 1, 1) := by decide +kernel
theorem dX1_copyBooks_71 : decode cX1_copyBooks 71 = .ok (.getfield 18, 3) := by decide +kernel
theorem dX1_copyBooks_74 : decode cX1_copyBooks 74 = .ok (.aload_n 0, 1) := by decide +kernel
theorem dX1_copyBooks_75 : decode cX1_copyBooks 75 = .ok (.getfield 18, 3) := by decide +kernel
theorem dX1_copyBooks_78 : decode cX1_copyBooks 78 = .ok (.invokestatic 55, 3) := by decide +kernel
theorem dX1_copyBooks_81 : decode cX1_copyBooks 81 = .ok (.aload_n 1, 1) := by decide +kernel
theorem dX1_copyBooks_82 : decode cX1_copyBooks 82 = .ok (.getfield 21, 3) := by decide +kernel
theorem dX1_copyBooks_85 : decode cX1_copyBooks 85 = .ok (.aload_n 0, 1) := by decide +kernel
theorem dX1_copyBooks_86 : decode cX1_copyBooks 86 = .ok (.getfield 21, 3) := by decide +kernel
theorem dX1_copyBooks_89 : decode cX1_copyBooks 89 = .ok (.invokestatic 55, 3) := by decide +kernel
theorem dX1_copyBooks_92 : decode cX1_copyBooks 92 = .ok (.aload_n 1, 1) := by decide +kernel
theorem dX1_copyBooks_93 : decode cX1_copyBooks 93 = .ok (.getfield 24, 3) := by decide +kernel
theorem dX1_copyBooks_96 : decode cX1_copyBooks 96 = .ok (.aload_n 0, 1) := by decide +kernel
theorem dX1_copyBooks_97 : decode cX1_copyBooks 97 = .ok (.getfield 24, 3) := by decide +kernel
theorem dX1_copyBooks_100 : decode cX1_copyBooks 100 = .ok (.invokestatic 55, 3) := by decide +kernel
theorem dX1_copyBooks_103 : decode cX1_copyBooks 103 = .ok (.aload_n 1, 1) := by decide +kernel
theorem dX1_copyBooks_104 : decode cX1_copyBooks 104 = .ok (.getfield 27, 3) := by decide +kernel
theorem dX1_copyBooks_107 : decode cX1_copyBooks 107 = .ok (.aload_n 0, 1) := by decide +kernel
theorem dX1_copyBooks_108 : decode cX1_copyBooks 108 = .ok (.getfield 27, 3) := by decide +kernel
theorem dX1_copyBooks_111 : decode cX1_copyBooks 111 = .ok (.invokestatic 55, 3) := by decide +kernel
theorem dX1_copyBooks_114 : decode cX1_copyBooks 114 = .ok (.aload_n 1, 1) := by decide +kernel
theorem dX1_copyBooks_115 : decode cX1_copyBooks 115 = .ok (.getfield 30, 3) := by decide +kernel
theorem dX1_copyBooks_118 : decode cX1_copyBooks 118 = .ok (.aload_n 0, 1) := by decide +kernel
theorem dX1_copyBooks_119 : decode cX1_copyBooks 119 = .ok (.getfield 30, 3) := by decide +kernel
theorem dX1_copyBooks_122 : decode cX1_copyBooks 122 = .ok (.invokestatic 55, 3) := by decide +kernel
theorem dX1_copyBooks_125 : decode cX1_copyBooks 125 = .ok (.aload_n 1, 1) := by decide +kernel
theorem dX1_copyBooks_126 : decode cX1_copyBooks 126 = .ok (.getfield 33, 3) := by decide +kernel
theorem dX1_copyBooks_129 : decode cX1_copyBooks 129 = .ok (.aload_n 0, 1) := by decide +kernel
theorem dX1_copyBooks_130 : decode cX1_copyBooks 130 = .ok (.getfield 33, 3) := by decide +kernel
theorem dX1_copyBooks_133 : decode cX1_copyBooks 133 = .ok (.invokestatic 55, 3) := by decide +kernel
theorem dX1_copyBooks_136 : decode cX1_copyBooks 136 = .ok (.return_, 1) := by decide +kernel
theorem dX1_hasPartner_0 : decode cX1_hasPartner 0 = .ok (.iload_n 1, 1) := by decide +kernel
theorem dX1_hasPartner_1 : decode cX1_hasPartner 1 = .ok (.ifCond .lt 24, 3) := by decide +kernel
theorem dX1_hasPartner_4 : decode cX1_hasPartner 4 = .ok (.iload_n 1, 1) := by decide +kernel
theorem dX1_hasPartner_5 : decode cX1_hasPartner 5 = .ok (.bipush 8, 2) := by decide +kernel
theorem dX1_hasPartner_7 : decode cX1_hasPartner 7 = .ok (.if_icmp .ge 18, 3) := by decide +kernel
theorem dX1_hasPartner_10 : decode cX1_hasPartner 10 = .ok (.aload_n 0, 1) := by decide +kernel
theorem dX1_hasPartner_11 : decode cX1_hasPartner 11 = .ok (.getfield 36, 3) := by decide +kernel
theorem dX1_hasPartner_14 : decode cX1_hasPartner 14 = .ok (.iload_n 1, 1) := by decide +kernel
theorem dX1_hasPartner_15 : decode cX1_hasPartner 15 = .ok (.ishr, 1) := by decide +kernel
theorem dX1_hasPartner_16 : decode cX1_hasPartner 16 = .ok (.iconst 1, 1) := by decide +kernel
theorem dX1_hasPartner_17 : decode cX1_hasPartner 17 = .ok (.iand, 1) := by decide +kernel
theorem dX1_hasPartner_18 : decode cX1_hasPartner 18 = .ok (.ifCond .eq 7, 3) := by decide +kernel
theorem dX1_hasPartner_21 : decode cX1_hasPartner 21 = .ok (.iconst 1, 1) := by decide +kernel
theorem dX1_hasPartner_22 : decode cX1_hasPartner 22 = .ok (.goto 4, 3) := by decide +kernel
theorem dX1_hasPartner_25 : decode cX1_hasPartner 25 = .ok (.iconst 0, 1) := by decide +kernel
theorem dX1_hasPartner_26 : decode cX1_hasPartner 26 = .ok (.ireturn, 1) := by decide +kernel
theorem dX1_hasAsset_0 : decode cX1_hasAsset 0 = .ok (.iload_n 1, 1) := by decide +kernel
theorem dX1_hasAsset_1 : decode cX1_hasAsset 1 = .ok (.ifCond .lt 24, 3) := by decide +kernel
theorem dX1_hasAsset_4 : decode cX1_hasAsset 4 = .ok (.iload_n 1, 1) := by decide +kernel
theorem dX1_hasAsset_5 : decode cX1_hasAsset 5 = .ok (.bipush 8, 2) := by decide +kernel
theorem dX1_hasAsset_7 : decode cX1_hasAsset 7 = .ok (.if_icmp .ge 18, 3) := by decide +kernel
theorem dX1_hasAsset_10 : decode cX1_hasAsset 10 = .ok (.aload_n 0, 1) := by decide +kernel
theorem dX1_hasAsset_11 : decode cX1_hasAsset 11 = .ok (.getfield 40, 3) := by decide +kernel
theorem dX1_hasAsset_14 : decode cX1_hasAsset 14 = .ok (.iload_n 1, 1) := by decide +kernel
theorem dX1_hasAsset_15 : decode cX1_hasAsset 15 = .ok (.ishr, 1) := by decide +kernel
theorem dX1_hasAsset_16 : decode cX1_hasAsset 16 = .ok (.iconst 1, 1) := by decide +kernel
theorem dX1_hasAsset_17 : decode cX1_hasAsset 17 = .ok (.iand, 1) := by decide +kernel
theorem dX1_hasAsset_18 : decode cX1_hasAsset 18 = .ok (.ifCond .eq 7, 3) := by decide +kernel
theorem dX1_hasAsset_21 : decode cX1_hasAsset 21 = .ok (.iconst 1, 1) := by decide +kernel
theorem dX1_hasAsset_22 : decode cX1_hasAsset 22 = .ok (.goto 4, 3) := by decide +kernel
theorem dX1_hasAsset_25 : decode cX1_hasAsset 25 = .ok (.iconst 0, 1) := by decide +kernel
theorem dX1_hasAsset_26 : decode cX1_hasAsset 26 = .ok (.ireturn, 1) := by decide +kernel
theorem dX1_net_0 : decode cX1_net 0 = .ok (.aload_n 0, 1) := by decide +kernel
theorem dX1_net_1 : decode cX1_net 1 = .ok (.getfield 43, 3) := by decide +kernel
theorem dX1_net_4 : decode cX1_net 4 = .ok (.istore_n 1, 1) := by decide +kernel
theorem dX1_net_5 : decode cX1_net 5 = .ok (.iconst 0, 1) := by decide +kernel
theorem dX1_net_6 : decode cX1_net 6 = .ok (.istore_n 2, 1) := by decide +kernel
theorem dX1_net_7 : decode cX1_net 7 = .ok (.iload_n 2, 1) := by decide +kernel
theorem dX1_net_8 : decode cX1_net 8 = .ok (.bipush 8, 2) := by decide +kernel
theorem dX1_net_10 : decode cX1_net 10 = .ok (.if_icmp .ge 25, 3) := by decide +kernel
theorem dX1_net_13 : decode cX1_net 13 = .ok (.iload_n 1, 1) := by decide +kernel
theorem dX1_net_14 : decode cX1_net 14 = .ok (.aload_n 0, 1) := by decide +kernel
theorem dX1_net_15 : decode cX1_net 15 = .ok (.getfield 27, 3) := by decide +kernel
theorem dX1_net_18 : decode cX1_net 18 = .ok (.iload_n 2, 1) := by decide +kernel
theorem dX1_net_19 : decode cX1_net 19 = .ok (.iaload, 1) := by decide +kernel
theorem dX1_net_20 : decode cX1_net 20 = .ok (.aload_n 0, 1) := by decide +kernel
theorem dX1_net_21 : decode cX1_net 21 = .ok (.getfield 33, 3) := by decide +kernel
theorem dX1_net_24 : decode cX1_net 24 = .ok (.iload_n 2, 1) := by decide +kernel
theorem dX1_net_25 : decode cX1_net 25 = .ok (.iaload, 1) := by decide +kernel
theorem dX1_net_26 : decode cX1_net 26 = .ok (.isub, 1) := by decide +kernel
theorem dX1_net_27 : decode cX1_net 27 = .ok (.iadd, 1) := by decide +kernel
theorem dX1_net_28 : decode cX1_net 28 = .ok (.istore_n 1, 1) := by decide +kernel
theorem dX1_net_29 : decode cX1_net 29 = .ok (.iinc 2 1, 3) := by decide +kernel
theorem dX1_net_32 : decode cX1_net 32 = .ok (.goto (-25), 3) := by decide +kernel
theorem dX1_net_35 : decode cX1_net 35 = .ok (.iload_n 1, 1) := by decide +kernel
theorem dX1_net_36 : decode cX1_net 36 = .ok (.ireturn, 1) := by decide +kernel
theorem dX1_held_0 : decode cX1_held 0 = .ok (.iconst 0, 1) := by decide +kernel
theorem dX1_held_1 : decode cX1_held 1 = .ok (.istore_n 1, 1) := by decide +kernel
theorem dX1_held_2 : decode cX1_held 2 = .ok (.iconst 0, 1) := by decide +kernel
theorem dX1_held_3 : decode cX1_held 3 = .ok (.istore_n 2, 1) := by decide +kernel
theorem dX1_held_4 : decode cX1_held 4 = .ok (.iload_n 2, 1) := by decide +kernel
theorem dX1_held_5 : decode cX1_held 5 = .ok (.bipush 8, 2) := by decide +kernel
theorem dX1_held_7 : decode cX1_held 7 = .ok (.if_icmp .ge 40, 3) := by decide +kernel
theorem dX1_held_10 : decode cX1_held 10 = .ok (.aload_n 0, 1) := by decide +kernel
theorem dX1_held_11 : decode cX1_held 11 = .ok (.getfield 33, 3) := by decide +kernel
theorem dX1_held_14 : decode cX1_held 14 = .ok (.iload_n 2, 1) := by decide +kernel
theorem dX1_held_15 : decode cX1_held 15 = .ok (.iaload, 1) := by decide +kernel
theorem dX1_held_16 : decode cX1_held 16 = .ok (.aload_n 0, 1) := by decide +kernel
theorem dX1_held_17 : decode cX1_held 17 = .ok (.getfield 27, 3) := by decide +kernel
theorem dX1_held_20 : decode cX1_held 20 = .ok (.iload_n 2, 1) := by decide +kernel
theorem dX1_held_21 : decode cX1_held 21 = .ok (.iaload, 1) := by decide +kernel
theorem dX1_held_22 : decode cX1_held 22 = .ok (.if_icmp .le 19, 3) := by decide +kernel
theorem dX1_held_25 : decode cX1_held 25 = .ok (.iload_n 1, 1) := by decide +kernel
theorem dX1_held_26 : decode cX1_held 26 = .ok (.aload_n 0, 1) := by decide +kernel
theorem dX1_held_27 : decode cX1_held 27 = .ok (.getfield 33, 3) := by decide +kernel
theorem dX1_held_30 : decode cX1_held 30 = .ok (.iload_n 2, 1) := by decide +kernel
theorem dX1_held_31 : decode cX1_held 31 = .ok (.iaload, 1) := by decide +kernel
theorem dX1_held_32 : decode cX1_held 32 = .ok (.aload_n 0, 1) := by decide +kernel
theorem dX1_held_33 : decode cX1_held 33 = .ok (.getfield 27, 3) := by decide +kernel
theorem dX1_held_36 : decode cX1_held 36 = .ok (.iload_n 2, 1) := by decide +kernel
theorem dX1_held_37 : decode cX1_held 37 = .ok (.iaload, 1) := by decide +kernel
theorem dX1_held_38 : decode cX1_held 38 = .ok (.isub, 1) := by decide +kernel
theorem dX1_held_39 : decode cX1_held 39 = .ok (.iadd, 1) := by decide +kernel
theorem dX1_held_40 : decode cX1_held 40 = .ok (.istore_n 1, 1) := by decide +kernel
theorem dX1_held_41 : decode cX1_held 41 = .ok (.iinc 2 1, 3) := by decide +kernel
theorem dX1_held_44 : decode cX1_held 44 = .ok (.goto (-40), 3) := by decide +kernel
theorem dX1_held_47 : decode cX1_held 47 = .ok (.iload_n 1, 1) := by decide +kernel
theorem dX1_held_48 : decode cX1_held 48 = .ok (.ireturn, 1) := by decide +kernel
theorem dX1_gainOfAll_0 : decode cX1_gainOfAll 0 = .ok (.aload_n 0, 1) := by decide +kernel
theorem dX1_gainOfAll_1 : decode cX1_gainOfAll 1 = .ok (.getfield 30, 3) := by decide +kernel
theorem dX1_gainOfAll_4 : decode cX1_gainOfAll 4 = .ok (.invokestatic 59, 3) := by decide +kernel
theorem dX1_gainOfAll_7 : decode cX1_gainOfAll 7 = .ok (.aload_n 0, 1) := by decide +kernel
theorem dX1_gainOfAll_8 : decode cX1_gainOfAll 8 = .ok (.getfield 27, 3) := by decide +kernel
theorem dX1_gainOfAll_11 : decode cX1_gainOfAll 11 = .ok (.invokestatic 59, 3) := by decide +kernel
theorem dX1_gainOfAll_14 : decode cX1_gainOfAll 14 = .ok (.isub, 1) := by decide +kernel
theorem dX1_gainOfAll_15 : decode cX1_gainOfAll 15 = .ok (.ireturn, 1) := by decide +kernel
theorem dX1_floorOf_0 : decode cX1_floorOf 0 = .ok (.aload_n 0, 1) := by decide +kernel
theorem dX1_floorOf_1 : decode cX1_floorOf 1 = .ok (.getfield 15, 3) := by decide +kernel
theorem dX1_floorOf_4 : decode cX1_floorOf 4 = .ok (.iload_n 1, 1) := by decide +kernel
theorem dX1_floorOf_5 : decode cX1_floorOf 5 = .ok (.iaload, 1) := by decide +kernel
theorem dX1_floorOf_6 : decode cX1_floorOf 6 = .ok (.ineg, 1) := by decide +kernel
theorem dX1_floorOf_7 : decode cX1_floorOf 7 = .ok (.aload_n 0, 1) := by decide +kernel
theorem dX1_floorOf_8 : decode cX1_floorOf 8 = .ok (.getfield 21, 3) := by decide +kernel
theorem dX1_floorOf_11 : decode cX1_floorOf 11 = .ok (.iload_n 1, 1) := by decide +kernel
theorem dX1_floorOf_12 : decode cX1_floorOf 12 = .ok (.iaload, 1) := by decide +kernel
theorem dX1_floorOf_13 : decode cX1_floorOf 13 = .ok (.isub, 1) := by decide +kernel
theorem dX1_floorOf_14 : decode cX1_floorOf 14 = .ok (.ireturn, 1) := by decide +kernel
theorem dX1_admit_0 : decode cX1_admit 0 = .ok (.aload_n 0, 1) := by decide +kernel
theorem dX1_admit_1 : decode cX1_admit 1 = .ok (.dup, 1) := by decide +kernel
theorem dX1_admit_2 : decode cX1_admit 2 = .ok (.getfield 36, 3) := by decide +kernel
theorem dX1_admit_5 : decode cX1_admit 5 = .ok (.iconst 1, 1) := by decide +kernel
theorem dX1_admit_6 : decode cX1_admit 6 = .ok (.iload_n 1, 1) := by decide +kernel
theorem dX1_admit_7 : decode cX1_admit 7 = .ok (.ishl, 1) := by decide +kernel
theorem dX1_admit_8 : decode cX1_admit 8 = .ok (.ior, 1) := by decide +kernel
theorem dX1_admit_9 : decode cX1_admit 9 = .ok (.putfield 36, 3) := by decide +kernel
theorem dX1_admit_12 : decode cX1_admit 12 = .ok (.aload_n 0, 1) := by decide +kernel
theorem dX1_admit_13 : decode cX1_admit 13 = .ok (.getfield 18, 3) := by decide +kernel
theorem dX1_admit_16 : decode cX1_admit 16 = .ok (.iload_n 1, 1) := by decide +kernel
theorem dX1_admit_17 : decode cX1_admit 17 = .ok (.iconst 1, 1) := by decide +kernel
theorem dX1_admit_18 : decode cX1_admit 18 = .ok (.iastore, 1) := by decide +kernel
theorem dX1_admit_19 : decode cX1_admit 19 = .ok (.return_, 1) := by decide +kernel
theorem dX1_letIn_0 : decode cX1_letIn 0 = .ok (.aload_n 0, 1) := by decide +kernel
theorem dX1_letIn_1 : decode cX1_letIn 1 = .ok (.getfield 36, 3) := by decide +kernel
theorem dX1_letIn_4 : decode cX1_letIn 4 = .ok (.ifCond .ne 7, 3) := by decide +kernel
theorem dX1_letIn_7 : decode cX1_letIn 7 = .ok (.iconst 1, 1) := by decide +kernel
theorem dX1_letIn_8 : decode cX1_letIn 8 = .ok (.goto 4, 3) := by decide +kernel
theorem dX1_letIn_11 : decode cX1_letIn 11 = .ok (.iconst 0, 1) := by decide +kernel
theorem dX1_letIn_12 : decode cX1_letIn 12 = .ok (.istore 4, 2) := by decide +kernel
theorem dX1_letIn_14 : decode cX1_letIn 14 = .ok (.aload_n 0, 1) := by decide +kernel
theorem dX1_letIn_15 : decode cX1_letIn 15 = .ok (.iload_n 1, 1) := by decide +kernel
theorem dX1_letIn_16 : decode cX1_letIn 16 = .ok (.invokevirtual 63, 3) := by decide +kernel
theorem dX1_letIn_19 : decode cX1_letIn 19 = .ok (.aload_n 0, 1) := by decide +kernel
theorem dX1_letIn_20 : decode cX1_letIn 20 = .ok (.getfield 9, 3) := by decide +kernel
theorem dX1_letIn_23 : decode cX1_letIn 23 = .ok (.iload_n 1, 1) := by decide +kernel
theorem dX1_letIn_24 : decode cX1_letIn 24 = .ok (.iload 4, 2) := by decide +kernel
theorem dX1_letIn_26 : decode cX1_letIn 26 = .ok (.ifCond .eq 7, 3) := by decide +kernel
theorem dX1_letIn_29 : decode cX1_letIn 29 = .ok (.iload_n 3, 1) := by decide +kernel
theorem dX1_letIn_30 : decode cX1_letIn 30 = .ok (.goto 4, 3) := by decide +kernel
theorem dX1_letIn_33 : decode cX1_letIn 33 = .ok (.iconst 0, 1) := by decide +kernel
theorem dX1_letIn_34 : decode cX1_letIn 34 = .ok (.iastore, 1) := by decide +kernel
theorem dX1_letIn_35 : decode cX1_letIn 35 = .ok (.aload_n 0, 1) := by decide +kernel
theorem dX1_letIn_36 : decode cX1_letIn 36 = .ok (.iload_n 1, 1) := by decide +kernel
theorem dX1_letIn_37 : decode cX1_letIn 37 = .ok (.iload_n 2, 1) := by decide +kernel
theorem dX1_letIn_38 : decode cX1_letIn 38 = .ok (.invokevirtual 67, 3) := by decide +kernel
theorem dX1_letIn_41 : decode cX1_letIn 41 = .ok (.ireturn, 1) := by decide +kernel
theorem dX1_dismiss_0 : decode cX1_dismiss 0 = .ok (.aload_n 0, 1) := by decide +kernel
theorem dX1_dismiss_1 : decode cX1_dismiss 1 = .ok (.dup, 1) := by decide +kernel
theorem dX1_dismiss_2 : decode cX1_dismiss 2 = .ok (.getfield 36, 3) := by decide +kernel
theorem dX1_dismiss_5 : decode cX1_dismiss 5 = .ok (.iconst 1, 1) := by decide +kernel
theorem dX1_dismiss_6 : decode cX1_dismiss 6 = .ok (.iload_n 1, 1) := by decide +kernel
theorem dX1_dismiss_7 : decode cX1_dismiss 7 = .ok (.ishl, 1) := by decide +kernel
theorem dX1_dismiss_8 : decode cX1_dismiss 8 = .ok (.iconst (-1), 1) := by decide +kernel
theorem dX1_dismiss_9 : decode cX1_dismiss 9 = .ok (.ixor, 1) := by decide +kernel
theorem dX1_dismiss_10 : decode cX1_dismiss 10 = .ok (.iand, 1) := by decide +kernel
theorem dX1_dismiss_11 : decode cX1_dismiss 11 = .ok (.putfield 36, 3) := by decide +kernel
theorem dX1_dismiss_14 : decode cX1_dismiss 14 = .ok (.aload_n 0, 1) := by decide +kernel
theorem dX1_dismiss_15 : decode cX1_dismiss 15 = .ok (.getfield 9, 3) := by decide +kernel
theorem dX1_dismiss_18 : decode cX1_dismiss 18 = .ok (.iload_n 1, 1) := by decide +kernel
theorem dX1_dismiss_19 : decode cX1_dismiss 19 = .ok (.iconst 0, 1) := by decide +kernel
theorem dX1_dismiss_20 : decode cX1_dismiss 20 = .ok (.iastore, 1) := by decide +kernel
theorem dX1_dismiss_21 : decode cX1_dismiss 21 = .ok (.aload_n 0, 1) := by decide +kernel
theorem dX1_dismiss_22 : decode cX1_dismiss 22 = .ok (.getfield 15, 3) := by decide +kernel
theorem dX1_dismiss_25 : decode cX1_dismiss 25 = .ok (.iload_n 1, 1) := by decide +kernel
theorem dX1_dismiss_26 : decode cX1_dismiss 26 = .ok (.iconst 0, 1) := by decide +kernel
theorem dX1_dismiss_27 : decode cX1_dismiss 27 = .ok (.iastore, 1) := by decide +kernel
theorem dX1_dismiss_28 : decode cX1_dismiss 28 = .ok (.aload_n 0, 1) := by decide +kernel
theorem dX1_dismiss_29 : decode cX1_dismiss 29 = .ok (.getfield 18, 3) := by decide +kernel
theorem dX1_dismiss_32 : decode cX1_dismiss 32 = .ok (.iload_n 1, 1) := by decide +kernel
theorem dX1_dismiss_33 : decode cX1_dismiss 33 = .ok (.iconst 0, 1) := by decide +kernel
theorem dX1_dismiss_34 : decode cX1_dismiss 34 = .ok (.iastore, 1) := by decide +kernel
theorem dX1_dismiss_35 : decode cX1_dismiss 35 = .ok (.aload_n 0, 1) := by decide +kernel
theorem dX1_dismiss_36 : decode cX1_dismiss 36 = .ok (.getfield 21, 3) := by decide +kernel
theorem dX1_dismiss_39 : decode cX1_dismiss 39 = .ok (.iload_n 1, 1) := by decide +kernel
theorem dX1_dismiss_40 : decode cX1_dismiss 40 = .ok (.iconst 0, 1) := by decide +kernel
theorem dX1_dismiss_41 : decode cX1_dismiss 41 = .ok (.iastore, 1) := by decide +kernel
theorem dX1_dismiss_42 : decode cX1_dismiss 42 = .ok (.aload_n 0, 1) := by decide +kernel
theorem dX1_dismiss_43 : decode cX1_dismiss 43 = .ok (.getfield 24, 3) := by decide +kernel
theorem dX1_dismiss_46 : decode cX1_dismiss 46 = .ok (.iload_n 1, 1) := by decide +kernel
theorem dX1_dismiss_47 : decode cX1_dismiss 47 = .ok (.iconst 0, 1) := by decide +kernel
theorem dX1_dismiss_48 : decode cX1_dismiss 48 = .ok (.iastore, 1) := by decide +kernel
theorem dX1_dismiss_49 : decode cX1_dismiss 49 = .ok (.return_, 1) := by decide +kernel
theorem dX1_freeAsset_0 : decode cX1_freeAsset 0 = .ok (.iconst 0, 1) := by decide +kernel
theorem dX1_freeAsset_1 : decode cX1_freeAsset 1 = .ok (.istore_n 1, 1) := by decide +kernel
theorem dX1_freeAsset_2 : decode cX1_freeAsset 2 = .ok (.iload_n 1, 1) := by decide +kernel
theorem dX1_freeAsset_3 : decode cX1_freeAsset 3 = .ok (.bipush 8, 2) := by decide +kernel
theorem dX1_freeAsset_5 : decode cX1_freeAsset 5 = .ok (.if_icmp .ge 19, 3) := by decide +kernel
theorem dX1_freeAsset_8 : decode cX1_freeAsset 8 = .ok (.aload_n 0, 1) := by decide +kernel
theorem dX1_freeAsset_9 : decode cX1_freeAsset 9 = .ok (.iload_n 1, 1) := by decide +kernel
theorem dX1_freeAsset_10 : decode cX1_freeAsset 10 = .ok (.invokevirtual 71, 3) := by decide +kernel
theorem dX1_freeAsset_13 : decode cX1_freeAsset 13 = .ok (.ifCond .ne 5, 3) := by decide +kernel
theorem dX1_freeAsset_16 : decode cX1_freeAsset 16 = .ok (.iload_n 1, 1) := by decide +kernel
theorem dX1_freeAsset_17 : decode cX1_freeAsset 17 = .ok (.ireturn, 1) := by decide +kernel
theorem dX1_freeAsset_18 : decode cX1_freeAsset 18 = .ok (.iinc 1 1, 3) := by decide +kernel
theorem dX1_freeAsset_21 : decode cX1_freeAsset 21 = .ok (.goto (-19), 3) := by decide +kernel
theorem dX1_freeAsset_24 : decode cX1_freeAsset 24 = .ok (.iconst (-1), 1) := by decide +kernel
theorem dX1_freeAsset_25 : decode cX1_freeAsset 25 = .ok (.ireturn, 1) := by decide +kernel
theorem dX1_addAsset_0 : decode cX1_addAsset 0 = .ok (.aload_n 0, 1) := by decide +kernel
theorem dX1_addAsset_1 : decode cX1_addAsset 1 = .ok (.dup, 1) := by decide +kernel
theorem dX1_addAsset_2 : decode cX1_addAsset 2 = .ok (.getfield 40, 3) := by decide +kernel
theorem dX1_addAsset_5 : decode cX1_addAsset 5 = .ok (.iconst 1, 1) := by decide +kernel
theorem dX1_addAsset_6 : decode cX1_addAsset 6 = .ok (.iload_n 1, 1) := by decide +kernel
theorem dX1_addAsset_7 : decode cX1_addAsset 7 = .ok (.ishl, 1) := by decide +kernel
theorem dX1_addAsset_8 : decode cX1_addAsset 8 = .ok (.ior, 1) := by decide +kernel
theorem dX1_addAsset_9 : decode cX1_addAsset 9 = .ok (.putfield 40, 3) := by decide +kernel
theorem dX1_addAsset_12 : decode cX1_addAsset 12 = .ok (.aload_n 0, 1) := by decide +kernel
theorem dX1_addAsset_13 : decode cX1_addAsset 13 = .ok (.getfield 27, 3) := by decide +kernel
theorem dX1_addAsset_16 : decode cX1_addAsset 16 = .ok (.iload_n 1, 1) := by decide +kernel
theorem dX1_addAsset_17 : decode cX1_addAsset 17 = .ok (.iload_n 2, 1) := by decide +kernel
theorem dX1_addAsset_18 : decode cX1_addAsset 18 = .ok (.iastore, 1) := by decide +kernel
theorem dX1_addAsset_19 : decode cX1_addAsset 19 = .ok (.aload_n 0, 1) := by decide +kernel
theorem dX1_addAsset_20 : decode cX1_addAsset 20 = .ok (.getfield 30, 3) := by decide +kernel
theorem dX1_addAsset_23 : decode cX1_addAsset 23 = .ok (.iload_n 1, 1) := by decide +kernel
theorem dX1_addAsset_24 : decode cX1_addAsset 24 = .ok (.iload_n 3, 1) := by decide +kernel
theorem dX1_addAsset_25 : decode cX1_addAsset 25 = .ok (.iastore, 1) := by decide +kernel
theorem dX1_addAsset_26 : decode cX1_addAsset 26 = .ok (.aload_n 0, 1) := by decide +kernel
theorem dX1_addAsset_27 : decode cX1_addAsset 27 = .ok (.getfield 33, 3) := by decide +kernel
theorem dX1_addAsset_30 : decode cX1_addAsset 30 = .ok (.iload_n 1, 1) := by decide +kernel
theorem dX1_addAsset_31 : decode cX1_addAsset 31 = .ok (.iload 4, 2) := by decide +kernel
theorem dX1_addAsset_33 : decode cX1_addAsset 33 = .ok (.iastore, 1) := by decide +kernel
theorem dX1_addAsset_34 : decode cX1_addAsset 34 = .ok (.aload_n 0, 1) := by decide +kernel
theorem dX1_addAsset_35 : decode cX1_addAsset 35 = .ok (.dup, 1) := by decide +kernel
theorem dX1_addAsset_36 : decode cX1_addAsset 36 = .ok (.getfield 43, 3) := by decide +kernel
theorem dX1_addAsset_39 : decode cX1_addAsset 39 = .ok (.iload_n 2, 1) := by decide +kernel
theorem dX1_addAsset_40 : decode cX1_addAsset 40 = .ok (.iload 4, 2) := by decide +kernel
theorem dX1_addAsset_42 : decode cX1_addAsset 42 = .ok (.isub, 1) := by decide +kernel
theorem dX1_addAsset_43 : decode cX1_addAsset 43 = .ok (.isub, 1) := by decide +kernel
theorem dX1_addAsset_44 : decode cX1_addAsset 44 = .ok (.putfield 43, 3) := by decide +kernel
theorem dX1_addAsset_47 : decode cX1_addAsset 47 = .ok (.return_, 1) := by decide +kernel
theorem dX1_sellAsset_0 : decode cX1_sellAsset 0 = .ok (.aload_n 0, 1) := by decide +kernel
theorem dX1_sellAsset_1 : decode cX1_sellAsset 1 = .ok (.dup, 1) := by decide +kernel
theorem dX1_sellAsset_2 : decode cX1_sellAsset 2 = .ok (.getfield 43, 3) := by decide +kernel
theorem dX1_sellAsset_5 : decode cX1_sellAsset 5 = .ok (.aload_n 0, 1) := by decide +kernel
theorem dX1_sellAsset_6 : decode cX1_sellAsset 6 = .ok (.getfield 30, 3) := by decide +kernel
theorem dX1_sellAsset_9 : decode cX1_sellAsset 9 = .ok (.iload_n 1, 1) := by decide +kernel
theorem dX1_sellAsset_10 : decode cX1_sellAsset 10 = .ok (.iaload, 1) := by decide +kernel
theorem dX1_sellAsset_11 : decode cX1_sellAsset 11 = .ok (.aload_n 0, 1) := by decide +kernel
theorem dX1_sellAsset_12 : decode cX1_sellAsset 12 = .ok (.getfield 33, 3) := by decide +kernel
theorem dX1_sellAsset_15 : decode cX1_sellAsset 15 = .ok (.iload_n 1, 1) := by decide +kernel
theorem dX1_sellAsset_16 : decode cX1_sellAsset 16 = .ok (.iaload, 1) := by decide +kernel
theorem dX1_sellAsset_17 : decode cX1_sellAsset 17 = .ok (.isub, 1) := by decide +kernel
theorem dX1_sellAsset_18 : decode cX1_sellAsset 18 = .ok (.iadd, 1) := by decide +kernel
theorem dX1_sellAsset_19 : decode cX1_sellAsset 19 = .ok (.putfield 43, 3) := by decide +kernel
theorem dX1_sellAsset_22 : decode cX1_sellAsset 22 = .ok (.aload_n 0, 1) := by decide +kernel
theorem dX1_sellAsset_23 : decode cX1_sellAsset 23 = .ok (.dup, 1) := by decide +kernel
theorem dX1_sellAsset_24 : decode cX1_sellAsset 24 = .ok (.getfield 46, 3) := by decide +kernel
theorem dX1_sellAsset_27 : decode cX1_sellAsset 27 = .ok (.aload_n 0, 1) := by decide +kernel
theorem dX1_sellAsset_28 : decode cX1_sellAsset 28 = .ok (.getfield 30, 3) := by decide +kernel
theorem dX1_sellAsset_31 : decode cX1_sellAsset 31 = .ok (.iload_n 1, 1) := by decide +kernel
theorem dX1_sellAsset_32 : decode cX1_sellAsset 32 = .ok (.iaload, 1) := by decide +kernel
theorem dX1_sellAsset_33 : decode cX1_sellAsset 33 = .ok (.aload_n 0, 1) := by decide +kernel
theorem dX1_sellAsset_34 : decode cX1_sellAsset 34 = .ok (.getfield 27, 3) := by decide +kernel
theorem dX1_sellAsset_37 : decode cX1_sellAsset 37 = .ok (.iload_n 1, 1) := by decide +kernel
theorem dX1_sellAsset_38 : decode cX1_sellAsset 38 = .ok (.iaload, 1) := by decide +kernel
theorem dX1_sellAsset_39 : decode cX1_sellAsset 39 = .ok (.isub, 1) := by decide +kernel
theorem dX1_sellAsset_40 : decode cX1_sellAsset 40 = .ok (.iadd, 1) := by decide +kernel
theorem dX1_sellAsset_41 : decode cX1_sellAsset 41 = .ok (.putfield 46, 3) := by decide +kernel
theorem dX1_sellAsset_44 : decode cX1_sellAsset 44 = .ok (.aload_n 0, 1) := by decide +kernel
theorem dX1_sellAsset_45 : decode cX1_sellAsset 45 = .ok (.dup, 1) := by decide +kernel
theorem dX1_sellAsset_46 : decode cX1_sellAsset 46 = .ok (.getfield 40, 3) := by decide +kernel
theorem dX1_sellAsset_49 : decode cX1_sellAsset 49 = .ok (.iconst 1, 1) := by decide +kernel
theorem dX1_sellAsset_50 : decode cX1_sellAsset 50 = .ok (.iload_n 1, 1) := by decide +kernel
theorem dX1_sellAsset_51 : decode cX1_sellAsset 51 = .ok (.ishl, 1) := by decide +kernel
theorem dX1_sellAsset_52 : decode cX1_sellAsset 52 = .ok (.iconst (-1), 1) := by decide +kernel
theorem dX1_sellAsset_53 : decode cX1_sellAsset 53 = .ok (.ixor, 1) := by decide +kernel
theorem dX1_sellAsset_54 : decode cX1_sellAsset 54 = .ok (.iand, 1) := by decide +kernel
theorem dX1_sellAsset_55 : decode cX1_sellAsset 55 = .ok (.putfield 40, 3) := by decide +kernel
theorem dX1_sellAsset_58 : decode cX1_sellAsset 58 = .ok (.aload_n 0, 1) := by decide +kernel
theorem dX1_sellAsset_59 : decode cX1_sellAsset 59 = .ok (.getfield 27, 3) := by decide +kernel
theorem dX1_sellAsset_62 : decode cX1_sellAsset 62 = .ok (.iload_n 1, 1) := by decide +kernel
theorem dX1_sellAsset_63 : decode cX1_sellAsset 63 = .ok (.iconst 0, 1) := by decide +kernel
theorem dX1_sellAsset_64 : decode cX1_sellAsset 64 = .ok (.iastore, 1) := by decide +kernel
theorem dX1_sellAsset_65 : decode cX1_sellAsset 65 = .ok (.aload_n 0, 1) := by decide +kernel
theorem dX1_sellAsset_66 : decode cX1_sellAsset 66 = .ok (.getfield 30, 3) := by decide +kernel
theorem dX1_sellAsset_69 : decode cX1_sellAsset 69 = .ok (.iload_n 1, 1) := by decide +kernel
theorem dX1_sellAsset_70 : decode cX1_sellAsset 70 = .ok (.iconst 0, 1) := by decide +kernel
theorem dX1_sellAsset_71 : decode cX1_sellAsset 71 = .ok (.iastore, 1) := by decide +kernel
theorem dX1_sellAsset_72 : decode cX1_sellAsset 72 = .ok (.aload_n 0, 1) := by decide +kernel
theorem dX1_sellAsset_73 : decode cX1_sellAsset 73 = .ok (.getfield 33, 3) := by decide +kernel
theorem dX1_sellAsset_76 : decode cX1_sellAsset 76 = .ok (.iload_n 1, 1) := by decide +kernel
theorem dX1_sellAsset_77 : decode cX1_sellAsset 77 = .ok (.iconst 0, 1) := by decide +kernel
theorem dX1_sellAsset_78 : decode cX1_sellAsset 78 = .ok (.iastore, 1) := by decide +kernel
theorem dX1_sellAsset_79 : decode cX1_sellAsset 79 = .ok (.aload_n 0, 1) := by decide +kernel
theorem dX1_sellAsset_80 : decode cX1_sellAsset 80 = .ok (.getfield 46, 3) := by decide +kernel
theorem dX1_sellAsset_83 : decode cX1_sellAsset 83 = .ok (.ireturn, 1) := by decide +kernel
theorem dX1_writeOff_0 : decode cX1_writeOff 0 = .ok (.aload_n 0, 1) := by decide +kernel
theorem dX1_writeOff_1 : decode cX1_writeOff 1 = .ok (.getfield 27, 3) := by decide +kernel
theorem dX1_writeOff_4 : decode cX1_writeOff 4 = .ok (.iload_n 1, 1) := by decide +kernel
theorem dX1_writeOff_5 : decode cX1_writeOff 5 = .ok (.dup2, 1) := by decide +kernel
theorem dX1_writeOff_6 : decode cX1_writeOff 6 = .ok (.iaload, 1) := by decide +kernel
theorem dX1_writeOff_7 : decode cX1_writeOff 7 = .ok (.iload_n 2, 1) := by decide +kernel
theorem dX1_writeOff_8 : decode cX1_writeOff 8 = .ok (.isub, 1) := by decide +kernel
theorem dX1_writeOff_9 : decode cX1_writeOff 9 = .ok (.iastore, 1) := by decide +kernel
theorem dX1_writeOff_10 : decode cX1_writeOff 10 = .ok (.aload_n 0, 1) := by decide +kernel
theorem dX1_writeOff_11 : decode cX1_writeOff 11 = .ok (.dup, 1) := by decide +kernel
theorem dX1_writeOff_12 : decode cX1_writeOff 12 = .ok (.getfield 46, 3) := by decide +kernel
theorem dX1_writeOff_15 : decode cX1_writeOff 15 = .ok (.iload_n 2, 1) := by decide +kernel
theorem dX1_writeOff_16 : decode cX1_writeOff 16 = .ok (.isub, 1) := by decide +kernel
theorem dX1_writeOff_17 : decode cX1_writeOff 17 = .ok (.putfield 46, 3) := by decide +kernel
theorem dX1_writeOff_20 : decode cX1_writeOff 20 = .ok (.aload_n 0, 1) := by decide +kernel
theorem dX1_writeOff_21 : decode cX1_writeOff 21 = .ok (.getfield 27, 3) := by decide +kernel
theorem dX1_writeOff_24 : decode cX1_writeOff 24 = .ok (.iload_n 1, 1) := by decide +kernel
theorem dX1_writeOff_25 : decode cX1_writeOff 25 = .ok (.iaload, 1) := by decide +kernel
theorem dX1_writeOff_26 : decode cX1_writeOff 26 = .ok (.ireturn, 1) := by decide +kernel
theorem dX1_changeDebt_0 : decode cX1_changeDebt 0 = .ok (.aload_n 0, 1) := by decide +kernel
theorem dX1_changeDebt_1 : decode cX1_changeDebt 1 = .ok (.getfield 33, 3) := by decide +kernel
theorem dX1_changeDebt_4 : decode cX1_changeDebt 4 = .ok (.iload_n 1, 1) := by decide +kernel
theorem dX1_changeDebt_5 : decode cX1_changeDebt 5 = .ok (.dup2, 1) := by decide +kernel
theorem dX1_changeDebt_6 : decode cX1_changeDebt 6 = .ok (.iaload, 1) := by decide +kernel
theorem dX1_changeDebt_7 : decode cX1_changeDebt 7 = .ok (.iload_n 2, 1) := by decide +kernel
theorem dX1_changeDebt_8 : decode cX1_changeDebt 8 = .ok (.iadd, 1) := by decide +kernel
theorem dX1_changeDebt_9 : decode cX1_changeDebt 9 = .ok (.iastore, 1) := by decide +kernel
theorem dX1_changeDebt_10 : decode cX1_changeDebt 10 = .ok (.aload_n 0, 1) := by decide +kernel
theorem dX1_changeDebt_11 : decode cX1_changeDebt 11 = .ok (.dup, 1) := by decide +kernel
theorem dX1_changeDebt_12 : decode cX1_changeDebt 12 = .ok (.getfield 43, 3) := by decide +kernel
theorem dX1_changeDebt_15 : decode cX1_changeDebt 15 = .ok (.iload_n 2, 1) := by decide +kernel
theorem dX1_changeDebt_16 : decode cX1_changeDebt 16 = .ok (.iadd, 1) := by decide +kernel
theorem dX1_changeDebt_17 : decode cX1_changeDebt 17 = .ok (.putfield 43, 3) := by decide +kernel
theorem dX1_changeDebt_20 : decode cX1_changeDebt 20 = .ok (.aload_n 0, 1) := by decide +kernel
theorem dX1_changeDebt_21 : decode cX1_changeDebt 21 = .ok (.getfield 33, 3) := by decide +kernel
theorem dX1_changeDebt_24 : decode cX1_changeDebt 24 = .ok (.iload_n 1, 1) := by decide +kernel
theorem dX1_changeDebt_25 : decode cX1_changeDebt 25 = .ok (.iaload, 1) := by decide +kernel
theorem dX1_changeDebt_26 : decode cX1_changeDebt 26 = .ok (.ireturn, 1) := by decide +kernel
theorem dX1_earnMore_0 : decode cX1_earnMore 0 = .ok (.aload_n 0, 1) := by decide +kernel
theorem dX1_earnMore_1 : decode cX1_earnMore 1 = .ok (.dup, 1) := by decide +kernel
theorem dX1_earnMore_2 : decode cX1_earnMore 2 = .ok (.getfield 46, 3) := by decide +kernel
theorem dX1_earnMore_5 : decode cX1_earnMore 5 = .ok (.iload_n 1, 1) := by decide +kernel
theorem dX1_earnMore_6 : decode cX1_earnMore 6 = .ok (.iadd, 1) := by decide +kernel
theorem dX1_earnMore_7 : decode cX1_earnMore 7 = .ok (.putfield 46, 3) := by decide +kernel
theorem dX1_earnMore_10 : decode cX1_earnMore 10 = .ok (.aload_n 0, 1) := by decide +kernel
theorem dX1_earnMore_11 : decode cX1_earnMore 11 = .ok (.dup, 1) := by decide +kernel
theorem dX1_earnMore_12 : decode cX1_earnMore 12 = .ok (.getfield 43, 3) := by decide +kernel
theorem dX1_earnMore_15 : decode cX1_earnMore 15 = .ok (.iload_n 1, 1) := by decide +kernel
theorem dX1_earnMore_16 : decode cX1_earnMore 16 = .ok (.iadd, 1) := by decide +kernel
theorem dX1_earnMore_17 : decode cX1_earnMore 17 = .ok (.putfield 43, 3) := by decide +kernel
theorem dX1_earnMore_20 : decode cX1_earnMore 20 = .ok (.aload_n 0, 1) := by decide +kernel
theorem dX1_earnMore_21 : decode cX1_earnMore 21 = .ok (.getfield 46, 3) := by decide +kernel
theorem dX1_earnMore_24 : decode cX1_earnMore 24 = .ok (.ireturn, 1) := by decide +kernel
theorem dX1_payIn_0 : decode cX1_payIn 0 = .ok (.aload_n 0, 1) := by decide +kernel
theorem dX1_payIn_1 : decode cX1_payIn 1 = .ok (.getfield 9, 3) := by decide +kernel
theorem dX1_payIn_4 : decode cX1_payIn 4 = .ok (.iload_n 1, 1) := by decide +kernel
theorem dX1_payIn_5 : decode cX1_payIn 5 = .ok (.dup2, 1) := by decide +kernel
theorem dX1_payIn_6 : decode cX1_payIn 6 = .ok (.iaload, 1) := by decide +kernel
theorem dX1_payIn_7 : decode cX1_payIn 7 = .ok (.iload_n 2, 1) := by decide +kernel
theorem dX1_payIn_8 : decode cX1_payIn 8 = .ok (.iadd, 1) := by decide +kernel
theorem dX1_payIn_9 : decode cX1_payIn 9 = .ok (.iastore, 1) := by decide +kernel
theorem dX1_payIn_10 : decode cX1_payIn 10 = .ok (.aload_n 0, 1) := by decide +kernel
theorem dX1_payIn_11 : decode cX1_payIn 11 = .ok (.dup, 1) := by decide +kernel
theorem dX1_payIn_12 : decode cX1_payIn 12 = .ok (.getfield 43, 3) := by decide +kernel
theorem dX1_payIn_15 : decode cX1_payIn 15 = .ok (.iload_n 2, 1) := by decide +kernel
theorem dX1_payIn_16 : decode cX1_payIn 16 = .ok (.iadd, 1) := by decide +kernel
theorem dX1_payIn_17 : decode cX1_payIn 17 = .ok (.putfield 43, 3) := by decide +kernel
theorem dX1_payIn_20 : decode cX1_payIn 20 = .ok (.aload_n 0, 1) := by decide +kernel
theorem dX1_payIn_21 : decode cX1_payIn 21 = .ok (.getfield 9, 3) := by decide +kernel
theorem dX1_payIn_24 : decode cX1_payIn 24 = .ok (.iload_n 1, 1) := by decide +kernel
theorem dX1_payIn_25 : decode cX1_payIn 25 = .ok (.iaload, 1) := by decide +kernel
theorem dX1_payIn_26 : decode cX1_payIn 26 = .ok (.ireturn, 1) := by decide +kernel
theorem dX2_init_0 : decode cX2_init 0 = .ok (.aload_n 0, 1) := by decide +kernel
theorem dX2_init_1 : decode cX2_init 1 = .ok (.invokespecial 3, 3) := by decide +kernel
theorem dX2_init_4 : decode cX2_init 4 = .ok (.aload_n 0, 1) := by decide +kernel
theorem dX2_init_5 : decode cX2_init 5 = .ok (.bipush 8, 2) := by decide +kernel
theorem dX2_init_7 : decode cX2_init 7 = .ok (.newarray .int, 2) := by decide +kernel
theorem dX2_init_9 : decode cX2_init 9 = .ok (.putfield 9, 3) := by decide +kernel
theorem dX2_init_12 : decode cX2_init 12 = .ok (.aload_n 0, 1) := by decide +kernel
theorem dX2_init_13 : decode cX2_init 13 = .ok (.bipush 8, 2) := by decide +kernel
theorem dX2_init_15 : decode cX2_init 15 = .ok (.newarray .int, 2) := by decide +kernel
theorem dX2_init_17 : decode cX2_init 17 = .ok (.putfield 15, 3) := by decide +kernel
theorem dX2_init_20 : decode cX2_init 20 = .ok (.aload_n 0, 1) := by decide +kernel
theorem dX2_init_21 : decode cX2_init 21 = .ok (.bipush 8, 2) := by decide +kernel
theorem dX2_init_23 : decode cX2_init 23 = .ok (.newarray .int, 2) := by decide +kernel
theorem dX2_init_25 : decode cX2_init 25 = .ok (.putfield 18, 3) := by decide +kernel
theorem dX2_init_28 : decode cX2_init 28 = .ok (.aload_n 0, 1) := by decide +kernel
theorem dX2_init_29 : decode cX2_init 29 = .ok (.bipush 8, 2) := by decide +kernel
theorem dX2_init_31 : decode cX2_init 31 = .ok (.newarray .int, 2) := by decide +kernel
theorem dX2_init_33 : decode cX2_init 33 = .ok (.putfield 21, 3) := by decide +kernel
theorem dX2_init_36 : decode cX2_init 36 = .ok (.aload_n 0, 1) := by decide +kernel
theorem dX2_init_37 : decode cX2_init 37 = .ok (.bipush 8, 2) := by decide +kernel
theorem dX2_init_39 : decode cX2_init 39 = .ok (.newarray .int, 2) := by decide +kernel
theorem dX2_init_41 : decode cX2_init 41 = .ok (.putfield 24, 3) := by decide +kernel
theorem dX2_init_44 : decode cX2_init 44 = .ok (.aload_n 0, 1) := by decide +kernel
theorem dX2_init_45 : decode cX2_init 45 = .ok (.bipush 8, 2) := by decide +kernel
theorem dX2_init_47 : decode cX2_init 47 = .ok (.newarray .int, 2) := by decide +kernel
theorem dX2_init_49 : decode cX2_init 49 = .ok (.putfield 27, 3) := by decide +kernel
theorem dX2_init_52 : decode cX2_init 52 = .ok (.return_, 1) := by decide +kernel
theorem dX2_deal_0 : decode cX2_deal 0 = .ok (.aload_n 0, 1) := by decide +kernel
theorem dX2_deal_1 : decode cX2_deal 1 = .ok (.getfield 21, 3) := by decide +kernel
theorem dX2_deal_4 : decode cX2_deal 4 = .ok (.iconst 0, 1) := by decide +kernel
theorem dX2_deal_5 : decode cX2_deal 5 = .ok (.invokestatic 30, 3) := by decide +kernel
theorem dX2_deal_8 : decode cX2_deal 8 = .ok (.lconst 0, 1) := by decide +kernel
theorem dX2_deal_9 : decode cX2_deal 9 = .ok (.lstore_n 3, 1) := by decide +kernel
theorem dX2_deal_10 : decode cX2_deal 10 = .ok (.iconst 0, 1) := by decide +kernel
theorem dX2_deal_11 : decode cX2_deal 11 = .ok (.istore 5, 2) := by decide +kernel
theorem dX2_deal_13 : decode cX2_deal 13 = .ok (.iload 5, 2) := by decide +kernel
theorem dX2_deal_15 : decode cX2_deal 15 = .ok (.bipush 8, 2) := by decide +kernel
theorem dX2_deal_17 : decode cX2_deal 17 = .ok (.if_icmp .ge 25, 3) := by decide +kernel
theorem dX2_deal_20 : decode cX2_deal 20 = .ok (.iload_n 1, 1) := by decide +kernel
theorem dX2_deal_21 : decode cX2_deal 21 = .ok (.ifCond .le 21, 3) := by decide +kernel
theorem dX2_deal_24 : decode cX2_deal 24 = .ok (.lload_n 3, 1) := by decide +kernel
theorem dX2_deal_25 : decode cX2_deal 25 = .ok (.iconst 0, 1) := by decide +kernel
theorem dX2_deal_26 : decode cX2_deal 26 = .ok (.aload_n 2, 1) := by decide +kernel
theorem dX2_deal_27 : decode cX2_deal 27 = .ok (.iload 5, 2) := by decide +kernel
theorem dX2_deal_29 : decode cX2_deal 29 = .ok (.iaload, 1) := by decide +kernel
theorem dX2_deal_30 : decode cX2_deal 30 = .ok (.invokestatic 36, 3) := by decide +kernel
theorem dX2_deal_33 : decode cX2_deal 33 = .ok (.i2l, 1) := by decide +kernel
theorem dX2_deal_34 : decode cX2_deal 34 = .ok (.ladd, 1) := by decide +kernel
theorem dX2_deal_35 : decode cX2_deal 35 = .ok (.lstore_n 3, 1) := by decide +kernel
theorem dX2_deal_36 : decode cX2_deal 36 = .ok (.iinc 5 1, 3) := by decide +kernel
theorem dX2_deal_39 : decode cX2_deal 39 = .ok (.goto (-26), 3) := by decide +kernel
theorem dX2_deal_42 : decode cX2_deal 42 = .ok (.lload_n 3, 1) := by decide +kernel
theorem dX2_deal_43 : decode cX2_deal 43 = .ok (.lconst 0, 1) := by decide +kernel
theorem dX2_deal_44 : decode cX2_deal 44 = .ok (.lcmp, 1) := by decide +kernel
theorem dX2_deal_45 : decode cX2_deal 45 = .ok (.ifCond .gt 4, 3) := by decide +kernel
theorem dX2_deal_48 : decode cX2_deal 48 = .ok (.return_, 1) := by decide +kernel
theorem dX2_deal_49 : decode cX2_deal 49 = .ok (.iload_n 1, 1) := by decide +kernel
theorem dX2_deal_50 : decode cX2_deal 50 = .ok (.istore 5, 2) := by decide +kernel
theorem dX2_deal_52 : decode cX2_deal 52 = .ok (.iconst 0, 1) := by decide +kernel
theorem dX2_deal_53 : decode cX2_deal 53 = .ok (.istore 6, 2) := by decide +kernel
theorem dX2_deal_55 : decode cX2_deal 55 = .ok (.iload 6, 2) := by decide +kernel
theorem dX2_deal_57 : decode cX2_deal 57 = .ok (.bipush 8, 2) := by decide +kernel
theorem dX2_deal_59 : decode cX2_deal 59 = .ok (.if_icmp .ge 43, 3) := by decide +kernel
theorem dX2_deal_62 : decode cX2_deal 62 = .ok (.aload_n 0, 1) := by decide +kernel
theorem dX2_deal_63 : decode cX2_deal 63 = .ok (.getfield 21, 3) := by decide +kernel
theorem dX2_deal_66 : decode cX2_deal 66 = .ok (.iload 6, 2) := by decide +kernel
theorem dX2_deal_68 : decode cX2_deal 68 = .ok (.iload_n 1, 1) := by decide +kernel
theorem dX2_deal_69 : decode cX2_deal 69 = .ok (.i2l, 1) := by decide +kernel
theorem dX2_deal_70 : decode cX2_deal 70 = .ok (.iconst 0, 1) := by decide +kernel
theorem dX2_deal_71 : decode cX2_deal 71 = .ok (.aload_n 2, 1) := by decide +kernel
theorem dX2_deal_72 : decode cX2_deal 72 = .ok (.iload 6, 2) := by decide +kernel
theorem dX2_deal_74 : decode cX2_deal 74 = .ok (.iaload, 1) := by decide +kernel
theorem dX2_deal_75 : decode cX2_deal 75 = .ok (.invokestatic 36, 3) := by decide +kernel
theorem dX2_deal_78 : decode cX2_deal 78 = .ok (.i2l, 1) := by decide +kernel
theorem dX2_deal_79 : decode cX2_deal 79 = .ok (.lmul, 1) := by decide +kernel
theorem dX2_deal_80 : decode cX2_deal 80 = .ok (.lload_n 3, 1) := by decide +kernel
theorem dX2_deal_81 : decode cX2_deal 81 = .ok (.ldiv, 1) := by decide +kernel
theorem dX2_deal_82 : decode cX2_deal 82 = .ok (.l2i, 1) := by decide +kernel
theorem dX2_deal_83 : decode cX2_deal 83 = .ok (.iastore, 1) := by decide +kernel
theorem dX2_deal_84 : decode cX2_deal 84 = .ok (.iload 5, 2) := by decide +kernel
theorem dX2_deal_86 : decode cX2_deal 86 = .ok (.aload_n 0, 1) := by decide +kernel
theorem dX2_deal_87 : decode cX2_deal 87 = .ok (.getfield 21, 3) := by decide +kernel
theorem dX2_deal_90 : decode cX2_deal 90 = .ok (.iload 6, 2) := by decide +kernel
theorem dX2_deal_92 : decode cX2_deal 92 = .ok (.iaload, 1) := by decide +kernel
theorem dX2_deal_93 : decode cX2_deal 93 = .ok (.isub, 1) := by decide +kernel
theorem dX2_deal_94 : decode cX2_deal 94 = .ok (.istore 5, 2) := by decide +kernel
theorem dX2_deal_96 : decode cX2_deal 96 = .ok (.iinc 6 1, 3) := by decide +kernel
theorem dX2_deal_99 : decode cX2_deal 99 = .ok (.goto (-44), 3) := by decide +kernel
theorem dX2_deal_102 : decode cX2_deal 102 = .ok (.iconst 0, 1) := by decide +kernel
theorem dX2_deal_103 : decode cX2_deal 103 = .ok (.istore 6, 2) := by decide +kernel
theorem dX2_deal_105 : decode cX2_deal 105 = .ok (.iload 6, 2) := by decide +kernel
theorem dX2_deal_107 : decode cX2_deal 107 = .ok (.bipush 8, 2) := by decide +kernel
theorem dX2_deal_109 : decode cX2_deal 109 = .ok (.if_icmp .ge 35, 3) := by decide +kernel
theorem dX2_deal_112 : decode cX2_deal 112 = .ok (.iload 5, 2) := by decide +kernel
theorem dX2_deal_114 : decode cX2_deal 114 = .ok (.ifCond .le 30, 3) := by decide +kernel
theorem dX2_deal_117 : decode cX2_deal 117 = .ok (.aload_n 2, 1) := by decide +kernel
theorem dX2_deal_118 : decode cX2_deal 118 = .ok (.iload 6, 2) := by decide +kernel
theorem dX2_deal_120 : decode cX2_deal 120 = .ok (.iaload, 1) := by decide +kernel
theorem dX2_deal_121 : decode cX2_deal 121 = .ok (.ifCond .le 17, 3) := by decide +kernel
theorem dX2_deal_124 : decode cX2_deal 124 = .ok (.aload_n 0, 1) := by decide +kernel
theorem dX2_deal_125 : decode cX2_deal 125 = .ok (.getfield 21, 3) := by decide +kernel
theorem dX2_deal_128 : decode cX2_deal 128 = .ok (.iload 6, 2) := by decide +kernel
theorem dX2_deal_130 : decode cX2_deal 130 = .ok (.dup2, 1) := by decide +kernel
theorem dX2_deal_131 : decode cX2_deal 131 = .ok (.iaload, 1) := by decide +kernel
theorem dX2_deal_132 : decode cX2_deal 132 = .ok (.iconst 1, 1) := by decide +kernel
theorem dX2_deal_133 : decode cX2_deal 133 = .ok (.iadd, 1) := by decide +kernel
theorem dX2_deal_134 : decode cX2_deal 134 = .ok (.iastore, 1) := by decide +kernel
theorem dX2_deal_135 : decode cX2_deal 135 = .ok (.iinc 5 (-1), 3) := by decide +kernel
theorem dX2_deal_138 : decode cX2_deal 138 = .ok (.iinc 6 1, 3) := by decide +kernel
theorem dX2_deal_141 : decode cX2_deal 141 = .ok (.goto (-36), 3) := by decide +kernel
theorem dX2_deal_144 : decode cX2_deal 144 = .ok (.return_, 1) := by decide +kernel
theorem dX2_weighEvenly_0 : decode cX2_weighEvenly 0 = .ok (.iconst 0, 1) := by decide +kernel
theorem dX2_weighEvenly_1 : decode cX2_weighEvenly 1 = .ok (.istore_n 2, 1) := by decide +kernel
theorem dX2_weighEvenly_2 : decode cX2_weighEvenly 2 = .ok (.iload_n 2, 1) := by decide +kernel
theorem dX2_weighEvenly_3 : decode cX2_weighEvenly 3 = .ok (.bipush 8, 2) := by decide +kernel
theorem dX2_weighEvenly_5 : decode cX2_weighEvenly 5 = .ok (.if_icmp .ge 20, 3) := by decide +kernel
theorem dX2_weighEvenly_8 : decode cX2_weighEvenly 8 = .ok (.aload_n 0, 1) := by decide +kernel
theorem dX2_weighEvenly_9 : decode cX2_weighEvenly 9 = .ok (.getfield 18, 3) := by decide +kernel
theorem dX2_weighEvenly_12 : decode cX2_weighEvenly 12 = .ok (.iload_n 2, 1) := by decide +kernel
theorem dX2_weighEvenly_13 : decode cX2_weighEvenly 13 = .ok (.iload_n 1, 1) := by decide +kernel
theorem dX2_weighEvenly_14 : decode cX2_weighEvenly 14 = .ok (.iload_n 2, 1) := by decide +kernel
theorem dX2_weighEvenly_15 : decode cX2_weighEvenly 15 = .ok (.ishr, 1) := by decide +kernel
theorem dX2_weighEvenly_16 : decode cX2_weighEvenly 16 = .ok (.iconst 1, 1) := by decide +kernel
theorem dX2_weighEvenly_17 : decode cX2_weighEvenly 17 = .ok (.iand, 1) := by decide +kernel
theorem dX2_weighEvenly_18 : decode cX2_weighEvenly 18 = .ok (.iastore, 1) := by decide +kernel
theorem dX2_weighEvenly_19 : decode cX2_weighEvenly 19 = .ok (.iinc 2 1, 3) := by decide +kernel
theorem dX2_weighEvenly_22 : decode cX2_weighEvenly 22 = .ok (.goto (-20), 3) := by decide +kernel
theorem dX2_weighEvenly_25 : decode cX2_weighEvenly 25 = .ok (.return_, 1) := by decide +kernel
theorem dX2_dealByRatio_0 : decode cX2_dealByRatio 0 = .ok (.iconst 0, 1) := by decide +kernel
theorem dX2_dealByRatio_1 : decode cX2_dealByRatio 1 = .ok (.istore 4, 2) := by decide +kernel
theorem dX2_dealByRatio_3 : decode cX2_dealByRatio 3 = .ok (.iconst 0, 1) := by decide +kernel
theorem dX2_dealByRatio_4 : decode cX2_dealByRatio 4 = .ok (.istore 5, 2) := by decide +kernel
theorem dX2_dealByRatio_6 : decode cX2_dealByRatio 6 = .ok (.iload 5, 2) := by decide +kernel
theorem dX2_dealByRatio_8 : decode cX2_dealByRatio 8 = .ok (.bipush 8, 2) := by decide +kernel
theorem dX2_dealByRatio_10 : decode cX2_dealByRatio 10 = .ok (.if_icmp .ge 53, 3) := by decide +kernel
theorem dX2_dealByRatio_13 : decode cX2_dealByRatio 13 = .ok (.aload_n 0, 1) := by decide +kernel
theorem dX2_dealByRatio_14 : decode cX2_dealByRatio 14 = .ok (.getfield 18, 3) := by decide +kernel
theorem dX2_dealByRatio_17 : decode cX2_dealByRatio 17 = .ok (.iload 5, 2) := by decide +kernel
theorem dX2_dealByRatio_19 : decode cX2_dealByRatio 19 = .ok (.iload_n 3, 1) := by decide +kernel
theorem dX2_dealByRatio_20 : decode cX2_dealByRatio 20 = .ok (.iload 5, 2) := by decide +kernel
theorem dX2_dealByRatio_22 : decode cX2_dealByRatio 22 = .ok (.ishr, 1) := by decide +kernel
theorem dX2_dealByRatio_23 : decode cX2_dealByRatio 23 = .ok (.iconst 1, 1) := by decide +kernel
theorem dX2_dealByRatio_24 : decode cX2_dealByRatio 24 = .ok (.iand, 1) := by decide +kernel
theorem dX2_dealByRatio_25 : decode cX2_dealByRatio 25 = .ok (.ifCond .ne 7, 3) := by decide +kernel
theorem dX2_dealByRatio_28 : decode cX2_dealByRatio 28 = .ok (.iconst 0, 1) := by decide +kernel
theorem dX2_dealByRatio_29 : decode cX2_dealByRatio 29 = .ok (.goto 7, 3) := by decide +kernel
theorem dX2_dealByRatio_32 : decode cX2_dealByRatio 32 = .ok (.aload_n 2, 1) := by decide +kernel
theorem dX2_dealByRatio_33 : decode cX2_dealByRatio 33 = .ok (.iload 5, 2) := by decide +kernel
theorem dX2_dealByRatio_35 : decode cX2_dealByRatio 35 = .ok (.iaload, 1) := by decide +kernel
theorem dX2_dealByRatio_36 : decode cX2_dealByRatio 36 = .ok (.iastore, 1) := by decide +kernel
theorem dX2_dealByRatio_37 : decode cX2_dealByRatio 37 = .ok (.iload 4, 2) := by decide +kernel
theorem dX2_dealByRatio_39 : decode cX2_dealByRatio 39 = .ok (.aload_n 0, 1) := by decide +kernel
theorem dX2_dealByRatio_40 : decode cX2_dealByRatio 40 = .ok (.getfield 18, 3) := by decide +kernel
theorem dX2_dealByRatio_43 : decode cX2_dealByRatio 43 = .ok (.iload 5, 2) := by decide +kernel
theorem dX2_dealByRatio_45 : decode cX2_dealByRatio 45 = .ok (.iaload, 1) := by decide +kernel
theorem dX2_dealByRatio_46 : decode cX2_dealByRatio 46 = .ok (.ifCond .le 7, 3) := by decide +kernel
theorem dX2_dealByRatio_49 : decode cX2_dealByRatio 49 = .ok (.iconst 1, 1) := by decide +kernel
theorem dX2_dealByRatio_50 : decode cX2_dealByRatio 50 = .ok (.goto 4, 3) := by decide +kernel
theorem dX2_dealByRatio_53 : decode cX2_dealByRatio 53 = .ok (.iconst 0, 1) := by decide +kernel
theorem dX2_dealByRatio_54 : decode cX2_dealByRatio 54 = .ok (.ior, 1) := by decide +kernel
theorem dX2_dealByRatio_55 : decode cX2_dealByRatio 55 = .ok (.istore 4, 2) := by decide +kernel
theorem dX2_dealByRatio_57 : decode cX2_dealByRatio 57 = .ok (.iinc 5 1, 3) := by decide +kernel
theorem dX2_dealByRatio_60 : decode cX2_dealByRatio 60 = .ok (.goto (-54), 3) := by decide +kernel
theorem dX2_dealByRatio_63 : decode cX2_dealByRatio 63 = .ok (.iload 4, 2) := by decide +kernel
theorem dX2_dealByRatio_65 : decode cX2_dealByRatio 65 = .ok (.ifCond .ne 8, 3) := by decide +kernel
theorem dX2_dealByRatio_68 : decode cX2_dealByRatio 68 = .ok (.aload_n 0, 1) := by decide +kernel
theorem dX2_dealByRatio_69 : decode cX2_dealByRatio 69 = .ok (.iload_n 3, 1) := by decide +kernel
theorem dX2_dealByRatio_70 : decode cX2_dealByRatio 70 = .ok (.invokevirtual 42, 3) := by decide +kernel
theorem dX2_dealByRatio_73 : decode cX2_dealByRatio 73 = .ok (.aload_n 0, 1) := by decide +kernel
theorem dX2_dealByRatio_74 : decode cX2_dealByRatio 74 = .ok (.iload_n 1, 1) := by decide +kernel
theorem dX2_dealByRatio_75 : decode cX2_dealByRatio 75 = .ok (.aload_n 0, 1) := by decide +kernel
theorem dX2_dealByRatio_76 : decode cX2_dealByRatio 76 = .ok (.getfield 18, 3) := by decide +kernel
theorem dX2_dealByRatio_79 : decode cX2_dealByRatio 79 = .ok (.invokevirtual 46, 3) := by decide +kernel
theorem dX2_dealByRatio_82 : decode cX2_dealByRatio 82 = .ok (.return_, 1) := by decide +kernel
theorem dX2_weighByTier_0 : decode cX2_weighByTier 0 = .ok (.iconst 0, 1) := by decide +kernel
theorem dX2_weighByTier_1 : decode cX2_weighByTier 1 = .ok (.istore 4, 2) := by decide +kernel
theorem dX2_weighByTier_3 : decode cX2_weighByTier 3 = .ok (.iconst 0, 1) := by decide +kernel
theorem dX2_weighByTier_4 : decode cX2_weighByTier 4 = .ok (.istore 5, 2) := by decide +kernel
theorem dX2_weighByTier_6 : decode cX2_weighByTier 6 = .ok (.iload 5, 2) := by decide +kernel
theorem dX2_weighByTier_8 : decode cX2_weighByTier 8 = .ok (.bipush 8, 2) := by decide +kernel
theorem dX2_weighByTier_10 : decode cX2_weighByTier 10 = .ok (.if_icmp .ge 61, 3) := by decide +kernel
theorem dX2_weighByTier_13 : decode cX2_weighByTier 13 = .ok (.aload_n 0, 1) := by decide +kernel
theorem dX2_weighByTier_14 : decode cX2_weighByTier 14 = .ok (.getfield 18, 3) := by decide +kernel
theorem dX2_weighByTier_17 : decode cX2_weighByTier 17 = .ok (.iload 5, 2) := by decide +kernel
theorem dX2_weighByTier_19 : decode cX2_weighByTier 19 = .ok (.iload_n 3, 1) := by decide +kernel
theorem dX2_weighByTier_20 : decode cX2_weighByTier 20 = .ok (.iload 5, 2) := by decide +kernel
theorem dX2_weighByTier_22 : decode cX2_weighByTier 22 = .ok (.ishr, 1) := by decide +kernel
theorem dX2_weighByTier_23 : decode cX2_weighByTier 23 = .ok (.iconst 1, 1) := by decide +kernel
theorem dX2_weighByTier_24 : decode cX2_weighByTier 24 = .ok (.iand, 1) := by decide +kernel
theorem dX2_weighByTier_25 : decode cX2_weighByTier 25 = .ok (.ifCond .ne 7, 3) := by decide +kernel
theorem dX2_weighByTier_28 : decode cX2_weighByTier 28 = .ok (.iconst 0, 1) := by decide +kernel
theorem dX2_weighByTier_29 : decode cX2_weighByTier 29 = .ok (.goto 15, 3) := by decide +kernel
theorem dX2_weighByTier_32 : decode cX2_weighByTier 32 = .ok (.aload_n 1, 1) := by decide +kernel
theorem dX2_weighByTier_33 : decode cX2_weighByTier 33 = .ok (.getfield 50, 3) := by decide +kernel
theorem dX2_weighByTier_36 : decode cX2_weighByTier 36 = .ok (.iload_n 2, 1) := by decide +kernel
theorem dX2_weighByTier_37 : decode cX2_weighByTier 37 = .ok (.bipush 8, 2) := by decide +kernel
theorem dX2_weighByTier_39 : decode cX2_weighByTier 39 = .ok (.imul, 1) := by decide +kernel
theorem dX2_weighByTier_40 : decode cX2_weighByTier 40 = .ok (.iload 5, 2) := by decide +kernel
theorem dX2_weighByTier_42 : decode cX2_weighByTier 42 = .ok (.iadd, 1) := by decide +kernel
theorem dX2_weighByTier_43 : decode cX2_weighByTier 43 = .ok (.iaload, 1) := by decide +kernel
theorem dX2_weighByTier_44 : decode cX2_weighByTier 44 = .ok (.iastore, 1) := by decide +kernel
theorem dX2_weighByTier_45 : decode cX2_weighByTier 45 = .ok (.iload 4, 2) := by decide +kernel
theorem dX2_weighByTier_47 : decode cX2_weighByTier 47 = .ok (.aload_n 0, 1) := by decide +kernel
theorem dX2_weighByTier_48 : decode cX2_weighByTier 48 = .ok (.getfield 18, 3) := by decide +kernel
theorem dX2_weighByTier_51 : decode cX2_weighByTier 51 = .ok (.iload 5, 2) := by decide +kernel
theorem dX2_weighByTier_53 : decode cX2_weighByTier 53 = .ok (.iaload, 1) := by decide +kernel
theorem dX2_weighByTier_54 : decode cX2_weighByTier 54 = .ok (.ifCond .le 7, 3) := by decide +kernel
theorem dX2_weighByTier_57 : decode cX2_weighByTier 57 = .ok (.iconst 1, 1) := by decide +kernel
theorem dX2_weighByTier_58 : decode cX2_weighByTier 58 = .ok (.goto 4, 3) := by decide +kernel
theorem dX2_weighByTier_61 : decode cX2_weighByTier 61 = .ok (.iconst 0, 1) := by decide +kernel
theorem dX2_weighByTier_62 : decode cX2_weighByTier 62 = .ok (.ior, 1) := by decide +kernel
theorem dX2_weighByTier_63 : decode cX2_weighByTier 63 = .ok (.istore 4, 2) := by decide +kernel
theorem dX2_weighByTier_65 : decode cX2_weighByTier 65 = .ok (.iinc 5 1, 3) := by decide +kernel
theorem dX2_weighByTier_68 : decode cX2_weighByTier 68 = .ok (.goto (-62), 3) := by decide +kernel
theorem dX2_weighByTier_71 : decode cX2_weighByTier 71 = .ok (.iload 4, 2) := by decide +kernel
theorem dX2_weighByTier_73 : decode cX2_weighByTier 73 = .ok (.ireturn, 1) := by decide +kernel
theorem dX2_sellAll_0 : decode cX2_sellAll 0 = .ok (.aload_n 0, 1) := by decide +kernel
theorem dX2_sellAll_1 : decode cX2_sellAll 1 = .ok (.getfield 9, 3) := by decide +kernel
theorem dX2_sellAll_4 : decode cX2_sellAll 4 = .ok (.iconst 0, 1) := by decide +kernel
theorem dX2_sellAll_5 : decode cX2_sellAll 5 = .ok (.invokestatic 30, 3) := by decide +kernel
theorem dX2_sellAll_8 : decode cX2_sellAll 8 = .ok (.aload_n 0, 1) := by decide +kernel
theorem dX2_sellAll_9 : decode cX2_sellAll 9 = .ok (.iconst 0, 1) := by decide +kernel
theorem dX2_sellAll_10 : decode cX2_sellAll 10 = .ok (.putfield 53, 3) := by decide +kernel
theorem dX2_sellAll_13 : decode cX2_sellAll 13 = .ok (.iload_n 1, 1) := by decide +kernel
theorem dX2_sellAll_14 : decode cX2_sellAll 14 = .ok (.istore 4, 2) := by decide +kernel
theorem dX2_sellAll_16 : decode cX2_sellAll 16 = .ok (.iconst 0, 1) := by decide +kernel
theorem dX2_sellAll_17 : decode cX2_sellAll 17 = .ok (.istore 5, 2) := by decide +kernel
theorem dX2_sellAll_19 : decode cX2_sellAll 19 = .ok (.iload 5, 2) := by decide +kernel
theorem dX2_sellAll_21 : decode cX2_sellAll 21 = .ok (.aload_n 3, 1) := by decide +kernel
theorem dX2_sellAll_22 : decode cX2_sellAll 22 = .ok (.getfield 57, 3) := by decide +kernel
theorem dX2_sellAll_25 : decode cX2_sellAll 25 = .ok (.iconst 1, 1) := by decide +kernel
theorem dX2_sellAll_26 : decode cX2_sellAll 26 = .ok (.isub, 1) := by decide +kernel
theorem dX2_sellAll_27 : decode cX2_sellAll 27 = .ok (.if_icmp .ge 80, 3) := by decide +kernel
theorem dX2_sellAll_30 : decode cX2_sellAll 30 = .ok (.iload 4, 2) := by decide +kernel
theorem dX2_sellAll_32 : decode cX2_sellAll 32 = .ok (.ifCond .le 75, 3) := by decide +kernel
theorem dX2_sellAll_35 : decode cX2_sellAll 35 = .ok (.aload_n 0, 1) := by decide +kernel
theorem dX2_sellAll_36 : decode cX2_sellAll 36 = .ok (.aload_n 3, 1) := by decide +kernel
theorem dX2_sellAll_37 : decode cX2_sellAll 37 = .ok (.iload 5, 2) := by decide +kernel
theorem dX2_sellAll_39 : decode cX2_sellAll 39 = .ok (.aload_n 2, 1) := by decide +kernel
theorem dX2_sellAll_40 : decode cX2_sellAll 40 = .ok (.getfield 60, 3) := by decide +kernel
theorem dX2_sellAll_43 : decode cX2_sellAll 43 = .ok (.invokevirtual 65, 3) := by decide +kernel
theorem dX2_sellAll_46 : decode cX2_sellAll 46 = .ok (.ifCond .eq 55, 3) := by decide +kernel
theorem dX2_sellAll_49 : decode cX2_sellAll 49 = .ok (.iload 4, 2) := by decide +kernel
theorem dX2_sellAll_51 : decode cX2_sellAll 51 = .ok (.aload_n 3, 1) := by decide +kernel
theorem dX2_sellAll_52 : decode cX2_sellAll 52 = .ok (.getfield 69, 3) := by decide +kernel
theorem dX2_sellAll_55 : decode cX2_sellAll 55 = .ok (.iload 5, 2) := by decide +kernel
theorem dX2_sellAll_57 : decode cX2_sellAll 57 = .ok (.iaload, 1) := by decide +kernel
theorem dX2_sellAll_58 : decode cX2_sellAll 58 = .ok (.invokestatic 72, 3) := by decide +kernel
theorem dX2_sellAll_61 : decode cX2_sellAll 61 = .ok (.istore 6, 2) := by decide +kernel
theorem dX2_sellAll_63 : decode cX2_sellAll 63 = .ok (.aload_n 0, 1) := by decide +kernel
theorem dX2_sellAll_64 : decode cX2_sellAll 64 = .ok (.iload 6, 2) := by decide +kernel
theorem dX2_sellAll_66 : decode cX2_sellAll 66 = .ok (.aload_n 0, 1) := by decide +kernel
theorem dX2_sellAll_67 : decode cX2_sellAll 67 = .ok (.getfield 18, 3) := by decide +kernel
theorem dX2_sellAll_70 : decode cX2_sellAll 70 = .ok (.invokevirtual 46, 3) := by decide +kernel
theorem dX2_sellAll_73 : decode cX2_sellAll 73 = .ok (.aload_n 0, 1) := by decide +kernel
theorem dX2_sellAll_74 : decode cX2_sellAll 74 = .ok (.getfield 9, 3) := by decide +kernel
theorem dX2_sellAll_77 : decode cX2_sellAll 77 = .ok (.aload_n 0, 1) := by decide +kernel
theorem dX2_sellAll_78 : decode cX2_sellAll 78 = .ok (.getfield 21, 3) := by decide +kernel
theorem dX2_sellAll_81 : decode cX2_sellAll 81 = .ok (.invokestatic 75, 3) := by decide +kernel
theorem dX2_sellAll_84 : decode cX2_sellAll 84 = .ok (.iload 4, 2) := by decide +kernel
theorem dX2_sellAll_86 : decode cX2_sellAll 86 = .ok (.iload 6, 2) := by decide +kernel
theorem dX2_sellAll_88 : decode cX2_sellAll 88 = .ok (.isub, 1) := by decide +kernel
theorem dX2_sellAll_89 : decode cX2_sellAll 89 = .ok (.istore 4, 2) := by decide +kernel
theorem dX2_sellAll_91 : decode cX2_sellAll 91 = .ok (.aload_n 0, 1) := by decide +kernel
theorem dX2_sellAll_92 : decode cX2_sellAll 92 = .ok (.dup, 1) := by decide +kernel
theorem dX2_sellAll_93 : decode cX2_sellAll 93 = .ok (.getfield 53, 3) := by decide +kernel
theorem dX2_sellAll_96 : decode cX2_sellAll 96 = .ok (.iconst 1, 1) := by decide +kernel
theorem dX2_sellAll_97 : decode cX2_sellAll 97 = .ok (.iadd, 1) := by decide +kernel
theorem dX2_sellAll_98 : decode cX2_sellAll 98 = .ok (.putfield 53, 3) := by decide +kernel
theorem dX2_sellAll_101 : decode cX2_sellAll 101 = .ok (.iinc 5 1, 3) := by decide +kernel
theorem dX2_sellAll_104 : decode cX2_sellAll 104 = .ok (.goto (-85), 3) := by decide +kernel
theorem dX2_sellAll_107 : decode cX2_sellAll 107 = .ok (.aload_n 0, 1) := by decide +kernel
theorem dX2_sellAll_108 : decode cX2_sellAll 108 = .ok (.iload 4, 2) := by decide +kernel
theorem dX2_sellAll_110 : decode cX2_sellAll 110 = .ok (.putfield 79, 3) := by decide +kernel
theorem dX2_sellAll_113 : decode cX2_sellAll 113 = .ok (.iload 4, 2) := by decide +kernel
theorem dX2_sellAll_115 : decode cX2_sellAll 115 = .ok (.ifCond .ne 4, 3) := by decide +kernel
theorem dX2_sellAll_118 : decode cX2_sellAll 118 = .ok (.return_, 1) := by decide +kernel
theorem dX2_sellAll_119 : decode cX2_sellAll 119 = .ok (.aload_n 0, 1) := by decide +kernel
theorem dX2_sellAll_120 : decode cX2_sellAll 120 = .ok (.aload_n 3, 1) := by decide +kernel
theorem dX2_sellAll_121 : decode cX2_sellAll 121 = .ok (.aload_n 3, 1) := by decide +kernel
theorem dX2_sellAll_122 : decode cX2_sellAll 122 = .ok (.getfield 57, 3) := by decide +kernel
theorem dX2_sellAll_125 : decode cX2_sellAll 125 = .ok (.iconst 1, 1) := by decide +kernel
theorem dX2_sellAll_126 : decode cX2_sellAll 126 = .ok (.isub, 1) := by decide +kernel
theorem dX2_sellAll_127 : decode cX2_sellAll 127 = .ok (.aload_n 2, 1) := by decide +kernel
theorem dX2_sellAll_128 : decode cX2_sellAll 128 = .ok (.getfield 60, 3) := by decide +kernel
theorem dX2_sellAll_131 : decode cX2_sellAll 131 = .ok (.invokevirtual 65, 3) := by decide +kernel
theorem dX2_sellAll_134 : decode cX2_sellAll 134 = .ok (.ifCond .ne 11, 3) := by decide +kernel
theorem dX2_sellAll_137 : decode cX2_sellAll 137 = .ok (.aload_n 0, 1) := by decide +kernel
theorem dX2_sellAll_138 : decode cX2_sellAll 138 = .ok (.aload_n 2, 1) := by decide +kernel
theorem dX2_sellAll_139 : decode cX2_sellAll 139 = .ok (.getfield 60, 3) := by decide +kernel
theorem dX2_sellAll_142 : decode cX2_sellAll 142 = .ok (.invokevirtual 42, 3) := by decide +kernel
theorem dX2_sellAll_145 : decode cX2_sellAll 145 = .ok (.iload 4, 2) := by decide +kernel
theorem dX2_sellAll_147 : decode cX2_sellAll 147 = .ok (.ifCond .le 37, 3) := by decide +kernel
theorem dX2_sellAll_150 : decode cX2_sellAll 150 = .ok (.aload_n 0, 1) := by decide +kernel
theorem dX2_sellAll_151 : decode cX2_sellAll 151 = .ok (.iload 4, 2) := by decide +kernel
theorem dX2_sellAll_153 : decode cX2_sellAll 153 = .ok (.aload_n 0, 1) := by decide +kernel
theorem dX2_sellAll_154 : decode cX2_sellAll 154 = .ok (.getfield 18, 3) := by decide +kernel
theorem dX2_sellAll_157 : decode cX2_sellAll 157 = .ok (.invokevirtual 46, 3) := by decide +kernel
theorem dX2_sellAll_160 : decode cX2_sellAll 160 = .ok (.aload_n 0, 1) := by decide +kernel
theorem dX2_sellAll_161 : decode cX2_sellAll 161 = .ok (.getfield 9, 3) := by decide +kernel
theorem dX2_sellAll_164 : decode cX2_sellAll 164 = .ok (.aload_n 0, 1) := by decide +kernel
theorem dX2_sellAll_165 : decode cX2_sellAll 165 = .ok (.getfield 21, 3) := by decide +kernel
theorem dX2_sellAll_168 : decode cX2_sellAll 168 = .ok (.invokestatic 75, 3) := by decide +kernel
theorem dX2_sellAll_171 : decode cX2_sellAll 171 = .ok (.aload_n 0, 1) := by decide +kernel
theorem dX2_sellAll_172 : decode cX2_sellAll 172 = .ok (.dup, 1) := by decide +kernel
theorem dX2_sellAll_173 : decode cX2_sellAll 173 = .ok (.getfield 53, 3) := by decide +kernel
theorem dX2_sellAll_176 : decode cX2_sellAll 176 = .ok (.iconst 1, 1) := by decide +kernel
theorem dX2_sellAll_177 : decode cX2_sellAll 177 = .ok (.iadd, 1) := by decide +kernel
theorem dX2_sellAll_178 : decode cX2_sellAll 178 = .ok (.putfield 53, 3) := by decide +kernel
theorem dX2_sellAll_181 : decode cX2_sellAll 181 = .ok (.goto 25, 3) := by decide +kernel
theorem dX2_sellAll_184 : decode cX2_sellAll 184 = .ok (.aload_n 0, 1) := by decide +kernel
theorem dX2_sellAll_185 : decode cX2_sellAll 185 = .ok (.iload 4, 2) := by decide +kernel
theorem dX2_sellAll_187 : decode cX2_sellAll 187 = .ok (.ineg, 1) := by decide +kernel
theorem dX2_sellAll_188 : decode cX2_sellAll 188 = .ok (.aload_n 0, 1) := by decide +kernel
theorem dX2_sellAll_189 : decode cX2_sellAll 189 = .ok (.getfield 18, 3) := by decide +kernel
theorem dX2_sellAll_192 : decode cX2_sellAll 192 = .ok (.invokevirtual 46, 3) := by decide +kernel
theorem dX2_sellAll_195 : decode cX2_sellAll 195 = .ok (.aload_n 0, 1) := by decide +kernel
theorem dX2_sellAll_196 : decode cX2_sellAll 196 = .ok (.getfield 9, 3) := by decide +kernel
theorem dX2_sellAll_199 : decode cX2_sellAll 199 = .ok (.aload_n 0, 1) := by decide +kernel
theorem dX2_sellAll_200 : decode cX2_sellAll 200 = .ok (.getfield 21, 3) := by decide +kernel
theorem dX2_sellAll_203 : decode cX2_sellAll 203 = .ok (.invokestatic 82, 3) := by decide +kernel
theorem dX2_sellAll_206 : decode cX2_sellAll 206 = .ok (.return_, 1) := by decide +kernel
theorem dX2_measureGaps_0 : decode cX2_measureGaps 0 = .ok (.aload_n 0, 1) := by decide +kernel
theorem dX2_measureGaps_1 : decode cX2_measureGaps 1 = .ok (.aload_n 1, 1) := by decide +kernel
theorem dX2_measureGaps_2 : decode cX2_measureGaps 2 = .ok (.getfield 85, 3) := by decide +kernel
theorem dX2_measureGaps_5 : decode cX2_measureGaps 5 = .ok (.invokestatic 88, 3) := by decide +kernel
theorem dX2_measureGaps_8 : decode cX2_measureGaps 8 = .ok (.iload_n 3, 1) := by decide +kernel
theorem dX2_measureGaps_9 : decode cX2_measureGaps 9 = .ok (.iadd, 1) := by decide +kernel
theorem dX2_measureGaps_10 : decode cX2_measureGaps 10 = .ok (.aload_n 1, 1) := by decide +kernel
theorem dX2_measureGaps_11 : decode cX2_measureGaps 11 = .ok (.aload_n 2, 1) := by decide +kernel
theorem dX2_measureGaps_12 : decode cX2_measureGaps 12 = .ok (.invokevirtual 92, 3) := by decide +kernel
theorem dX2_measureGaps_15 : decode cX2_measureGaps 15 = .ok (.iconst 0, 1) := by decide +kernel
theorem dX2_measureGaps_16 : decode cX2_measureGaps 16 = .ok (.istore 4, 2) := by decide +kernel
theorem dX2_measureGaps_18 : decode cX2_measureGaps 18 = .ok (.iload 4, 2) := by decide +kernel
theorem dX2_measureGaps_20 : decode cX2_measureGaps 20 = .ok (.bipush 8, 2) := by decide +kernel
theorem dX2_measureGaps_22 : decode cX2_measureGaps 22 = .ok (.if_icmp .ge 31, 3) := by decide +kernel
theorem dX2_measureGaps_25 : decode cX2_measureGaps 25 = .ok (.aload_n 0, 1) := by decide +kernel
theorem dX2_measureGaps_26 : decode cX2_measureGaps 26 = .ok (.getfield 15, 3) := by decide +kernel
theorem dX2_measureGaps_29 : decode cX2_measureGaps 29 = .ok (.iload 4, 2) := by decide +kernel
theorem dX2_measureGaps_31 : decode cX2_measureGaps 31 = .ok (.aload_n 0, 1) := by decide +kernel
theorem dX2_measureGaps_32 : decode cX2_measureGaps 32 = .ok (.getfield 9, 3) := by decide +kernel
theorem dX2_measureGaps_35 : decode cX2_measureGaps 35 = .ok (.iload 4, 2) := by decide +kernel
theorem dX2_measureGaps_37 : decode cX2_measureGaps 37 = .ok (.iaload, 1) := by decide +kernel
theorem dX2_measureGaps_38 : decode cX2_measureGaps 38 = .ok (.aload_n 1, 1) := by decide +kernel
theorem dX2_measureGaps_39 : decode cX2_measureGaps 39 = .ok (.getfield 85, 3) := by decide +kernel
theorem dX2_measureGaps_42 : decode cX2_measureGaps 42 = .ok (.iload 4, 2) := by decide +kernel
theorem dX2_measureGaps_44 : decode cX2_measureGaps 44 = .ok (.iaload, 1) := by decide +kernel
theorem dX2_measureGaps_45 : decode cX2_measureGaps 45 = .ok (.isub, 1) := by decide +kernel
theorem dX2_measureGaps_46 : decode cX2_measureGaps 46 = .ok (.iastore, 1) := by decide +kernel
theorem dX2_measureGaps_47 : decode cX2_measureGaps 47 = .ok (.iinc 4 1, 3) := by decide +kernel
theorem dX2_measureGaps_50 : decode cX2_measureGaps 50 = .ok (.goto (-32), 3) := by decide +kernel
theorem dX2_measureGaps_53 : decode cX2_measureGaps 53 = .ok (.return_, 1) := by decide +kernel
theorem dX2_closeYear_0 : decode cX2_closeYear 0 = .ok (.aload 4, 2) := by decide +kernel
theorem dX2_closeYear_2 : decode cX2_closeYear 2 = .ok (.invokevirtual 96, 3) := by decide +kernel
theorem dX2_closeYear_5 : decode cX2_closeYear 5 = .ok (.aload_n 1, 1) := by decide +kernel
theorem dX2_closeYear_6 : decode cX2_closeYear 6 = .ok (.invokevirtual 101, 3) := by decide +kernel
theorem dX2_closeYear_9 : decode cX2_closeYear 9 = .ok (.istore 5, 2) := by decide +kernel
theorem dX2_closeYear_11 : decode cX2_closeYear 11 = .ok (.iload 5, 2) := by decide +kernel
theorem dX2_closeYear_13 : decode cX2_closeYear 13 = .ok (.aload_n 1, 1) := by decide +kernel
theorem dX2_closeYear_14 : decode cX2_closeYear 14 = .ok (.getfield 105, 3) := by decide +kernel
theorem dX2_closeYear_17 : decode cX2_closeYear 17 = .ok (.isub, 1) := by decide +kernel
theorem dX2_closeYear_18 : decode cX2_closeYear 18 = .ok (.istore 6, 2) := by decide +kernel
theorem dX2_closeYear_20 : decode cX2_closeYear 20 = .ok (.aload_n 0, 1) := by decide +kernel
theorem dX2_closeYear_21 : decode cX2_closeYear 21 = .ok (.aload_n 1, 1) := by decide +kernel
theorem dX2_closeYear_22 : decode cX2_closeYear 22 = .ok (.iload 6, 2) := by decide +kernel
theorem dX2_closeYear_24 : decode cX2_closeYear 24 = .ok (.ineg, 1) := by decide +kernel
theorem dX2_closeYear_25 : decode cX2_closeYear 25 = .ok (.aload 4, 2) := by decide +kernel
theorem dX2_closeYear_27 : decode cX2_closeYear 27 = .ok (.invokevirtual 108, 3) := by decide +kernel
theorem dX2_closeYear_30 : decode cX2_closeYear 30 = .ok (.aload_n 0, 1) := by decide +kernel
theorem dX2_closeYear_31 : decode cX2_closeYear 31 = .ok (.aload_n 1, 1) := by decide +kernel
theorem dX2_closeYear_32 : decode cX2_closeYear 32 = .ok (.iload 6, 2) := by decide +kernel
theorem dX2_closeYear_34 : decode cX2_closeYear 34 = .ok (.aload 4, 2) := by decide +kernel
theorem dX2_closeYear_36 : decode cX2_closeYear 36 = .ok (.invokevirtual 112, 3) := by decide +kernel
theorem dX2_closeYear_39 : decode cX2_closeYear 39 = .ok (.aload_n 0, 1) := by decide +kernel
theorem dX2_closeYear_40 : decode cX2_closeYear 40 = .ok (.aload_n 1, 1) := by decide +kernel
theorem dX2_closeYear_41 : decode cX2_closeYear 41 = .ok (.aload 4, 2) := by decide +kernel
theorem dX2_closeYear_43 : decode cX2_closeYear 43 = .ok (.invokevirtual 115, 3) := by decide +kernel
theorem dX2_closeYear_46 : decode cX2_closeYear 46 = .ok (.aload_n 0, 1) := by decide +kernel
theorem dX2_closeYear_47 : decode cX2_closeYear 47 = .ok (.aload_n 1, 1) := by decide +kernel
theorem dX2_closeYear_48 : decode cX2_closeYear 48 = .ok (.aload_n 3, 1) := by decide +kernel
theorem dX2_closeYear_49 : decode cX2_closeYear 49 = .ok (.aload 4, 2) := by decide +kernel
theorem dX2_closeYear_51 : decode cX2_closeYear 51 = .ok (.invokevirtual 119, 3) := by decide +kernel
theorem dX2_closeYear_54 : decode cX2_closeYear 54 = .ok (.aload_n 0, 1) := by decide +kernel
theorem dX2_closeYear_55 : decode cX2_closeYear 55 = .ok (.aload_n 1, 1) := by decide +kernel
theorem dX2_closeYear_56 : decode cX2_closeYear 56 = .ok (.getfield 123, 3) := by decide +kernel
theorem dX2_closeYear_59 : decode cX2_closeYear 59 = .ok (.aload_n 1, 1) := by decide +kernel
theorem dX2_closeYear_60 : decode cX2_closeYear 60 = .ok (.aload_n 2, 1) := by decide +kernel
theorem dX2_closeYear_61 : decode cX2_closeYear 61 = .ok (.aload 4, 2) := by decide +kernel
theorem dX2_closeYear_63 : decode cX2_closeYear 63 = .ok (.invokevirtual 126, 3) := by decide +kernel
theorem dX2_closeYear_66 : decode cX2_closeYear 66 = .ok (.aload_n 1, 1) := by decide +kernel
theorem dX2_closeYear_67 : decode cX2_closeYear 67 = .ok (.iconst 0, 1) := by decide +kernel
theorem dX2_closeYear_68 : decode cX2_closeYear 68 = .ok (.putfield 123, 3) := by decide +kernel
theorem dX2_closeYear_71 : decode cX2_closeYear 71 = .ok (.aload_n 1, 1) := by decide +kernel
theorem dX2_closeYear_72 : decode cX2_closeYear 72 = .ok (.iload 5, 2) := by decide +kernel
theorem dX2_closeYear_74 : decode cX2_closeYear 74 = .ok (.putfield 105, 3) := by decide +kernel
theorem dX2_closeYear_77 : decode cX2_closeYear 77 = .ok (.aload_n 1, 1) := by decide +kernel
theorem dX2_closeYear_78 : decode cX2_closeYear 78 = .ok (.dup, 1) := by decide +kernel
theorem dX2_closeYear_79 : decode cX2_closeYear 79 = .ok (.getfield 130, 3) := by decide +kernel
theorem dX2_closeYear_82 : decode cX2_closeYear 82 = .ok (.iconst 1, 1) := by decide +kernel
theorem dX2_closeYear_83 : decode cX2_closeYear 83 = .ok (.iadd, 1) := by decide +kernel
theorem dX2_closeYear_84 : decode cX2_closeYear 84 = .ok (.putfield 130, 3) := by decide +kernel
theorem dX2_closeYear_87 : decode cX2_closeYear 87 = .ok (.aload_n 1, 1) := by decide +kernel
theorem dX2_closeYear_88 : decode cX2_closeYear 88 = .ok (.getfield 130, 3) := by decide +kernel
theorem dX2_closeYear_91 : decode cX2_closeYear 91 = .ok (.ireturn, 1) := by decide +kernel
theorem dX2_chargeBack_0 : decode cX2_chargeBack 0 = .ok (.iload_n 2, 1) := by decide +kernel
theorem dX2_chargeBack_1 : decode cX2_chargeBack 1 = .ok (.aload_n 1, 1) := by decide +kernel
theorem dX2_chargeBack_2 : decode cX2_chargeBack 2 = .ok (.getfield 133, 3) := by decide +kernel
theorem dX2_chargeBack_5 : decode cX2_chargeBack 5 = .ok (.invokestatic 88, 3) := by decide +kernel
theorem dX2_chargeBack_8 : decode cX2_chargeBack 8 = .ok (.invokestatic 72, 3) := by decide +kernel
theorem dX2_chargeBack_11 : decode cX2_chargeBack 11 = .ok (.istore 4, 2) := by decide +kernel
theorem dX2_chargeBack_13 : decode cX2_chargeBack 13 = .ok (.iload 4, 2) := by decide +kernel
theorem dX2_chargeBack_15 : decode cX2_chargeBack 15 = .ok (.ifCond .le 44, 3) := by decide +kernel
theorem dX2_chargeBack_18 : decode cX2_chargeBack 18 = .ok (.aload_n 0, 1) := by decide +kernel
theorem dX2_chargeBack_19 : decode cX2_chargeBack 19 = .ok (.iload 4, 2) := by decide +kernel
theorem dX2_chargeBack_21 : decode cX2_chargeBack 21 = .ok (.aload_n 1, 1) := by decide +kernel
theorem dX2_chargeBack_22 : decode cX2_chargeBack 22 = .ok (.getfield 133, 3) := by decide +kernel
theorem dX2_chargeBack_25 : decode cX2_chargeBack 25 = .ok (.invokevirtual 46, 3) := by decide +kernel
theorem dX2_chargeBack_28 : decode cX2_chargeBack 28 = .ok (.aload_n 1, 1) := by decide +kernel
theorem dX2_chargeBack_29 : decode cX2_chargeBack 29 = .ok (.getfield 133, 3) := by decide +kernel
theorem dX2_chargeBack_32 : decode cX2_chargeBack 32 = .ok (.aload_n 0, 1) := by decide +kernel
theorem dX2_chargeBack_33 : decode cX2_chargeBack 33 = .ok (.getfield 21, 3) := by decide +kernel
theorem dX2_chargeBack_36 : decode cX2_chargeBack 36 = .ok (.invokestatic 82, 3) := by decide +kernel
theorem dX2_chargeBack_39 : decode cX2_chargeBack 39 = .ok (.aload_n 1, 1) := by decide +kernel
theorem dX2_chargeBack_40 : decode cX2_chargeBack 40 = .ok (.getfield 136, 3) := by decide +kernel
theorem dX2_chargeBack_43 : decode cX2_chargeBack 43 = .ok (.aload_n 0, 1) := by decide +kernel
theorem dX2_chargeBack_44 : decode cX2_chargeBack 44 = .ok (.getfield 21, 3) := by decide +kernel
theorem dX2_chargeBack_47 : decode cX2_chargeBack 47 = .ok (.invokestatic 75, 3) := by decide +kernel
theorem dX2_chargeBack_50 : decode cX2_chargeBack 50 = .ok (.aload_n 3, 1) := by decide +kernel
theorem dX2_chargeBack_51 : decode cX2_chargeBack 51 = .ok (.iconst 0, 1) := by decide +kernel
theorem dX2_chargeBack_52 : decode cX2_chargeBack 52 = .ok (.aload_n 0, 1) := by decide +kernel
theorem dX2_chargeBack_53 : decode cX2_chargeBack 53 = .ok (.getfield 21, 3) := by decide +kernel
theorem dX2_chargeBack_56 : decode cX2_chargeBack 56 = .ok (.invokevirtual 139, 3) := by decide +kernel
theorem dX2_chargeBack_59 : decode cX2_chargeBack 59 = .ok (.aload_n 1, 1) := by decide +kernel
theorem dX2_chargeBack_60 : decode cX2_chargeBack 60 = .ok (.getfield 123, 3) := by decide +kernel
theorem dX2_chargeBack_63 : decode cX2_chargeBack 63 = .ok (.aload_n 1, 1) := by decide +kernel
theorem dX2_chargeBack_64 : decode cX2_chargeBack 64 = .ok (.getfield 136, 3) := by decide +kernel
theorem dX2_chargeBack_67 : decode cX2_chargeBack 67 = .ok (.invokestatic 88, 3) := by decide +kernel
theorem dX2_chargeBack_70 : decode cX2_chargeBack 70 = .ok (.invokestatic 72, 3) := by decide +kernel
theorem dX2_chargeBack_73 : decode cX2_chargeBack 73 = .ok (.istore 5, 2) := by decide +kernel
theorem dX2_chargeBack_75 : decode cX2_chargeBack 75 = .ok (.iload 5, 2) := by decide +kernel
theorem dX2_chargeBack_77 : decode cX2_chargeBack 77 = .ok (.ifCond .le 55, 3) := by decide +kernel
theorem dX2_chargeBack_80 : decode cX2_chargeBack 80 = .ok (.aload_n 0, 1) := by decide +kernel
theorem dX2_chargeBack_81 : decode cX2_chargeBack 81 = .ok (.iload 5, 2) := by decide +kernel
theorem dX2_chargeBack_83 : decode cX2_chargeBack 83 = .ok (.aload_n 1, 1) := by decide +kernel
theorem dX2_chargeBack_84 : decode cX2_chargeBack 84 = .ok (.getfield 136, 3) := by decide +kernel
theorem dX2_chargeBack_87 : decode cX2_chargeBack 87 = .ok (.invokevirtual 46, 3) := by decide +kernel
theorem dX2_chargeBack_90 : decode cX2_chargeBack 90 = .ok (.aload_n 1, 1) := by decide +kernel
theorem dX2_chargeBack_91 : decode cX2_chargeBack 91 = .ok (.getfield 85, 3) := by decide +kernel
theorem dX2_chargeBack_94 : decode cX2_chargeBack 94 = .ok (.aload_n 0, 1) := by decide +kernel
theorem dX2_chargeBack_95 : decode cX2_chargeBack 95 = .ok (.getfield 21, 3) := by decide +kernel
theorem dX2_chargeBack_98 : decode cX2_chargeBack 98 = .ok (.invokestatic 75, 3) := by decide +kernel
theorem dX2_chargeBack_101 : decode cX2_chargeBack 101 = .ok (.aload_n 1, 1) := by decide +kernel
theorem dX2_chargeBack_102 : decode cX2_chargeBack 102 = .ok (.getfield 136, 3) := by decide +kernel
theorem dX2_chargeBack_105 : decode cX2_chargeBack 105 = .ok (.aload_n 0, 1) := by decide +kernel
theorem dX2_chargeBack_106 : decode cX2_chargeBack 106 = .ok (.getfield 21, 3) := by decide +kernel
theorem dX2_chargeBack_109 : decode cX2_chargeBack 109 = .ok (.invokestatic 82, 3) := by decide +kernel
theorem dX2_chargeBack_112 : decode cX2_chargeBack 112 = .ok (.aload_n 1, 1) := by decide +kernel
theorem dX2_chargeBack_113 : decode cX2_chargeBack 113 = .ok (.dup, 1) := by decide +kernel
theorem dX2_chargeBack_114 : decode cX2_chargeBack 114 = .ok (.getfield 123, 3) := by decide +kernel
theorem dX2_chargeBack_117 : decode cX2_chargeBack 117 = .ok (.iload 5, 2) := by decide +kernel
theorem dX2_chargeBack_119 : decode cX2_chargeBack 119 = .ok (.isub, 1) := by decide +kernel
theorem dX2_chargeBack_120 : decode cX2_chargeBack 120 = .ok (.putfield 123, 3) := by decide +kernel
theorem dX2_chargeBack_123 : decode cX2_chargeBack 123 = .ok (.aload_n 3, 1) := by decide +kernel
theorem dX2_chargeBack_124 : decode cX2_chargeBack 124 = .ok (.iconst 1, 1) := by decide +kernel
theorem dX2_chargeBack_125 : decode cX2_chargeBack 125 = .ok (.aload_n 0, 1) := by decide +kernel
theorem dX2_chargeBack_126 : decode cX2_chargeBack 126 = .ok (.getfield 21, 3) := by decide +kernel
theorem dX2_chargeBack_129 : decode cX2_chargeBack 129 = .ok (.invokevirtual 139, 3) := by decide +kernel
theorem dX2_chargeBack_132 : decode cX2_chargeBack 132 = .ok (.return_, 1) := by decide +kernel
theorem dX2_takeDebtLoss_0 : decode cX2_takeDebtLoss 0 = .ok (.iload_n 2, 1) := by decide +kernel
theorem dX2_takeDebtLoss_1 : decode cX2_takeDebtLoss 1 = .ok (.aload_n 1, 1) := by decide +kernel
theorem dX2_takeDebtLoss_2 : decode cX2_takeDebtLoss 2 = .ok (.getfield 123, 3) := by decide +kernel
theorem dX2_takeDebtLoss_5 : decode cX2_takeDebtLoss 5 = .ok (.ineg, 1) := by decide +kernel
theorem dX2_takeDebtLoss_6 : decode cX2_takeDebtLoss 6 = .ok (.invokestatic 72, 3) := by decide +kernel
theorem dX2_takeDebtLoss_9 : decode cX2_takeDebtLoss 9 = .ok (.istore 4, 2) := by decide +kernel
theorem dX2_takeDebtLoss_11 : decode cX2_takeDebtLoss 11 = .ok (.iload 4, 2) := by decide +kernel
theorem dX2_takeDebtLoss_13 : decode cX2_takeDebtLoss 13 = .ok (.ifCond .le 59, 3) := by decide +kernel
theorem dX2_takeDebtLoss_16 : decode cX2_takeDebtLoss 16 = .ok (.aload_n 0, 1) := by decide +kernel
theorem dX2_takeDebtLoss_17 : decode cX2_takeDebtLoss 17 = .ok (.iload 4, 2) := by decide +kernel
theorem dX2_takeDebtLoss_19 : decode cX2_takeDebtLoss 19 = .ok (.aload_n 1, 1) := by decide +kernel
theorem dX2_takeDebtLoss_20 : decode cX2_takeDebtLoss 20 = .ok (.getfield 142, 3) := by decide +kernel
theorem dX2_takeDebtLoss_23 : decode cX2_takeDebtLoss 23 = .ok (.aload_n 1, 1) := by decide +kernel
theorem dX2_takeDebtLoss_24 : decode cX2_takeDebtLoss 24 = .ok (.getfield 60, 3) := by decide +kernel
theorem dX2_takeDebtLoss_27 : decode cX2_takeDebtLoss 27 = .ok (.invokevirtual 145, 3) := by decide +kernel
theorem dX2_takeDebtLoss_30 : decode cX2_takeDebtLoss 30 = .ok (.aload_n 1, 1) := by decide +kernel
theorem dX2_takeDebtLoss_31 : decode cX2_takeDebtLoss 31 = .ok (.getfield 85, 3) := by decide +kernel
theorem dX2_takeDebtLoss_34 : decode cX2_takeDebtLoss 34 = .ok (.aload_n 0, 1) := by decide +kernel
theorem dX2_takeDebtLoss_35 : decode cX2_takeDebtLoss 35 = .ok (.getfield 21, 3) := by decide +kernel
theorem dX2_takeDebtLoss_38 : decode cX2_takeDebtLoss 38 = .ok (.invokestatic 82, 3) := by decide +kernel
theorem dX2_takeDebtLoss_41 : decode cX2_takeDebtLoss 41 = .ok (.aload_n 1, 1) := by decide +kernel
theorem dX2_takeDebtLoss_42 : decode cX2_takeDebtLoss 42 = .ok (.getfield 133, 3) := by decide +kernel
theorem dX2_takeDebtLoss_45 : decode cX2_takeDebtLoss 45 = .ok (.aload_n 0, 1) := by decide +kernel
theorem dX2_takeDebtLoss_46 : decode cX2_takeDebtLoss 46 = .ok (.getfield 21, 3) := by decide +kernel
theorem dX2_takeDebtLoss_49 : decode cX2_takeDebtLoss 49 = .ok (.invokestatic 75, 3) := by decide +kernel
theorem dX2_takeDebtLoss_52 : decode cX2_takeDebtLoss 52 = .ok (.aload_n 1, 1) := by decide +kernel
theorem dX2_takeDebtLoss_53 : decode cX2_takeDebtLoss 53 = .ok (.dup, 1) := by decide +kernel
theorem dX2_takeDebtLoss_54 : decode cX2_takeDebtLoss 54 = .ok (.getfield 123, 3) := by decide +kernel
theorem dX2_takeDebtLoss_57 : decode cX2_takeDebtLoss 57 = .ok (.iload 4, 2) := by decide +kernel
theorem dX2_takeDebtLoss_59 : decode cX2_takeDebtLoss 59 = .ok (.iadd, 1) := by decide +kernel
theorem dX2_takeDebtLoss_60 : decode cX2_takeDebtLoss 60 = .ok (.putfield 123, 3) := by decide +kernel
theorem dX2_takeDebtLoss_63 : decode cX2_takeDebtLoss 63 = .ok (.aload_n 3, 1) := by decide +kernel
theorem dX2_takeDebtLoss_64 : decode cX2_takeDebtLoss 64 = .ok (.iconst 2, 1) := by decide +kernel
theorem dX2_takeDebtLoss_65 : decode cX2_takeDebtLoss 65 = .ok (.aload_n 0, 1) := by decide +kernel
theorem dX2_takeDebtLoss_66 : decode cX2_takeDebtLoss 66 = .ok (.getfield 21, 3) := by decide +kernel
theorem dX2_takeDebtLoss_69 : decode cX2_takeDebtLoss 69 = .ok (.invokevirtual 139, 3) := by decide +kernel
theorem dX2_takeDebtLoss_72 : decode cX2_takeDebtLoss 72 = .ok (.return_, 1) := by decide +kernel
theorem dX2_cure_0 : decode cX2_cure 0 = .ok (.aload_n 1, 1) := by decide +kernel
theorem dX2_cure_1 : decode cX2_cure 1 = .ok (.getfield 123, 3) := by decide +kernel
theorem dX2_cure_4 : decode cX2_cure 4 = .ok (.ifCond .gt 4, 3) := by decide +kernel
theorem dX2_cure_7 : decode cX2_cure 7 = .ok (.return_, 1) := by decide +kernel
theorem dX2_cure_8 : decode cX2_cure 8 = .ok (.iconst 0, 1) := by decide +kernel
theorem dX2_cure_9 : decode cX2_cure 9 = .ok (.istore_n 3, 1) := by decide +kernel
theorem dX2_cure_10 : decode cX2_cure 10 = .ok (.iload_n 3, 1) := by decide +kernel
theorem dX2_cure_11 : decode cX2_cure 11 = .ok (.bipush 8, 2) := by decide +kernel
theorem dX2_cure_13 : decode cX2_cure 13 = .ok (.if_icmp .ge 43, 3) := by decide +kernel
theorem dX2_cure_16 : decode cX2_cure 16 = .ok (.aload_n 0, 1) := by decide +kernel
theorem dX2_cure_17 : decode cX2_cure 17 = .ok (.getfield 18, 3) := by decide +kernel
theorem dX2_cure_20 : decode cX2_cure 20 = .ok (.iload_n 3, 1) := by decide +kernel
theorem dX2_cure_21 : decode cX2_cure 21 = .ok (.aload_n 1, 1) := by decide +kernel
theorem dX2_cure_22 : decode cX2_cure 22 = .ok (.iload_n 3, 1) := by decide +kernel
theorem dX2_cure_23 : decode cX2_cure 23 = .ok (.invokevirtual 149, 3) := by decide +kernel
theorem dX2_cure_26 : decode cX2_cure 26 = .ok (.ifCond .eq 22, 3) := by decide +kernel
theorem dX2_cure_29 : decode cX2_cure 29 = .ok (.iconst 0, 1) := by decide +kernel
theorem dX2_cure_30 : decode cX2_cure 30 = .ok (.aload_n 1, 1) := by decide +kernel
theorem dX2_cure_31 : decode cX2_cure 31 = .ok (.iload_n 3, 1) := by decide +kernel
theorem dX2_cure_32 : decode cX2_cure 32 = .ok (.invokevirtual 153, 3) := by decide +kernel
theorem dX2_cure_35 : decode cX2_cure 35 = .ok (.aload_n 1, 1) := by decide +kernel
theorem dX2_cure_36 : decode cX2_cure 36 = .ok (.getfield 85, 3) := by decide +kernel
theorem dX2_cure_39 : decode cX2_cure 39 = .ok (.iload_n 3, 1) := by decide +kernel
theorem dX2_cure_40 : decode cX2_cure 40 = .ok (.iaload, 1) := by decide +kernel
theorem dX2_cure_41 : decode cX2_cure 41 = .ok (.isub, 1) := by decide +kernel
theorem dX2_cure_42 : decode cX2_cure 42 = .ok (.invokestatic 36, 3) := by decide +kernel
theorem dX2_cure_45 : decode cX2_cure 45 = .ok (.goto 4, 3) := by decide +kernel
theorem dX2_cure_48 : decode cX2_cure 48 = .ok (.iconst 0, 1) := by decide +kernel
theorem dX2_cure_49 : decode cX2_cure 49 = .ok (.iastore, 1) := by decide +kernel
theorem dX2_cure_50 : decode cX2_cure 50 = .ok (.iinc 3 1, 3) := by decide +kernel
theorem dX2_cure_53 : decode cX2_cure 53 = .ok (.goto (-43), 3) := by decide +kernel
theorem dX2_cure_56 : decode cX2_cure 56 = .ok (.aload_n 1, 1) := by decide +kernel
theorem dX2_cure_57 : decode cX2_cure 57 = .ok (.getfield 123, 3) := by decide +kernel
theorem dX2_cure_60 : decode cX2_cure 60 = .ok (.aload_n 0, 1) := by decide +kernel
theorem dX2_cure_61 : decode cX2_cure 61 = .ok (.getfield 18, 3) := by decide +kernel
theorem dX2_cure_64 : decode cX2_cure 64 = .ok (.invokestatic 88, 3) := by decide +kernel
theorem dX2_cure_67 : decode cX2_cure 67 = .ok (.invokestatic 72, 3) := by decide +kernel
theorem dX2_cure_70 : decode cX2_cure 70 = .ok (.istore_n 3, 1) := by decide +kernel
theorem dX2_cure_71 : decode cX2_cure 71 = .ok (.iload_n 3, 1) := by decide +kernel
theorem dX2_cure_72 : decode cX2_cure 72 = .ok (.ifCond .le 42, 3) := by decide +kernel
theorem dX2_cure_75 : decode cX2_cure 75 = .ok (.aload_n 0, 1) := by decide +kernel
theorem dX2_cure_76 : decode cX2_cure 76 = .ok (.iload_n 3, 1) := by decide +kernel
theorem dX2_cure_77 : decode cX2_cure 77 = .ok (.aload_n 0, 1) := by decide +kernel
theorem dX2_cure_78 : decode cX2_cure 78 = .ok (.getfield 18, 3) := by decide +kernel
theorem dX2_cure_81 : decode cX2_cure 81 = .ok (.invokevirtual 46, 3) := by decide +kernel
theorem dX2_cure_84 : decode cX2_cure 84 = .ok (.aload_n 1, 1) := by decide +kernel
theorem dX2_cure_85 : decode cX2_cure 85 = .ok (.getfield 85, 3) := by decide +kernel
theorem dX2_cure_88 : decode cX2_cure 88 = .ok (.aload_n 0, 1) := by decide +kernel
theorem dX2_cure_89 : decode cX2_cure 89 = .ok (.getfield 21, 3) := by decide +kernel
theorem dX2_cure_92 : decode cX2_cure 92 = .ok (.invokestatic 75, 3) := by decide +kernel
theorem dX2_cure_95 : decode cX2_cure 95 = .ok (.aload_n 1, 1) := by decide +kernel
theorem dX2_cure_96 : decode cX2_cure 96 = .ok (.dup, 1) := by decide +kernel
theorem dX2_cure_97 : decode cX2_cure 97 = .ok (.getfield 123, 3) := by decide +kernel
theorem dX2_cure_100 : decode cX2_cure 100 = .ok (.iload_n 3, 1) := by decide +kernel
theorem dX2_cure_101 : decode cX2_cure 101 = .ok (.isub, 1) := by decide +kernel
theorem dX2_cure_102 : decode cX2_cure 102 = .ok (.putfield 123, 3) := by decide +kernel
theorem dX2_cure_105 : decode cX2_cure 105 = .ok (.aload_n 2, 1) := by decide +kernel
theorem dX2_cure_106 : decode cX2_cure 106 = .ok (.iconst 3, 1) := by decide +kernel
theorem dX2_cure_107 : decode cX2_cure 107 = .ok (.aload_n 0, 1) := by decide +kernel
theorem dX2_cure_108 : decode cX2_cure 108 = .ok (.getfield 21, 3) := by decide +kernel
theorem dX2_cure_111 : decode cX2_cure 111 = .ok (.invokevirtual 139, 3) := by decide +kernel
theorem dX2_cure_114 : decode cX2_cure 114 = .ok (.return_, 1) := by decide +kernel
theorem dX2_giveSpecials_0 : decode cX2_giveSpecials 0 = .ok (.aload_n 0, 1) := by decide +kernel
theorem dX2_giveSpecials_1 : decode cX2_giveSpecials 1 = .ok (.getfield 21, 3) := by decide +kernel
theorem dX2_giveSpecials_4 : decode cX2_giveSpecials 4 = .ok (.iconst 0, 1) := by decide +kernel
theorem dX2_giveSpecials_5 : decode cX2_giveSpecials 5 = .ok (.invokestatic 30, 3) := by decide +kernel
theorem dX2_giveSpecials_8 : decode cX2_giveSpecials 8 = .ok (.iconst 0, 1) := by decide +kernel
theorem dX2_giveSpecials_9 : decode cX2_giveSpecials 9 = .ok (.istore 4, 2) := by decide +kernel
theorem dX2_giveSpecials_11 : decode cX2_giveSpecials 11 = .ok (.iload 4, 2) := by decide +kernel
theorem dX2_giveSpecials_13 : decode cX2_giveSpecials 13 = .ok (.aload_n 2, 1) := by decide +kernel
theorem dX2_giveSpecials_14 : decode cX2_giveSpecials 14 = .ok (.getfield 157, 3) := by decide +kernel
theorem dX2_giveSpecials_17 : decode cX2_giveSpecials 17 = .ok (.if_icmp .ge 67, 3) := by decide +kernel
theorem dX2_giveSpecials_20 : decode cX2_giveSpecials 20 = .ok (.aload_n 2, 1) := by decide +kernel
theorem dX2_giveSpecials_21 : decode cX2_giveSpecials 21 = .ok (.iload 4, 2) := by decide +kernel
theorem dX2_giveSpecials_23 : decode cX2_giveSpecials 23 = .ok (.aload_n 1, 1) := by decide +kernel
theorem dX2_giveSpecials_24 : decode cX2_giveSpecials 24 = .ok (.invokevirtual 160, 3) := by decide +kernel
theorem dX2_giveSpecials_27 : decode cX2_giveSpecials 27 = .ok (.istore 5, 2) := by decide +kernel
theorem dX2_giveSpecials_29 : decode cX2_giveSpecials 29 = .ok (.iload 5, 2) := by decide +kernel
theorem dX2_giveSpecials_31 : decode cX2_giveSpecials 31 = .ok (.ifCond .le 47, 3) := by decide +kernel
theorem dX2_giveSpecials_34 : decode cX2_giveSpecials 34 = .ok (.aload_n 2, 1) := by decide +kernel
theorem dX2_giveSpecials_35 : decode cX2_giveSpecials 35 = .ok (.getfield 164, 3) := by decide +kernel
theorem dX2_giveSpecials_38 : decode cX2_giveSpecials 38 = .ok (.iload 4, 2) := by decide +kernel
theorem dX2_giveSpecials_40 : decode cX2_giveSpecials 40 = .ok (.iaload, 1) := by decide +kernel
theorem dX2_giveSpecials_41 : decode cX2_giveSpecials 41 = .ok (.istore 6, 2) := by decide +kernel
theorem dX2_giveSpecials_43 : decode cX2_giveSpecials 43 = .ok (.aload_n 1, 1) := by decide +kernel
theorem dX2_giveSpecials_44 : decode cX2_giveSpecials 44 = .ok (.getfield 85, 3) := by decide +kernel
theorem dX2_giveSpecials_47 : decode cX2_giveSpecials 47 = .ok (.iload 6, 2) := by decide +kernel
theorem dX2_giveSpecials_49 : decode cX2_giveSpecials 49 = .ok (.dup2, 1) := by decide +kernel
theorem dX2_giveSpecials_50 : decode cX2_giveSpecials 50 = .ok (.iaload, 1) := by decide +kernel
theorem dX2_giveSpecials_51 : decode cX2_giveSpecials 51 = .ok (.iload 5, 2) := by decide +kernel
theorem dX2_giveSpecials_53 : decode cX2_giveSpecials 53 = .ok (.iadd, 1) := by decide +kernel
theorem dX2_giveSpecials_54 : decode cX2_giveSpecials 54 = .ok (.iastore, 1) := by decide +kernel
theorem dX2_giveSpecials_55 : decode cX2_giveSpecials 55 = .ok (.aload_n 1, 1) := by decide +kernel
theorem dX2_giveSpecials_56 : decode cX2_giveSpecials 56 = .ok (.dup, 1) := by decide +kernel
theorem dX2_giveSpecials_57 : decode cX2_giveSpecials 57 = .ok (.getfield 123, 3) := by decide +kernel
theorem dX2_giveSpecials_60 : decode cX2_giveSpecials 60 = .ok (.iload 5, 2) := by decide +kernel
theorem dX2_giveSpecials_62 : decode cX2_giveSpecials 62 = .ok (.isub, 1) := by decide +kernel
theorem dX2_giveSpecials_63 : decode cX2_giveSpecials 63 = .ok (.putfield 123, 3) := by decide +kernel
theorem dX2_giveSpecials_66 : decode cX2_giveSpecials 66 = .ok (.aload_n 0, 1) := by decide +kernel
theorem dX2_giveSpecials_67 : decode cX2_giveSpecials 67 = .ok (.getfield 21, 3) := by decide +kernel
theorem dX2_giveSpecials_70 : decode cX2_giveSpecials 70 = .ok (.iload 6, 2) := by decide +kernel
theorem dX2_giveSpecials_72 : decode cX2_giveSpecials 72 = .ok (.dup2, 1) := by decide +kernel
theorem dX2_giveSpecials_73 : decode cX2_giveSpecials 73 = .ok (.iaload, 1) := by decide +kernel
theorem dX2_giveSpecials_74 : decode cX2_giveSpecials 74 = .ok (.iload 5, 2) := by decide +kernel
theorem dX2_giveSpecials_76 : decode cX2_giveSpecials 76 = .ok (.iadd, 1) := by decide +kernel
theorem dX2_giveSpecials_77 : decode cX2_giveSpecials 77 = .ok (.iastore, 1) := by decide +kernel
theorem dX2_giveSpecials_78 : decode cX2_giveSpecials 78 = .ok (.iinc 4 1, 3) := by decide +kernel
theorem dX2_giveSpecials_81 : decode cX2_giveSpecials 81 = .ok (.goto (-70), 3) := by decide +kernel
theorem dX2_giveSpecials_84 : decode cX2_giveSpecials 84 = .ok (.aload_n 3, 1) := by decide +kernel
theorem dX2_giveSpecials_85 : decode cX2_giveSpecials 85 = .ok (.iconst 4, 1) := by decide +kernel
theorem dX2_giveSpecials_86 : decode cX2_giveSpecials 86 = .ok (.aload_n 0, 1) := by decide +kernel
theorem dX2_giveSpecials_87 : decode cX2_giveSpecials 87 = .ok (.getfield 21, 3) := by decide +kernel
theorem dX2_giveSpecials_90 : decode cX2_giveSpecials 90 = .ok (.invokevirtual 139, 3) := by decide +kernel
theorem dX2_giveSpecials_93 : decode cX2_giveSpecials 93 = .ok (.return_, 1) := by decide +kernel
theorem dX2_shareOut_0 : decode cX2_shareOut 0 = .ok (.iload_n 1, 1) := by decide +kernel
theorem dX2_shareOut_1 : decode cX2_shareOut 1 = .ok (.ifCond .ne 4, 3) := by decide +kernel
theorem dX2_shareOut_4 : decode cX2_shareOut 4 = .ok (.return_, 1) := by decide +kernel
theorem dX2_shareOut_5 : decode cX2_shareOut 5 = .ok (.aload_n 0, 1) := by decide +kernel
theorem dX2_shareOut_6 : decode cX2_shareOut 6 = .ok (.aload_n 2, 1) := by decide +kernel
theorem dX2_shareOut_7 : decode cX2_shareOut 7 = .ok (.aload_n 3, 1) := by decide +kernel
theorem dX2_shareOut_8 : decode cX2_shareOut 8 = .ok (.iload_n 1, 1) := by decide +kernel
theorem dX2_shareOut_9 : decode cX2_shareOut 9 = .ok (.invokevirtual 167, 3) := by decide +kernel
theorem dX2_shareOut_12 : decode cX2_shareOut 12 = .ok (.iconst 0, 1) := by decide +kernel
theorem dX2_shareOut_13 : decode cX2_shareOut 13 = .ok (.istore 5, 2) := by decide +kernel
theorem dX2_shareOut_15 : decode cX2_shareOut 15 = .ok (.iload 5, 2) := by decide +kernel
theorem dX2_shareOut_17 : decode cX2_shareOut 17 = .ok (.bipush 8, 2) := by decide +kernel
theorem dX2_shareOut_19 : decode cX2_shareOut 19 = .ok (.if_icmp .ge 42, 3) := by decide +kernel
theorem dX2_shareOut_22 : decode cX2_shareOut 22 = .ok (.aload_n 0, 1) := by decide +kernel
theorem dX2_shareOut_23 : decode cX2_shareOut 23 = .ok (.getfield 18, 3) := by decide +kernel
theorem dX2_shareOut_26 : decode cX2_shareOut 26 = .ok (.iload 5, 2) := by decide +kernel
theorem dX2_shareOut_28 : decode cX2_shareOut 28 = .ok (.iconst 0, 1) := by decide +kernel
theorem dX2_shareOut_29 : decode cX2_shareOut 29 = .ok (.iload_n 1, 1) := by decide +kernel
theorem dX2_shareOut_30 : decode cX2_shareOut 30 = .ok (.ifCond .le 13, 3) := by decide +kernel
theorem dX2_shareOut_33 : decode cX2_shareOut 33 = .ok (.aload_n 0, 1) := by decide +kernel
theorem dX2_shareOut_34 : decode cX2_shareOut 34 = .ok (.getfield 15, 3) := by decide +kernel
theorem dX2_shareOut_37 : decode cX2_shareOut 37 = .ok (.iload 5, 2) := by decide +kernel
theorem dX2_shareOut_39 : decode cX2_shareOut 39 = .ok (.iaload, 1) := by decide +kernel
theorem dX2_shareOut_40 : decode cX2_shareOut 40 = .ok (.goto 11, 3) := by decide +kernel
theorem dX2_shareOut_43 : decode cX2_shareOut 43 = .ok (.aload_n 0, 1) := by decide +kernel
theorem dX2_shareOut_44 : decode cX2_shareOut 44 = .ok (.getfield 15, 3) := by decide +kernel
theorem dX2_shareOut_47 : decode cX2_shareOut 47 = .ok (.iload 5, 2) := by decide +kernel
theorem dX2_shareOut_49 : decode cX2_shareOut 49 = .ok (.iaload, 1) := by decide +kernel
theorem dX2_shareOut_50 : decode cX2_shareOut 50 = .ok (.ineg, 1) := by decide +kernel
theorem dX2_shareOut_51 : decode cX2_shareOut 51 = .ok (.invokestatic 36, 3) := by decide +kernel
theorem dX2_shareOut_54 : decode cX2_shareOut 54 = .ok (.iastore, 1) := by decide +kernel
theorem dX2_shareOut_55 : decode cX2_shareOut 55 = .ok (.iinc 5 1, 3) := by decide +kernel
theorem dX2_shareOut_58 : decode cX2_shareOut 58 = .ok (.goto (-43), 3) := by decide +kernel
theorem dX2_shareOut_61 : decode cX2_shareOut 61 = .ok (.aload_n 0, 1) := by decide +kernel
theorem dX2_shareOut_62 : decode cX2_shareOut 62 = .ok (.iload_n 1, 1) := by decide +kernel
theorem dX2_shareOut_63 : decode cX2_shareOut 63 = .ok (.invokestatic 171, 3) := by decide +kernel
theorem dX2_shareOut_66 : decode cX2_shareOut 66 = .ok (.aload_n 0, 1) := by decide +kernel
theorem dX2_shareOut_67 : decode cX2_shareOut 67 = .ok (.getfield 18, 3) := by decide +kernel
theorem dX2_shareOut_70 : decode cX2_shareOut 70 = .ok (.invokevirtual 46, 3) := by decide +kernel
theorem dX2_shareOut_73 : decode cX2_shareOut 73 = .ok (.iload_n 1, 1) := by decide +kernel
theorem dX2_shareOut_74 : decode cX2_shareOut 74 = .ok (.ifCond .le 36, 3) := by decide +kernel
theorem dX2_shareOut_77 : decode cX2_shareOut 77 = .ok (.aload_n 2, 1) := by decide +kernel
theorem dX2_shareOut_78 : decode cX2_shareOut 78 = .ok (.getfield 85, 3) := by decide +kernel
theorem dX2_shareOut_81 : decode cX2_shareOut 81 = .ok (.aload_n 0, 1) := by decide +kernel
theorem dX2_shareOut_82 : decode cX2_shareOut 82 = .ok (.getfield 21, 3) := by decide +kernel
theorem dX2_shareOut_85 : decode cX2_shareOut 85 = .ok (.invokestatic 75, 3) := by decide +kernel
theorem dX2_shareOut_88 : decode cX2_shareOut 88 = .ok (.aload 4, 2) := by decide +kernel
theorem dX2_shareOut_90 : decode cX2_shareOut 90 = .ok (.iconst 5, 1) := by decide +kernel
theorem dX2_shareOut_91 : decode cX2_shareOut 91 = .ok (.aload_n 0, 1) := by decide +kernel
theorem dX2_shareOut_92 : decode cX2_shareOut 92 = .ok (.getfield 21, 3) := by decide +kernel
theorem dX2_shareOut_95 : decode cX2_shareOut 95 = .ok (.invokevirtual 139, 3) := by decide +kernel
theorem dX2_shareOut_98 : decode cX2_shareOut 98 = .ok (.aload 4, 2) := by decide +kernel
theorem dX2_shareOut_100 : decode cX2_shareOut 100 = .ok (.bipush 6, 2) := by decide +kernel
theorem dX2_shareOut_102 : decode cX2_shareOut 102 = .ok (.aload_n 0, 1) := by decide +kernel
theorem dX2_shareOut_103 : decode cX2_shareOut 103 = .ok (.getfield 21, 3) := by decide +kernel
theorem dX2_shareOut_106 : decode cX2_shareOut 106 = .ok (.invokevirtual 139, 3) := by decide +kernel
theorem dX2_shareOut_109 : decode cX2_shareOut 109 = .ok (.return_, 1) := by decide +kernel
theorem dX2_shareOut_110 : decode cX2_shareOut 110 = .ok (.aload_n 0, 1) := by decide +kernel
theorem dX2_shareOut_111 : decode cX2_shareOut 111 = .ok (.getfield 21, 3) := by decide +kernel
theorem dX2_shareOut_114 : decode cX2_shareOut 114 = .ok (.aload_n 0, 1) := by decide +kernel
theorem dX2_shareOut_115 : decode cX2_shareOut 115 = .ok (.getfield 24, 3) := by decide +kernel
theorem dX2_shareOut_118 : decode cX2_shareOut 118 = .ok (.invokestatic 174, 3) := by decide +kernel
theorem dX2_shareOut_121 : decode cX2_shareOut 121 = .ok (.aload_n 0, 1) := by decide +kernel
theorem dX2_shareOut_122 : decode cX2_shareOut 122 = .ok (.iconst 5, 1) := by decide +kernel
theorem dX2_shareOut_123 : decode cX2_shareOut 123 = .ok (.aload 4, 2) := by decide +kernel
theorem dX2_shareOut_125 : decode cX2_shareOut 125 = .ok (.invokevirtual 177, 3) := by decide +kernel
theorem dX2_shareOut_128 : decode cX2_shareOut 128 = .ok (.aload 4, 2) := by decide +kernel
theorem dX2_shareOut_130 : decode cX2_shareOut 130 = .ok (.aload_n 0, 1) := by decide +kernel
theorem dX2_shareOut_131 : decode cX2_shareOut 131 = .ok (.aload_n 2, 1) := by decide +kernel
theorem dX2_shareOut_132 : decode cX2_shareOut 132 = .ok (.invokevirtual 181, 3) := by decide +kernel
theorem dX2_shareOut_135 : decode cX2_shareOut 135 = .ok (.putfield 185, 3) := by decide +kernel
theorem dX2_shareOut_138 : decode cX2_shareOut 138 = .ok (.aload_n 0, 1) := by decide +kernel
theorem dX2_shareOut_139 : decode cX2_shareOut 139 = .ok (.bipush 6, 2) := by decide +kernel
theorem dX2_shareOut_141 : decode cX2_shareOut 141 = .ok (.aload 4, 2) := by decide +kernel
theorem dX2_shareOut_143 : decode cX2_shareOut 143 = .ok (.invokevirtual 177, 3) := by decide +kernel
theorem dX2_shareOut_146 : decode cX2_shareOut 146 = .ok (.aload_n 2, 1) := by decide +kernel
theorem dX2_shareOut_147 : decode cX2_shareOut 147 = .ok (.getfield 85, 3) := by decide +kernel
theorem dX2_shareOut_150 : decode cX2_shareOut 150 = .ok (.aload_n 0, 1) := by decide +kernel
theorem dX2_shareOut_151 : decode cX2_shareOut 151 = .ok (.getfield 24, 3) := by decide +kernel
theorem dX2_shareOut_154 : decode cX2_shareOut 154 = .ok (.invokestatic 82, 3) := by decide +kernel
theorem dX2_shareOut_157 : decode cX2_shareOut 157 = .ok (.return_, 1) := by decide +kernel
theorem dX2_putLosses_0 : decode cX2_putLosses 0 = .ok (.aload_n 0, 1) := by decide +kernel
theorem dX2_putLosses_1 : decode cX2_putLosses 1 = .ok (.getfield 21, 3) := by decide +kernel
theorem dX2_putLosses_4 : decode cX2_putLosses 4 = .ok (.iconst 0, 1) := by decide +kernel
theorem dX2_putLosses_5 : decode cX2_putLosses 5 = .ok (.invokestatic 30, 3) := by decide +kernel
theorem dX2_putLosses_8 : decode cX2_putLosses 8 = .ok (.aload_n 0, 1) := by decide +kernel
theorem dX2_putLosses_9 : decode cX2_putLosses 9 = .ok (.getfield 21, 3) := by decide +kernel
theorem dX2_putLosses_12 : decode cX2_putLosses 12 = .ok (.aload_n 0, 1) := by decide +kernel
theorem dX2_putLosses_13 : decode cX2_putLosses 13 = .ok (.getfield 24, 3) := by decide +kernel
theorem dX2_putLosses_16 : decode cX2_putLosses 16 = .ok (.invokestatic 82, 3) := by decide +kernel
theorem dX2_putLosses_19 : decode cX2_putLosses 19 = .ok (.aload_n 2, 1) := by decide +kernel
theorem dX2_putLosses_20 : decode cX2_putLosses 20 = .ok (.iload_n 1, 1) := by decide +kernel
theorem dX2_putLosses_21 : decode cX2_putLosses 21 = .ok (.aload_n 0, 1) := by decide +kernel
theorem dX2_putLosses_22 : decode cX2_putLosses 22 = .ok (.getfield 21, 3) := by decide +kernel
theorem dX2_putLosses_25 : decode cX2_putLosses 25 = .ok (.invokevirtual 139, 3) := by decide +kernel
theorem dX2_putLosses_28 : decode cX2_putLosses 28 = .ok (.return_, 1) := by decide +kernel
theorem dX2_limitLosses_0 : decode cX2_limitLosses 0 = .ok (.iconst 0, 1) := by decide +kernel
theorem dX2_limitLosses_1 : decode cX2_limitLosses 1 = .ok (.istore_n 2, 1) := by decide +kernel
theorem dX2_limitLosses_2 : decode cX2_limitLosses 2 = .ok (.iload_n 2, 1) := by decide +kernel
theorem dX2_limitLosses_3 : decode cX2_limitLosses 3 = .ok (.bipush 8, 2) := by decide +kernel
theorem dX2_limitLosses_5 : decode cX2_limitLosses 5 = .ok (.if_icmp .ge 43, 3) := by decide +kernel
theorem dX2_limitLosses_8 : decode cX2_limitLosses 8 = .ok (.aload_n 0, 1) := by decide +kernel
theorem dX2_limitLosses_9 : decode cX2_limitLosses 9 = .ok (.getfield 27, 3) := by decide +kernel
theorem dX2_limitLosses_12 : decode cX2_limitLosses 12 = .ok (.iload_n 2, 1) := by decide +kernel
theorem dX2_limitLosses_13 : decode cX2_limitLosses 13 = .ok (.aload_n 1, 1) := by decide +kernel
theorem dX2_limitLosses_14 : decode cX2_limitLosses 14 = .ok (.iload_n 2, 1) := by decide +kernel
theorem dX2_limitLosses_15 : decode cX2_limitLosses 15 = .ok (.invokevirtual 149, 3) := by decide +kernel
theorem dX2_limitLosses_18 : decode cX2_limitLosses 18 = .ok (.ifCond .eq 22, 3) := by decide +kernel
theorem dX2_limitLosses_21 : decode cX2_limitLosses 21 = .ok (.iconst 0, 1) := by decide +kernel
theorem dX2_limitLosses_22 : decode cX2_limitLosses 22 = .ok (.aload_n 1, 1) := by decide +kernel
theorem dX2_limitLosses_23 : decode cX2_limitLosses 23 = .ok (.getfield 85, 3) := by decide +kernel
theorem dX2_limitLosses_26 : decode cX2_limitLosses 26 = .ok (.iload_n 2, 1) := by decide +kernel
theorem dX2_limitLosses_27 : decode cX2_limitLosses 27 = .ok (.iaload, 1) := by decide +kernel
theorem dX2_limitLosses_28 : decode cX2_limitLosses 28 = .ok (.aload_n 1, 1) := by decide +kernel
theorem dX2_limitLosses_29 : decode cX2_limitLosses 29 = .ok (.iload_n 2, 1) := by decide +kernel
theorem dX2_limitLosses_30 : decode cX2_limitLosses 30 = .ok (.invokevirtual 153, 3) := by decide +kernel
theorem dX2_limitLosses_33 : decode cX2_limitLosses 33 = .ok (.isub, 1) := by decide +kernel
theorem dX2_limitLosses_34 : decode cX2_limitLosses 34 = .ok (.invokestatic 36, 3) := by decide +kernel
theorem dX2_limitLosses_37 : decode cX2_limitLosses 37 = .ok (.goto 4, 3) := by decide +kernel
theorem dX2_limitLosses_40 : decode cX2_limitLosses 40 = .ok (.iconst 0, 1) := by decide +kernel
theorem dX2_limitLosses_41 : decode cX2_limitLosses 41 = .ok (.iastore, 1) := by decide +kernel
theorem dX2_limitLosses_42 : decode cX2_limitLosses 42 = .ok (.iinc 2 1, 3) := by decide +kernel
theorem dX2_limitLosses_45 : decode cX2_limitLosses 45 = .ok (.goto (-43), 3) := by decide +kernel
theorem dX2_limitLosses_48 : decode cX2_limitLosses 48 = .ok (.iconst 0, 1) := by decide +kernel
theorem dX2_limitLosses_49 : decode cX2_limitLosses 49 = .ok (.istore_n 2, 1) := by decide +kernel
theorem dX2_limitLosses_50 : decode cX2_limitLosses 50 = .ok (.iload_n 2, 1) := by decide +kernel
theorem dX2_limitLosses_51 : decode cX2_limitLosses 51 = .ok (.bipush 8, 2) := by decide +kernel
theorem dX2_limitLosses_53 : decode cX2_limitLosses 53 = .ok (.if_icmp .gt 62, 3) := by decide +kernel
theorem dX2_limitLosses_56 : decode cX2_limitLosses 56 = .ok (.aload_n 0, 1) := by decide +kernel
theorem dX2_limitLosses_57 : decode cX2_limitLosses 57 = .ok (.invokevirtual 188, 3) := by decide +kernel
theorem dX2_limitLosses_60 : decode cX2_limitLosses 60 = .ok (.istore_n 3, 1) := by decide +kernel
theorem dX2_limitLosses_61 : decode cX2_limitLosses 61 = .ok (.iload_n 3, 1) := by decide +kernel
theorem dX2_limitLosses_62 : decode cX2_limitLosses 62 = .ok (.ifCond .ne 5, 3) := by decide +kernel
theorem dX2_limitLosses_65 : decode cX2_limitLosses 65 = .ok (.iconst 0, 1) := by decide +kernel
theorem dX2_limitLosses_66 : decode cX2_limitLosses 66 = .ok (.ireturn, 1) := by decide +kernel
theorem dX2_limitLosses_67 : decode cX2_limitLosses 67 = .ok (.aload_n 0, 1) := by decide +kernel
theorem dX2_limitLosses_68 : decode cX2_limitLosses 68 = .ok (.aload_n 1, 1) := by decide +kernel
theorem dX2_limitLosses_69 : decode cX2_limitLosses 69 = .ok (.invokevirtual 191, 3) := by decide +kernel
theorem dX2_limitLosses_72 : decode cX2_limitLosses 72 = .ok (.istore 4, 2) := by decide +kernel
theorem dX2_limitLosses_74 : decode cX2_limitLosses 74 = .ok (.iload 4, 2) := by decide +kernel
theorem dX2_limitLosses_76 : decode cX2_limitLosses 76 = .ok (.ifCond .ne 11, 3) := by decide +kernel
theorem dX2_limitLosses_79 : decode cX2_limitLosses 79 = .ok (.aload_n 0, 1) := by decide +kernel
theorem dX2_limitLosses_80 : decode cX2_limitLosses 80 = .ok (.aload_n 1, 1) := by decide +kernel
theorem dX2_limitLosses_81 : decode cX2_limitLosses 81 = .ok (.iload_n 3, 1) := by decide +kernel
theorem dX2_limitLosses_82 : decode cX2_limitLosses 82 = .ok (.invokevirtual 194, 3) := by decide +kernel
theorem dX2_limitLosses_85 : decode cX2_limitLosses 85 = .ok (.iload_n 3, 1) := by decide +kernel
theorem dX2_limitLosses_86 : decode cX2_limitLosses 86 = .ok (.ireturn, 1) := by decide +kernel
theorem dX2_limitLosses_87 : decode cX2_limitLosses 87 = .ok (.aload_n 0, 1) := by decide +kernel
theorem dX2_limitLosses_88 : decode cX2_limitLosses 88 = .ok (.iload_n 3, 1) := by decide +kernel
