theorem dX2_limitLosses_89 : decode cX2_limitLosses 89 = .ok (.aload_n 1, 1) := by decide +kernel
theorem dX2_limitLosses_90 : decode cX2_limitLosses 90 = .ok (.getfield 142, 3) := by decide +kernel
theorem dX2_limitLosses_93 : decode cX2_limitLosses 93 = .ok (.iload 4, 2) := by decide +kernel
theorem dX2_limitLosses_95 : decode cX2_limitLosses 95 = .ok (.invokevirtual 145, 3) := by decide +kernel
theorem dX2_limitLosses_98 : decode cX2_limitLosses 98 = .ok (.aload_n 0, 1) := by decide +kernel
theorem dX2_limitLosses_99 : decode cX2_limitLosses 99 = .ok (.getfield 24, 3) := by decide +kernel
theorem dX2_limitLosses_102 : decode cX2_limitLosses 102 = .ok (.aload_n 0, 1) := by decide +kernel
theorem dX2_limitLosses_103 : decode cX2_limitLosses 103 = .ok (.getfield 21, 3) := by decide +kernel
theorem dX2_limitLosses_106 : decode cX2_limitLosses 106 = .ok (.invokestatic 75, 3) := by decide +kernel
theorem dX2_limitLosses_109 : decode cX2_limitLosses 109 = .ok (.iinc 2 1, 3) := by decide +kernel
theorem dX2_limitLosses_112 : decode cX2_limitLosses 112 = .ok (.goto (-62), 3) := by decide +kernel
theorem dX2_limitLosses_115 : decode cX2_limitLosses 115 = .ok (.iconst 0, 1) := by decide +kernel
theorem dX2_limitLosses_116 : decode cX2_limitLosses 116 = .ok (.ireturn, 1) := by decide +kernel
theorem dX2_cutToRooms_0 : decode cX2_cutToRooms 0 = .ok (.iconst 0, 1) := by decide +kernel
theorem dX2_cutToRooms_1 : decode cX2_cutToRooms 1 = .ok (.istore_n 1, 1) := by decide +kernel
theorem dX2_cutToRooms_2 : decode cX2_cutToRooms 2 = .ok (.iconst 0, 1) := by decide +kernel
theorem dX2_cutToRooms_3 : decode cX2_cutToRooms 3 = .ok (.istore_n 2, 1) := by decide +kernel
theorem dX2_cutToRooms_4 : decode cX2_cutToRooms 4 = .ok (.iload_n 2, 1) := by decide +kernel
theorem dX2_cutToRooms_5 : decode cX2_cutToRooms 5 = .ok (.bipush 8, 2) := by decide +kernel
theorem dX2_cutToRooms_7 : decode cX2_cutToRooms 7 = .ok (.if_icmp .ge 52, 3) := by decide +kernel
theorem dX2_cutToRooms_10 : decode cX2_cutToRooms 10 = .ok (.aload_n 0, 1) := by decide +kernel
theorem dX2_cutToRooms_11 : decode cX2_cutToRooms 11 = .ok (.getfield 24, 3) := by decide +kernel
theorem dX2_cutToRooms_14 : decode cX2_cutToRooms 14 = .ok (.iload_n 2, 1) := by decide +kernel
theorem dX2_cutToRooms_15 : decode cX2_cutToRooms 15 = .ok (.iaload, 1) := by decide +kernel
theorem dX2_cutToRooms_16 : decode cX2_cutToRooms 16 = .ok (.aload_n 0, 1) := by decide +kernel
theorem dX2_cutToRooms_17 : decode cX2_cutToRooms 17 = .ok (.getfield 27, 3) := by decide +kernel
theorem dX2_cutToRooms_20 : decode cX2_cutToRooms 20 = .ok (.iload_n 2, 1) := by decide +kernel
theorem dX2_cutToRooms_21 : decode cX2_cutToRooms 21 = .ok (.iaload, 1) := by decide +kernel
theorem dX2_cutToRooms_22 : decode cX2_cutToRooms 22 = .ok (.if_icmp .le 31, 3) := by decide +kernel
theorem dX2_cutToRooms_25 : decode cX2_cutToRooms 25 = .ok (.iload_n 1, 1) := by decide +kernel
theorem dX2_cutToRooms_26 : decode cX2_cutToRooms 26 = .ok (.aload_n 0, 1) := by decide +kernel
theorem dX2_cutToRooms_27 : decode cX2_cutToRooms 27 = .ok (.getfield 24, 3) := by decide +kernel
theorem dX2_cutToRooms_30 : decode cX2_cutToRooms 30 = .ok (.iload_n 2, 1) := by decide +kernel
theorem dX2_cutToRooms_31 : decode cX2_cutToRooms 31 = .ok (.iaload, 1) := by decide +kernel
theorem dX2_cutToRooms_32 : decode cX2_cutToRooms 32 = .ok (.aload_n 0, 1) := by decide +kernel
theorem dX2_cutToRooms_33 : decode cX2_cutToRooms 33 = .ok (.getfield 27, 3) := by decide +kernel
theorem dX2_cutToRooms_36 : decode cX2_cutToRooms 36 = .ok (.iload_n 2, 1) := by decide +kernel
theorem dX2_cutToRooms_37 : decode cX2_cutToRooms 37 = .ok (.iaload, 1) := by decide +kernel
theorem dX2_cutToRooms_38 : decode cX2_cutToRooms 38 = .ok (.isub, 1) := by decide +kernel
theorem dX2_cutToRooms_39 : decode cX2_cutToRooms 39 = .ok (.iadd, 1) := by decide +kernel
theorem dX2_cutToRooms_40 : decode cX2_cutToRooms 40 = .ok (.istore_n 1, 1) := by decide +kernel
theorem dX2_cutToRooms_41 : decode cX2_cutToRooms 41 = .ok (.aload_n 0, 1) := by decide +kernel
theorem dX2_cutToRooms_42 : decode cX2_cutToRooms 42 = .ok (.getfield 24, 3) := by decide +kernel
theorem dX2_cutToRooms_45 : decode cX2_cutToRooms 45 = .ok (.iload_n 2, 1) := by decide +kernel
theorem dX2_cutToRooms_46 : decode cX2_cutToRooms 46 = .ok (.aload_n 0, 1) := by decide +kernel
theorem dX2_cutToRooms_47 : decode cX2_cutToRooms 47 = .ok (.getfield 27, 3) := by decide +kernel
theorem dX2_cutToRooms_50 : decode cX2_cutToRooms 50 = .ok (.iload_n 2, 1) := by decide +kernel
theorem dX2_cutToRooms_51 : decode cX2_cutToRooms 51 = .ok (.iaload, 1) := by decide +kernel
theorem dX2_cutToRooms_52 : decode cX2_cutToRooms 52 = .ok (.iastore, 1) := by decide +kernel
theorem dX2_cutToRooms_53 : decode cX2_cutToRooms 53 = .ok (.iinc 2 1, 3) := by decide +kernel
theorem dX2_cutToRooms_56 : decode cX2_cutToRooms 56 = .ok (.goto (-52), 3) := by decide +kernel
theorem dX2_cutToRooms_59 : decode cX2_cutToRooms 59 = .ok (.iload_n 1, 1) := by decide +kernel
theorem dX2_cutToRooms_60 : decode cX2_cutToRooms 60 = .ok (.ireturn, 1) := by decide +kernel
theorem dX2_withRoomLeft_0 : decode cX2_withRoomLeft 0 = .ok (.iconst 0, 1) := by decide +kernel
theorem dX2_withRoomLeft_1 : decode cX2_withRoomLeft 1 = .ok (.istore_n 2, 1) := by decide +kernel
theorem dX2_withRoomLeft_2 : decode cX2_withRoomLeft 2 = .ok (.iconst 0, 1) := by decide +kernel
theorem dX2_withRoomLeft_3 : decode cX2_withRoomLeft 3 = .ok (.istore_n 3, 1) := by decide +kernel
theorem dX2_withRoomLeft_4 : decode cX2_withRoomLeft 4 = .ok (.iload_n 3, 1) := by decide +kernel
theorem dX2_withRoomLeft_5 : decode cX2_withRoomLeft 5 = .ok (.bipush 8, 2) := by decide +kernel
theorem dX2_withRoomLeft_7 : decode cX2_withRoomLeft 7 = .ok (.if_icmp .ge 38, 3) := by decide +kernel
theorem dX2_withRoomLeft_10 : decode cX2_withRoomLeft 10 = .ok (.aload_n 1, 1) := by decide +kernel
theorem dX2_withRoomLeft_11 : decode cX2_withRoomLeft 11 = .ok (.iload_n 3, 1) := by decide +kernel
theorem dX2_withRoomLeft_12 : decode cX2_withRoomLeft 12 = .ok (.invokevirtual 149, 3) := by decide +kernel
theorem dX2_withRoomLeft_15 : decode cX2_withRoomLeft 15 = .ok (.ifCond .eq 24, 3) := by decide +kernel
theorem dX2_withRoomLeft_18 : decode cX2_withRoomLeft 18 = .ok (.aload_n 0, 1) := by decide +kernel
theorem dX2_withRoomLeft_19 : decode cX2_withRoomLeft 19 = .ok (.getfield 24, 3) := by decide +kernel
theorem dX2_withRoomLeft_22 : decode cX2_withRoomLeft 22 = .ok (.iload_n 3, 1) := by decide +kernel
theorem dX2_withRoomLeft_23 : decode cX2_withRoomLeft 23 = .ok (.iaload, 1) := by decide +kernel
theorem dX2_withRoomLeft_24 : decode cX2_withRoomLeft 24 = .ok (.aload_n 0, 1) := by decide +kernel
theorem dX2_withRoomLeft_25 : decode cX2_withRoomLeft 25 = .ok (.getfield 27, 3) := by decide +kernel
theorem dX2_withRoomLeft_28 : decode cX2_withRoomLeft 28 = .ok (.iload_n 3, 1) := by decide +kernel
theorem dX2_withRoomLeft_29 : decode cX2_withRoomLeft 29 = .ok (.iaload, 1) := by decide +kernel
theorem dX2_withRoomLeft_30 : decode cX2_withRoomLeft 30 = .ok (.if_icmp .ge 9, 3) := by decide +kernel
theorem dX2_withRoomLeft_33 : decode cX2_withRoomLeft 33 = .ok (.iload_n 2, 1) := by decide +kernel
theorem dX2_withRoomLeft_34 : decode cX2_withRoomLeft 34 = .ok (.iconst 1, 1) := by decide +kernel
theorem dX2_withRoomLeft_35 : decode cX2_withRoomLeft 35 = .ok (.iload_n 3, 1) := by decide +kernel
theorem dX2_withRoomLeft_36 : decode cX2_withRoomLeft 36 = .ok (.ishl, 1) := by decide +kernel
theorem dX2_withRoomLeft_37 : decode cX2_withRoomLeft 37 = .ok (.ior, 1) := by decide +kernel
theorem dX2_withRoomLeft_38 : decode cX2_withRoomLeft 38 = .ok (.istore_n 2, 1) := by decide +kernel
theorem dX2_withRoomLeft_39 : decode cX2_withRoomLeft 39 = .ok (.iinc 3 1, 3) := by decide +kernel
theorem dX2_withRoomLeft_42 : decode cX2_withRoomLeft 42 = .ok (.goto (-38), 3) := by decide +kernel
theorem dX2_withRoomLeft_45 : decode cX2_withRoomLeft 45 = .ok (.iload_n 2, 1) := by decide +kernel
theorem dX2_withRoomLeft_46 : decode cX2_withRoomLeft 46 = .ok (.ireturn, 1) := by decide +kernel
theorem dX2_addToFirst_0 : decode cX2_addToFirst 0 = .ok (.iconst 0, 1) := by decide +kernel
theorem dX2_addToFirst_1 : decode cX2_addToFirst 1 = .ok (.istore_n 3, 1) := by decide +kernel
theorem dX2_addToFirst_2 : decode cX2_addToFirst 2 = .ok (.iload_n 3, 1) := by decide +kernel
theorem dX2_addToFirst_3 : decode cX2_addToFirst 3 = .ok (.bipush 8, 2) := by decide +kernel
theorem dX2_addToFirst_5 : decode cX2_addToFirst 5 = .ok (.if_icmp .ge 28, 3) := by decide +kernel
theorem dX2_addToFirst_8 : decode cX2_addToFirst 8 = .ok (.aload_n 1, 1) := by decide +kernel
theorem dX2_addToFirst_9 : decode cX2_addToFirst 9 = .ok (.iload_n 3, 1) := by decide +kernel
theorem dX2_addToFirst_10 : decode cX2_addToFirst 10 = .ok (.invokevirtual 149, 3) := by decide +kernel
theorem dX2_addToFirst_13 : decode cX2_addToFirst 13 = .ok (.ifCond .eq 14, 3) := by decide +kernel
theorem dX2_addToFirst_16 : decode cX2_addToFirst 16 = .ok (.aload_n 0, 1) := by decide +kernel
theorem dX2_addToFirst_17 : decode cX2_addToFirst 17 = .ok (.getfield 24, 3) := by decide +kernel
theorem dX2_addToFirst_20 : decode cX2_addToFirst 20 = .ok (.iload_n 3, 1) := by decide +kernel
theorem dX2_addToFirst_21 : decode cX2_addToFirst 21 = .ok (.dup2, 1) := by decide +kernel
theorem dX2_addToFirst_22 : decode cX2_addToFirst 22 = .ok (.iaload, 1) := by decide +kernel
theorem dX2_addToFirst_23 : decode cX2_addToFirst 23 = .ok (.iload_n 2, 1) := by decide +kernel
theorem dX2_addToFirst_24 : decode cX2_addToFirst 24 = .ok (.iadd, 1) := by decide +kernel
theorem dX2_addToFirst_25 : decode cX2_addToFirst 25 = .ok (.iastore, 1) := by decide +kernel
theorem dX2_addToFirst_26 : decode cX2_addToFirst 26 = .ok (.return_, 1) := by decide +kernel
theorem dX2_addToFirst_27 : decode cX2_addToFirst 27 = .ok (.iinc 3 1, 3) := by decide +kernel
theorem dX2_addToFirst_30 : decode cX2_addToFirst 30 = .ok (.goto (-28), 3) := by decide +kernel
theorem dX2_addToFirst_33 : decode cX2_addToFirst 33 = .ok (.return_, 1) := by decide +kernel
theorem dX2_valueAnew_0 : decode cX2_valueAnew 0 = .ok (.aload_n 1, 1) := by decide +kernel
theorem dX2_valueAnew_1 : decode cX2_valueAnew 1 = .ok (.invokevirtual 198, 3) := by decide +kernel
theorem dX2_valueAnew_4 : decode cX2_valueAnew 4 = .ok (.istore 4, 2) := by decide +kernel
theorem dX2_valueAnew_6 : decode cX2_valueAnew 6 = .ok (.aload_n 1, 1) := by decide +kernel
theorem dX2_valueAnew_7 : decode cX2_valueAnew 7 = .ok (.getfield 201, 3) := by decide +kernel
theorem dX2_valueAnew_10 : decode cX2_valueAnew 10 = .ok (.aload_n 1, 1) := by decide +kernel
theorem dX2_valueAnew_11 : decode cX2_valueAnew 11 = .ok (.getfield 204, 3) := by decide +kernel
theorem dX2_valueAnew_14 : decode cX2_valueAnew 14 = .ok (.invokestatic 174, 3) := by decide +kernel
theorem dX2_valueAnew_17 : decode cX2_valueAnew 17 = .ok (.aload_n 3, 1) := by decide +kernel
theorem dX2_valueAnew_18 : decode cX2_valueAnew 18 = .ok (.invokevirtual 96, 3) := by decide +kernel
theorem dX2_valueAnew_21 : decode cX2_valueAnew 21 = .ok (.aload_n 1, 1) := by decide +kernel
theorem dX2_valueAnew_22 : decode cX2_valueAnew 22 = .ok (.getfield 60, 3) := by decide +kernel
theorem dX2_valueAnew_25 : decode cX2_valueAnew 25 = .ok (.ifCond .eq 12, 3) := by decide +kernel
theorem dX2_valueAnew_28 : decode cX2_valueAnew 28 = .ok (.aload_n 0, 1) := by decide +kernel
theorem dX2_valueAnew_29 : decode cX2_valueAnew 29 = .ok (.iload 4, 2) := by decide +kernel
theorem dX2_valueAnew_31 : decode cX2_valueAnew 31 = .ok (.aload_n 1, 1) := by decide +kernel
theorem dX2_valueAnew_32 : decode cX2_valueAnew 32 = .ok (.aload_n 2, 1) := by decide +kernel
theorem dX2_valueAnew_33 : decode cX2_valueAnew 33 = .ok (.aload_n 3, 1) := by decide +kernel
theorem dX2_valueAnew_34 : decode cX2_valueAnew 34 = .ok (.invokevirtual 126, 3) := by decide +kernel
theorem dX2_valueAnew_37 : decode cX2_valueAnew 37 = .ok (.iload 4, 2) := by decide +kernel
theorem dX2_valueAnew_39 : decode cX2_valueAnew 39 = .ok (.ireturn, 1) := by decide +kernel
theorem dX2_letOut_0 : decode cX2_letOut 0 = .ok (.aload_n 2, 1) := by decide +kernel
theorem dX2_letOut_1 : decode cX2_letOut 1 = .ok (.getfield 85, 3) := by decide +kernel
theorem dX2_letOut_4 : decode cX2_letOut 4 = .ok (.iload_n 1, 1) := by decide +kernel
theorem dX2_letOut_5 : decode cX2_letOut 5 = .ok (.iaload, 1) := by decide +kernel
theorem dX2_letOut_6 : decode cX2_letOut 6 = .ok (.aload_n 2, 1) := by decide +kernel
theorem dX2_letOut_7 : decode cX2_letOut 7 = .ok (.getfield 207, 3) := by decide +kernel
theorem dX2_letOut_10 : decode cX2_letOut 10 = .ok (.iload_n 1, 1) := by decide +kernel
theorem dX2_letOut_11 : decode cX2_letOut 11 = .ok (.iaload, 1) := by decide +kernel
theorem dX2_letOut_12 : decode cX2_letOut 12 = .ok (.ineg, 1) := by decide +kernel
theorem dX2_letOut_13 : decode cX2_letOut 13 = .ok (.invokestatic 36, 3) := by decide +kernel
theorem dX2_letOut_16 : decode cX2_letOut 16 = .ok (.istore_n 3, 1) := by decide +kernel
theorem dX2_letOut_17 : decode cX2_letOut 17 = .ok (.iload_n 3, 1) := by decide +kernel
theorem dX2_letOut_18 : decode cX2_letOut 18 = .ok (.aload_n 2, 1) := by decide +kernel
theorem dX2_letOut_19 : decode cX2_letOut 19 = .ok (.getfield 85, 3) := by decide +kernel
theorem dX2_letOut_22 : decode cX2_letOut 22 = .ok (.iload_n 1, 1) := by decide +kernel
theorem dX2_letOut_23 : decode cX2_letOut 23 = .ok (.iaload, 1) := by decide +kernel
theorem dX2_letOut_24 : decode cX2_letOut 24 = .ok (.isub, 1) := by decide +kernel
theorem dX2_letOut_25 : decode cX2_letOut 25 = .ok (.istore 4, 2) := by decide +kernel
theorem dX2_letOut_27 : decode cX2_letOut 27 = .ok (.aload_n 2, 1) := by decide +kernel
theorem dX2_letOut_28 : decode cX2_letOut 28 = .ok (.getfield 133, 3) := by decide +kernel
theorem dX2_letOut_31 : decode cX2_letOut 31 = .ok (.iload_n 1, 1) := by decide +kernel
theorem dX2_letOut_32 : decode cX2_letOut 32 = .ok (.iaload, 1) := by decide +kernel
theorem dX2_letOut_33 : decode cX2_letOut 33 = .ok (.istore 5, 2) := by decide +kernel
theorem dX2_letOut_35 : decode cX2_letOut 35 = .ok (.aload_n 2, 1) := by decide +kernel
theorem dX2_letOut_36 : decode cX2_letOut 36 = .ok (.getfield 136, 3) := by decide +kernel
theorem dX2_letOut_39 : decode cX2_letOut 39 = .ok (.iload_n 1, 1) := by decide +kernel
theorem dX2_letOut_40 : decode cX2_letOut 40 = .ok (.iaload, 1) := by decide +kernel
theorem dX2_letOut_41 : decode cX2_letOut 41 = .ok (.istore 6, 2) := by decide +kernel
theorem dX2_letOut_43 : decode cX2_letOut 43 = .ok (.aload_n 2, 1) := by decide +kernel
theorem dX2_letOut_44 : decode cX2_letOut 44 = .ok (.dup, 1) := by decide +kernel
theorem dX2_letOut_45 : decode cX2_letOut 45 = .ok (.getfield 210, 3) := by decide +kernel
theorem dX2_letOut_48 : decode cX2_letOut 48 = .ok (.iload_n 3, 1) := by decide +kernel
theorem dX2_letOut_49 : decode cX2_letOut 49 = .ok (.isub, 1) := by decide +kernel
theorem dX2_letOut_50 : decode cX2_letOut 50 = .ok (.putfield 210, 3) := by decide +kernel
theorem dX2_letOut_53 : decode cX2_letOut 53 = .ok (.aload_n 2, 1) := by decide +kernel
theorem dX2_letOut_54 : decode cX2_letOut 54 = .ok (.iload_n 1, 1) := by decide +kernel
theorem dX2_letOut_55 : decode cX2_letOut 55 = .ok (.invokevirtual 213, 3) := by decide +kernel
theorem dX2_letOut_58 : decode cX2_letOut 58 = .ok (.aload_n 0, 1) := by decide +kernel
theorem dX2_letOut_59 : decode cX2_letOut 59 = .ok (.iload 4, 2) := by decide +kernel
theorem dX2_letOut_61 : decode cX2_letOut 61 = .ok (.aload_n 2, 1) := by decide +kernel
theorem dX2_letOut_62 : decode cX2_letOut 62 = .ok (.getfield 142, 3) := by decide +kernel
theorem dX2_letOut_65 : decode cX2_letOut 65 = .ok (.aload_n 2, 1) := by decide +kernel
theorem dX2_letOut_66 : decode cX2_letOut 66 = .ok (.getfield 60, 3) := by decide +kernel
theorem dX2_letOut_69 : decode cX2_letOut 69 = .ok (.invokevirtual 145, 3) := by decide +kernel
theorem dX2_letOut_72 : decode cX2_letOut 72 = .ok (.aload_n 2, 1) := by decide +kernel
theorem dX2_letOut_73 : decode cX2_letOut 73 = .ok (.getfield 85, 3) := by decide +kernel
theorem dX2_letOut_76 : decode cX2_letOut 76 = .ok (.aload_n 0, 1) := by decide +kernel
theorem dX2_letOut_77 : decode cX2_letOut 77 = .ok (.getfield 21, 3) := by decide +kernel
theorem dX2_letOut_80 : decode cX2_letOut 80 = .ok (.invokestatic 82, 3) := by decide +kernel
theorem dX2_letOut_83 : decode cX2_letOut 83 = .ok (.aload_n 0, 1) := by decide +kernel
theorem dX2_letOut_84 : decode cX2_letOut 84 = .ok (.iload 5, 2) := by decide +kernel
theorem dX2_letOut_86 : decode cX2_letOut 86 = .ok (.aload_n 2, 1) := by decide +kernel
theorem dX2_letOut_87 : decode cX2_letOut 87 = .ok (.getfield 142, 3) := by decide +kernel
theorem dX2_letOut_90 : decode cX2_letOut 90 = .ok (.aload_n 2, 1) := by decide +kernel
theorem dX2_letOut_91 : decode cX2_letOut 91 = .ok (.getfield 60, 3) := by decide +kernel
theorem dX2_letOut_94 : decode cX2_letOut 94 = .ok (.invokevirtual 145, 3) := by decide +kernel
theorem dX2_letOut_97 : decode cX2_letOut 97 = .ok (.aload_n 2, 1) := by decide +kernel
theorem dX2_letOut_98 : decode cX2_letOut 98 = .ok (.getfield 133, 3) := by decide +kernel
theorem dX2_letOut_101 : decode cX2_letOut 101 = .ok (.aload_n 0, 1) := by decide +kernel
theorem dX2_letOut_102 : decode cX2_letOut 102 = .ok (.getfield 21, 3) := by decide +kernel
theorem dX2_letOut_105 : decode cX2_letOut 105 = .ok (.invokestatic 75, 3) := by decide +kernel
theorem dX2_letOut_108 : decode cX2_letOut 108 = .ok (.aload_n 0, 1) := by decide +kernel
theorem dX2_letOut_109 : decode cX2_letOut 109 = .ok (.iload 6, 2) := by decide +kernel
theorem dX2_letOut_111 : decode cX2_letOut 111 = .ok (.aload_n 2, 1) := by decide +kernel
theorem dX2_letOut_112 : decode cX2_letOut 112 = .ok (.getfield 142, 3) := by decide +kernel
theorem dX2_letOut_115 : decode cX2_letOut 115 = .ok (.aload_n 2, 1) := by decide +kernel
theorem dX2_letOut_116 : decode cX2_letOut 116 = .ok (.getfield 60, 3) := by decide +kernel
theorem dX2_letOut_119 : decode cX2_letOut 119 = .ok (.invokevirtual 145, 3) := by decide +kernel
theorem dX2_letOut_122 : decode cX2_letOut 122 = .ok (.aload_n 2, 1) := by decide +kernel
theorem dX2_letOut_123 : decode cX2_letOut 123 = .ok (.getfield 136, 3) := by decide +kernel
theorem dX2_letOut_126 : decode cX2_letOut 126 = .ok (.aload_n 0, 1) := by decide +kernel
theorem dX2_letOut_127 : decode cX2_letOut 127 = .ok (.getfield 21, 3) := by decide +kernel
theorem dX2_letOut_130 : decode cX2_letOut 130 = .ok (.invokestatic 75, 3) := by decide +kernel
theorem dX2_letOut_133 : decode cX2_letOut 133 = .ok (.iload_n 3, 1) := by decide +kernel
theorem dX2_letOut_134 : decode cX2_letOut 134 = .ok (.ireturn, 1) := by decide +kernel
theorem dX3_init_0 : decode cX3_init 0 = .ok (.aload_n 0, 1) := by decide +kernel
theorem dX3_init_1 : decode cX3_init 1 = .ok (.invokespecial 3, 3) := by decide +kernel
theorem dX3_init_4 : decode cX3_init 4 = .ok (.aload_n 0, 1) := by decide +kernel
theorem dX3_init_5 : decode cX3_init 5 = .ok (.sipush 400, 3) := by decide +kernel
theorem dX3_init_8 : decode cX3_init 8 = .ok (.newarray .int, 2) := by decide +kernel
theorem dX3_init_10 : decode cX3_init 10 = .ok (.putfield 9, 3) := by decide +kernel
theorem dX3_init_13 : decode cX3_init 13 = .ok (.return_, 1) := by decide +kernel
theorem dX3_addFour_0 : decode cX3_addFour 0 = .ok (.bipush 24, 2) := by decide +kernel
theorem dX3_addFour_2 : decode cX3_addFour 2 = .ok (.istore_n 2, 1) := by decide +kernel
theorem dX3_addFour_3 : decode cX3_addFour 3 = .ok (.iload_n 2, 1) := by decide +kernel
theorem dX3_addFour_4 : decode cX3_addFour 4 = .ok (.ifCond .lt 45, 3) := by decide +kernel
theorem dX3_addFour_7 : decode cX3_addFour 7 = .ok (.aload_n 0, 1) := by decide +kernel
theorem dX3_addFour_8 : decode cX3_addFour 8 = .ok (.getfield 15, 3) := by decide +kernel
theorem dX3_addFour_11 : decode cX3_addFour 11 = .ok (.sipush 400, 3) := by decide +kernel
theorem dX3_addFour_14 : decode cX3_addFour 14 = .ok (.if_icmp .ge 35, 3) := by decide +kernel
theorem dX3_addFour_17 : decode cX3_addFour 17 = .ok (.aload_n 0, 1) := by decide +kernel
theorem dX3_addFour_18 : decode cX3_addFour 18 = .ok (.getfield 9, 3) := by decide +kernel
theorem dX3_addFour_21 : decode cX3_addFour 21 = .ok (.aload_n 0, 1) := by decide +kernel
theorem dX3_addFour_22 : decode cX3_addFour 22 = .ok (.getfield 15, 3) := by decide +kernel
theorem dX3_addFour_25 : decode cX3_addFour 25 = .ok (.iload_n 1, 1) := by decide +kernel
theorem dX3_addFour_26 : decode cX3_addFour 26 = .ok (.iload_n 2, 1) := by decide +kernel
theorem dX3_addFour_27 : decode cX3_addFour 27 = .ok (.ishr, 1) := by decide +kernel
theorem dX3_addFour_28 : decode cX3_addFour 28 = .ok (.sipush 255, 3) := by decide +kernel
theorem dX3_addFour_31 : decode cX3_addFour 31 = .ok (.iand, 1) := by decide +kernel
theorem dX3_addFour_32 : decode cX3_addFour 32 = .ok (.iastore, 1) := by decide +kernel
theorem dX3_addFour_33 : decode cX3_addFour 33 = .ok (.aload_n 0, 1) := by decide +kernel
theorem dX3_addFour_34 : decode cX3_addFour 34 = .ok (.dup, 1) := by decide +kernel
theorem dX3_addFour_35 : decode cX3_addFour 35 = .ok (.getfield 15, 3) := by decide +kernel
theorem dX3_addFour_38 : decode cX3_addFour 38 = .ok (.iconst 1, 1) := by decide +kernel
theorem dX3_addFour_39 : decode cX3_addFour 39 = .ok (.iadd, 1) := by decide +kernel
theorem dX3_addFour_40 : decode cX3_addFour 40 = .ok (.putfield 15, 3) := by decide +kernel
theorem dX3_addFour_43 : decode cX3_addFour 43 = .ok (.iinc 2 (-8), 3) := by decide +kernel
theorem dX3_addFour_46 : decode cX3_addFour 46 = .ok (.goto (-43), 3) := by decide +kernel
theorem dX3_addFour_49 : decode cX3_addFour 49 = .ok (.return_, 1) := by decide +kernel
theorem dX3_start_0 : decode cX3_start 0 = .ok (.aload_n 0, 1) := by decide +kernel
theorem dX3_start_1 : decode cX3_start 1 = .ok (.iconst 0, 1) := by decide +kernel
theorem dX3_start_2 : decode cX3_start 2 = .ok (.putfield 19, 3) := by decide +kernel
theorem dX3_start_5 : decode cX3_start 5 = .ok (.aload_n 0, 1) := by decide +kernel
theorem dX3_start_6 : decode cX3_start 6 = .ok (.iconst (-1), 1) := by decide +kernel
theorem dX3_start_7 : decode cX3_start 7 = .ok (.putfield 22, 3) := by decide +kernel
theorem dX3_start_10 : decode cX3_start 10 = .ok (.aload_n 0, 1) := by decide +kernel
theorem dX3_start_11 : decode cX3_start 11 = .ok (.invokevirtual 25, 3) := by decide +kernel
theorem dX3_start_14 : decode cX3_start 14 = .ok (.return_, 1) := by decide +kernel
theorem dX3_advance_0 : decode cX3_advance 0 = .ok (.aload_n 0, 1) := by decide +kernel
theorem dX3_advance_1 : decode cX3_advance 1 = .ok (.getfield 19, 3) := by decide +kernel
theorem dX3_advance_4 : decode cX3_advance 4 = .ok (.aload_n 0, 1) := by decide +kernel
theorem dX3_advance_5 : decode cX3_advance 5 = .ok (.getfield 15, 3) := by decide +kernel
theorem dX3_advance_8 : decode cX3_advance 8 = .ok (.if_icmp .ge 30, 3) := by decide +kernel
theorem dX3_advance_11 : decode cX3_advance 11 = .ok (.aload_n 0, 1) := by decide +kernel
theorem dX3_advance_12 : decode cX3_advance 12 = .ok (.getfield 9, 3) := by decide +kernel
theorem dX3_advance_15 : decode cX3_advance 15 = .ok (.aload_n 0, 1) := by decide +kernel
theorem dX3_advance_16 : decode cX3_advance 16 = .ok (.getfield 19, 3) := by decide +kernel
theorem dX3_advance_19 : decode cX3_advance 19 = .ok (.iaload, 1) := by decide +kernel
theorem dX3_advance_20 : decode cX3_advance 20 = .ok (.bipush 32, 2) := by decide +kernel
theorem dX3_advance_22 : decode cX3_advance 22 = .ok (.if_icmp .ne 16, 3) := by decide +kernel
theorem dX3_advance_25 : decode cX3_advance 25 = .ok (.aload_n 0, 1) := by decide +kernel
theorem dX3_advance_26 : decode cX3_advance 26 = .ok (.dup, 1) := by decide +kernel
theorem dX3_advance_27 : decode cX3_advance 27 = .ok (.getfield 19, 3) := by decide +kernel
theorem dX3_advance_30 : decode cX3_advance 30 = .ok (.iconst 1, 1) := by decide +kernel
theorem dX3_advance_31 : decode cX3_advance 31 = .ok (.iadd, 1) := by decide +kernel
theorem dX3_advance_32 : decode cX3_advance 32 = .ok (.putfield 19, 3) := by decide +kernel
theorem dX3_advance_35 : decode cX3_advance 35 = .ok (.goto (-35), 3) := by decide +kernel
theorem dX3_advance_38 : decode cX3_advance 38 = .ok (.aload_n 0, 1) := by decide +kernel
theorem dX3_advance_39 : decode cX3_advance 39 = .ok (.aload_n 0, 1) := by decide +kernel
theorem dX3_advance_40 : decode cX3_advance 40 = .ok (.getfield 19, 3) := by decide +kernel
theorem dX3_advance_43 : decode cX3_advance 43 = .ok (.putfield 28, 3) := by decide +kernel
theorem dX3_advance_46 : decode cX3_advance 46 = .ok (.aload_n 0, 1) := by decide +kernel
theorem dX3_advance_47 : decode cX3_advance 47 = .ok (.getfield 19, 3) := by decide +kernel
theorem dX3_advance_50 : decode cX3_advance 50 = .ok (.aload_n 0, 1) := by decide +kernel
theorem dX3_advance_51 : decode cX3_advance 51 = .ok (.getfield 15, 3) := by decide +kernel
theorem dX3_advance_54 : decode cX3_advance 54 = .ok (.if_icmp .lt 11, 3) := by decide +kernel
theorem dX3_advance_57 : decode cX3_advance 57 = .ok (.aload_n 0, 1) := by decide +kernel
theorem dX3_advance_58 : decode cX3_advance 58 = .ok (.iconst 0, 1) := by decide +kernel
theorem dX3_advance_59 : decode cX3_advance 59 = .ok (.putfield 31, 3) := by decide +kernel
theorem dX3_advance_62 : decode cX3_advance 62 = .ok (.goto 245, 3) := by decide +kernel
theorem dX3_advance_65 : decode cX3_advance 65 = .ok (.aload_n 0, 1) := by decide +kernel
theorem dX3_advance_66 : decode cX3_advance 66 = .ok (.getfield 9, 3) := by decide +kernel
theorem dX3_advance_69 : decode cX3_advance 69 = .ok (.aload_n 0, 1) := by decide +kernel
theorem dX3_advance_70 : decode cX3_advance 70 = .ok (.getfield 19, 3) := by decide +kernel
theorem dX3_advance_73 : decode cX3_advance 73 = .ok (.iaload, 1) := by decide +kernel
theorem dX3_advance_74 : decode cX3_advance 74 = .ok (.bipush 97, 2) := by decide +kernel
theorem dX3_advance_76 : decode cX3_advance 76 = .ok (.if_icmp .lt 74, 3) := by decide +kernel
theorem dX3_advance_79 : decode cX3_advance 79 = .ok (.aload_n 0, 1) := by decide +kernel
theorem dX3_advance_80 : decode cX3_advance 80 = .ok (.getfield 9, 3) := by decide +kernel
theorem dX3_advance_83 : decode cX3_advance 83 = .ok (.aload_n 0, 1) := by decide +kernel
theorem dX3_advance_84 : decode cX3_advance 84 = .ok (.getfield 19, 3) := by decide +kernel
theorem dX3_advance_87 : decode cX3_advance 87 = .ok (.iaload, 1) := by decide +kernel
theorem dX3_advance_88 : decode cX3_advance 88 = .ok (.bipush 122, 2) := by decide +kernel
theorem dX3_advance_90 : decode cX3_advance 90 = .ok (.if_icmp .gt 60, 3) := by decide +kernel
theorem dX3_advance_93 : decode cX3_advance 93 = .ok (.aload_n 0, 1) := by decide +kernel
theorem dX3_advance_94 : decode cX3_advance 94 = .ok (.iconst 1, 1) := by decide +kernel
theorem dX3_advance_95 : decode cX3_advance 95 = .ok (.putfield 31, 3) := by decide +kernel
theorem dX3_advance_98 : decode cX3_advance 98 = .ok (.aload_n 0, 1) := by decide +kernel
theorem dX3_advance_99 : decode cX3_advance 99 = .ok (.getfield 19, 3) := by decide +kernel
theorem dX3_advance_102 : decode cX3_advance 102 = .ok (.aload_n 0, 1) := by decide +kernel
theorem dX3_advance_103 : decode cX3_advance 103 = .ok (.getfield 15, 3) := by decide +kernel
theorem dX3_advance_106 : decode cX3_advance 106 = .ok (.if_icmp .ge 201, 3) := by decide +kernel
theorem dX3_advance_109 : decode cX3_advance 109 = .ok (.aload_n 0, 1) := by decide +kernel
theorem dX3_advance_110 : decode cX3_advance 110 = .ok (.getfield 9, 3) := by decide +kernel
theorem dX3_advance_113 : decode cX3_advance 113 = .ok (.aload_n 0, 1) := by decide +kernel
theorem dX3_advance_114 : decode cX3_advance 114 = .ok (.getfield 19, 3) := by decide +kernel
theorem dX3_advance_117 : decode cX3_advance 117 = .ok (.iaload, 1) := by decide +kernel
theorem dX3_advance_118 : decode cX3_advance 118 = .ok (.bipush 97, 2) := by decide +kernel
theorem dX3_advance_120 : decode cX3_advance 120 = .ok (.if_icmp .lt 187, 3) := by decide +kernel
theorem dX3_advance_123 : decode cX3_advance 123 = .ok (.aload_n 0, 1) := by decide +kernel
theorem dX3_advance_124 : decode cX3_advance 124 = .ok (.getfield 9, 3) := by decide +kernel
theorem dX3_advance_127 : decode cX3_advance 127 = .ok (.aload_n 0, 1) := by decide +kernel
theorem dX3_advance_128 : decode cX3_advance 128 = .ok (.getfield 19, 3) := by decide +kernel
theorem dX3_advance_131 : decode cX3_advance 131 = .ok (.iaload, 1) := by decide +kernel
theorem dX3_advance_132 : decode cX3_advance 132 = .ok (.bipush 122, 2) := by decide +kernel
theorem dX3_advance_134 : decode cX3_advance 134 = .ok (.if_icmp .gt 173, 3) := by decide +kernel
theorem dX3_advance_137 : decode cX3_advance 137 = .ok (.aload_n 0, 1) := by decide +kernel
theorem dX3_advance_138 : decode cX3_advance 138 = .ok (.dup, 1) := by decide +kernel
theorem dX3_advance_139 : decode cX3_advance 139 = .ok (.getfield 19, 3) := by decide +kernel
theorem dX3_advance_142 : decode cX3_advance 142 = .ok (.iconst 1, 1) := by decide +kernel
theorem dX3_advance_143 : decode cX3_advance 143 = .ok (.iadd, 1) := by decide +kernel
theorem dX3_advance_144 : decode cX3_advance 144 = .ok (.putfield 19, 3) := by decide +kernel
theorem dX3_advance_147 : decode cX3_advance 147 = .ok (.goto (-49), 3) := by decide +kernel
theorem dX3_advance_150 : decode cX3_advance 150 = .ok (.aload_n 0, 1) := by decide +kernel
theorem dX3_advance_151 : decode cX3_advance 151 = .ok (.getfield 9, 3) := by decide +kernel
theorem dX3_advance_154 : decode cX3_advance 154 = .ok (.aload_n 0, 1) := by decide +kernel
theorem dX3_advance_155 : decode cX3_advance 155 = .ok (.getfield 19, 3) := by decide +kernel
theorem dX3_advance_158 : decode cX3_advance 158 = .ok (.iaload, 1) := by decide +kernel
theorem dX3_advance_159 : decode cX3_advance 159 = .ok (.bipush 48, 2) := by decide +kernel
theorem dX3_advance_161 : decode cX3_advance 161 = .ok (.if_icmp .lt 117, 3) := by decide +kernel
theorem dX3_advance_164 : decode cX3_advance 164 = .ok (.aload_n 0, 1) := by decide +kernel
theorem dX3_advance_165 : decode cX3_advance 165 = .ok (.getfield 9, 3) := by decide +kernel
theorem dX3_advance_168 : decode cX3_advance 168 = .ok (.aload_n 0, 1) := by decide +kernel
theorem dX3_advance_169 : decode cX3_advance 169 = .ok (.getfield 19, 3) := by decide +kernel
theorem dX3_advance_172 : decode cX3_advance 172 = .ok (.iaload, 1) := by decide +kernel
theorem dX3_advance_173 : decode cX3_advance 173 = .ok (.bipush 57, 2) := by decide +kernel
theorem dX3_advance_175 : decode cX3_advance 175 = .ok (.if_icmp .gt 103, 3) := by decide +kernel
theorem dX3_advance_178 : decode cX3_advance 178 = .ok (.aload_n 0, 1) := by decide +kernel
theorem dX3_advance_179 : decode cX3_advance 179 = .ok (.iconst 2, 1) := by decide +kernel
theorem dX3_advance_180 : decode cX3_advance 180 = .ok (.putfield 31, 3) := by decide +kernel
theorem dX3_advance_183 : decode cX3_advance 183 = .ok (.aload_n 0, 1) := by decide +kernel
theorem dX3_advance_184 : decode cX3_advance 184 = .ok (.iconst 0, 1) := by decide +kernel
theorem dX3_advance_185 : decode cX3_advance 185 = .ok (.putfield 34, 3) := by decide +kernel
theorem dX3_advance_188 : decode cX3_advance 188 = .ok (.aload_n 0, 1) := by decide +kernel
theorem dX3_advance_189 : decode cX3_advance 189 = .ok (.getfield 19, 3) := by decide +kernel
theorem dX3_advance_192 : decode cX3_advance 192 = .ok (.aload_n 0, 1) := by decide +kernel
theorem dX3_advance_193 : decode cX3_advance 193 = .ok (.getfield 15, 3) := by decide +kernel
theorem dX3_advance_196 : decode cX3_advance 196 = .ok (.if_icmp .ge 111, 3) := by decide +kernel
theorem dX3_advance_199 : decode cX3_advance 199 = .ok (.aload_n 0, 1) := by decide +kernel
theorem dX3_advance_200 : decode cX3_advance 200 = .ok (.getfield 9, 3) := by decide +kernel
theorem dX3_advance_203 : decode cX3_advance 203 = .ok (.aload_n 0, 1) := by decide +kernel
theorem dX3_advance_204 : decode cX3_advance 204 = .ok (.getfield 19, 3) := by decide +kernel
theorem dX3_advance_207 : decode cX3_advance 207 = .ok (.iaload, 1) := by decide +kernel
theorem dX3_advance_208 : decode cX3_advance 208 = .ok (.bipush 48, 2) := by decide +kernel
theorem dX3_advance_210 : decode cX3_advance 210 = .ok (.if_icmp .lt 97, 3) := by decide +kernel
theorem dX3_advance_213 : decode cX3_advance 213 = .ok (.aload_n 0, 1) := by decide +kernel
theorem dX3_advance_214 : decode cX3_advance 214 = .ok (.getfield 9, 3) := by decide +kernel
theorem dX3_advance_217 : decode cX3_advance 217 = .ok (.aload_n 0, 1) := by decide +kernel
theorem dX3_advance_218 : decode cX3_advance 218 = .ok (.getfield 19, 3) := by decide +kernel
theorem dX3_advance_221 : decode cX3_advance 221 = .ok (.iaload, 1) := by decide +kernel
theorem dX3_advance_222 : decode cX3_advance 222 = .ok (.bipush 57, 2) := by decide +kernel
theorem dX3_advance_224 : decode cX3_advance 224 = .ok (.if_icmp .gt 83, 3) := by decide +kernel
theorem dX3_advance_227 : decode cX3_advance 227 = .ok (.aload_n 0, 1) := by decide +kernel
theorem dX3_advance_228 : decode cX3_advance 228 = .ok (.aload_n 0, 1) := by decide +kernel
theorem dX3_advance_229 : decode cX3_advance 229 = .ok (.getfield 34, 3) := by decide +kernel
theorem dX3_advance_232 : decode cX3_advance 232 = .ok (.ldc 37, 2) := by decide +kernel
theorem dX3_advance_234 : decode cX3_advance 234 = .ok (.if_icmp .ge 26, 3) := by decide +kernel
theorem dX3_advance_237 : decode cX3_advance 237 = .ok (.aload_n 0, 1) := by decide +kernel
theorem dX3_advance_238 : decode cX3_advance 238 = .ok (.getfield 34, 3) := by decide +kernel
theorem dX3_advance_241 : decode cX3_advance 241 = .ok (.bipush 10, 2) := by decide +kernel
theorem dX3_advance_243 : decode cX3_advance 243 = .ok (.imul, 1) := by decide +kernel
theorem dX3_advance_244 : decode cX3_advance 244 = .ok (.aload_n 0, 1) := by decide +kernel
theorem dX3_advance_245 : decode cX3_advance 245 = .ok (.getfield 9, 3) := by decide +kernel
theorem dX3_advance_248 : decode cX3_advance 248 = .ok (.aload_n 0, 1) := by decide +kernel
theorem dX3_advance_249 : decode cX3_advance 249 = .ok (.getfield 19, 3) := by decide +kernel
theorem dX3_advance_252 : decode cX3_advance 252 = .ok (.iaload, 1) := by decide +kernel
theorem dX3_advance_253 : decode cX3_advance 253 = .ok (.iadd, 1) := by decide +kernel
theorem dX3_advance_254 : decode cX3_advance 254 = .ok (.bipush 48, 2) := by decide +kernel
theorem dX3_advance_256 : decode cX3_advance 256 = .ok (.isub, 1) := by decide +kernel
theorem dX3_advance_257 : decode cX3_advance 257 = .ok (.goto 5, 3) := by decide +kernel
theorem dX3_advance_260 : decode cX3_advance 260 = .ok (.ldc 37, 2) := by decide +kernel
theorem dX3_advance_262 : decode cX3_advance 262 = .ok (.putfield 34, 3) := by decide +kernel
theorem dX3_advance_265 : decode cX3_advance 265 = .ok (.aload_n 0, 1) := by decide +kernel
theorem dX3_advance_266 : decode cX3_advance 266 = .ok (.dup, 1) := by decide +kernel
theorem dX3_advance_267 : decode cX3_advance 267 = .ok (.getfield 19, 3) := by decide +kernel
theorem dX3_advance_270 : decode cX3_advance 270 = .ok (.iconst 1, 1) := by decide +kernel
theorem dX3_advance_271 : decode cX3_advance 271 = .ok (.iadd, 1) := by decide +kernel
theorem dX3_advance_272 : decode cX3_advance 272 = .ok (.putfield 19, 3) := by decide +kernel
theorem dX3_advance_275 : decode cX3_advance 275 = .ok (.goto (-87), 3) := by decide +kernel
theorem dX3_advance_278 : decode cX3_advance 278 = .ok (.aload_n 0, 1) := by decide +kernel
theorem dX3_advance_279 : decode cX3_advance 279 = .ok (.iconst 3, 1) := by decide +kernel
theorem dX3_advance_280 : decode cX3_advance 280 = .ok (.putfield 31, 3) := by decide +kernel
theorem dX3_advance_283 : decode cX3_advance 283 = .ok (.aload_n 0, 1) := by decide +kernel
theorem dX3_advance_284 : decode cX3_advance 284 = .ok (.aload_n 0, 1) := by decide +kernel
theorem dX3_advance_285 : decode cX3_advance 285 = .ok (.getfield 9, 3) := by decide +kernel
theorem dX3_advance_288 : decode cX3_advance 288 = .ok (.aload_n 0, 1) := by decide +kernel
theorem dX3_advance_289 : decode cX3_advance 289 = .ok (.getfield 19, 3) := by decide +kernel
theorem dX3_advance_292 : decode cX3_advance 292 = .ok (.iaload, 1) := by decide +kernel
theorem dX3_advance_293 : decode cX3_advance 293 = .ok (.i2c, 1) := by decide +kernel
theorem dX3_advance_294 : decode cX3_advance 294 = .ok (.putfield 38, 3) := by decide +kernel
theorem dX3_advance_297 : decode cX3_advance 297 = .ok (.aload_n 0, 1) := by decide +kernel
theorem dX3_advance_298 : decode cX3_advance 298 = .ok (.dup, 1) := by decide +kernel
theorem dX3_advance_299 : decode cX3_advance 299 = .ok (.getfield 19, 3) := by decide +kernel
theorem dX3_advance_302 : decode cX3_advance 302 = .ok (.iconst 1, 1) := by decide +kernel
theorem dX3_advance_303 : decode cX3_advance 303 = .ok (.iadd, 1) := by decide +kernel
theorem dX3_advance_304 : decode cX3_advance 304 = .ok (.putfield 19, 3) := by decide +kernel
theorem dX3_advance_307 : decode cX3_advance 307 = .ok (.return_, 1) := by decide +kernel
theorem dX3_isAtEnd_0 : decode cX3_isAtEnd 0 = .ok (.aload_n 0, 1) := by decide +kernel
theorem dX3_isAtEnd_1 : decode cX3_isAtEnd 1 = .ok (.getfield 31, 3) := by decide +kernel
theorem dX3_isAtEnd_4 : decode cX3_isAtEnd 4 = .ok (.ifCond .ne 7, 3) := by decide +kernel
theorem dX3_isAtEnd_7 : decode cX3_isAtEnd 7 = .ok (.iconst 1, 1) := by decide +kernel
theorem dX3_isAtEnd_8 : decode cX3_isAtEnd 8 = .ok (.goto 4, 3) := by decide +kernel
theorem dX3_isAtEnd_11 : decode cX3_isAtEnd 11 = .ok (.iconst 0, 1) := by decide +kernel
theorem dX3_isAtEnd_12 : decode cX3_isAtEnd 12 = .ok (.ireturn, 1) := by decide +kernel
theorem dX3_isNumber_0 : decode cX3_isNumber 0 = .ok (.aload_n 0, 1) := by decide +kernel
theorem dX3_isNumber_1 : decode cX3_isNumber 1 = .ok (.getfield 31, 3) := by decide +kernel
theorem dX3_isNumber_4 : decode cX3_isNumber 4 = .ok (.iconst 2, 1) := by decide +kernel
theorem dX3_isNumber_5 : decode cX3_isNumber 5 = .ok (.if_icmp .ne 7, 3) := by decide +kernel
theorem dX3_isNumber_8 : decode cX3_isNumber 8 = .ok (.iconst 1, 1) := by decide +kernel
theorem dX3_isNumber_9 : decode cX3_isNumber 9 = .ok (.goto 4, 3) := by decide +kernel
theorem dX3_isNumber_12 : decode cX3_isNumber 12 = .ok (.iconst 0, 1) := by decide +kernel
theorem dX3_isNumber_13 : decode cX3_isNumber 13 = .ok (.ireturn, 1) := by decide +kernel
theorem dX3_isSign_0 : decode cX3_isSign 0 = .ok (.aload_n 0, 1) := by decide +kernel
theorem dX3_isSign_1 : decode cX3_isSign 1 = .ok (.getfield 31, 3) := by decide +kernel
theorem dX3_isSign_4 : decode cX3_isSign 4 = .ok (.iconst 3, 1) := by decide +kernel
theorem dX3_isSign_5 : decode cX3_isSign 5 = .ok (.if_icmp .ne 15, 3) := by decide +kernel
theorem dX3_isSign_8 : decode cX3_isSign 8 = .ok (.aload_n 0, 1) := by decide +kernel
theorem dX3_isSign_9 : decode cX3_isSign 9 = .ok (.getfield 38, 3) := by decide +kernel
theorem dX3_isSign_12 : decode cX3_isSign 12 = .ok (.iload_n 1, 1) := by decide +kernel
theorem dX3_isSign_13 : decode cX3_isSign 13 = .ok (.if_icmp .ne 7, 3) := by decide +kernel
theorem dX3_isSign_16 : decode cX3_isSign 16 = .ok (.iconst 1, 1) := by decide +kernel
theorem dX3_isSign_17 : decode cX3_isSign 17 = .ok (.goto 4, 3) := by decide +kernel
theorem dX3_isSign_20 : decode cX3_isSign 20 = .ok (.iconst 0, 1) := by decide +kernel
theorem dX3_isSign_21 : decode cX3_isSign 21 = .ok (.ireturn, 1) := by decide +kernel
theorem dX3_isWord_0 : decode cX3_isWord 0 = .ok (.aload_n 0, 1) := by decide +kernel
theorem dX3_isWord_1 : decode cX3_isWord 1 = .ok (.getfield 31, 3) := by decide +kernel
theorem dX3_isWord_4 : decode cX3_isWord 4 = .ok (.iconst 1, 1) := by decide +kernel
theorem dX3_isWord_5 : decode cX3_isWord 5 = .ok (.if_icmp .ne 19, 3) := by decide +kernel
theorem dX3_isWord_8 : decode cX3_isWord 8 = .ok (.aload_n 0, 1) := by decide +kernel
theorem dX3_isWord_9 : decode cX3_isWord 9 = .ok (.getfield 19, 3) := by decide +kernel
theorem dX3_isWord_12 : decode cX3_isWord 12 = .ok (.aload_n 0, 1) := by decide +kernel
theorem dX3_isWord_13 : decode cX3_isWord 13 = .ok (.getfield 28, 3) := by decide +kernel
theorem dX3_isWord_16 : decode cX3_isWord 16 = .ok (.isub, 1) := by decide +kernel
theorem dX3_isWord_17 : decode cX3_isWord 17 = .ok (.aload_n 1, 1) := by decide +kernel
theorem dX3_isWord_18 : decode cX3_isWord 18 = .ok (.invokevirtual 42, 3) := by decide +kernel
theorem dX3_isWord_21 : decode cX3_isWord 21 = .ok (.if_icmp .eq 5, 3) := by decide +kernel
theorem dX3_isWord_24 : decode cX3_isWord 24 = .ok (.iconst 0, 1) := by decide +kernel
theorem dX3_isWord_25 : decode cX3_isWord 25 = .ok (.ireturn, 1) := by decide +kernel
theorem dX3_isWord_26 : decode cX3_isWord 26 = .ok (.iconst 0, 1) := by decide +kernel
theorem dX3_isWord_27 : decode cX3_isWord 27 = .ok (.istore_n 2, 1) := by decide +kernel
theorem dX3_isWord_28 : decode cX3_isWord 28 = .ok (.iload_n 2, 1) := by decide +kernel
theorem dX3_isWord_29 : decode cX3_isWord 29 = .ok (.aload_n 1, 1) := by decide +kernel
theorem dX3_isWord_30 : decode cX3_isWord 30 = .ok (.invokevirtual 42, 3) := by decide +kernel
theorem dX3_isWord_33 : decode cX3_isWord 33 = .ok (.if_icmp .ge 30, 3) := by decide +kernel
theorem dX3_isWord_36 : decode cX3_isWord 36 = .ok (.aload_n 0, 1) := by decide +kernel
theorem dX3_isWord_37 : decode cX3_isWord 37 = .ok (.getfield 9, 3) := by decide +kernel
theorem dX3_isWord_40 : decode cX3_isWord 40 = .ok (.aload_n 0, 1) := by decide +kernel
theorem dX3_isWord_41 : decode cX3_isWord 41 = .ok (.getfield 28, 3) := by decide +kernel
theorem dX3_isWord_44 : decode cX3_isWord 44 = .ok (.iload_n 2, 1) := by decide +kernel
theorem dX3_isWord_45 : decode cX3_isWord 45 = .ok (.iadd, 1) := by decide +kernel
theorem dX3_isWord_46 : decode cX3_isWord 46 = .ok (.iaload, 1) := by decide +kernel
theorem dX3_isWord_47 : decode cX3_isWord 47 = .ok (.aload_n 1, 1) := by decide +kernel
theorem dX3_isWord_48 : decode cX3_isWord 48 = .ok (.iload_n 2, 1) := by decide +kernel
theorem dX3_isWord_49 : decode cX3_isWord 49 = .ok (.invokevirtual 47, 3) := by decide +kernel
theorem dX3_isWord_52 : decode cX3_isWord 52 = .ok (.if_icmp .eq 5, 3) := by decide +kernel
theorem dX3_isWord_55 : decode cX3_isWord 55 = .ok (.iconst 0, 1) := by decide +kernel
theorem dX3_isWord_56 : decode cX3_isWord 56 = .ok (.ireturn, 1) := by decide +kernel
theorem dX3_isWord_57 : decode cX3_isWord 57 = .ok (.iinc 2 1, 3) := by decide +kernel
theorem dX3_isWord_60 : decode cX3_isWord 60 = .ok (.goto (-32), 3) := by decide +kernel
theorem dX3_isWord_63 : decode cX3_isWord 63 = .ok (.iconst 1, 1) := by decide +kernel
theorem dX3_isWord_64 : decode cX3_isWord 64 = .ok (.ireturn, 1) := by decide +kernel
theorem dX3_partnerHere_0 : decode cX3_partnerHere 0 = .ok (.aload_n 0, 1) := by decide +kernel
theorem dX3_partnerHere_1 : decode cX3_partnerHere 1 = .ok (.getfield 31, 3) := by decide +kernel
theorem dX3_partnerHere_4 : decode cX3_partnerHere 4 = .ok (.iconst 1, 1) := by decide +kernel
theorem dX3_partnerHere_5 : decode cX3_partnerHere 5 = .ok (.if_icmp .ne 34, 3) := by decide +kernel
theorem dX3_partnerHere_8 : decode cX3_partnerHere 8 = .ok (.aload_n 0, 1) := by decide +kernel
theorem dX3_partnerHere_9 : decode cX3_partnerHere 9 = .ok (.getfield 19, 3) := by decide +kernel
theorem dX3_partnerHere_12 : decode cX3_partnerHere 12 = .ok (.aload_n 0, 1) := by decide +kernel
theorem dX3_partnerHere_13 : decode cX3_partnerHere 13 = .ok (.getfield 28, 3) := by decide +kernel
theorem dX3_partnerHere_16 : decode cX3_partnerHere 16 = .ok (.isub, 1) := by decide +kernel
theorem dX3_partnerHere_17 : decode cX3_partnerHere 17 = .ok (.iconst 1, 1) := by decide +kernel
theorem dX3_partnerHere_18 : decode cX3_partnerHere 18 = .ok (.if_icmp .ne 21, 3) := by decide +kernel
theorem dX3_partnerHere_21 : decode cX3_partnerHere 21 = .ok (.aload_n 0, 1) := by decide +kernel
theorem dX3_partnerHere_22 : decode cX3_partnerHere 22 = .ok (.getfield 9, 3) := by decide +kernel
theorem dX3_partnerHere_25 : decode cX3_partnerHere 25 = .ok (.aload_n 0, 1) := by decide +kernel
theorem dX3_partnerHere_26 : decode cX3_partnerHere 26 = .ok (.getfield 28, 3) := by decide +kernel
theorem dX3_partnerHere_29 : decode cX3_partnerHere 29 = .ok (.iaload, 1) := by decide +kernel
theorem dX3_partnerHere_30 : decode cX3_partnerHere 30 = .ok (.bipush 104, 2) := by decide +kernel
theorem dX3_partnerHere_32 : decode cX3_partnerHere 32 = .ok (.if_icmp .gt 7, 3) := by decide +kernel
theorem dX3_partnerHere_35 : decode cX3_partnerHere 35 = .ok (.iconst 1, 1) := by decide +kernel
theorem dX3_partnerHere_36 : decode cX3_partnerHere 36 = .ok (.goto 4, 3) := by decide +kernel
theorem dX3_partnerHere_39 : decode cX3_partnerHere 39 = .ok (.iconst 0, 1) := by decide +kernel
theorem dX3_partnerHere_40 : decode cX3_partnerHere 40 = .ok (.istore_n 1, 1) := by decide +kernel
theorem dX3_partnerHere_41 : decode cX3_partnerHere 41 = .ok (.iload_n 1, 1) := by decide +kernel
theorem dX3_partnerHere_42 : decode cX3_partnerHere 42 = .ok (.ifCond .eq 18, 3) := by decide +kernel
theorem dX3_partnerHere_45 : decode cX3_partnerHere 45 = .ok (.aload_n 0, 1) := by decide +kernel
theorem dX3_partnerHere_46 : decode cX3_partnerHere 46 = .ok (.getfield 9, 3) := by decide +kernel
theorem dX3_partnerHere_49 : decode cX3_partnerHere 49 = .ok (.aload_n 0, 1) := by decide +kernel
theorem dX3_partnerHere_50 : decode cX3_partnerHere 50 = .ok (.getfield 28, 3) := by decide +kernel
theorem dX3_partnerHere_53 : decode cX3_partnerHere 53 = .ok (.iaload, 1) := by decide +kernel
theorem dX3_partnerHere_54 : decode cX3_partnerHere 54 = .ok (.bipush 97, 2) := by decide +kernel
theorem dX3_partnerHere_56 : decode cX3_partnerHere 56 = .ok (.isub, 1) := by decide +kernel
theorem dX3_partnerHere_57 : decode cX3_partnerHere 57 = .ok (.goto 4, 3) := by decide +kernel
theorem dX3_partnerHere_60 : decode cX3_partnerHere 60 = .ok (.iconst (-1), 1) := by decide +kernel
theorem dX3_partnerHere_61 : decode cX3_partnerHere 61 = .ok (.ireturn, 1) := by decide +kernel
theorem dX3_refuse_0 : decode cX3_refuse 0 = .ok (.aload_n 0, 1) := by decide +kernel
theorem dX3_refuse_1 : decode cX3_refuse 1 = .ok (.aload_n 0, 1) := by decide +kernel
theorem dX3_refuse_2 : decode cX3_refuse 2 = .ok (.getfield 28, 3) := by decide +kernel
theorem dX3_refuse_5 : decode cX3_refuse 5 = .ok (.putfield 22, 3) := by decide +kernel
theorem dX3_refuse_8 : decode cX3_refuse 8 = .ok (.iconst 0, 1) := by decide +kernel
theorem dX3_refuse_9 : decode cX3_refuse 9 = .ok (.ireturn, 1) := by decide +kernel
theorem dX3_needEnd_0 : decode cX3_needEnd 0 = .ok (.aload_n 0, 1) := by decide +kernel
theorem dX3_needEnd_1 : decode cX3_needEnd 1 = .ok (.getfield 31, 3) := by decide +kernel
theorem dX3_needEnd_4 : decode cX3_needEnd 4 = .ok (.ifCond .eq 10, 3) := by decide +kernel
theorem dX3_needEnd_7 : decode cX3_needEnd 7 = .ok (.aload_n 0, 1) := by decide +kernel
theorem dX3_needEnd_8 : decode cX3_needEnd 8 = .ok (.invokevirtual 51, 3) := by decide +kernel
theorem dX3_needEnd_11 : decode cX3_needEnd 11 = .ok (.ifCond .eq 7, 3) := by decide +kernel
theorem dX3_needEnd_14 : decode cX3_needEnd 14 = .ok (.iconst 1, 1) := by decide +kernel
theorem dX3_needEnd_15 : decode cX3_needEnd 15 = .ok (.goto 4, 3) := by decide +kernel
theorem dX3_needEnd_18 : decode cX3_needEnd 18 = .ok (.iconst 0, 1) := by decide +kernel
theorem dX3_needEnd_19 : decode cX3_needEnd 19 = .ok (.ireturn, 1) := by decide +kernel
theorem dX3_needWord_0 : decode cX3_needWord 0 = .ok (.aload_n 0, 1) := by decide +kernel
theorem dX3_needWord_1 : decode cX3_needWord 1 = .ok (.aload_n 1, 1) := by decide +kernel
theorem dX3_needWord_2 : decode cX3_needWord 2 = .ok (.invokevirtual 55, 3) := by decide +kernel
theorem dX3_needWord_5 : decode cX3_needWord 5 = .ok (.ifCond .ne 8, 3) := by decide +kernel
theorem dX3_needWord_8 : decode cX3_needWord 8 = .ok (.aload_n 0, 1) := by decide +kernel
theorem dX3_needWord_9 : decode cX3_needWord 9 = .ok (.invokevirtual 51, 3) := by decide +kernel
theorem dX3_needWord_12 : decode cX3_needWord 12 = .ok (.ireturn, 1) := by decide +kernel
theorem dX3_needWord_13 : decode cX3_needWord 13 = .ok (.aload_n 0, 1) := by decide +kernel
theorem dX3_needWord_14 : decode cX3_needWord 14 = .ok (.invokevirtual 25, 3) := by decide +kernel
theorem dX3_needWord_17 : decode cX3_needWord 17 = .ok (.iconst 1, 1) := by decide +kernel
theorem dX3_needWord_18 : decode cX3_needWord 18 = .ok (.ireturn, 1) := by decide +kernel
theorem dX3_needSign_0 : decode cX3_needSign 0 = .ok (.aload_n 0, 1) := by decide +kernel
theorem dX3_needSign_1 : decode cX3_needSign 1 = .ok (.iload_n 1, 1) := by decide +kernel
theorem dX3_needSign_2 : decode cX3_needSign 2 = .ok (.invokevirtual 59, 3) := by decide +kernel
theorem dX3_needSign_5 : decode cX3_needSign 5 = .ok (.ifCond .ne 8, 3) := by decide +kernel
theorem dX3_needSign_8 : decode cX3_needSign 8 = .ok (.aload_n 0, 1) := by decide +kernel
theorem dX3_needSign_9 : decode cX3_needSign 9 = .ok (.invokevirtual 51, 3) := by decide +kernel
theorem dX3_needSign_12 : decode cX3_needSign 12 = .ok (.ireturn, 1) := by decide +kernel
theorem dX3_needSign_13 : decode cX3_needSign 13 = .ok (.aload_n 0, 1) := by decide +kernel
theorem dX3_needSign_14 : decode cX3_needSign 14 = .ok (.invokevirtual 25, 3) := by decide +kernel
theorem dX3_needSign_17 : decode cX3_needSign 17 = .ok (.iconst 1, 1) := by decide +kernel
theorem dX3_needSign_18 : decode cX3_needSign 18 = .ok (.ireturn, 1) := by decide +kernel
theorem dX3_needPartner_0 : decode cX3_needPartner 0 = .ok (.aload_n 0, 1) := by decide +kernel
theorem dX3_needPartner_1 : decode cX3_needPartner 1 = .ok (.invokevirtual 63, 3) := by decide +kernel
theorem dX3_needPartner_4 : decode cX3_needPartner 4 = .ok (.istore_n 1, 1) := by decide +kernel
theorem dX3_needPartner_5 : decode cX3_needPartner 5 = .ok (.iload_n 1, 1) := by decide +kernel
theorem dX3_needPartner_6 : decode cX3_needPartner 6 = .ok (.iconst (-1), 1) := by decide +kernel
theorem dX3_needPartner_7 : decode cX3_needPartner 7 = .ok (.if_icmp .ne 11, 3) := by decide +kernel
theorem dX3_needPartner_10 : decode cX3_needPartner 10 = .ok (.aload_n 0, 1) := by decide +kernel
theorem dX3_needPartner_11 : decode cX3_needPartner 11 = .ok (.invokevirtual 51, 3) := by decide +kernel
theorem dX3_needPartner_14 : decode cX3_needPartner 14 = .ok (.pop, 1) := by decide +kernel
theorem dX3_needPartner_15 : decode cX3_needPartner 15 = .ok (.goto 7, 3) := by decide +kernel
theorem dX3_needPartner_18 : decode cX3_needPartner 18 = .ok (.aload_n 0, 1) := by decide +kernel
theorem dX3_needPartner_19 : decode cX3_needPartner 19 = .ok (.invokevirtual 25, 3) := by decide +kernel
theorem dX3_needPartner_22 : decode cX3_needPartner 22 = .ok (.iload_n 1, 1) := by decide +kernel
theorem dX3_needPartner_23 : decode cX3_needPartner 23 = .ok (.ireturn, 1) := by decide +kernel
theorem dX3_needNumber_0 : decode cX3_needNumber 0 = .ok (.aload_n 0, 1) := by decide +kernel
theorem dX3_needNumber_1 : decode cX3_needNumber 1 = .ok (.getfield 31, 3) := by decide +kernel
theorem dX3_needNumber_4 : decode cX3_needNumber 4 = .ok (.iconst 2, 1) := by decide +kernel
theorem dX3_needNumber_5 : decode cX3_needNumber 5 = .ok (.if_icmp .ne 19, 3) := by decide +kernel
theorem dX3_needNumber_8 : decode cX3_needNumber 8 = .ok (.aload_n 0, 1) := by decide +kernel
theorem dX3_needNumber_9 : decode cX3_needNumber 9 = .ok (.getfield 34, 3) := by decide +kernel
theorem dX3_needNumber_12 : decode cX3_needNumber 12 = .ok (.iload_n 1, 1) := by decide +kernel
theorem dX3_needNumber_13 : decode cX3_needNumber 13 = .ok (.if_icmp .lt 11, 3) := by decide +kernel
theorem dX3_needNumber_16 : decode cX3_needNumber 16 = .ok (.aload_n 0, 1) := by decide +kernel
theorem dX3_needNumber_17 : decode cX3_needNumber 17 = .ok (.getfield 34, 3) := by decide +kernel
theorem dX3_needNumber_20 : decode cX3_needNumber 20 = .ok (.iload_n 2, 1) := by decide +kernel
theorem dX3_needNumber_21 : decode cX3_needNumber 21 = .ok (.if_icmp .le 10, 3) := by decide +kernel
theorem dX3_needNumber_24 : decode cX3_needNumber 24 = .ok (.aload_n 0, 1) := by decide +kernel
theorem dX3_needNumber_25 : decode cX3_needNumber 25 = .ok (.invokevirtual 51, 3) := by decide +kernel
theorem dX3_needNumber_28 : decode cX3_needNumber 28 = .ok (.pop, 1) := by decide +kernel
theorem dX3_needNumber_29 : decode cX3_needNumber 29 = .ok (.iconst (-1), 1) := by decide +kernel
theorem dX3_needNumber_30 : decode cX3_needNumber 30 = .ok (.ireturn, 1) := by decide +kernel
theorem dX3_needNumber_31 : decode cX3_needNumber 31 = .ok (.aload_n 0, 1) := by decide +kernel
theorem dX3_needNumber_32 : decode cX3_needNumber 32 = .ok (.getfield 34, 3) := by decide +kernel
theorem dX3_needNumber_35 : decode cX3_needNumber 35 = .ok (.istore_n 3, 1) := by decide +kernel
theorem dX3_needNumber_36 : decode cX3_needNumber 36 = .ok (.aload_n 0, 1) := by decide +kernel
theorem dX3_needNumber_37 : decode cX3_needNumber 37 = .ok (.invokevirtual 25, 3) := by decide +kernel
theorem dX3_needNumber_40 : decode cX3_needNumber 40 = .ok (.iload_n 3, 1) := by decide +kernel
theorem dX3_needNumber_41 : decode cX3_needNumber 41 = .ok (.ireturn, 1) := by decide +kernel
theorem dX4_init_0 : decode cX4_init 0 = .ok (.aload_n 0, 1) := by decide +kernel
theorem dX4_init_1 : decode cX4_init 1 = .ok (.invokespecial 3, 3) := by decide +kernel
theorem dX4_init_4 : decode cX4_init 4 = .ok (.aload_n 0, 1) := by decide +kernel
theorem dX4_init_5 : decode cX4_init 5 = .ok (.bipush 8, 2) := by decide +kernel
theorem dX4_init_7 : decode cX4_init 7 = .ok (.newarray .int, 2) := by decide +kernel
theorem dX4_init_9 : decode cX4_init 9 = .ok (.putfield 9, 3) := by decide +kernel
theorem dX4_init_12 : decode cX4_init 12 = .ok (.aload_n 0, 1) := by decide +kernel
theorem dX4_init_13 : decode cX4_init 13 = .ok (.bipush 8, 2) := by decide +kernel
theorem dX4_init_15 : decode cX4_init 15 = .ok (.newarray .int, 2) := by decide +kernel
theorem dX4_init_17 : decode cX4_init 17 = .ok (.putfield 15, 3) := by decide +kernel
theorem dX4_init_20 : decode cX4_init 20 = .ok (.aload_n 0, 1) := by decide +kernel
theorem dX4_init_21 : decode cX4_init 21 = .ok (.bipush 8, 2) := by decide +kernel
theorem dX4_init_23 : decode cX4_init 23 = .ok (.newarray .int, 2) := by decide +kernel
theorem dX4_init_25 : decode cX4_init 25 = .ok (.putfield 18, 3) := by decide +kernel
theorem dX4_init_28 : decode cX4_init 28 = .ok (.aload_n 0, 1) := by decide +kernel
theorem dX4_init_29 : decode cX4_init 29 = .ok (.bipush 8, 2) := by decide +kernel
theorem dX4_init_31 : decode cX4_init 31 = .ok (.newarray .int, 2) := by decide +kernel
theorem dX4_init_33 : decode cX4_init 33 = .ok (.putfield 21, 3) := by decide +kernel
theorem dX4_init_36 : decode cX4_init 36 = .ok (.aload_n 0, 1) := by decide +kernel
theorem dX4_init_37 : decode cX4_init 37 = .ok (.bipush 8, 2) := by decide +kernel
theorem dX4_init_39 : decode cX4_init 39 = .ok (.newarray .int, 2) := by decide +kernel
theorem dX4_init_41 : decode cX4_init 41 = .ok (.putfield 24, 3) := by decide +kernel
theorem dX4_init_44 : decode cX4_init 44 = .ok (.aload_n 0, 1) := by decide +kernel
theorem dX4_init_45 : decode cX4_init 45 = .ok (.bipush 8, 2) := by decide +kernel
theorem dX4_init_47 : decode cX4_init 47 = .ok (.newarray .char, 2) := by decide +kernel
theorem dX4_init_49 : decode cX4_init 49 = .ok (.putfield 27, 3) := by decide +kernel
theorem dX4_init_52 : decode cX4_init 52 = .ok (.aload_n 0, 1) := by decide +kernel
theorem dX4_init_53 : decode cX4_init 53 = .ok (.bipush 40, 2) := by decide +kernel
theorem dX4_init_55 : decode cX4_init 55 = .ok (.newarray .int, 2) := by decide +kernel
theorem dX4_init_57 : decode cX4_init 57 = .ok (.putfield 31, 3) := by decide +kernel
theorem dX4_init_60 : decode cX4_init 60 = .ok (.aload_n 0, 1) := by decide +kernel
theorem dX4_init_61 : decode cX4_init 61 = .ok (.bipush 40, 2) := by decide +kernel
theorem dX4_init_63 : decode cX4_init 63 = .ok (.newarray .int, 2) := by decide +kernel
theorem dX4_init_65 : decode cX4_init 65 = .ok (.putfield 34, 3) := by decide +kernel
theorem dX4_init_68 : decode cX4_init 68 = .ok (.aload_n 0, 1) := by decide +kernel
theorem dX4_init_69 : decode cX4_init 69 = .ok (.bipush 40, 2) := by decide +kernel
theorem dX4_init_71 : decode cX4_init 71 = .ok (.newarray .char, 2) := by decide +kernel
theorem dX4_init_73 : decode cX4_init 73 = .ok (.putfield 37, 3) := by decide +kernel
theorem dX4_init_76 : decode cX4_init 76 = .ok (.return_, 1) := by decide +kernel
theorem dX4_sumOf_0 : decode cX4_sumOf 0 = .ok (.aload_n 0, 1) := by decide +kernel
theorem dX4_sumOf_1 : decode cX4_sumOf 1 = .ok (.aload_n 0, 1) := by decide +kernel
theorem dX4_sumOf_2 : decode cX4_sumOf 2 = .ok (.getfield 15, 3) := by decide +kernel
theorem dX4_sumOf_5 : decode cX4_sumOf 5 = .ok (.iload_n 1, 1) := by decide +kernel
theorem dX4_sumOf_6 : decode cX4_sumOf 6 = .ok (.iaload, 1) := by decide +kernel
theorem dX4_sumOf_7 : decode cX4_sumOf 7 = .ok (.aload_n 0, 1) := by decide +kernel
theorem dX4_sumOf_8 : decode cX4_sumOf 8 = .ok (.getfield 18, 3) := by decide +kernel
theorem dX4_sumOf_11 : decode cX4_sumOf 11 = .ok (.iload_n 1, 1) := by decide +kernel
theorem dX4_sumOf_12 : decode cX4_sumOf 12 = .ok (.iaload, 1) := by decide +kernel
theorem dX4_sumOf_13 : decode cX4_sumOf 13 = .ok (.aload_n 2, 1) := by decide +kernel
theorem dX4_sumOf_14 : decode cX4_sumOf 14 = .ok (.invokevirtual 40, 3) := by decide +kernel
theorem dX4_sumOf_17 : decode cX4_sumOf 17 = .ok (.ireturn, 1) := by decide +kernel
theorem dX4_gift_0 : decode cX4_gift 0 = .ok (.aload_n 2, 1) := by decide +kernel
theorem dX4_gift_1 : decode cX4_gift 1 = .ok (.aload_n 0, 1) := by decide +kernel
theorem dX4_gift_2 : decode cX4_gift 2 = .ok (.getfield 9, 3) := by decide +kernel
theorem dX4_gift_5 : decode cX4_gift 5 = .ok (.iload_n 1, 1) := by decide +kernel
theorem dX4_gift_6 : decode cX4_gift 6 = .ok (.iaload, 1) := by decide +kernel
theorem dX4_gift_7 : decode cX4_gift 7 = .ok (.invokevirtual 44, 3) := by decide +kernel
theorem dX4_gift_10 : decode cX4_gift 10 = .ok (.ifCond .eq 10, 3) := by decide +kernel
theorem dX4_gift_13 : decode cX4_gift 13 = .ok (.aload_n 2, 1) := by decide +kernel
theorem dX4_gift_14 : decode cX4_gift 14 = .ok (.getfield 50, 3) := by decide +kernel
theorem dX4_gift_17 : decode cX4_gift 17 = .ok (.ifCond .gt 5, 3) := by decide +kernel
theorem dX4_gift_20 : decode cX4_gift 20 = .ok (.iconst 0, 1) := by decide +kernel
theorem dX4_gift_21 : decode cX4_gift 21 = .ok (.ireturn, 1) := by decide +kernel
theorem dX4_gift_22 : decode cX4_gift 22 = .ok (.aload_n 0, 1) := by decide +kernel
theorem dX4_gift_23 : decode cX4_gift 23 = .ok (.getfield 27, 3) := by decide +kernel
theorem dX4_gift_26 : decode cX4_gift 26 = .ok (.iload_n 1, 1) := by decide +kernel
theorem dX4_gift_27 : decode cX4_gift 27 = .ok (.caload, 1) := by decide +kernel
theorem dX4_gift_28 : decode cX4_gift 28 = .ok (.bipush 32, 2) := by decide +kernel
theorem dX4_gift_30 : decode cX4_gift 30 = .ok (.if_icmp .eq 68, 3) := by decide +kernel
theorem dX4_gift_33 : decode cX4_gift 33 = .ok (.aload_n 0, 1) := by decide +kernel
theorem dX4_gift_34 : decode cX4_gift 34 = .ok (.aload_n 0, 1) := by decide +kernel
theorem dX4_gift_35 : decode cX4_gift 35 = .ok (.getfield 18, 3) := by decide +kernel
theorem dX4_gift_38 : decode cX4_gift 38 = .ok (.iload_n 1, 1) := by decide +kernel
theorem dX4_gift_39 : decode cX4_gift 39 = .ok (.iaload, 1) := by decide +kernel
theorem dX4_gift_40 : decode cX4_gift 40 = .ok (.aload_n 0, 1) := by decide +kernel
theorem dX4_gift_41 : decode cX4_gift 41 = .ok (.getfield 21, 3) := by decide +kernel
theorem dX4_gift_44 : decode cX4_gift 44 = .ok (.iload_n 1, 1) := by decide +kernel
theorem dX4_gift_45 : decode cX4_gift 45 = .ok (.iaload, 1) := by decide +kernel
theorem dX4_gift_46 : decode cX4_gift 46 = .ok (.aload_n 2, 1) := by decide +kernel
theorem dX4_gift_47 : decode cX4_gift 47 = .ok (.invokevirtual 40, 3) := by decide +kernel
theorem dX4_gift_50 : decode cX4_gift 50 = .ok (.istore_n 3, 1) := by decide +kernel
theorem dX4_gift_51 : decode cX4_gift 51 = .ok (.aload_n 0, 1) := by decide +kernel
theorem dX4_gift_52 : decode cX4_gift 52 = .ok (.aload_n 0, 1) := by decide +kernel
theorem dX4_gift_53 : decode cX4_gift 53 = .ok (.getfield 21, 3) := by decide +kernel
theorem dX4_gift_56 : decode cX4_gift 56 = .ok (.iload_n 1, 1) := by decide +kernel
theorem dX4_gift_57 : decode cX4_gift 57 = .ok (.iaload, 1) := by decide +kernel
theorem dX4_gift_58 : decode cX4_gift 58 = .ok (.aload_n 0, 1) := by decide +kernel
theorem dX4_gift_59 : decode cX4_gift 59 = .ok (.getfield 24, 3) := by decide +kernel
theorem dX4_gift_62 : decode cX4_gift 62 = .ok (.iload_n 1, 1) := by decide +kernel
theorem dX4_gift_63 : decode cX4_gift 63 = .ok (.iaload, 1) := by decide +kernel
theorem dX4_gift_64 : decode cX4_gift 64 = .ok (.aload_n 2, 1) := by decide +kernel
theorem dX4_gift_65 : decode cX4_gift 65 = .ok (.invokevirtual 40, 3) := by decide +kernel
theorem dX4_gift_68 : decode cX4_gift 68 = .ok (.istore 4, 2) := by decide +kernel
theorem dX4_gift_70 : decode cX4_gift 70 = .ok (.aload_n 0, 1) := by decide +kernel
theorem dX4_gift_71 : decode cX4_gift 71 = .ok (.getfield 27, 3) := by decide +kernel
theorem dX4_gift_74 : decode cX4_gift 74 = .ok (.iload_n 1, 1) := by decide +kernel
theorem dX4_gift_75 : decode cX4_gift 75 = .ok (.caload, 1) := by decide +kernel
theorem dX4_gift_76 : decode cX4_gift 76 = .ok (.bipush 60, 2) := by decide +kernel
theorem dX4_gift_78 : decode cX4_gift 78 = .ok (.if_icmp .ne 12, 3) := by decide +kernel
theorem dX4_gift_81 : decode cX4_gift 81 = .ok (.iload_n 3, 1) := by decide +kernel
theorem dX4_gift_82 : decode cX4_gift 82 = .ok (.iload 4, 2) := by decide +kernel
theorem dX4_gift_84 : decode cX4_gift 84 = .ok (.if_icmp .lt 14, 3) := by decide +kernel
theorem dX4_gift_87 : decode cX4_gift 87 = .ok (.goto 9, 3) := by decide +kernel
theorem dX4_gift_90 : decode cX4_gift 90 = .ok (.iload_n 3, 1) := by decide +kernel
theorem dX4_gift_91 : decode cX4_gift 91 = .ok (.iload 4, 2) := by decide +kernel
theorem dX4_gift_93 : decode cX4_gift 93 = .ok (.if_icmp .gt 5, 3) := by decide +kernel
theorem dX4_gift_96 : decode cX4_gift 96 = .ok (.iconst 0, 1) := by decide +kernel
theorem dX4_gift_97 : decode cX4_gift 97 = .ok (.ireturn, 1) := by decide +kernel
theorem dX4_gift_98 : decode cX4_gift 98 = .ok (.iconst 0, 1) := by decide +kernel
theorem dX4_gift_99 : decode cX4_gift 99 = .ok (.aload_n 2, 1) := by decide +kernel
theorem dX4_gift_100 : decode cX4_gift 100 = .ok (.getfield 50, 3) := by decide +kernel
theorem dX4_gift_103 : decode cX4_gift 103 = .ok (.aload_n 0, 1) := by decide +kernel
theorem dX4_gift_104 : decode cX4_gift 104 = .ok (.aload_n 0, 1) := by decide +kernel
theorem dX4_gift_105 : decode cX4_gift 105 = .ok (.getfield 15, 3) := by decide +kernel
theorem dX4_gift_108 : decode cX4_gift 108 = .ok (.iload_n 1, 1) := by decide +kernel
theorem dX4_gift_109 : decode cX4_gift 109 = .ok (.iaload, 1) := by decide +kernel
theorem dX4_gift_110 : decode cX4_gift 110 = .ok (.aload_n 0, 1) := by decide +kernel
theorem dX4_gift_111 : decode cX4_gift 111 = .ok (.getfield 18, 3) := by decide +kernel
theorem dX4_gift_114 : decode cX4_gift 114 = .ok (.iload_n 1, 1) := by decide +kernel
theorem dX4_gift_115 : decode cX4_gift 115 = .ok (.iaload, 1) := by decide +kernel
theorem dX4_gift_116 : decode cX4_gift 116 = .ok (.aload_n 2, 1) := by decide +kernel
theorem dX4_gift_117 : decode cX4_gift 117 = .ok (.invokevirtual 40, 3) := by decide +kernel
theorem dX4_gift_120 : decode cX4_gift 120 = .ok (.invokestatic 54, 3) := by decide +kernel
theorem dX4_gift_123 : decode cX4_gift 123 = .ok (.invokestatic 60, 3) := by decide +kernel
theorem dX4_gift_126 : decode cX4_gift 126 = .ok (.ireturn, 1) := by decide +kernel
theorem dX4_evaluate_0 : decode cX4_evaluate 0 = .ok (.iconst 0, 1) := by decide +kernel
theorem dX4_evaluate_1 : decode cX4_evaluate 1 = .ok (.istore 4, 2) := by decide +kernel
theorem dX4_evaluate_3 : decode cX4_evaluate 3 = .ok (.iconst 0, 1) := by decide +kernel
theorem dX4_evaluate_4 : decode cX4_evaluate 4 = .ok (.istore 5, 2) := by decide +kernel
theorem dX4_evaluate_6 : decode cX4_evaluate 6 = .ok (.iconst 0, 1) := by decide +kernel
theorem dX4_evaluate_7 : decode cX4_evaluate 7 = .ok (.istore 6, 2) := by decide +kernel
theorem dX4_evaluate_9 : decode cX4_evaluate 9 = .ok (.iload_n 1, 1) := by decide +kernel
theorem dX4_evaluate_10 : decode cX4_evaluate 10 = .ok (.istore 7, 2) := by decide +kernel
theorem dX4_evaluate_12 : decode cX4_evaluate 12 = .ok (.iload 7, 2) := by decide +kernel
theorem dX4_evaluate_14 : decode cX4_evaluate 14 = .ok (.iload_n 2, 1) := by decide +kernel
theorem dX4_evaluate_15 : decode cX4_evaluate 15 = .ok (.if_icmp .ge 114, 3) := by decide +kernel
theorem dX4_evaluate_18 : decode cX4_evaluate 18 = .ok (.aload_n 0, 1) := by decide +kernel
theorem dX4_evaluate_19 : decode cX4_evaluate 19 = .ok (.iload 7, 2) := by decide +kernel
theorem dX4_evaluate_21 : decode cX4_evaluate 21 = .ok (.aload_n 3, 1) := by decide +kernel
theorem dX4_evaluate_22 : decode cX4_evaluate 22 = .ok (.invokevirtual 63, 3) := by decide +kernel
theorem dX4_evaluate_25 : decode cX4_evaluate 25 = .ok (.istore 8, 2) := by decide +kernel
theorem dX4_evaluate_27 : decode cX4_evaluate 27 = .ok (.aload_n 0, 1) := by decide +kernel
theorem dX4_evaluate_28 : decode cX4_evaluate 28 = .ok (.getfield 37, 3) := by decide +kernel
theorem dX4_evaluate_31 : decode cX4_evaluate 31 = .ok (.iload 7, 2) := by decide +kernel
theorem dX4_evaluate_33 : decode cX4_evaluate 33 = .ok (.caload, 1) := by decide +kernel
theorem dX4_evaluate_34 : decode cX4_evaluate 34 = .ok (.bipush 42, 2) := by decide +kernel
theorem dX4_evaluate_36 : decode cX4_evaluate 36 = .ok (.if_icmp .ne 13, 3) := by decide +kernel
theorem dX4_evaluate_39 : decode cX4_evaluate 39 = .ok (.iload 5, 2) := by decide +kernel
theorem dX4_evaluate_41 : decode cX4_evaluate 41 = .ok (.iload 8, 2) := by decide +kernel
theorem dX4_evaluate_43 : decode cX4_evaluate 43 = .ok (.imul, 1) := by decide +kernel
theorem dX4_evaluate_44 : decode cX4_evaluate 44 = .ok (.istore 5, 2) := by decide +kernel
theorem dX4_evaluate_46 : decode cX4_evaluate 46 = .ok (.goto 77, 3) := by decide +kernel
theorem dX4_evaluate_49 : decode cX4_evaluate 49 = .ok (.aload_n 0, 1) := by decide +kernel
theorem dX4_evaluate_50 : decode cX4_evaluate 50 = .ok (.getfield 37, 3) := by decide +kernel
theorem dX4_evaluate_53 : decode cX4_evaluate 53 = .ok (.iload 7, 2) := by decide +kernel
theorem dX4_evaluate_55 : decode cX4_evaluate 55 = .ok (.caload, 1) := by decide +kernel
theorem dX4_evaluate_56 : decode cX4_evaluate 56 = .ok (.bipush 47, 2) := by decide +kernel
theorem dX4_evaluate_58 : decode cX4_evaluate 58 = .ok (.if_icmp .ne 22, 3) := by decide +kernel
theorem dX4_evaluate_61 : decode cX4_evaluate 61 = .ok (.iload 8, 2) := by decide +kernel
theorem dX4_evaluate_63 : decode cX4_evaluate 63 = .ok (.ifCond .ne 7, 3) := by decide +kernel
theorem dX4_evaluate_66 : decode cX4_evaluate 66 = .ok (.iconst 0, 1) := by decide +kernel
theorem dX4_evaluate_67 : decode cX4_evaluate 67 = .ok (.goto 8, 3) := by decide +kernel
theorem dX4_evaluate_70 : decode cX4_evaluate 70 = .ok (.iload 5, 2) := by decide +kernel
theorem dX4_evaluate_72 : decode cX4_evaluate 72 = .ok (.iload 8, 2) := by decide +kernel
theorem dX4_evaluate_74 : decode cX4_evaluate 74 = .ok (.idiv, 1) := by decide +kernel
theorem dX4_evaluate_75 : decode cX4_evaluate 75 = .ok (.istore 5, 2) := by decide +kernel
theorem dX4_evaluate_77 : decode cX4_evaluate 77 = .ok (.goto 46, 3) := by decide +kernel
theorem dX4_evaluate_80 : decode cX4_evaluate 80 = .ok (.iload 6, 2) := by decide +kernel
theorem dX4_evaluate_82 : decode cX4_evaluate 82 = .ok (.ifCond .eq 11, 3) := by decide +kernel
theorem dX4_evaluate_85 : decode cX4_evaluate 85 = .ok (.iload 4, 2) := by decide +kernel
theorem dX4_evaluate_87 : decode cX4_evaluate 87 = .ok (.iload 5, 2) := by decide +kernel
theorem dX4_evaluate_89 : decode cX4_evaluate 89 = .ok (.isub, 1) := by decide +kernel
theorem dX4_evaluate_90 : decode cX4_evaluate 90 = .ok (.goto 8, 3) := by decide +kernel
theorem dX4_evaluate_93 : decode cX4_evaluate 93 = .ok (.iload 4, 2) := by decide +kernel
theorem dX4_evaluate_95 : decode cX4_evaluate 95 = .ok (.iload 5, 2) := by decide +kernel
theorem dX4_evaluate_97 : decode cX4_evaluate 97 = .ok (.iadd, 1) := by decide +kernel
theorem dX4_evaluate_98 : decode cX4_evaluate 98 = .ok (.istore 4, 2) := by decide +kernel
theorem dX4_evaluate_100 : decode cX4_evaluate 100 = .ok (.iload 8, 2) := by decide +kernel
theorem dX4_evaluate_102 : decode cX4_evaluate 102 = .ok (.istore 5, 2) := by decide +kernel
theorem dX4_evaluate_104 : decode cX4_evaluate 104 = .ok (.aload_n 0, 1) := by decide +kernel
theorem dX4_evaluate_105 : decode cX4_evaluate 105 = .ok (.getfield 37, 3) := by decide +kernel
theorem dX4_evaluate_108 : decode cX4_evaluate 108 = .ok (.iload 7, 2) := by decide +kernel
theorem dX4_evaluate_110 : decode cX4_evaluate 110 = .ok (.caload, 1) := by decide +kernel
theorem dX4_evaluate_111 : decode cX4_evaluate 111 = .ok (.bipush 45, 2) := by decide +kernel
theorem dX4_evaluate_113 : decode cX4_evaluate 113 = .ok (.if_icmp .ne 7, 3) := by decide +kernel
theorem dX4_evaluate_116 : decode cX4_evaluate 116 = .ok (.iconst 1, 1) := by decide +kernel
theorem dX4_evaluate_117 : decode cX4_evaluate 117 = .ok (.goto 4, 3) := by decide +kernel
theorem dX4_evaluate_120 : decode cX4_evaluate 120 = .ok (.iconst 0, 1) := by decide +kernel
theorem dX4_evaluate_121 : decode cX4_evaluate 121 = .ok (.istore 6, 2) := by decide +kernel
theorem dX4_evaluate_123 : decode cX4_evaluate 123 = .ok (.iinc 7 1, 3) := by decide +kernel
theorem dX4_evaluate_126 : decode cX4_evaluate 126 = .ok (.goto (-114), 3) := by decide +kernel
theorem dX4_evaluate_129 : decode cX4_evaluate 129 = .ok (.iload 6, 2) := by decide +kernel
theorem dX4_evaluate_131 : decode cX4_evaluate 131 = .ok (.ifCond .eq 11, 3) := by decide +kernel
theorem dX4_evaluate_134 : decode cX4_evaluate 134 = .ok (.iload 4, 2) := by decide +kernel
theorem dX4_evaluate_136 : decode cX4_evaluate 136 = .ok (.iload 5, 2) := by decide +kernel
theorem dX4_evaluate_138 : decode cX4_evaluate 138 = .ok (.isub, 1) := by decide +kernel
theorem dX4_evaluate_139 : decode cX4_evaluate 139 = .ok (.goto 8, 3) := by decide +kernel
theorem dX4_evaluate_142 : decode cX4_evaluate 142 = .ok (.iload 4, 2) := by decide +kernel
theorem dX4_evaluate_144 : decode cX4_evaluate 144 = .ok (.iload 5, 2) := by decide +kernel
theorem dX4_evaluate_146 : decode cX4_evaluate 146 = .ok (.iadd, 1) := by decide +kernel
theorem dX4_evaluate_147 : decode cX4_evaluate 147 = .ok (.ireturn, 1) := by decide +kernel
theorem dX4_valueOf_0 : decode cX4_valueOf 0 = .ok (.aload_n 0, 1) := by decide +kernel
theorem dX4_valueOf_1 : decode cX4_valueOf 1 = .ok (.getfield 31, 3) := by decide +kernel
theorem dX4_valueOf_4 : decode cX4_valueOf 4 = .ok (.iload_n 1, 1) := by decide +kernel
theorem dX4_valueOf_5 : decode cX4_valueOf 5 = .ok (.iaload, 1) := by decide +kernel
theorem dX4_valueOf_6 : decode cX4_valueOf 6 = .ok (.tableswitch 91 1 7 #[42, 47, 52, 57, 62, 67, 79], 42) := by decide +kernel
theorem dX4_valueOf_48 : decode cX4_valueOf 48 = .ok (.aload_n 2, 1) := by decide +kernel
theorem dX4_valueOf_49 : decode cX4_valueOf 49 = .ok (.getfield 50, 3) := by decide +kernel
theorem dX4_valueOf_52 : decode cX4_valueOf 52 = .ok (.ireturn, 1) := by decide +kernel
theorem dX4_valueOf_53 : decode cX4_valueOf 53 = .ok (.aload_n 2, 1) := by decide +kernel
theorem dX4_valueOf_54 : decode cX4_valueOf 54 = .ok (.getfield 67, 3) := by decide +kernel
theorem dX4_valueOf_57 : decode cX4_valueOf 57 = .ok (.ireturn, 1) := by decide +kernel
theorem dX4_valueOf_58 : decode cX4_valueOf 58 = .ok (.aload_n 2, 1) := by decide +kernel
theorem dX4_valueOf_59 : decode cX4_valueOf 59 = .ok (.invokevirtual 70, 3) := by decide +kernel
theorem dX4_valueOf_62 : decode cX4_valueOf 62 = .ok (.ireturn, 1) := by decide +kernel
theorem dX4_valueOf_63 : decode cX4_valueOf 63 = .ok (.aload_n 2, 1) := by decide +kernel
theorem dX4_valueOf_64 : decode cX4_valueOf 64 = .ok (.getfield 74, 3) := by decide +kernel
theorem dX4_valueOf_67 : decode cX4_valueOf 67 = .ok (.ireturn, 1) := by decide +kernel
theorem dX4_valueOf_68 : decode cX4_valueOf 68 = .ok (.aload_n 2, 1) := by decide +kernel
theorem dX4_valueOf_69 : decode cX4_valueOf 69 = .ok (.invokevirtual 77, 3) := by decide +kernel
theorem dX4_valueOf_72 : decode cX4_valueOf 72 = .ok (.ireturn, 1) := by decide +kernel
theorem dX4_valueOf_73 : decode cX4_valueOf 73 = .ok (.aload_n 2, 1) := by decide +kernel
theorem dX4_valueOf_74 : decode cX4_valueOf 74 = .ok (.getfield 80, 3) := by decide +kernel
theorem dX4_valueOf_77 : decode cX4_valueOf 77 = .ok (.aload_n 0, 1) := by decide +kernel
theorem dX4_valueOf_78 : decode cX4_valueOf 78 = .ok (.getfield 34, 3) := by decide +kernel
theorem dX4_valueOf_81 : decode cX4_valueOf 81 = .ok (.iload_n 1, 1) := by decide +kernel
theorem dX4_valueOf_82 : decode cX4_valueOf 82 = .ok (.iaload, 1) := by decide +kernel
theorem dX4_valueOf_83 : decode cX4_valueOf 83 = .ok (.iaload, 1) := by decide +kernel
theorem dX4_valueOf_84 : decode cX4_valueOf 84 = .ok (.ireturn, 1) := by decide +kernel
theorem dX4_valueOf_85 : decode cX4_valueOf 85 = .ok (.aload_n 2, 1) := by decide +kernel
theorem dX4_valueOf_86 : decode cX4_valueOf 86 = .ok (.getfield 83, 3) := by decide +kernel
theorem dX4_valueOf_89 : decode cX4_valueOf 89 = .ok (.aload_n 0, 1) := by decide +kernel
theorem dX4_valueOf_90 : decode cX4_valueOf 90 = .ok (.getfield 34, 3) := by decide +kernel
theorem dX4_valueOf_93 : decode cX4_valueOf 93 = .ok (.iload_n 1, 1) := by decide +kernel
theorem dX4_valueOf_94 : decode cX4_valueOf 94 = .ok (.iaload, 1) := by decide +kernel
theorem dX4_valueOf_95 : decode cX4_valueOf 95 = .ok (.iaload, 1) := by decide +kernel
theorem dX4_valueOf_96 : decode cX4_valueOf 96 = .ok (.ireturn, 1) := by decide +kernel
theorem dX4_valueOf_97 : decode cX4_valueOf 97 = .ok (.aload_n 0, 1) := by decide +kernel
theorem dX4_valueOf_98 : decode cX4_valueOf 98 = .ok (.getfield 34, 3) := by decide +kernel
theorem dX4_valueOf_101 : decode cX4_valueOf 101 = .ok (.iload_n 1, 1) := by decide +kernel
theorem dX4_valueOf_102 : decode cX4_valueOf 102 = .ok (.iaload, 1) := by decide +kernel
theorem dX4_valueOf_103 : decode cX4_valueOf 103 = .ok (.ireturn, 1) := by decide +kernel
theorem dX4_readSpecials_0 : decode cX4_readSpecials 0 = .ok (.aload_n 1, 1) := by decide +kernel
theorem dX4_readSpecials_1 : decode cX4_readSpecials 1 = .ok (.invokevirtual 86, 3) := by decide +kernel
theorem dX4_readSpecials_4 : decode cX4_readSpecials 4 = .ok (.iconst 0, 1) := by decide +kernel
theorem dX4_readSpecials_5 : decode cX4_readSpecials 5 = .ok (.istore_n 2, 1) := by decide +kernel
theorem dX4_readSpecials_6 : decode cX4_readSpecials 6 = .ok (.iload_n 2, 1) := by decide +kernel
theorem dX4_readSpecials_7 : decode cX4_readSpecials 7 = .ok (.bipush 8, 2) := by decide +kernel
theorem dX4_readSpecials_9 : decode cX4_readSpecials 9 = .ok (.if_icmp .ge 43, 3) := by decide +kernel
theorem dX4_readSpecials_12 : decode cX4_readSpecials 12 = .ok (.aload_n 1, 1) := by decide +kernel
theorem dX4_readSpecials_13 : decode cX4_readSpecials 13 = .ok (.ldc 91, 2) := by decide +kernel
theorem dX4_readSpecials_15 : decode cX4_readSpecials 15 = .ok (.invokevirtual 93, 3) := by decide +kernel
theorem dX4_readSpecials_18 : decode cX4_readSpecials 18 = .ok (.ifCond .eq 34, 3) := by decide +kernel
theorem dX4_readSpecials_21 : decode cX4_readSpecials 21 = .ok (.aload_n 1, 1) := by decide +kernel
theorem dX4_readSpecials_22 : decode cX4_readSpecials 22 = .ok (.invokevirtual 97, 3) := by decide +kernel
theorem dX4_readSpecials_25 : decode cX4_readSpecials 25 = .ok (.aload_n 0, 1) := by decide +kernel
theorem dX4_readSpecials_26 : decode cX4_readSpecials 26 = .ok (.aload_n 1, 1) := by decide +kernel
theorem dX4_readSpecials_27 : decode cX4_readSpecials 27 = .ok (.iload_n 2, 1) := by decide +kernel
theorem dX4_readSpecials_28 : decode cX4_readSpecials 28 = .ok (.invokevirtual 100, 3) := by decide +kernel
theorem dX4_readSpecials_31 : decode cX4_readSpecials 31 = .ok (.ifCond .ne 5, 3) := by decide +kernel
theorem dX4_readSpecials_34 : decode cX4_readSpecials 34 = .ok (.iconst (-1), 1) := by decide +kernel
theorem dX4_readSpecials_35 : decode cX4_readSpecials 35 = .ok (.ireturn, 1) := by decide +kernel
theorem dX4_readSpecials_36 : decode cX4_readSpecials 36 = .ok (.aload_n 0, 1) := by decide +kernel
theorem dX4_readSpecials_37 : decode cX4_readSpecials 37 = .ok (.dup, 1) := by decide +kernel
theorem dX4_readSpecials_38 : decode cX4_readSpecials 38 = .ok (.getfield 104, 3) := by decide +kernel
theorem dX4_readSpecials_41 : decode cX4_readSpecials 41 = .ok (.iconst 1, 1) := by decide +kernel
theorem dX4_readSpecials_42 : decode cX4_readSpecials 42 = .ok (.iadd, 1) := by decide +kernel
theorem dX4_readSpecials_43 : decode cX4_readSpecials 43 = .ok (.putfield 104, 3) := by decide +kernel
theorem dX4_readSpecials_46 : decode cX4_readSpecials 46 = .ok (.iinc 2 1, 3) := by decide +kernel
theorem dX4_readSpecials_49 : decode cX4_readSpecials 49 = .ok (.goto (-43), 3) := by decide +kernel
theorem dX4_readSpecials_52 : decode cX4_readSpecials 52 = .ok (.aload_n 1, 1) := by decide +kernel
theorem dX4_readSpecials_53 : decode cX4_readSpecials 53 = .ok (.invokevirtual 107, 3) := by decide +kernel
theorem dX4_readSpecials_56 : decode cX4_readSpecials 56 = .ok (.ifCond .eq 10, 3) := by decide +kernel
theorem dX4_readSpecials_59 : decode cX4_readSpecials 59 = .ok (.aload_n 0, 1) := by decide +kernel
theorem dX4_readSpecials_60 : decode cX4_readSpecials 60 = .ok (.getfield 104, 3) := by decide +kernel
theorem dX4_readSpecials_63 : decode cX4_readSpecials 63 = .ok (.goto 4, 3) := by decide +kernel
theorem dX4_readSpecials_66 : decode cX4_readSpecials 66 = .ok (.iconst (-1), 1) := by decide +kernel
theorem dX4_readSpecials_67 : decode cX4_readSpecials 67 = .ok (.ireturn, 1) := by decide +kernel
theorem dX4_readGive_0 : decode cX4_readGive 0 = .ok (.aload_n 0, 1) := by decide +kernel
theorem dX4_readGive_1 : decode cX4_readGive 1 = .ok (.getfield 9, 3) := by decide +kernel
theorem dX4_readGive_4 : decode cX4_readGive 4 = .ok (.iload_n 2, 1) := by decide +kernel
theorem dX4_readGive_5 : decode cX4_readGive 5 = .ok (.aload_n 1, 1) := by decide +kernel
theorem dX4_readGive_6 : decode cX4_readGive 6 = .ok (.invokevirtual 111, 3) := by decide +kernel
theorem dX4_readGive_9 : decode cX4_readGive 9 = .ok (.iastore, 1) := by decide +kernel
theorem dX4_readGive_10 : decode cX4_readGive 10 = .ok (.aload_n 0, 1) := by decide +kernel
theorem dX4_readGive_11 : decode cX4_readGive 11 = .ok (.getfield 15, 3) := by decide +kernel
theorem dX4_readGive_14 : decode cX4_readGive 14 = .ok (.iload_n 2, 1) := by decide +kernel
theorem dX4_readGive_15 : decode cX4_readGive 15 = .ok (.aload_n 0, 1) := by decide +kernel
theorem dX4_readGive_16 : decode cX4_readGive 16 = .ok (.getfield 114, 3) := by decide +kernel
theorem dX4_readGive_19 : decode cX4_readGive 19 = .ok (.iastore, 1) := by decide +kernel
theorem dX4_readGive_20 : decode cX4_readGive 20 = .ok (.aload_n 0, 1) := by decide +kernel
theorem dX4_readGive_21 : decode cX4_readGive 21 = .ok (.getfield 9, 3) := by decide +kernel
theorem dX4_readGive_24 : decode cX4_readGive 24 = .ok (.iload_n 2, 1) := by decide +kernel
theorem dX4_readGive_25 : decode cX4_readGive 25 = .ok (.iaload, 1) := by decide +kernel
theorem dX4_readGive_26 : decode cX4_readGive 26 = .ok (.iconst (-1), 1) := by decide +kernel
theorem dX4_readGive_27 : decode cX4_readGive 27 = .ok (.if_icmp .eq 11, 3) := by decide +kernel
theorem dX4_readGive_30 : decode cX4_readGive 30 = .ok (.aload_n 0, 1) := by decide +kernel
theorem dX4_readGive_31 : decode cX4_readGive 31 = .ok (.aload_n 1, 1) := by decide +kernel
theorem dX4_readGive_32 : decode cX4_readGive 32 = .ok (.invokevirtual 117, 3) := by decide +kernel
theorem dX4_readGive_35 : decode cX4_readGive 35 = .ok (.ifCond .ne 5, 3) := by decide +kernel
theorem dX4_readGive_38 : decode cX4_readGive 38 = .ok (.iconst 0, 1) := by decide +kernel
theorem dX4_readGive_39 : decode cX4_readGive 39 = .ok (.ireturn, 1) := by decide +kernel
theorem dX4_readGive_40 : decode cX4_readGive 40 = .ok (.aload_n 0, 1) := by decide +kernel
theorem dX4_readGive_41 : decode cX4_readGive 41 = .ok (.getfield 18, 3) := by decide +kernel
theorem dX4_readGive_44 : decode cX4_readGive 44 = .ok (.iload_n 2, 1) := by decide +kernel
theorem dX4_readGive_45 : decode cX4_readGive 45 = .ok (.aload_n 0, 1) := by decide +kernel
theorem dX4_readGive_46 : decode cX4_readGive 46 = .ok (.getfield 114, 3) := by decide +kernel
theorem dX4_readGive_49 : decode cX4_readGive 49 = .ok (.iastore, 1) := by decide +kernel
theorem dX4_readGive_50 : decode cX4_readGive 50 = .ok (.aload_n 0, 1) := by decide +kernel
theorem dX4_readGive_51 : decode cX4_readGive 51 = .ok (.getfield 27, 3) := by decide +kernel
theorem dX4_readGive_54 : decode cX4_readGive 54 = .ok (.iload_n 2, 1) := by decide +kernel
theorem dX4_readGive_55 : decode cX4_readGive 55 = .ok (.bipush 32, 2) := by decide +kernel
theorem dX4_readGive_57 : decode cX4_readGive 57 = .ok (.castore, 1) := by decide +kernel
theorem dX4_readGive_58 : decode cX4_readGive 58 = .ok (.aload_n 1, 1) := by decide +kernel
theorem dX4_readGive_59 : decode cX4_readGive 59 = .ok (.ldc 121, 2) := by decide +kernel
theorem dX4_readGive_61 : decode cX4_readGive 61 = .ok (.invokevirtual 93, 3) := by decide +kernel
theorem dX4_readGive_64 : decode cX4_readGive 64 = .ok (.ifCond .eq 84, 3) := by decide +kernel
theorem dX4_readGive_67 : decode cX4_readGive 67 = .ok (.aload_n 1, 1) := by decide +kernel
theorem dX4_readGive_68 : decode cX4_readGive 68 = .ok (.invokevirtual 97, 3) := by decide +kernel
theorem dX4_readGive_71 : decode cX4_readGive 71 = .ok (.aload_n 0, 1) := by decide +kernel
theorem dX4_readGive_72 : decode cX4_readGive 72 = .ok (.aload_n 1, 1) := by decide +kernel
theorem dX4_readGive_73 : decode cX4_readGive 73 = .ok (.invokevirtual 117, 3) := by decide +kernel
theorem dX4_readGive_76 : decode cX4_readGive 76 = .ok (.ifCond .ne 5, 3) := by decide +kernel
theorem dX4_readGive_79 : decode cX4_readGive 79 = .ok (.iconst 0, 1) := by decide +kernel
theorem dX4_readGive_80 : decode cX4_readGive 80 = .ok (.ireturn, 1) := by decide +kernel
theorem dX4_readGive_81 : decode cX4_readGive 81 = .ok (.aload_n 0, 1) := by decide +kernel
theorem dX4_readGive_82 : decode cX4_readGive 82 = .ok (.getfield 21, 3) := by decide +kernel
theorem dX4_readGive_85 : decode cX4_readGive 85 = .ok (.iload_n 2, 1) := by decide +kernel
theorem dX4_readGive_86 : decode cX4_readGive 86 = .ok (.aload_n 0, 1) := by decide +kernel
theorem dX4_readGive_87 : decode cX4_readGive 87 = .ok (.getfield 114, 3) := by decide +kernel
theorem dX4_readGive_90 : decode cX4_readGive 90 = .ok (.iastore, 1) := by decide +kernel
theorem dX4_readGive_91 : decode cX4_readGive 91 = .ok (.aload_n 1, 1) := by decide +kernel
theorem dX4_readGive_92 : decode cX4_readGive 92 = .ok (.bipush 60, 2) := by decide +kernel
theorem dX4_readGive_94 : decode cX4_readGive 94 = .ok (.invokevirtual 123, 3) := by decide +kernel
theorem dX4_readGive_97 : decode cX4_readGive 97 = .ok (.ifCond .ne 17, 3) := by decide +kernel
theorem dX4_readGive_100 : decode cX4_readGive 100 = .ok (.aload_n 1, 1) := by decide +kernel
theorem dX4_readGive_101 : decode cX4_readGive 101 = .ok (.bipush 62, 2) := by decide +kernel
theorem dX4_readGive_103 : decode cX4_readGive 103 = .ok (.invokevirtual 123, 3) := by decide +kernel
theorem dX4_readGive_106 : decode cX4_readGive 106 = .ok (.ifCond .ne 8, 3) := by decide +kernel
theorem dX4_readGive_109 : decode cX4_readGive 109 = .ok (.aload_n 1, 1) := by decide +kernel
theorem dX4_readGive_110 : decode cX4_readGive 110 = .ok (.invokevirtual 127, 3) := by decide +kernel
theorem dX4_readGive_113 : decode cX4_readGive 113 = .ok (.ireturn, 1) := by decide +kernel
theorem dX4_readGive_114 : decode cX4_readGive 114 = .ok (.aload_n 0, 1) := by decide +kernel
theorem dX4_readGive_115 : decode cX4_readGive 115 = .ok (.getfield 27, 3) := by decide +kernel
theorem dX4_readGive_118 : decode cX4_readGive 118 = .ok (.iload_n 2, 1) := by decide +kernel
theorem dX4_readGive_119 : decode cX4_readGive 119 = .ok (.aload_n 1, 1) := by decide +kernel
theorem dX4_readGive_120 : decode cX4_readGive 120 = .ok (.getfield 130, 3) := by decide +kernel
theorem dX4_readGive_123 : decode cX4_readGive 123 = .ok (.castore, 1) := by decide +kernel
theorem dX4_readGive_124 : decode cX4_readGive 124 = .ok (.aload_n 1, 1) := by decide +kernel
theorem dX4_readGive_125 : decode cX4_readGive 125 = .ok (.invokevirtual 97, 3) := by decide +kernel
theorem dX4_readGive_128 : decode cX4_readGive 128 = .ok (.aload_n 0, 1) := by decide +kernel
theorem dX4_readGive_129 : decode cX4_readGive 129 = .ok (.aload_n 1, 1) := by decide +kernel
theorem dX4_readGive_130 : decode cX4_readGive 130 = .ok (.invokevirtual 117, 3) := by decide +kernel
theorem dX4_readGive_133 : decode cX4_readGive 133 = .ok (.ifCond .ne 5, 3) := by decide +kernel
theorem dX4_readGive_136 : decode cX4_readGive 136 = .ok (.iconst 0, 1) := by decide +kernel
theorem dX4_readGive_137 : decode cX4_readGive 137 = .ok (.ireturn, 1) := by decide +kernel
theorem dX4_readGive_138 : decode cX4_readGive 138 = .ok (.aload_n 0, 1) := by decide +kernel
theorem dX4_readGive_139 : decode cX4_readGive 139 = .ok (.getfield 24, 3) := by decide +kernel
theorem dX4_readGive_142 : decode cX4_readGive 142 = .ok (.iload_n 2, 1) := by decide +kernel
theorem dX4_readGive_143 : decode cX4_readGive 143 = .ok (.aload_n 0, 1) := by decide +kernel
theorem dX4_readGive_144 : decode cX4_readGive 144 = .ok (.getfield 114, 3) := by decide +kernel
theorem dX4_readGive_147 : decode cX4_readGive 147 = .ok (.iastore, 1) := by decide +kernel
theorem dX4_readGive_148 : decode cX4_readGive 148 = .ok (.aload_n 1, 1) := by decide +kernel
theorem dX4_readGive_149 : decode cX4_readGive 149 = .ok (.bipush 59, 2) := by decide +kernel
theorem dX4_readGive_151 : decode cX4_readGive 151 = .ok (.invokevirtual 134, 3) := by decide +kernel
theorem dX4_readGive_154 : decode cX4_readGive 154 = .ok (.ireturn, 1) := by decide +kernel
theorem dX4_readSum_0 : decode cX4_readSum 0 = .ok (.bipush 43, 2) := by decide +kernel
theorem dX4_readSum_2 : decode cX4_readSum 2 = .ok (.istore_n 2, 1) := by decide +kernel
theorem dX4_readSum_3 : decode cX4_readSum 3 = .ok (.iconst 0, 1) := by decide +kernel
theorem dX4_readSum_4 : decode cX4_readSum 4 = .ok (.istore_n 3, 1) := by decide +kernel
theorem dX4_readSum_5 : decode cX4_readSum 5 = .ok (.iload_n 3, 1) := by decide +kernel
theorem dX4_readSum_6 : decode cX4_readSum 6 = .ok (.bipush 40, 2) := by decide +kernel
theorem dX4_readSum_8 : decode cX4_readSum 8 = .ok (.if_icmp .gt 67, 3) := by decide +kernel
theorem dX4_readSum_11 : decode cX4_readSum 11 = .ok (.aload_n 0, 1) := by decide +kernel
theorem dX4_readSum_12 : decode cX4_readSum 12 = .ok (.aload_n 1, 1) := by decide +kernel
theorem dX4_readSum_13 : decode cX4_readSum 13 = .ok (.iload_n 2, 1) := by decide +kernel
theorem dX4_readSum_14 : decode cX4_readSum 14 = .ok (.invokevirtual 137, 3) := by decide +kernel
theorem dX4_readSum_17 : decode cX4_readSum 17 = .ok (.ifCond .ne 5, 3) := by decide +kernel
theorem dX4_readSum_20 : decode cX4_readSum 20 = .ok (.iconst 0, 1) := by decide +kernel
theorem dX4_readSum_21 : decode cX4_readSum 21 = .ok (.ireturn, 1) := by decide +kernel
theorem dX4_readSum_22 : decode cX4_readSum 22 = .ok (.aload_n 1, 1) := by decide +kernel
theorem dX4_readSum_23 : decode cX4_readSum 23 = .ok (.bipush 43, 2) := by decide +kernel
theorem dX4_readSum_25 : decode cX4_readSum 25 = .ok (.invokevirtual 123, 3) := by decide +kernel
theorem dX4_readSum_28 : decode cX4_readSum 28 = .ok (.ifCond .ne 32, 3) := by decide +kernel
theorem dX4_readSum_31 : decode cX4_readSum 31 = .ok (.aload_n 1, 1) := by decide +kernel
theorem dX4_readSum_32 : decode cX4_readSum 32 = .ok (.bipush 45, 2) := by decide +kernel
theorem dX4_readSum_34 : decode cX4_readSum 34 = .ok (.invokevirtual 123, 3) := by decide +kernel
theorem dX4_readSum_37 : decode cX4_readSum 37 = .ok (.ifCond .ne 23, 3) := by decide +kernel
theorem dX4_readSum_40 : decode cX4_readSum 40 = .ok (.aload_n 1, 1) := by decide +kernel
theorem dX4_readSum_41 : decode cX4_readSum 41 = .ok (.bipush 42, 2) := by decide +kernel
theorem dX4_readSum_43 : decode cX4_readSum 43 = .ok (.invokevirtual 123, 3) := by decide +kernel
theorem dX4_readSum_46 : decode cX4_readSum 46 = .ok (.ifCond .ne 14, 3) := by decide +kernel
theorem dX4_readSum_49 : decode cX4_readSum 49 = .ok (.aload_n 1, 1) := by decide +kernel
theorem dX4_readSum_50 : decode cX4_readSum 50 = .ok (.bipush 47, 2) := by decide +kernel
theorem dX4_readSum_52 : decode cX4_readSum 52 = .ok (.invokevirtual 123, 3) := by decide +kernel
theorem dX4_readSum_55 : decode cX4_readSum 55 = .ok (.ifCond .ne 5, 3) := by decide +kernel
theorem dX4_readSum_58 : decode cX4_readSum 58 = .ok (.iconst 1, 1) := by decide +kernel
theorem dX4_readSum_59 : decode cX4_readSum 59 = .ok (.ireturn, 1) := by decide +kernel
theorem dX4_readSum_60 : decode cX4_readSum 60 = .ok (.aload_n 1, 1) := by decide +kernel
theorem dX4_readSum_61 : decode cX4_readSum 61 = .ok (.getfield 130, 3) := by decide +kernel
theorem dX4_readSum_64 : decode cX4_readSum 64 = .ok (.istore_n 2, 1) := by decide +kernel
theorem dX4_readSum_65 : decode cX4_readSum 65 = .ok (.aload_n 1, 1) := by decide +kernel
theorem dX4_readSum_66 : decode cX4_readSum 66 = .ok (.invokevirtual 97, 3) := by decide +kernel
theorem dX4_readSum_69 : decode cX4_readSum 69 = .ok (.iinc 3 1, 3) := by decide +kernel
theorem dX4_readSum_72 : decode cX4_readSum 72 = .ok (.goto (-67), 3) := by decide +kernel
theorem dX4_readSum_75 : decode cX4_readSum 75 = .ok (.aload_n 1, 1) := by decide +kernel
theorem dX4_readSum_76 : decode cX4_readSum 76 = .ok (.invokevirtual 127, 3) := by decide +kernel
theorem dX4_readSum_79 : decode cX4_readSum 79 = .ok (.ireturn, 1) := by decide +kernel
theorem dX4_readThing_0 : decode cX4_readThing 0 = .ok (.aload_n 1, 1) := by decide +kernel
theorem dX4_readThing_1 : decode cX4_readThing 1 = .ok (.invokestatic 141, 3) := by decide +kernel
theorem dX4_readThing_4 : decode cX4_readThing 4 = .ok (.istore_n 3, 1) := by decide +kernel
theorem dX4_readThing_5 : decode cX4_readThing 5 = .ok (.iload_n 3, 1) := by decide +kernel
theorem dX4_readThing_6 : decode cX4_readThing 6 = .ok (.iconst (-1), 1) := by decide +kernel
theorem dX4_readThing_7 : decode cX4_readThing 7 = .ok (.if_icmp .eq 12, 3) := by decide +kernel
theorem dX4_readThing_10 : decode cX4_readThing 10 = .ok (.aload_n 0, 1) := by decide +kernel
theorem dX4_readThing_11 : decode cX4_readThing 11 = .ok (.getfield 114, 3) := by decide +kernel
theorem dX4_readThing_14 : decode cX4_readThing 14 = .ok (.bipush 40, 2) := by decide +kernel
theorem dX4_readThing_16 : decode cX4_readThing 16 = .ok (.if_icmp .lt 8, 3) := by decide +kernel
theorem dX4_readThing_19 : decode cX4_readThing 19 = .ok (.aload_n 1, 1) := by decide +kernel
theorem dX4_readThing_20 : decode cX4_readThing 20 = .ok (.invokevirtual 127, 3) := by decide +kernel
theorem dX4_readThing_23 : decode cX4_readThing 23 = .ok (.ireturn, 1) := by decide +kernel
theorem dX4_readThing_24 : decode cX4_readThing 24 = .ok (.iconst 0, 1) := by decide +kernel
theorem dX4_readThing_25 : decode cX4_readThing 25 = .ok (.istore 4, 2) := by decide +kernel
theorem dX4_readThing_27 : decode cX4_readThing 27 = .ok (.iload_n 3, 1) := by decide +kernel
theorem dX4_readThing_28 : decode cX4_readThing 28 = .ok (.ifCond .ne 15, 3) := by decide +kernel
theorem dX4_readThing_31 : decode cX4_readThing 31 = .ok (.aload_n 1, 1) := by decide +kernel
theorem dX4_readThing_32 : decode cX4_readThing 32 = .ok (.iconst 0, 1) := by decide +kernel
theorem dX4_readThing_33 : decode cX4_readThing 33 = .ok (.ldc 145, 2) := by decide +kernel
theorem dX4_readThing_35 : decode cX4_readThing 35 = .ok (.invokevirtual 146, 3) := by decide +kernel
theorem dX4_readThing_38 : decode cX4_readThing 38 = .ok (.istore 4, 2) := by decide +kernel
theorem dX4_readThing_40 : decode cX4_readThing 40 = .ok (.goto 25, 3) := by decide +kernel
theorem dX4_readThing_43 : decode cX4_readThing 43 = .ok (.aload_n 1, 1) := by decide +kernel
theorem dX4_readThing_44 : decode cX4_readThing 44 = .ok (.invokevirtual 97, 3) := by decide +kernel
theorem dX4_readThing_47 : decode cX4_readThing 47 = .ok (.iload_n 3, 1) := by decide +kernel
theorem dX4_readThing_48 : decode cX4_readThing 48 = .ok (.bipush 6, 2) := by decide +kernel
theorem dX4_readThing_50 : decode cX4_readThing 50 = .ok (.if_icmp .eq 9, 3) := by decide +kernel
theorem dX4_readThing_53 : decode cX4_readThing 53 = .ok (.iload_n 3, 1) := by decide +kernel
theorem dX4_readThing_54 : decode cX4_readThing 54 = .ok (.bipush 7, 2) := by decide +kernel
theorem dX4_readThing_56 : decode cX4_readThing 56 = .ok (.if_icmp .ne 9, 3) := by decide +kernel
theorem dX4_readThing_59 : decode cX4_readThing 59 = .ok (.aload_n 1, 1) := by decide +kernel
theorem dX4_readThing_60 : decode cX4_readThing 60 = .ok (.invokevirtual 111, 3) := by decide +kernel
theorem dX4_readThing_63 : decode cX4_readThing 63 = .ok (.istore 4, 2) := by decide +kernel
theorem dX4_readThing_65 : decode cX4_readThing 65 = .ok (.iload 4, 2) := by decide +kernel
theorem dX4_readThing_67 : decode cX4_readThing 67 = .ok (.iconst (-1), 1) := by decide +kernel
theorem dX4_readThing_68 : decode cX4_readThing 68 = .ok (.if_icmp .ne 5, 3) := by decide +kernel
theorem dX4_readThing_71 : decode cX4_readThing 71 = .ok (.iconst 0, 1) := by decide +kernel
theorem dX4_readThing_72 : decode cX4_readThing 72 = .ok (.ireturn, 1) := by decide +kernel
theorem dX4_readThing_73 : decode cX4_readThing 73 = .ok (.aload_n 0, 1) := by decide +kernel
theorem dX4_readThing_74 : decode cX4_readThing 74 = .ok (.getfield 31, 3) := by decide +kernel
theorem dX4_readThing_77 : decode cX4_readThing 77 = .ok (.aload_n 0, 1) := by decide +kernel
theorem dX4_readThing_78 : decode cX4_readThing 78 = .ok (.getfield 114, 3) := by decide +kernel
theorem dX4_readThing_81 : decode cX4_readThing 81 = .ok (.iload_n 3, 1) := by decide +kernel
theorem dX4_readThing_82 : decode cX4_readThing 82 = .ok (.iastore, 1) := by decide +kernel
theorem dX4_readThing_83 : decode cX4_readThing 83 = .ok (.aload_n 0, 1) := by decide +kernel
theorem dX4_readThing_84 : decode cX4_readThing 84 = .ok (.getfield 34, 3) := by decide +kernel
theorem dX4_readThing_87 : decode cX4_readThing 87 = .ok (.aload_n 0, 1) := by decide +kernel
theorem dX4_readThing_88 : decode cX4_readThing 88 = .ok (.getfield 114, 3) := by decide +kernel
theorem dX4_readThing_91 : decode cX4_readThing 91 = .ok (.iload 4, 2) := by decide +kernel
theorem dX4_readThing_93 : decode cX4_readThing 93 = .ok (.iastore, 1) := by decide +kernel
theorem dX4_readThing_94 : decode cX4_readThing 94 = .ok (.aload_n 0, 1) := by decide +kernel
theorem dX4_readThing_95 : decode cX4_readThing 95 = .ok (.getfield 37, 3) := by decide +kernel
theorem dX4_readThing_98 : decode cX4_readThing 98 = .ok (.aload_n 0, 1) := by decide +kernel
theorem dX4_readThing_99 : decode cX4_readThing 99 = .ok (.getfield 114, 3) := by decide +kernel
theorem dX4_readThing_102 : decode cX4_readThing 102 = .ok (.iload_n 2, 1) := by decide +kernel
theorem dX4_readThing_103 : decode cX4_readThing 103 = .ok (.castore, 1) := by decide +kernel
theorem dX4_readThing_104 : decode cX4_readThing 104 = .ok (.aload_n 0, 1) := by decide +kernel
theorem dX4_readThing_105 : decode cX4_readThing 105 = .ok (.dup, 1) := by decide +kernel
theorem dX4_readThing_106 : decode cX4_readThing 106 = .ok (.getfield 114, 3) := by decide +kernel
theorem dX4_readThing_109 : decode cX4_readThing 109 = .ok (.iconst 1, 1) := by decide +kernel
theorem dX4_readThing_110 : decode cX4_readThing 110 = .ok (.iadd, 1) := by decide +kernel
theorem dX4_readThing_111 : decode cX4_readThing 111 = .ok (.putfield 114, 3) := by decide +kernel
theorem dX4_readThing_114 : decode cX4_readThing 114 = .ok (.iconst 1, 1) := by decide +kernel
theorem dX4_readThing_115 : decode cX4_readThing 115 = .ok (.ireturn, 1) := by decide +kernel
theorem dX4_thingHere_0 : decode cX4_thingHere 0 = .ok (.aload_n 0, 1) := by decide +kernel
theorem dX4_thingHere_1 : decode cX4_thingHere 1 = .ok (.invokevirtual 149, 3) := by decide +kernel
theorem dX4_thingHere_4 : decode cX4_thingHere 4 = .ok (.ifCond .eq 5, 3) := by decide +kernel
theorem dX4_thingHere_7 : decode cX4_thingHere 7 = .ok (.iconst 0, 1) := by decide +kernel
theorem dX4_thingHere_8 : decode cX4_thingHere 8 = .ok (.ireturn, 1) := by decide +kernel
theorem dX4_thingHere_9 : decode cX4_thingHere 9 = .ok (.aload_n 0, 1) := by decide +kernel
theorem dX4_thingHere_10 : decode cX4_thingHere 10 = .ok (.ldc 152, 2) := by decide +kernel
theorem dX4_thingHere_12 : decode cX4_thingHere 12 = .ok (.invokevirtual 93, 3) := by decide +kernel
theorem dX4_thingHere_15 : decode cX4_thingHere 15 = .ok (.ifCond .eq 5, 3) := by decide +kernel
theorem dX4_thingHere_18 : decode cX4_thingHere 18 = .ok (.iconst 1, 1) := by decide +kernel
theorem dX4_thingHere_19 : decode cX4_thingHere 19 = .ok (.ireturn, 1) := by decide +kernel
theorem dX4_thingHere_20 : decode cX4_thingHere 20 = .ok (.aload_n 0, 1) := by decide +kernel
theorem dX4_thingHere_21 : decode cX4_thingHere 21 = .ok (.ldc 153, 2) := by decide +kernel
theorem dX4_thingHere_23 : decode cX4_thingHere 23 = .ok (.invokevirtual 93, 3) := by decide +kernel
theorem dX4_thingHere_26 : decode cX4_thingHere 26 = .ok (.ifCond .eq 5, 3) := by decide +kernel
theorem dX4_thingHere_29 : decode cX4_thingHere 29 = .ok (.iconst 2, 1) := by decide +kernel
theorem dX4_thingHere_30 : decode cX4_thingHere 30 = .ok (.ireturn, 1) := by decide +kernel
theorem dX4_thingHere_31 : decode cX4_thingHere 31 = .ok (.aload_n 0, 1) := by decide +kernel
theorem dX4_thingHere_32 : decode cX4_thingHere 32 = .ok (.ldc 154, 2) := by decide +kernel
theorem dX4_thingHere_34 : decode cX4_thingHere 34 = .ok (.invokevirtual 93, 3) := by decide +kernel
theorem dX4_thingHere_37 : decode cX4_thingHere 37 = .ok (.ifCond .eq 5, 3) := by decide +kernel
theorem dX4_thingHere_40 : decode cX4_thingHere 40 = .ok (.iconst 3, 1) := by decide +kernel
theorem dX4_thingHere_41 : decode cX4_thingHere 41 = .ok (.ireturn, 1) := by decide +kernel
theorem dX4_thingHere_42 : decode cX4_thingHere 42 = .ok (.aload_n 0, 1) := by decide +kernel
theorem dX4_thingHere_43 : decode cX4_thingHere 43 = .ok (.ldc 155, 2) := by decide +kernel
theorem dX4_thingHere_45 : decode cX4_thingHere 45 = .ok (.invokevirtual 93, 3) := by decide +kernel
theorem dX4_thingHere_48 : decode cX4_thingHere 48 = .ok (.ifCond .eq 5, 3) := by decide +kernel
theorem dX4_thingHere_51 : decode cX4_thingHere 51 = .ok (.iconst 4, 1) := by decide +kernel
theorem dX4_thingHere_52 : decode cX4_thingHere 52 = .ok (.ireturn, 1) := by decide +kernel
theorem dX4_thingHere_53 : decode cX4_thingHere 53 = .ok (.aload_n 0, 1) := by decide +kernel
theorem dX4_thingHere_54 : decode cX4_thingHere 54 = .ok (.ldc 156, 2) := by decide +kernel
theorem dX4_thingHere_56 : decode cX4_thingHere 56 = .ok (.invokevirtual 93, 3) := by decide +kernel
theorem dX4_thingHere_59 : decode cX4_thingHere 59 = .ok (.ifCond .eq 5, 3) := by decide +kernel
theorem dX4_thingHere_62 : decode cX4_thingHere 62 = .ok (.iconst 5, 1) := by decide +kernel
theorem dX4_thingHere_63 : decode cX4_thingHere 63 = .ok (.ireturn, 1) := by decide +kernel
theorem dX4_thingHere_64 : decode cX4_thingHere 64 = .ok (.aload_n 0, 1) := by decide +kernel
theorem dX4_thingHere_65 : decode cX4_thingHere 65 = .ok (.ldc 157, 2) := by decide +kernel
theorem dX4_thingHere_67 : decode cX4_thingHere 67 = .ok (.invokevirtual 93, 3) := by decide +kernel
theorem dX4_thingHere_70 : decode cX4_thingHere 70 = .ok (.ifCond .eq 6, 3) := by decide +kernel
theorem dX4_thingHere_73 : decode cX4_thingHere 73 = .ok (.bipush 6, 2) := by decide +kernel
theorem dX4_thingHere_75 : decode cX4_thingHere 75 = .ok (.ireturn, 1) := by decide +kernel
theorem dX4_thingHere_76 : decode cX4_thingHere 76 = .ok (.aload_n 0, 1) := by decide +kernel
theorem dX4_thingHere_77 : decode cX4_thingHere 77 = .ok (.ldc 158, 2) := by decide +kernel
theorem dX4_thingHere_79 : decode cX4_thingHere 79 = .ok (.invokevirtual 93, 3) := by decide +kernel
theorem dX4_thingHere_82 : decode cX4_thingHere 82 = .ok (.ifCond .eq 8, 3) := by decide +kernel
theorem dX4_thingHere_85 : decode cX4_thingHere 85 = .ok (.bipush 7, 2) := by decide +kernel
theorem dX4_thingHere_87 : decode cX4_thingHere 87 = .ok (.goto 4, 3) := by decide +kernel
theorem dX4_thingHere_90 : decode cX4_thingHere 90 = .ok (.iconst (-1), 1) := by decide +kernel
theorem dX4_thingHere_91 : decode cX4_thingHere 91 = .ok (.ireturn, 1) := by decide +kernel
theorem dX5_init_0 : decode cX5_init 0 = .ok (.aload_n 0, 1) := by decide +kernel
theorem dX5_init_1 : decode cX5_init 1 = .ok (.invokespecial 1, 3) := by decide +kernel
theorem dX5_init_4 : decode cX5_init 4 = .ok (.aload_n 0, 1) := by decide +kernel
theorem dX5_init_5 : decode cX5_init 5 = .ok (.new 7, 3) := by decide +kernel
theorem dX5_init_8 : decode cX5_init 8 = .ok (.dup, 1) := by decide +kernel
theorem dX5_init_9 : decode cX5_init 9 = .ok (.invokespecial 9, 3) := by decide +kernel
theorem dX5_init_12 : decode cX5_init 12 = .ok (.putfield 10, 3) := by decide +kernel
theorem dX5_init_15 : decode cX5_init 15 = .ok (.aload_n 0, 1) := by decide +kernel
theorem dX5_init_16 : decode cX5_init 16 = .ok (.new 16, 3) := by decide +kernel
theorem dX5_init_19 : decode cX5_init 19 = .ok (.dup, 1) := by decide +kernel
theorem dX5_init_20 : decode cX5_init 20 = .ok (.invokespecial 18, 3) := by decide +kernel
theorem dX5_init_23 : decode cX5_init 23 = .ok (.putfield 19, 3) := by decide +kernel
theorem dX5_init_26 : decode cX5_init 26 = .ok (.aload_n 0, 1) := by decide +kernel
theorem dX5_init_27 : decode cX5_init 27 = .ok (.aload_n 1, 1) := by decide +kernel
theorem dX5_init_28 : decode cX5_init 28 = .ok (.putfield 23, 3) := by decide +kernel
theorem dX5_init_31 : decode cX5_init 31 = .ok (.aload_n 0, 1) := by decide +kernel
theorem dX5_init_32 : decode cX5_init 32 = .ok (.aload_n 2, 1) := by decide +kernel
theorem dX5_init_33 : decode cX5_init 33 = .ok (.putfield 27, 3) := by decide +kernel
theorem dX5_init_36 : decode cX5_init 36 = .ok (.return_, 1) := by decide +kernel
theorem dX5_copyState_0 : decode cX5_copyState 0 = .ok (.aload_n 0, 1) := by decide +kernel
theorem dX5_copyState_1 : decode cX5_copyState 1 = .ok (.getfield 10, 3) := by decide +kernel
theorem dX5_copyState_4 : decode cX5_copyState 4 = .ok (.aload_n 1, 1) := by decide +kernel
theorem dX5_copyState_5 : decode cX5_copyState 5 = .ok (.getfield 10, 3) := by decide +kernel
theorem dX5_copyState_8 : decode cX5_copyState 8 = .ok (.invokevirtual 31, 3) := by decide +kernel
theorem dX5_copyState_11 : decode cX5_copyState 11 = .ok (.aload_n 0, 1) := by decide +kernel
theorem dX5_copyState_12 : decode cX5_copyState 12 = .ok (.getfield 19, 3) := by decide +kernel
theorem dX5_copyState_15 : decode cX5_copyState 15 = .ok (.aload_n 1, 1) := by decide +kernel
theorem dX5_copyState_16 : decode cX5_copyState 16 = .ok (.getfield 19, 3) := by decide +kernel
theorem dX5_copyState_19 : decode cX5_copyState 19 = .ok (.invokevirtual 35, 3) := by decide +kernel
theorem dX5_copyState_22 : decode cX5_copyState 22 = .ok (.aload_n 0, 1) := by decide +kernel
theorem dX5_copyState_23 : decode cX5_copyState 23 = .ok (.aload_n 1, 1) := by decide +kernel
theorem dX5_copyState_24 : decode cX5_copyState 24 = .ok (.getfield 23, 3) := by decide +kernel
theorem dX5_copyState_27 : decode cX5_copyState 27 = .ok (.putfield 23, 3) := by decide +kernel
theorem dX5_copyState_30 : decode cX5_copyState 30 = .ok (.aload_n 0, 1) := by decide +kernel
theorem dX5_copyState_31 : decode cX5_copyState 31 = .ok (.aload_n 1, 1) := by decide +kernel
theorem dX5_copyState_32 : decode cX5_copyState 32 = .ok (.getfield 27, 3) := by decide +kernel
theorem dX5_copyState_35 : decode cX5_copyState 35 = .ok (.putfield 27, 3) := by decide +kernel
theorem dX5_copyState_38 : decode cX5_copyState 38 = .ok (.return_, 1) := by decide +kernel
theorem dX6_init_0 : decode cX6_init 0 = .ok (.aload_n 0, 1) := by decide +kernel
theorem dX6_init_1 : decode cX6_init 1 = .ok (.invokespecial 1, 3) := by decide +kernel
theorem dX6_init_4 : decode cX6_init 4 = .ok (.aload_n 0, 1) := by decide +kernel
theorem dX6_init_5 : decode cX6_init 5 = .ok (.sipush 400, 3) := by decide +kernel
theorem dX6_init_8 : decode cX6_init 8 = .ok (.newarray .int, 2) := by decide +kernel
theorem dX6_init_10 : decode cX6_init 10 = .ok (.putfield 9, 3) := by decide +kernel
theorem dX6_init_13 : decode cX6_init 13 = .ok (.return_, 1) := by decide +kernel
theorem dX6_addSign_0 : decode cX6_addSign 0 = .ok (.aload_n 0, 1) := by decide +kernel
theorem dX6_addSign_1 : decode cX6_addSign 1 = .ok (.getfield 13, 3) := by decide +kernel
theorem dX6_addSign_4 : decode cX6_addSign 4 = .ok (.sipush 400, 3) := by decide +kernel
theorem dX6_addSign_7 : decode cX6_addSign 7 = .ok (.if_icmp .ge 23, 3) := by decide +kernel
theorem dX6_addSign_10 : decode cX6_addSign 10 = .ok (.aload_n 0, 1) := by decide +kernel
theorem dX6_addSign_11 : decode cX6_addSign 11 = .ok (.getfield 9, 3) := by decide +kernel
theorem dX6_addSign_14 : decode cX6_addSign 14 = .ok (.aload_n 0, 1) := by decide +kernel
theorem dX6_addSign_15 : decode cX6_addSign 15 = .ok (.getfield 13, 3) := by decide +kernel
theorem dX6_addSign_18 : decode cX6_addSign 18 = .ok (.iload_n 1, 1) := by decide +kernel
theorem dX6_addSign_19 : decode cX6_addSign 19 = .ok (.iastore, 1) := by decide +kernel
theorem dX6_addSign_20 : decode cX6_addSign 20 = .ok (.aload_n 0, 1) := by decide +kernel
theorem dX6_addSign_21 : decode cX6_addSign 21 = .ok (.dup, 1) := by decide +kernel
theorem dX6_addSign_22 : decode cX6_addSign 22 = .ok (.getfield 13, 3) := by decide +kernel
theorem dX6_addSign_25 : decode cX6_addSign 25 = .ok (.iconst 1, 1) := by decide +kernel
theorem dX6_addSign_26 : decode cX6_addSign 26 = .ok (.iadd, 1) := by decide +kernel
theorem dX6_addSign_27 : decode cX6_addSign 27 = .ok (.putfield 13, 3) := by decide +kernel
theorem dX6_addSign_30 : decode cX6_addSign 30 = .ok (.return_, 1) := by decide +kernel
theorem dX6_addNumber_0 : decode cX6_addNumber 0 = .ok (.iload_n 1, 1) := by decide +kernel
theorem dX6_addNumber_1 : decode cX6_addNumber 1 = .ok (.i2l, 1) := by decide +kernel
theorem dX6_addNumber_2 : decode cX6_addNumber 2 = .ok (.invokestatic 17, 3) := by decide +kernel
theorem dX6_addNumber_5 : decode cX6_addNumber 5 = .ok (.lstore_n 2, 1) := by decide +kernel
theorem dX6_addNumber_6 : decode cX6_addNumber 6 = .ok (.iload_n 1, 1) := by decide +kernel
theorem dX6_addNumber_7 : decode cX6_addNumber 7 = .ok (.ifCond .ge 9, 3) := by decide +kernel
theorem dX6_addNumber_10 : decode cX6_addNumber 10 = .ok (.aload_n 0, 1) := by decide +kernel
theorem dX6_addNumber_11 : decode cX6_addNumber 11 = .ok (.bipush 45, 2) := by decide +kernel
theorem dX6_addNumber_13 : decode cX6_addNumber 13 = .ok (.invokevirtual 23, 3) := by decide +kernel
theorem dX6_addNumber_16 : decode cX6_addNumber 16 = .ok (.lconst 1, 1) := by decide +kernel
theorem dX6_addNumber_17 : decode cX6_addNumber 17 = .ok (.lstore 4, 2) := by decide +kernel
theorem dX6_addNumber_19 : decode cX6_addNumber 19 = .ok (.iconst 0, 1) := by decide +kernel
theorem dX6_addNumber_20 : decode cX6_addNumber 20 = .ok (.istore 6, 2) := by decide +kernel
theorem dX6_addNumber_22 : decode cX6_addNumber 22 = .ok (.iload 6, 2) := by decide +kernel
theorem dX6_addNumber_24 : decode cX6_addNumber 24 = .ok (.bipush 10, 2) := by decide +kernel
theorem dX6_addNumber_26 : decode cX6_addNumber 26 = .ok (.if_icmp .ge 28, 3) := by decide +kernel
theorem dX6_addNumber_29 : decode cX6_addNumber 29 = .ok (.lload 4, 2) := by decide +kernel
theorem dX6_addNumber_31 : decode cX6_addNumber 31 = .ok (.ldc2_w 27, 3) := by decide +kernel
theorem dX6_addNumber_34 : decode cX6_addNumber 34 = .ok (.lmul, 1) := by decide +kernel
theorem dX6_addNumber_35 : decode cX6_addNumber 35 = .ok (.lload_n 2, 1) := by decide +kernel
theorem dX6_addNumber_36 : decode cX6_addNumber 36 = .ok (.lcmp, 1) := by decide +kernel
theorem dX6_addNumber_37 : decode cX6_addNumber 37 = .ok (.ifCond .gt 17, 3) := by decide +kernel
theorem dX6_addNumber_40 : decode cX6_addNumber 40 = .ok (.lload 4, 2) := by decide +kernel
theorem dX6_addNumber_42 : decode cX6_addNumber 42 = .ok (.ldc2_w 27, 3) := by decide +kernel
theorem dX6_addNumber_45 : decode cX6_addNumber 45 = .ok (.lmul, 1) := by decide +kernel
theorem dX6_addNumber_46 : decode cX6_addNumber 46 = .ok (.lstore 4, 2) := by decide +kernel
theorem dX6_addNumber_48 : decode cX6_addNumber 48 = .ok (.iinc 6 1, 3) := by decide +kernel
theorem dX6_addNumber_51 : decode cX6_addNumber 51 = .ok (.goto (-29), 3) := by decide +kernel
theorem dX6_addNumber_54 : decode cX6_addNumber 54 = .ok (.iconst 0, 1) := by decide +kernel
theorem dX6_addNumber_55 : decode cX6_addNumber 55 = .ok (.istore 6, 2) := by decide +kernel
theorem dX6_addNumber_57 : decode cX6_addNumber 57 = .ok (.iload 6, 2) := by decide +kernel
theorem dX6_addNumber_59 : decode cX6_addNumber 59 = .ok (.bipush 10, 2) := by decide +kernel
theorem dX6_addNumber_61 : decode cX6_addNumber 61 = .ok (.if_icmp .gt 42, 3) := by decide +kernel
theorem dX6_addNumber_64 : decode cX6_addNumber 64 = .ok (.lload 4, 2) := by decide +kernel
theorem dX6_addNumber_66 : decode cX6_addNumber 66 = .ok (.lconst 0, 1) := by decide +kernel
theorem dX6_addNumber_67 : decode cX6_addNumber 67 = .ok (.lcmp, 1) := by decide +kernel
theorem dX6_addNumber_68 : decode cX6_addNumber 68 = .ok (.ifCond .le 35, 3) := by decide +kernel
theorem dX6_addNumber_71 : decode cX6_addNumber 71 = .ok (.aload_n 0, 1) := by decide +kernel
theorem dX6_addNumber_72 : decode cX6_addNumber 72 = .ok (.ldc2_w 29, 3) := by decide +kernel
theorem dX6_addNumber_75 : decode cX6_addNumber 75 = .ok (.lload_n 2, 1) := by decide +kernel
theorem dX6_addNumber_76 : decode cX6_addNumber 76 = .ok (.lload 4, 2) := by decide +kernel
theorem dX6_addNumber_78 : decode cX6_addNumber 78 = .ok (.ldiv, 1) := by decide +kernel
theorem dX6_addNumber_79 : decode cX6_addNumber 79 = .ok (.ldc2_w 27, 3) := by decide +kernel
theorem dX6_addNumber_82 : decode cX6_addNumber 82 = .ok (.lrem, 1) := by decide +kernel
theorem dX6_addNumber_83 : decode cX6_addNumber 83 = .ok (.ladd, 1) := by decide +kernel
theorem dX6_addNumber_84 : decode cX6_addNumber 84 = .ok (.l2i, 1) := by decide +kernel
theorem dX6_addNumber_85 : decode cX6_addNumber 85 = .ok (.i2c, 1) := by decide +kernel
theorem dX6_addNumber_86 : decode cX6_addNumber 86 = .ok (.invokevirtual 23, 3) := by decide +kernel
theorem dX6_addNumber_89 : decode cX6_addNumber 89 = .ok (.lload 4, 2) := by decide +kernel
theorem dX6_addNumber_91 : decode cX6_addNumber 91 = .ok (.ldc2_w 27, 3) := by decide +kernel
theorem dX6_addNumber_94 : decode cX6_addNumber 94 = .ok (.ldiv, 1) := by decide +kernel
theorem dX6_addNumber_95 : decode cX6_addNumber 95 = .ok (.lstore 4, 2) := by decide +kernel
theorem dX6_addNumber_97 : decode cX6_addNumber 97 = .ok (.iinc 6 1, 3) := by decide +kernel
theorem dX6_addNumber_100 : decode cX6_addNumber 100 = .ok (.goto (-43), 3) := by decide +kernel
theorem dX6_addNumber_103 : decode cX6_addNumber 103 = .ok (.return_, 1) := by decide +kernel
theorem dX7_init_0 : decode cX7_init 0 = .ok (.aload_n 0, 1) := by decide +kernel
theorem dX7_init_1 : decode cX7_init 1 = .ok (.invokespecial 3, 3) := by decide +kernel
theorem dX7_init_4 : decode cX7_init 4 = .ok (.aload_n 0, 1) := by decide +kernel
theorem dX7_init_5 : decode cX7_init 5 = .ok (.bipush 56, 2) := by decide +kernel
theorem dX7_init_7 : decode cX7_init 7 = .ok (.newarray .int, 2) := by decide +kernel
theorem dX7_init_9 : decode cX7_init 9 = .ok (.putfield 9, 3) := by decide +kernel
theorem dX7_init_12 : decode cX7_init 12 = .ok (.return_, 1) := by decide +kernel
theorem dX7_copySteps_0 : decode cX7_copySteps 0 = .ok (.aload_n 0, 1) := by decide +kernel
theorem dX7_copySteps_1 : decode cX7_copySteps 1 = .ok (.aload_n 1, 1) := by decide +kernel
theorem dX7_copySteps_2 : decode cX7_copySteps 2 = .ok (.getfield 15, 3) := by decide +kernel
theorem dX7_copySteps_5 : decode cX7_copySteps 5 = .ok (.putfield 15, 3) := by decide +kernel
theorem dX7_copySteps_8 : decode cX7_copySteps 8 = .ok (.aload_n 0, 1) := by decide +kernel
theorem dX7_copySteps_9 : decode cX7_copySteps 9 = .ok (.aload_n 1, 1) := by decide +kernel
theorem dX7_copySteps_10 : decode cX7_copySteps 10 = .ok (.getfield 19, 3) := by decide +kernel
theorem dX7_copySteps_13 : decode cX7_copySteps 13 = .ok (.putfield 19, 3) := by decide +kernel
theorem dX7_copySteps_16 : decode cX7_copySteps 16 = .ok (.aload_n 1, 1) := by decide +kernel
theorem dX7_copySteps_17 : decode cX7_copySteps 17 = .ok (.getfield 9, 3) := by decide +kernel
theorem dX7_copySteps_20 : decode cX7_copySteps 20 = .ok (.iconst 0, 1) := by decide +kernel
theorem dX7_copySteps_21 : decode cX7_copySteps 21 = .ok (.aload_n 0, 1) := by decide +kernel
theorem dX7_copySteps_22 : decode cX7_copySteps 22 = .ok (.getfield 9, 3) := by decide +kernel
theorem dX7_copySteps_25 : decode cX7_copySteps 25 = .ok (.iconst 0, 1) := by decide +kernel
theorem dX7_copySteps_26 : decode cX7_copySteps 26 = .ok (.aload_n 0, 1) := by decide +kernel
theorem dX7_copySteps_27 : decode cX7_copySteps 27 = .ok (.getfield 9, 3) := by decide +kernel
theorem dX7_copySteps_30 : decode cX7_copySteps 30 = .ok (.arraylength, 1) := by decide +kernel
theorem dX7_copySteps_31 : decode cX7_copySteps 31 = .ok (.invokestatic 23, 3) := by decide +kernel
theorem dX7_copySteps_34 : decode cX7_copySteps 34 = .ok (.return_, 1) := by decide +kernel
theorem dX7_startAnew_0 : decode cX7_startAnew 0 = .ok (.aload_n 0, 1) := by decide +kernel
theorem dX7_startAnew_1 : decode cX7_startAnew 1 = .ok (.iconst 1, 1) := by decide +kernel
theorem dX7_startAnew_2 : decode cX7_startAnew 2 = .ok (.putfield 15, 3) := by decide +kernel
theorem dX7_startAnew_5 : decode cX7_startAnew 5 = .ok (.aload_n 0, 1) := by decide +kernel
theorem dX7_startAnew_6 : decode cX7_startAnew 6 = .ok (.iconst 0, 1) := by decide +kernel
theorem dX7_startAnew_7 : decode cX7_startAnew 7 = .ok (.putfield 19, 3) := by decide +kernel
theorem dX7_startAnew_10 : decode cX7_startAnew 10 = .ok (.aload_n 0, 1) := by decide +kernel
theorem dX7_startAnew_11 : decode cX7_startAnew 11 = .ok (.getfield 9, 3) := by decide +kernel
theorem dX7_startAnew_14 : decode cX7_startAnew 14 = .ok (.iconst 0, 1) := by decide +kernel
theorem dX7_startAnew_15 : decode cX7_startAnew 15 = .ok (.invokestatic 29, 3) := by decide +kernel
theorem dX7_startAnew_18 : decode cX7_startAnew 18 = .ok (.return_, 1) := by decide +kernel
theorem dX7_putRow_0 : decode cX7_putRow 0 = .ok (.aload_n 2, 1) := by decide +kernel
theorem dX7_putRow_1 : decode cX7_putRow 1 = .ok (.iconst 0, 1) := by decide +kernel
theorem dX7_putRow_2 : decode cX7_putRow 2 = .ok (.aload_n 0, 1) := by decide +kernel
theorem dX7_putRow_3 : decode cX7_putRow 3 = .ok (.getfield 9, 3) := by decide +kernel
theorem dX7_putRow_6 : decode cX7_putRow 6 = .ok (.iload_n 1, 1) := by decide +kernel
theorem dX7_putRow_7 : decode cX7_putRow 7 = .ok (.bipush 8, 2) := by decide +kernel
theorem dX7_putRow_9 : decode cX7_putRow 9 = .ok (.imul, 1) := by decide +kernel
theorem dX7_putRow_10 : decode cX7_putRow 10 = .ok (.bipush 8, 2) := by decide +kernel
theorem dX7_putRow_12 : decode cX7_putRow 12 = .ok (.invokestatic 23, 3) := by decide +kernel
theorem dX7_putRow_15 : decode cX7_putRow 15 = .ok (.return_, 1) := by decide +kernel
theorem dX7_totalOf_0 : decode cX7_totalOf 0 = .ok (.iconst 0, 1) := by decide +kernel
theorem dX7_totalOf_1 : decode cX7_totalOf 1 = .ok (.istore_n 2, 1) := by decide +kernel
theorem dX7_totalOf_2 : decode cX7_totalOf 2 = .ok (.iconst 0, 1) := by decide +kernel
theorem dX7_totalOf_3 : decode cX7_totalOf 3 = .ok (.istore_n 3, 1) := by decide +kernel
theorem dX7_totalOf_4 : decode cX7_totalOf 4 = .ok (.iload_n 3, 1) := by decide +kernel
theorem dX7_totalOf_5 : decode cX7_totalOf 5 = .ok (.bipush 8, 2) := by decide +kernel
theorem dX7_totalOf_7 : decode cX7_totalOf 7 = .ok (.if_icmp .ge 23, 3) := by decide +kernel
theorem dX7_totalOf_10 : decode cX7_totalOf 10 = .ok (.iload_n 2, 1) := by decide +kernel
theorem dX7_totalOf_11 : decode cX7_totalOf 11 = .ok (.aload_n 0, 1) := by decide +kernel
theorem dX7_totalOf_12 : decode cX7_totalOf 12 = .ok (.getfield 9, 3) := by decide +kernel
theorem dX7_totalOf_15 : decode cX7_totalOf 15 = .ok (.iload_n 1, 1) := by decide +kernel
theorem dX7_totalOf_16 : decode cX7_totalOf 16 = .ok (.bipush 8, 2) := by decide +kernel
theorem dX7_totalOf_18 : decode cX7_totalOf 18 = .ok (.imul, 1) := by decide +kernel
theorem dX7_totalOf_19 : decode cX7_totalOf 19 = .ok (.iload_n 3, 1) := by decide +kernel
theorem dX7_totalOf_20 : decode cX7_totalOf 20 = .ok (.iadd, 1) := by decide +kernel
theorem dX7_totalOf_21 : decode cX7_totalOf 21 = .ok (.iaload, 1) := by decide +kernel
theorem dX7_totalOf_22 : decode cX7_totalOf 22 = .ok (.iadd, 1) := by decide +kernel
theorem dX7_totalOf_23 : decode cX7_totalOf 23 = .ok (.istore_n 2, 1) := by decide +kernel
theorem dX7_totalOf_24 : decode cX7_totalOf 24 = .ok (.iinc 3 1, 3) := by decide +kernel
theorem dX7_totalOf_27 : decode cX7_totalOf 27 = .ok (.goto (-23), 3) := by decide +kernel
theorem dX7_totalOf_30 : decode cX7_totalOf 30 = .ok (.iload_n 2, 1) := by decide +kernel
theorem dX7_totalOf_31 : decode cX7_totalOf 31 = .ok (.ireturn, 1) := by decide +kernel
theorem dX8_init_0 : decode cX8_init 0 = .ok (.aload_n 0, 1) := by decide +kernel
theorem dX8_init_1 : decode cX8_init 1 = .ok (.invokespecial 3, 3) := by decide +kernel
theorem dX8_init_4 : decode cX8_init 4 = .ok (.aload_n 0, 1) := by decide +kernel
theorem dX8_init_5 : decode cX8_init 5 = .ok (.iconst 1, 1) := by decide +kernel
theorem dX8_init_6 : decode cX8_init 6 = .ok (.putfield 9, 3) := by decide +kernel
theorem dX8_init_9 : decode cX8_init 9 = .ok (.aload_n 0, 1) := by decide +kernel
theorem dX8_init_10 : decode cX8_init 10 = .ok (.bipush 9, 2) := by decide +kernel
theorem dX8_init_12 : decode cX8_init 12 = .ok (.newarray .int, 2) := by decide +kernel
theorem dX8_init_14 : decode cX8_init 14 = .ok (.putfield 15, 3) := by decide +kernel
theorem dX8_init_17 : decode cX8_init 17 = .ok (.aload_n 0, 1) := by decide +kernel
theorem dX8_init_18 : decode cX8_init 18 = .ok (.bipush 72, 2) := by decide +kernel
theorem dX8_init_20 : decode cX8_init 20 = .ok (.newarray .int, 2) := by decide +kernel
theorem dX8_init_22 : decode cX8_init 22 = .ok (.putfield 19, 3) := by decide +kernel
theorem dX8_init_25 : decode cX8_init 25 = .ok (.aload_n 0, 1) := by decide +kernel
theorem dX8_init_26 : decode cX8_init 26 = .ok (.getfield 15, 3) := by decide +kernel
theorem dX8_init_29 : decode cX8_init 29 = .ok (.iconst 0, 1) := by decide +kernel
theorem dX8_init_30 : decode cX8_init 30 = .ok (.iconst (-1), 1) := by decide +kernel
theorem dX8_init_31 : decode cX8_init 31 = .ok (.iastore, 1) := by decide +kernel
theorem dX8_init_32 : decode cX8_init 32 = .ok (.aload_n 0, 1) := by decide +kernel
theorem dX8_init_33 : decode cX8_init 33 = .ok (.getfield 19, 3) := by decide +kernel
theorem dX8_init_36 : decode cX8_init 36 = .ok (.iconst 0, 1) := by decide +kernel
theorem dX8_init_37 : decode cX8_init 37 = .ok (.bipush 8, 2) := by decide +kernel
theorem dX8_init_39 : decode cX8_init 39 = .ok (.iconst 1, 1) := by decide +kernel
theorem dX8_init_40 : decode cX8_init 40 = .ok (.invokestatic 22, 3) := by decide +kernel
theorem dX8_init_43 : decode cX8_init 43 = .ok (.return_, 1) := by decide +kernel
theorem dX8_readTiers_0 : decode cX8_readTiers 0 = .ok (.aload_n 1, 1) := by decide +kernel
theorem dX8_readTiers_1 : decode cX8_readTiers 1 = .ok (.invokevirtual 28, 3) := by decide +kernel
theorem dX8_readTiers_4 : decode cX8_readTiers 4 = .ok (.aload_n 1, 1) := by decide +kernel
theorem dX8_readTiers_5 : decode cX8_readTiers 5 = .ok (.invokevirtual 33, 3) := by decide +kernel
theorem dX8_readTiers_8 : decode cX8_readTiers 8 = .ok (.ifCond .eq 5, 3) := by decide +kernel
theorem dX8_readTiers_11 : decode cX8_readTiers 11 = .ok (.iconst 0, 1) := by decide +kernel
theorem dX8_readTiers_12 : decode cX8_readTiers 12 = .ok (.ireturn, 1) := by decide +kernel
theorem dX8_readTiers_13 : decode cX8_readTiers 13 = .ok (.iconst 0, 1) := by decide +kernel
theorem dX8_readTiers_14 : decode cX8_readTiers 14 = .ok (.istore_n 2, 1) := by decide +kernel
theorem dX8_readTiers_15 : decode cX8_readTiers 15 = .ok (.iconst 0, 1) := by decide +kernel
theorem dX8_readTiers_16 : decode cX8_readTiers 16 = .ok (.istore_n 3, 1) := by decide +kernel
theorem dX8_readTiers_17 : decode cX8_readTiers 17 = .ok (.iload_n 3, 1) := by decide +kernel
theorem dX8_readTiers_18 : decode cX8_readTiers 18 = .ok (.bipush 8, 2) := by decide +kernel
theorem dX8_readTiers_20 : decode cX8_readTiers 20 = .ok (.if_icmp .ge 59, 3) := by decide +kernel
theorem dX8_readTiers_23 : decode cX8_readTiers 23 = .ok (.aload_n 1, 1) := by decide +kernel
theorem dX8_readTiers_24 : decode cX8_readTiers 24 = .ok (.ldc 37, 2) := by decide +kernel
theorem dX8_readTiers_26 : decode cX8_readTiers 26 = .ok (.invokevirtual 39, 3) := by decide +kernel
theorem dX8_readTiers_29 : decode cX8_readTiers 29 = .ok (.ifCond .eq 50, 3) := by decide +kernel
theorem dX8_readTiers_32 : decode cX8_readTiers 32 = .ok (.aload_n 1, 1) := by decide +kernel
theorem dX8_readTiers_33 : decode cX8_readTiers 33 = .ok (.invokevirtual 43, 3) := by decide +kernel
theorem dX8_readTiers_36 : decode cX8_readTiers 36 = .ok (.aload_n 0, 1) := by decide +kernel
theorem dX8_readTiers_37 : decode cX8_readTiers 37 = .ok (.getfield 15, 3) := by decide +kernel
theorem dX8_readTiers_40 : decode cX8_readTiers 40 = .ok (.iload_n 3, 1) := by decide +kernel
theorem dX8_readTiers_41 : decode cX8_readTiers 41 = .ok (.aload_n 1, 1) := by decide +kernel
theorem dX8_readTiers_42 : decode cX8_readTiers 42 = .ok (.iconst 1, 1) := by decide +kernel
theorem dX8_readTiers_43 : decode cX8_readTiers 43 = .ok (.ldc 46, 2) := by decide +kernel
theorem dX8_readTiers_45 : decode cX8_readTiers 45 = .ok (.invokevirtual 47, 3) := by decide +kernel
theorem dX8_readTiers_48 : decode cX8_readTiers 48 = .ok (.iastore, 1) := by decide +kernel
theorem dX8_readTiers_49 : decode cX8_readTiers 49 = .ok (.aload_n 0, 1) := by decide +kernel
theorem dX8_readTiers_50 : decode cX8_readTiers 50 = .ok (.getfield 15, 3) := by decide +kernel
theorem dX8_readTiers_53 : decode cX8_readTiers 53 = .ok (.iload_n 3, 1) := by decide +kernel
theorem dX8_readTiers_54 : decode cX8_readTiers 54 = .ok (.iaload, 1) := by decide +kernel
theorem dX8_readTiers_55 : decode cX8_readTiers 55 = .ok (.iconst (-1), 1) := by decide +kernel
theorem dX8_readTiers_56 : decode cX8_readTiers 56 = .ok (.if_icmp .eq 12, 3) := by decide +kernel
theorem dX8_readTiers_59 : decode cX8_readTiers 59 = .ok (.aload_n 0, 1) := by decide +kernel
theorem dX8_readTiers_60 : decode cX8_readTiers 60 = .ok (.aload_n 1, 1) := by decide +kernel
theorem dX8_readTiers_61 : decode cX8_readTiers 61 = .ok (.iload_n 3, 1) := by decide +kernel
theorem dX8_readTiers_62 : decode cX8_readTiers 62 = .ok (.invokevirtual 51, 3) := by decide +kernel
theorem dX8_readTiers_65 : decode cX8_readTiers 65 = .ok (.ifCond .ne 5, 3) := by decide +kernel
theorem dX8_readTiers_68 : decode cX8_readTiers 68 = .ok (.iconst (-1), 1) := by decide +kernel
theorem dX8_readTiers_69 : decode cX8_readTiers 69 = .ok (.ireturn, 1) := by decide +kernel
theorem dX8_readTiers_70 : decode cX8_readTiers 70 = .ok (.iinc 2 1, 3) := by decide +kernel
theorem dX8_readTiers_73 : decode cX8_readTiers 73 = .ok (.iinc 3 1, 3) := by decide +kernel
theorem dX8_readTiers_76 : decode cX8_readTiers 76 = .ok (.goto (-59), 3) := by decide +kernel
theorem dX8_readTiers_79 : decode cX8_readTiers 79 = .ok (.aload_n 1, 1) := by decide +kernel
theorem dX8_readTiers_80 : decode cX8_readTiers 80 = .ok (.ldc 55, 2) := by decide +kernel
theorem dX8_readTiers_82 : decode cX8_readTiers 82 = .ok (.invokevirtual 57, 3) := by decide +kernel
theorem dX8_readTiers_85 : decode cX8_readTiers 85 = .ok (.ifCond .eq 19, 3) := by decide +kernel
theorem dX8_readTiers_88 : decode cX8_readTiers 88 = .ok (.aload_n 0, 1) := by decide +kernel
theorem dX8_readTiers_89 : decode cX8_readTiers 89 = .ok (.aload_n 1, 1) := by decide +kernel
theorem dX8_readTiers_90 : decode cX8_readTiers 90 = .ok (.iload_n 2, 1) := by decide +kernel
theorem dX8_readTiers_91 : decode cX8_readTiers 91 = .ok (.invokevirtual 51, 3) := by decide +kernel
theorem dX8_readTiers_94 : decode cX8_readTiers 94 = .ok (.ifCond .eq 10, 3) := by decide +kernel
theorem dX8_readTiers_97 : decode cX8_readTiers 97 = .ok (.aload_n 1, 1) := by decide +kernel
theorem dX8_readTiers_98 : decode cX8_readTiers 98 = .ok (.invokevirtual 60, 3) := by decide +kernel
theorem dX8_readTiers_101 : decode cX8_readTiers 101 = .ok (.ifCond .ne 5, 3) := by decide +kernel
theorem dX8_readTiers_104 : decode cX8_readTiers 104 = .ok (.iconst (-1), 1) := by decide +kernel
theorem dX8_readTiers_105 : decode cX8_readTiers 105 = .ok (.ireturn, 1) := by decide +kernel
theorem dX8_readTiers_106 : decode cX8_readTiers 106 = .ok (.aload_n 0, 1) := by decide +kernel
theorem dX8_readTiers_107 : decode cX8_readTiers 107 = .ok (.getfield 15, 3) := by decide +kernel
theorem dX8_readTiers_110 : decode cX8_readTiers 110 = .ok (.iload_n 2, 1) := by decide +kernel
theorem dX8_readTiers_111 : decode cX8_readTiers 111 = .ok (.iconst (-1), 1) := by decide +kernel
theorem dX8_readTiers_112 : decode cX8_readTiers 112 = .ok (.iastore, 1) := by decide +kernel
theorem dX8_readTiers_113 : decode cX8_readTiers 113 = .ok (.aload_n 0, 1) := by decide +kernel
theorem dX8_readTiers_114 : decode cX8_readTiers 114 = .ok (.iload_n 2, 1) := by decide +kernel
theorem dX8_readTiers_115 : decode cX8_readTiers 115 = .ok (.iconst 1, 1) := by decide +kernel
theorem dX8_readTiers_116 : decode cX8_readTiers 116 = .ok (.iadd, 1) := by decide +kernel
theorem dX8_readTiers_117 : decode cX8_readTiers 117 = .ok (.putfield 9, 3) := by decide +kernel
theorem dX8_readTiers_120 : decode cX8_readTiers 120 = .ok (.aload_n 0, 1) := by decide +kernel
theorem dX8_readTiers_121 : decode cX8_readTiers 121 = .ok (.getfield 9, 3) := by decide +kernel
theorem dX8_readTiers_124 : decode cX8_readTiers 124 = .ok (.ireturn, 1) := by decide +kernel
theorem dX8_readGives_0 : decode cX8_readGives 0 = .ok (.iload_n 2, 1) := by decide +kernel
theorem dX8_readGives_1 : decode cX8_readGives 1 = .ok (.bipush 8, 2) := by decide +kernel
theorem dX8_readGives_3 : decode cX8_readGives 3 = .ok (.imul, 1) := by decide +kernel
theorem dX8_readGives_4 : decode cX8_readGives 4 = .ok (.istore_n 3, 1) := by decide +kernel
theorem dX8_readGives_5 : decode cX8_readGives 5 = .ok (.aload_n 0, 1) := by decide +kernel
theorem dX8_readGives_6 : decode cX8_readGives 6 = .ok (.getfield 19, 3) := by decide +kernel
theorem dX8_readGives_9 : decode cX8_readGives 9 = .ok (.iload_n 3, 1) := by decide +kernel
theorem dX8_readGives_10 : decode cX8_readGives 10 = .ok (.iload_n 3, 1) := by decide +kernel
theorem dX8_readGives_11 : decode cX8_readGives 11 = .ok (.bipush 8, 2) := by decide +kernel
theorem dX8_readGives_13 : decode cX8_readGives 13 = .ok (.iadd, 1) := by decide +kernel
theorem dX8_readGives_14 : decode cX8_readGives 14 = .ok (.iconst 0, 1) := by decide +kernel
theorem dX8_readGives_15 : decode cX8_readGives 15 = .ok (.invokestatic 22, 3) := by decide +kernel
theorem dX8_readGives_18 : decode cX8_readGives 18 = .ok (.aload_n 1, 1) := by decide +kernel
theorem dX8_readGives_19 : decode cX8_readGives 19 = .ok (.ldc 63, 2) := by decide +kernel
theorem dX8_readGives_21 : decode cX8_readGives 21 = .ok (.invokevirtual 57, 3) := by decide +kernel
theorem dX8_readGives_24 : decode cX8_readGives 24 = .ok (.ifCond .ne 5, 3) := by decide +kernel
theorem dX8_readGives_27 : decode cX8_readGives 27 = .ok (.iconst 0, 1) := by decide +kernel
theorem dX8_readGives_28 : decode cX8_readGives 28 = .ok (.ireturn, 1) := by decide +kernel
theorem dX8_readGives_29 : decode cX8_readGives 29 = .ok (.iconst 0, 1) := by decide +kernel
theorem dX8_readGives_30 : decode cX8_readGives 30 = .ok (.istore 4, 2) := by decide +kernel
theorem dX8_readGives_32 : decode cX8_readGives 32 = .ok (.iload 4, 2) := by decide +kernel
theorem dX8_readGives_34 : decode cX8_readGives 34 = .ok (.bipush 8, 2) := by decide +kernel
theorem dX8_readGives_36 : decode cX8_readGives 36 = .ok (.if_icmp .ge 90, 3) := by decide +kernel
theorem dX8_readGives_39 : decode cX8_readGives 39 = .ok (.aload_n 1, 1) := by decide +kernel
theorem dX8_readGives_40 : decode cX8_readGives 40 = .ok (.invokevirtual 65, 3) := by decide +kernel
theorem dX8_readGives_43 : decode cX8_readGives 43 = .ok (.istore 5, 2) := by decide +kernel
theorem dX8_readGives_45 : decode cX8_readGives 45 = .ok (.iload 5, 2) := by decide +kernel
theorem dX8_readGives_47 : decode cX8_readGives 47 = .ok (.iconst (-1), 1) := by decide +kernel
theorem dX8_readGives_48 : decode cX8_readGives 48 = .ok (.if_icmp .eq 15, 3) := by decide +kernel
theorem dX8_readGives_51 : decode cX8_readGives 51 = .ok (.aload_n 0, 1) := by decide +kernel
theorem dX8_readGives_52 : decode cX8_readGives 52 = .ok (.getfield 19, 3) := by decide +kernel
theorem dX8_readGives_55 : decode cX8_readGives 55 = .ok (.iload_n 3, 1) := by decide +kernel
theorem dX8_readGives_56 : decode cX8_readGives 56 = .ok (.iload 5, 2) := by decide +kernel
theorem dX8_readGives_58 : decode cX8_readGives 58 = .ok (.iadd, 1) := by decide +kernel
theorem dX8_readGives_59 : decode cX8_readGives 59 = .ok (.iaload, 1) := by decide +kernel
theorem dX8_readGives_60 : decode cX8_readGives 60 = .ok (.ifCond .eq 8, 3) := by decide +kernel
theorem dX8_readGives_63 : decode cX8_readGives 63 = .ok (.aload_n 1, 1) := by decide +kernel
theorem dX8_readGives_64 : decode cX8_readGives 64 = .ok (.invokevirtual 69, 3) := by decide +kernel
theorem dX8_readGives_67 : decode cX8_readGives 67 = .ok (.ireturn, 1) := by decide +kernel
theorem dX8_readGives_68 : decode cX8_readGives 68 = .ok (.aload_n 1, 1) := by decide +kernel
theorem dX8_readGives_69 : decode cX8_readGives 69 = .ok (.invokevirtual 43, 3) := by decide +kernel
theorem dX8_readGives_72 : decode cX8_readGives 72 = .ok (.aload_n 1, 1) := by decide +kernel
theorem dX8_readGives_73 : decode cX8_readGives 73 = .ok (.iconst 1, 1) := by decide +kernel
theorem dX8_readGives_74 : decode cX8_readGives 74 = .ok (.bipush 99, 2) := by decide +kernel
theorem dX8_readGives_76 : decode cX8_readGives 76 = .ok (.invokevirtual 47, 3) := by decide +kernel
theorem dX8_readGives_79 : decode cX8_readGives 79 = .ok (.istore 6, 2) := by decide +kernel
theorem dX8_readGives_81 : decode cX8_readGives 81 = .ok (.iload 6, 2) := by decide +kernel
theorem dX8_readGives_83 : decode cX8_readGives 83 = .ok (.iconst (-1), 1) := by decide +kernel
theorem dX8_readGives_84 : decode cX8_readGives 84 = .ok (.if_icmp .ne 5, 3) := by decide +kernel
theorem dX8_readGives_87 : decode cX8_readGives 87 = .ok (.iconst 0, 1) := by decide +kernel
theorem dX8_readGives_88 : decode cX8_readGives 88 = .ok (.ireturn, 1) := by decide +kernel
theorem dX8_readGives_89 : decode cX8_readGives 89 = .ok (.aload_n 0, 1) := by decide +kernel
theorem dX8_readGives_90 : decode cX8_readGives 90 = .ok (.getfield 19, 3) := by decide +kernel
theorem dX8_readGives_93 : decode cX8_readGives 93 = .ok (.iload_n 3, 1) := by decide +kernel
theorem dX8_readGives_94 : decode cX8_readGives 94 = .ok (.iload 5, 2) := by decide +kernel
theorem dX8_readGives_96 : decode cX8_readGives 96 = .ok (.iadd, 1) := by decide +kernel
theorem dX8_readGives_97 : decode cX8_readGives 97 = .ok (.iload 6, 2) := by decide +kernel
theorem dX8_readGives_99 : decode cX8_readGives 99 = .ok (.iastore, 1) := by decide +kernel
theorem dX8_readGives_100 : decode cX8_readGives 100 = .ok (.aload_n 1, 1) := by decide +kernel
theorem dX8_readGives_101 : decode cX8_readGives 101 = .ok (.bipush 43, 2) := by decide +kernel
theorem dX8_readGives_103 : decode cX8_readGives 103 = .ok (.invokevirtual 72, 3) := by decide +kernel
theorem dX8_readGives_106 : decode cX8_readGives 106 = .ok (.ifCond .ne 10, 3) := by decide +kernel
theorem dX8_readGives_109 : decode cX8_readGives 109 = .ok (.aload_n 1, 1) := by decide +kernel
theorem dX8_readGives_110 : decode cX8_readGives 110 = .ok (.bipush 59, 2) := by decide +kernel
theorem dX8_readGives_112 : decode cX8_readGives 112 = .ok (.invokevirtual 76, 3) := by decide +kernel
theorem dX8_readGives_115 : decode cX8_readGives 115 = .ok (.ireturn, 1) := by decide +kernel
theorem dX8_readGives_116 : decode cX8_readGives 116 = .ok (.aload_n 1, 1) := by decide +kernel
theorem dX8_readGives_117 : decode cX8_readGives 117 = .ok (.invokevirtual 43, 3) := by decide +kernel
theorem dX8_readGives_120 : decode cX8_readGives 120 = .ok (.iinc 4 1, 3) := by decide +kernel
theorem dX8_readGives_123 : decode cX8_readGives 123 = .ok (.goto (-91), 3) := by decide +kernel
theorem dX8_readGives_126 : decode cX8_readGives 126 = .ok (.aload_n 1, 1) := by decide +kernel
theorem dX8_readGives_127 : decode cX8_readGives 127 = .ok (.invokevirtual 69, 3) := by decide +kernel
theorem dX8_readGives_130 : decode cX8_readGives 130 = .ok (.ireturn, 1) := by decide +kernel
theorem dX9_init_0 : decode cX9_init 0 = .ok (.aload_n 0, 1) := by decide +kernel
theorem dX9_init_1 : decode cX9_init 1 = .ok (.invokespecial 1, 3) := by decide +kernel
theorem dX9_init_4 : decode cX9_init 4 = .ok (.aload_n 0, 1) := by decide +kernel
theorem dX9_init_5 : decode cX9_init 5 = .ok (.new 7, 3) := by decide +kernel
theorem dX9_init_8 : decode cX9_init 8 = .ok (.dup, 1) := by decide +kernel
theorem dX9_init_9 : decode cX9_init 9 = .ok (.invokespecial 9, 3) := by decide +kernel
theorem dX9_init_12 : decode cX9_init 12 = .ok (.putfield 10, 3) := by decide +kernel
theorem dX9_init_15 : decode cX9_init 15 = .ok (.aload_n 0, 1) := by decide +kernel
theorem dX9_init_16 : decode cX9_init 16 = .ok (.new 16, 3) := by decide +kernel
theorem dX9_init_19 : decode cX9_init 19 = .ok (.dup, 1) := by decide +kernel
theorem dX9_init_20 : decode cX9_init 20 = .ok (.invokespecial 18, 3) := by decide +kernel
theorem dX9_init_23 : decode cX9_init 23 = .ok (.putfield 19, 3) := by decide +kernel
theorem dX9_init_26 : decode cX9_init 26 = .ok (.aload_n 0, 1) := by decide +kernel
theorem dX9_init_27 : decode cX9_init 27 = .ok (.new 23, 3) := by decide +kernel
theorem dX9_init_30 : decode cX9_init 30 = .ok (.dup, 1) := by decide +kernel
theorem dX9_init_31 : decode cX9_init 31 = .ok (.invokespecial 25, 3) := by decide +kernel
theorem dX9_init_34 : decode cX9_init 34 = .ok (.putfield 26, 3) := by decide +kernel
theorem dX9_init_37 : decode cX9_init 37 = .ok (.aload_n 0, 1) := by decide +kernel
theorem dX9_init_38 : decode cX9_init 38 = .ok (.new 30, 3) := by decide +kernel
theorem dX9_init_41 : decode cX9_init 41 = .ok (.dup, 1) := by decide +kernel
theorem dX9_init_42 : decode cX9_init 42 = .ok (.invokespecial 32, 3) := by decide +kernel
theorem dX9_init_45 : decode cX9_init 45 = .ok (.putfield 33, 3) := by decide +kernel
theorem dX9_init_48 : decode cX9_init 48 = .ok (.aload_n 0, 1) := by decide +kernel
theorem dX9_init_49 : decode cX9_init 49 = .ok (.new 37, 3) := by decide +kernel
theorem dX9_init_52 : decode cX9_init 52 = .ok (.dup, 1) := by decide +kernel
theorem dX9_init_53 : decode cX9_init 53 = .ok (.new 39, 3) := by decide +kernel
theorem dX9_init_56 : decode cX9_init 56 = .ok (.dup, 1) := by decide +kernel
theorem dX9_init_57 : decode cX9_init 57 = .ok (.invokespecial 41, 3) := by decide +kernel
theorem dX9_init_60 : decode cX9_init 60 = .ok (.new 42, 3) := by decide +kernel
theorem dX9_init_63 : decode cX9_init 63 = .ok (.dup, 1) := by decide +kernel
theorem dX9_init_64 : decode cX9_init 64 = .ok (.invokespecial 44, 3) := by decide +kernel
theorem dX9_init_67 : decode cX9_init 67 = .ok (.invokespecial 45, 3) := by decide +kernel
theorem dX9_init_70 : decode cX9_init 70 = .ok (.putfield 48, 3) := by decide +kernel
theorem dX9_init_73 : decode cX9_init 73 = .ok (.aload_n 0, 1) := by decide +kernel
theorem dX9_init_74 : decode cX9_init 74 = .ok (.bipush 12, 2) := by decide +kernel
theorem dX9_init_76 : decode cX9_init 76 = .ok (.anewarray 37, 3) := by decide +kernel
theorem dX9_init_79 : decode cX9_init 79 = .ok (.putfield 52, 3) := by decide +kernel
theorem dX9_init_82 : decode cX9_init 82 = .ok (.iconst 0, 1) := by decide +kernel
theorem dX9_init_83 : decode cX9_init 83 = .ok (.istore_n 1, 1) := by decide +kernel
theorem dX9_init_84 : decode cX9_init 84 = .ok (.iload_n 1, 1) := by decide +kernel
theorem dX9_init_85 : decode cX9_init 85 = .ok (.bipush 12, 2) := by decide +kernel
theorem dX9_init_87 : decode cX9_init 87 = .ok (.if_icmp .ge 36, 3) := by decide +kernel
theorem dX9_init_90 : decode cX9_init 90 = .ok (.aload_n 0, 1) := by decide +kernel
theorem dX9_init_91 : decode cX9_init 91 = .ok (.getfield 52, 3) := by decide +kernel
theorem dX9_init_94 : decode cX9_init 94 = .ok (.iload_n 1, 1) := by decide +kernel
theorem dX9_init_95 : decode cX9_init 95 = .ok (.new 37, 3) := by decide +kernel
theorem dX9_init_98 : decode cX9_init 98 = .ok (.dup, 1) := by decide +kernel
