theorem dX4_ifRun_129 : decode cX4_ifRun 129 = .ok (.aload_n 0, 1) := by decide +kernel
theorem dX4_ifRun_130 : decode cX4_ifRun 130 = .ok (.getfield 16, 3) := by decide +kernel
theorem dX4_ifRun_133 : decode cX4_ifRun 133 = .ok (.iconst 1, 1) := by decide +kernel
theorem dX4_ifRun_134 : decode cX4_ifRun 134 = .ok (.invokevirtual 165, 3) := by decide +kernel
theorem dX4_ifRun_137 : decode cX4_ifRun 137 = .ok (.ireturn, 1) := by decide +kernel
theorem dX4_meanSpeed_0 : decode cX4_meanSpeed 0 = .ok (.iconst 0, 1) := by decide +kernel
theorem dX4_meanSpeed_1 : decode cX4_meanSpeed 1 = .ok (.istore_n 1, 1) := by decide +kernel
theorem dX4_meanSpeed_2 : decode cX4_meanSpeed 2 = .ok (.iconst 0, 1) := by decide +kernel
theorem dX4_meanSpeed_3 : decode cX4_meanSpeed 3 = .ok (.istore_n 2, 1) := by decide +kernel
theorem dX4_meanSpeed_4 : decode cX4_meanSpeed 4 = .ok (.iconst 0, 1) := by decide +kernel
theorem dX4_meanSpeed_5 : decode cX4_meanSpeed 5 = .ok (.istore_n 3, 1) := by decide +kernel
theorem dX4_meanSpeed_6 : decode cX4_meanSpeed 6 = .ok (.iload_n 3, 1) := by decide +kernel
theorem dX4_meanSpeed_7 : decode cX4_meanSpeed 7 = .ok (.aload_n 0, 1) := by decide +kernel
theorem dX4_meanSpeed_8 : decode cX4_meanSpeed 8 = .ok (.getfield 10, 3) := by decide +kernel
theorem dX4_meanSpeed_11 : decode cX4_meanSpeed 11 = .ok (.getfield 70, 3) := by decide +kernel
theorem dX4_meanSpeed_14 : decode cX4_meanSpeed 14 = .ok (.if_icmp .ge 43, 3) := by decide +kernel
theorem dX4_meanSpeed_17 : decode cX4_meanSpeed 17 = .ok (.aload_n 0, 1) := by decide +kernel
theorem dX4_meanSpeed_18 : decode cX4_meanSpeed 18 = .ok (.getfield 10, 3) := by decide +kernel
theorem dX4_meanSpeed_21 : decode cX4_meanSpeed 21 = .ok (.getfield 156, 3) := by decide +kernel
theorem dX4_meanSpeed_24 : decode cX4_meanSpeed 24 = .ok (.iload_n 3, 1) := by decide +kernel
theorem dX4_meanSpeed_25 : decode cX4_meanSpeed 25 = .ok (.aaload, 1) := by decide +kernel
theorem dX4_meanSpeed_26 : decode cX4_meanSpeed 26 = .ok (.getfield 168, 3) := by decide +kernel
theorem dX4_meanSpeed_29 : decode cX4_meanSpeed 29 = .ok (.iconst 1, 1) := by decide +kernel
theorem dX4_meanSpeed_30 : decode cX4_meanSpeed 30 = .ok (.if_icmp .ne 21, 3) := by decide +kernel
theorem dX4_meanSpeed_33 : decode cX4_meanSpeed 33 = .ok (.iload_n 1, 1) := by decide +kernel
theorem dX4_meanSpeed_34 : decode cX4_meanSpeed 34 = .ok (.aload_n 0, 1) := by decide +kernel
theorem dX4_meanSpeed_35 : decode cX4_meanSpeed 35 = .ok (.getfield 10, 3) := by decide +kernel
theorem dX4_meanSpeed_38 : decode cX4_meanSpeed 38 = .ok (.getfield 156, 3) := by decide +kernel
theorem dX4_meanSpeed_41 : decode cX4_meanSpeed 41 = .ok (.iload_n 3, 1) := by decide +kernel
theorem dX4_meanSpeed_42 : decode cX4_meanSpeed 42 = .ok (.aaload, 1) := by decide +kernel
theorem dX4_meanSpeed_43 : decode cX4_meanSpeed 43 = .ok (.getfield 197, 3) := by decide +kernel
theorem dX4_meanSpeed_46 : decode cX4_meanSpeed 46 = .ok (.iadd, 1) := by decide +kernel
theorem dX4_meanSpeed_47 : decode cX4_meanSpeed 47 = .ok (.istore_n 1, 1) := by decide +kernel
theorem dX4_meanSpeed_48 : decode cX4_meanSpeed 48 = .ok (.iinc 2 1, 3) := by decide +kernel
theorem dX4_meanSpeed_51 : decode cX4_meanSpeed 51 = .ok (.iinc 3 1, 3) := by decide +kernel
theorem dX4_meanSpeed_54 : decode cX4_meanSpeed 54 = .ok (.goto (-48), 3) := by decide +kernel
theorem dX4_meanSpeed_57 : decode cX4_meanSpeed 57 = .ok (.iload_n 2, 1) := by decide +kernel
theorem dX4_meanSpeed_58 : decode cX4_meanSpeed 58 = .ok (.ifCond .ne 7, 3) := by decide +kernel
theorem dX4_meanSpeed_61 : decode cX4_meanSpeed 61 = .ok (.fconst 0, 1) := by decide +kernel
theorem dX4_meanSpeed_62 : decode cX4_meanSpeed 62 = .ok (.goto 8, 3) := by decide +kernel
theorem dX4_meanSpeed_65 : decode cX4_meanSpeed 65 = .ok (.iload_n 1, 1) := by decide +kernel
theorem dX4_meanSpeed_66 : decode cX4_meanSpeed 66 = .ok (.i2f, 1) := by decide +kernel
theorem dX4_meanSpeed_67 : decode cX4_meanSpeed 67 = .ok (.iload_n 2, 1) := by decide +kernel
theorem dX4_meanSpeed_68 : decode cX4_meanSpeed 68 = .ok (.i2f, 1) := by decide +kernel
theorem dX4_meanSpeed_69 : decode cX4_meanSpeed 69 = .ok (.fdiv, 1) := by decide +kernel
theorem dX4_meanSpeed_70 : decode cX4_meanSpeed 70 = .ok (.freturn, 1) := by decide +kernel
theorem dX4_requireIndex_0 : decode cX4_requireIndex 0 = .ok (.iload_n 0, 1) := by decide +kernel
theorem dX4_requireIndex_1 : decode cX4_requireIndex 1 = .ok (.ifCond .ne 13, 3) := by decide +kernel
theorem dX4_requireIndex_4 : decode cX4_requireIndex 4 = .ok (.new 200, 3) := by decide +kernel
theorem dX4_requireIndex_7 : decode cX4_requireIndex 7 = .ok (.dup, 1) := by decide +kernel
theorem dX4_requireIndex_8 : decode cX4_requireIndex 8 = .ok (.ldc 202, 2) := by decide +kernel
theorem dX4_requireIndex_10 : decode cX4_requireIndex 10 = .ok (.invokespecial 204, 3) := by decide +kernel
theorem dX4_requireIndex_13 : decode cX4_requireIndex 13 = .ok (.athrow, 1) := by decide +kernel
theorem dX4_requireIndex_14 : decode cX4_requireIndex 14 = .ok (.return_, 1) := by decide +kernel
theorem dX4_requireArgument_0 : decode cX4_requireArgument 0 = .ok (.iload_n 0, 1) := by decide +kernel
theorem dX4_requireArgument_1 : decode cX4_requireArgument 1 = .ok (.ifCond .ne 13, 3) := by decide +kernel
theorem dX4_requireArgument_4 : decode cX4_requireArgument 4 = .ok (.new 207, 3) := by decide +kernel
theorem dX4_requireArgument_7 : decode cX4_requireArgument 7 = .ok (.dup, 1) := by decide +kernel
theorem dX4_requireArgument_8 : decode cX4_requireArgument 8 = .ok (.ldc 209, 2) := by decide +kernel
theorem dX4_requireArgument_10 : decode cX4_requireArgument 10 = .ok (.invokespecial 211, 3) := by decide +kernel
theorem dX4_requireArgument_13 : decode cX4_requireArgument 13 = .ok (.athrow, 1) := by decide +kernel
theorem dX4_requireArgument_14 : decode cX4_requireArgument 14 = .ok (.return_, 1) := by decide +kernel
theorem dX4_requireState_0 : decode cX4_requireState 0 = .ok (.iload_n 0, 1) := by decide +kernel
theorem dX4_requireState_1 : decode cX4_requireState 1 = .ok (.ifCond .ne 13, 3) := by decide +kernel
theorem dX4_requireState_4 : decode cX4_requireState 4 = .ok (.new 212, 3) := by decide +kernel
theorem dX4_requireState_7 : decode cX4_requireState 7 = .ok (.dup, 1) := by decide +kernel
theorem dX4_requireState_8 : decode cX4_requireState 8 = .ok (.ldc 214, 2) := by decide +kernel
theorem dX4_requireState_10 : decode cX4_requireState 10 = .ok (.invokespecial 216, 3) := by decide +kernel
theorem dX4_requireState_13 : decode cX4_requireState 13 = .ok (.athrow, 1) := by decide +kernel
theorem dX4_requireState_14 : decode cX4_requireState 14 = .ok (.return_, 1) := by decide +kernel
theorem dX4_isWithin_0 : decode cX4_isWithin 0 = .ok (.iload_n 0, 1) := by decide +kernel
theorem dX4_isWithin_1 : decode cX4_isWithin 1 = .ok (.iload_n 1, 1) := by decide +kernel
theorem dX4_isWithin_2 : decode cX4_isWithin 2 = .ok (.if_icmp .lt 12, 3) := by decide +kernel
theorem dX4_isWithin_5 : decode cX4_isWithin 5 = .ok (.iload_n 0, 1) := by decide +kernel
theorem dX4_isWithin_6 : decode cX4_isWithin 6 = .ok (.iload_n 2, 1) := by decide +kernel
theorem dX4_isWithin_7 : decode cX4_isWithin 7 = .ok (.if_icmp .gt 7, 3) := by decide +kernel
theorem dX4_isWithin_10 : decode cX4_isWithin 10 = .ok (.iconst 1, 1) := by decide +kernel
theorem dX4_isWithin_11 : decode cX4_isWithin 11 = .ok (.goto 4, 3) := by decide +kernel
theorem dX4_isWithin_14 : decode cX4_isWithin 14 = .ok (.iconst 0, 1) := by decide +kernel
theorem dX4_isWithin_15 : decode cX4_isWithin 15 = .ok (.ireturn, 1) := by decide +kernel
theorem dX4_leastOfSetting_0 : decode cX4_leastOfSetting 0 = .ok (.iload_n 0, 1) := by decide +kernel
theorem dX4_leastOfSetting_1 : decode cX4_leastOfSetting 1 = .ok (.iconst 1, 1) := by decide +kernel
theorem dX4_leastOfSetting_2 : decode cX4_leastOfSetting 2 = .ok (.if_icmp .ne 7, 3) := by decide +kernel
theorem dX4_leastOfSetting_5 : decode cX4_leastOfSetting 5 = .ok (.iconst 1, 1) := by decide +kernel
theorem dX4_leastOfSetting_6 : decode cX4_leastOfSetting 6 = .ok (.goto 4, 3) := by decide +kernel
theorem dX4_leastOfSetting_9 : decode cX4_leastOfSetting 9 = .ok (.iconst 0, 1) := by decide +kernel
theorem dX4_leastOfSetting_10 : decode cX4_leastOfSetting 10 = .ok (.ireturn, 1) := by decide +kernel
theorem dX4_greatestOfSetting_0 : decode cX4_greatestOfSetting 0 = .ok (.iload_n 0, 1) := by decide +kernel
theorem dX4_greatestOfSetting_1 : decode cX4_greatestOfSetting 1 = .ok (.lookupswitch 32 #[(0, 27), (1, 29)], 27) := by decide +kernel
theorem dX4_greatestOfSetting_28 : decode cX4_greatestOfSetting 28 = .ok (.iconst 5, 1) := by decide +kernel
theorem dX4_greatestOfSetting_29 : decode cX4_greatestOfSetting 29 = .ok (.ireturn, 1) := by decide +kernel
theorem dX4_greatestOfSetting_30 : decode cX4_greatestOfSetting 30 = .ok (.bipush 20, 2) := by decide +kernel
theorem dX4_greatestOfSetting_32 : decode cX4_greatestOfSetting 32 = .ok (.ireturn, 1) := by decide +kernel
theorem dX4_greatestOfSetting_33 : decode cX4_greatestOfSetting 33 = .ok (.iconst 4, 1) := by decide +kernel
theorem dX4_greatestOfSetting_34 : decode cX4_greatestOfSetting 34 = .ok (.ireturn, 1) := by decide +kernel
theorem dX4_perform_0 : decode cX4_perform 0 = .ok (.aload_n 0, 1) := by decide +kernel
theorem dX4_perform_1 : decode cX4_perform 1 = .ok (.getfield 37, 3) := by decide +kernel
theorem dX4_perform_4 : decode cX4_perform 4 = .ok (.iload_n 1, 1) := by decide +kernel
theorem dX4_perform_5 : decode cX4_perform 5 = .ok (.invokevirtual 217, 3) := by decide +kernel
theorem dX4_perform_8 : decode cX4_perform 8 = .ok (.istore_n 3, 1) := by decide +kernel
theorem dX4_perform_9 : decode cX4_perform 9 = .ok (.iload_n 3, 1) := by decide +kernel
theorem dX4_perform_10 : decode cX4_perform 10 = .ok (.bipush 110, 2) := by decide +kernel
theorem dX4_perform_12 : decode cX4_perform 12 = .ok (.if_icmp .ne 20, 3) := by decide +kernel
theorem dX4_perform_15 : decode cX4_perform 15 = .ok (.aload_n 0, 1) := by decide +kernel
theorem dX4_perform_16 : decode cX4_perform 16 = .ok (.getfield 10, 3) := by decide +kernel
theorem dX4_perform_19 : decode cX4_perform 19 = .ok (.invokevirtual 74, 3) := by decide +kernel
theorem dX4_perform_22 : decode cX4_perform 22 = .ok (.iconst (-1), 1) := by decide +kernel
theorem dX4_perform_23 : decode cX4_perform 23 = .ok (.if_icmp .eq 7, 3) := by decide +kernel
theorem dX4_perform_26 : decode cX4_perform 26 = .ok (.iconst 1, 1) := by decide +kernel
theorem dX4_perform_27 : decode cX4_perform 27 = .ok (.goto 4, 3) := by decide +kernel
theorem dX4_perform_30 : decode cX4_perform 30 = .ok (.iconst 0, 1) := by decide +kernel
theorem dX4_perform_31 : decode cX4_perform 31 = .ok (.ireturn, 1) := by decide +kernel
theorem dX4_perform_32 : decode cX4_perform 32 = .ok (.iload_n 3, 1) := by decide +kernel
theorem dX4_perform_33 : decode cX4_perform 33 = .ok (.bipush 116, 2) := by decide +kernel
theorem dX4_perform_35 : decode cX4_perform 35 = .ok (.if_icmp .ne 23, 3) := by decide +kernel
theorem dX4_perform_38 : decode cX4_perform 38 = .ok (.aload_n 0, 1) := by decide +kernel
theorem dX4_perform_39 : decode cX4_perform 39 = .ok (.getfield 10, 3) := by decide +kernel
theorem dX4_perform_42 : decode cX4_perform 42 = .ok (.aload_n 0, 1) := by decide +kernel
theorem dX4_perform_43 : decode cX4_perform 43 = .ok (.getfield 37, 3) := by decide +kernel
theorem dX4_perform_46 : decode cX4_perform 46 = .ok (.iload_n 1, 1) := by decide +kernel
theorem dX4_perform_47 : decode cX4_perform 47 = .ok (.iconst 1, 1) := by decide +kernel
theorem dX4_perform_48 : decode cX4_perform 48 = .ok (.iadd, 1) := by decide +kernel
theorem dX4_perform_49 : decode cX4_perform 49 = .ok (.iload_n 2, 1) := by decide +kernel
theorem dX4_perform_50 : decode cX4_perform 50 = .ok (.invokevirtual 221, 3) := by decide +kernel
theorem dX4_perform_53 : decode cX4_perform 53 = .ok (.invokevirtual 114, 3) := by decide +kernel
theorem dX4_perform_56 : decode cX4_perform 56 = .ok (.iconst 1, 1) := by decide +kernel
theorem dX4_perform_57 : decode cX4_perform 57 = .ok (.ireturn, 1) := by decide +kernel
theorem dX4_perform_58 : decode cX4_perform 58 = .ok (.aload_n 0, 1) := by decide +kernel
theorem dX4_perform_59 : decode cX4_perform 59 = .ok (.getfield 37, 3) := by decide +kernel
theorem dX4_perform_62 : decode cX4_perform 62 = .ok (.iload_n 1, 1) := by decide +kernel
theorem dX4_perform_63 : decode cX4_perform 63 = .ok (.iconst 1, 1) := by decide +kernel
theorem dX4_perform_64 : decode cX4_perform 64 = .ok (.iadd, 1) := by decide +kernel
theorem dX4_perform_65 : decode cX4_perform 65 = .ok (.iload_n 1, 1) := by decide +kernel
theorem dX4_perform_66 : decode cX4_perform 66 = .ok (.iconst 2, 1) := by decide +kernel
theorem dX4_perform_67 : decode cX4_perform 67 = .ok (.iadd, 1) := by decide +kernel
theorem dX4_perform_68 : decode cX4_perform 68 = .ok (.invokevirtual 221, 3) := by decide +kernel
theorem dX4_perform_71 : decode cX4_perform 71 = .ok (.istore 4, 2) := by decide +kernel
theorem dX4_perform_73 : decode cX4_perform 73 = .ok (.aload_n 0, 1) := by decide +kernel
theorem dX4_perform_74 : decode cX4_perform 74 = .ok (.getfield 10, 3) := by decide +kernel
theorem dX4_perform_77 : decode cX4_perform 77 = .ok (.iload 4, 2) := by decide +kernel
theorem dX4_perform_79 : decode cX4_perform 79 = .ok (.invokevirtual 77, 3) := by decide +kernel
theorem dX4_perform_82 : decode cX4_perform 82 = .ok (.ifCond .eq 28, 3) := by decide +kernel
theorem dX4_perform_85 : decode cX4_perform 85 = .ok (.aload_n 0, 1) := by decide +kernel
theorem dX4_perform_86 : decode cX4_perform 86 = .ok (.iload 4, 2) := by decide +kernel
theorem dX4_perform_88 : decode cX4_perform 88 = .ok (.iload_n 3, 1) := by decide +kernel
theorem dX4_perform_89 : decode cX4_perform 89 = .ok (.aload_n 0, 1) := by decide +kernel
theorem dX4_perform_90 : decode cX4_perform 90 = .ok (.getfield 37, 3) := by decide +kernel
theorem dX4_perform_93 : decode cX4_perform 93 = .ok (.iload_n 1, 1) := by decide +kernel
theorem dX4_perform_94 : decode cX4_perform 94 = .ok (.iconst 3, 1) := by decide +kernel
theorem dX4_perform_95 : decode cX4_perform 95 = .ok (.iadd, 1) := by decide +kernel
theorem dX4_perform_96 : decode cX4_perform 96 = .ok (.iload_n 2, 1) := by decide +kernel
theorem dX4_perform_97 : decode cX4_perform 97 = .ok (.invokevirtual 221, 3) := by decide +kernel
theorem dX4_perform_100 : decode cX4_perform 100 = .ok (.invokevirtual 224, 3) := by decide +kernel
theorem dX4_perform_103 : decode cX4_perform 103 = .ok (.ifCond .eq 7, 3) := by decide +kernel
theorem dX4_perform_106 : decode cX4_perform 106 = .ok (.iconst 1, 1) := by decide +kernel
theorem dX4_perform_107 : decode cX4_perform 107 = .ok (.goto 4, 3) := by decide +kernel
theorem dX4_perform_110 : decode cX4_perform 110 = .ok (.iconst 0, 1) := by decide +kernel
theorem dX4_perform_111 : decode cX4_perform 111 = .ok (.ireturn, 1) := by decide +kernel
theorem dX4_performOn_0 : decode cX4_performOn 0 = .ok (.iload_n 2, 1) := by decide +kernel
theorem dX4_performOn_1 : decode cX4_performOn 1 = .ok (.bipush 114, 2) := by decide +kernel
theorem dX4_performOn_3 : decode cX4_performOn 3 = .ok (.if_icmp .ne 21, 3) := by decide +kernel
theorem dX4_performOn_6 : decode cX4_performOn 6 = .ok (.aload_n 0, 1) := by decide +kernel
theorem dX4_performOn_7 : decode cX4_performOn 7 = .ok (.getfield 10, 3) := by decide +kernel
theorem dX4_performOn_10 : decode cX4_performOn 10 = .ok (.iload_n 1, 1) := by decide +kernel
theorem dX4_performOn_11 : decode cX4_performOn 11 = .ok (.iload_n 3, 1) := by decide +kernel
theorem dX4_performOn_12 : decode cX4_performOn 12 = .ok (.invokevirtual 89, 3) := by decide +kernel
theorem dX4_performOn_15 : decode cX4_performOn 15 = .ok (.ifCond .ne 7, 3) := by decide +kernel
theorem dX4_performOn_18 : decode cX4_performOn 18 = .ok (.iconst 1, 1) := by decide +kernel
theorem dX4_performOn_19 : decode cX4_performOn 19 = .ok (.goto 4, 3) := by decide +kernel
theorem dX4_performOn_22 : decode cX4_performOn 22 = .ok (.iconst 0, 1) := by decide +kernel
theorem dX4_performOn_23 : decode cX4_performOn 23 = .ok (.ireturn, 1) := by decide +kernel
theorem dX4_performOn_24 : decode cX4_performOn 24 = .ok (.iload_n 2, 1) := by decide +kernel
theorem dX4_performOn_25 : decode cX4_performOn 25 = .ok (.bipush 109, 2) := by decide +kernel
theorem dX4_performOn_27 : decode cX4_performOn 27 = .ok (.if_icmp .ne 20, 3) := by decide +kernel
theorem dX4_performOn_30 : decode cX4_performOn 30 = .ok (.aload_n 0, 1) := by decide +kernel
theorem dX4_performOn_31 : decode cX4_performOn 31 = .ok (.getfield 10, 3) := by decide +kernel
theorem dX4_performOn_34 : decode cX4_performOn 34 = .ok (.iload_n 1, 1) := by decide +kernel
theorem dX4_performOn_35 : decode cX4_performOn 35 = .ok (.invokevirtual 98, 3) := by decide +kernel
theorem dX4_performOn_38 : decode cX4_performOn 38 = .ok (.ifCond .ne 7, 3) := by decide +kernel
theorem dX4_performOn_41 : decode cX4_performOn 41 = .ok (.iconst 1, 1) := by decide +kernel
theorem dX4_performOn_42 : decode cX4_performOn 42 = .ok (.goto 4, 3) := by decide +kernel
theorem dX4_performOn_45 : decode cX4_performOn 45 = .ok (.iconst 0, 1) := by decide +kernel
theorem dX4_performOn_46 : decode cX4_performOn 46 = .ok (.ireturn, 1) := by decide +kernel
theorem dX4_performOn_47 : decode cX4_performOn 47 = .ok (.iload_n 2, 1) := by decide +kernel
theorem dX4_performOn_48 : decode cX4_performOn 48 = .ok (.bipush 108, 2) := by decide +kernel
theorem dX4_performOn_50 : decode cX4_performOn 50 = .ok (.if_icmp .ne 27, 3) := by decide +kernel
theorem dX4_performOn_53 : decode cX4_performOn 53 = .ok (.aload_n 0, 1) := by decide +kernel
theorem dX4_performOn_54 : decode cX4_performOn 54 = .ok (.getfield 10, 3) := by decide +kernel
theorem dX4_performOn_57 : decode cX4_performOn 57 = .ok (.iload_n 1, 1) := by decide +kernel
theorem dX4_performOn_58 : decode cX4_performOn 58 = .ok (.iload_n 3, 1) := by decide +kernel
theorem dX4_performOn_59 : decode cX4_performOn 59 = .ok (.invokevirtual 81, 3) := by decide +kernel
theorem dX4_performOn_62 : decode cX4_performOn 62 = .ok (.ifCond .eq 15, 3) := by decide +kernel
theorem dX4_performOn_65 : decode cX4_performOn 65 = .ok (.aload_n 0, 1) := by decide +kernel
theorem dX4_performOn_66 : decode cX4_performOn 66 = .ok (.getfield 10, 3) := by decide +kernel
theorem dX4_performOn_69 : decode cX4_performOn 69 = .ok (.iload_n 1, 1) := by decide +kernel
theorem dX4_performOn_70 : decode cX4_performOn 70 = .ok (.iload_n 3, 1) := by decide +kernel
theorem dX4_performOn_71 : decode cX4_performOn 71 = .ok (.invokevirtual 85, 3) := by decide +kernel
theorem dX4_performOn_74 : decode cX4_performOn 74 = .ok (.pop, 1) := by decide +kernel
theorem dX4_performOn_75 : decode cX4_performOn 75 = .ok (.iconst 1, 1) := by decide +kernel
theorem dX4_performOn_76 : decode cX4_performOn 76 = .ok (.ireturn, 1) := by decide +kernel
theorem dX4_performOn_77 : decode cX4_performOn 77 = .ok (.iload_n 2, 1) := by decide +kernel
theorem dX4_performOn_78 : decode cX4_performOn 78 = .ok (.bipush 98, 2) := by decide +kernel
theorem dX4_performOn_80 : decode cX4_performOn 80 = .ok (.if_icmp .ne 26, 3) := by decide +kernel
theorem dX4_performOn_83 : decode cX4_performOn 83 = .ok (.aload_n 0, 1) := by decide +kernel
theorem dX4_performOn_84 : decode cX4_performOn 84 = .ok (.getfield 10, 3) := by decide +kernel
theorem dX4_performOn_87 : decode cX4_performOn 87 = .ok (.iload_n 1, 1) := by decide +kernel
theorem dX4_performOn_88 : decode cX4_performOn 88 = .ok (.invokevirtual 92, 3) := by decide +kernel
theorem dX4_performOn_91 : decode cX4_performOn 91 = .ok (.ifCond .eq 15, 3) := by decide +kernel
theorem dX4_performOn_94 : decode cX4_performOn 94 = .ok (.aload_n 0, 1) := by decide +kernel
theorem dX4_performOn_95 : decode cX4_performOn 95 = .ok (.getfield 10, 3) := by decide +kernel
theorem dX4_performOn_98 : decode cX4_performOn 98 = .ok (.iload_n 1, 1) := by decide +kernel
theorem dX4_performOn_99 : decode cX4_performOn 99 = .ok (.iload_n 3, 1) := by decide +kernel
theorem dX4_performOn_100 : decode cX4_performOn 100 = .ok (.invokevirtual 95, 3) := by decide +kernel
theorem dX4_performOn_103 : decode cX4_performOn 103 = .ok (.pop, 1) := by decide +kernel
theorem dX4_performOn_104 : decode cX4_performOn 104 = .ok (.iconst 1, 1) := by decide +kernel
theorem dX4_performOn_105 : decode cX4_performOn 105 = .ok (.ireturn, 1) := by decide +kernel
theorem dX4_performOn_106 : decode cX4_performOn 106 = .ok (.iconst 0, 1) := by decide +kernel
theorem dX4_performOn_107 : decode cX4_performOn 107 = .ok (.ireturn, 1) := by decide +kernel
theorem dX4_tryAlone_0 : decode cX4_tryAlone 0 = .ok (.aload_n 0, 1) := by decide +kernel
theorem dX4_tryAlone_1 : decode cX4_tryAlone 1 = .ok (.getfield 16, 3) := by decide +kernel
theorem dX4_tryAlone_4 : decode cX4_tryAlone 4 = .ok (.aload_n 0, 1) := by decide +kernel
theorem dX4_tryAlone_5 : decode cX4_tryAlone 5 = .ok (.getfield 10, 3) := by decide +kernel
theorem dX4_tryAlone_8 : decode cX4_tryAlone 8 = .ok (.invokevirtual 144, 3) := by decide +kernel
theorem dX4_tryAlone_11 : decode cX4_tryAlone 11 = .ok (.aload_n 0, 1) := by decide +kernel
theorem dX4_tryAlone_12 : decode cX4_tryAlone 12 = .ok (.getfield 16, 3) := by decide +kernel
theorem dX4_tryAlone_15 : decode cX4_tryAlone 15 = .ok (.iload_n 1, 1) := by decide +kernel
theorem dX4_tryAlone_16 : decode cX4_tryAlone 16 = .ok (.iload_n 2, 1) := by decide +kernel
theorem dX4_tryAlone_17 : decode cX4_tryAlone 17 = .ok (.invokevirtual 228, 3) := by decide +kernel
theorem dX4_tryAlone_20 : decode cX4_tryAlone 20 = .ok (.iconst 0, 1) := by decide +kernel
theorem dX4_tryAlone_21 : decode cX4_tryAlone 21 = .ok (.istore_n 3, 1) := by decide +kernel
theorem dX4_tryAlone_22 : decode cX4_tryAlone 22 = .ok (.iload_n 3, 1) := by decide +kernel
theorem dX4_tryAlone_23 : decode cX4_tryAlone 23 = .ok (.sipush 200, 3) := by decide +kernel
theorem dX4_tryAlone_26 : decode cX4_tryAlone 26 = .ok (.if_icmp .ge 27, 3) := by decide +kernel
theorem dX4_tryAlone_29 : decode cX4_tryAlone 29 = .ok (.aload_n 0, 1) := by decide +kernel
theorem dX4_tryAlone_30 : decode cX4_tryAlone 30 = .ok (.getfield 16, 3) := by decide +kernel
theorem dX4_tryAlone_33 : decode cX4_tryAlone 33 = .ok (.iconst 0, 1) := by decide +kernel
theorem dX4_tryAlone_34 : decode cX4_tryAlone 34 = .ok (.invokevirtual 92, 3) := by decide +kernel
theorem dX4_tryAlone_37 : decode cX4_tryAlone 37 = .ok (.ifCond .eq 16, 3) := by decide +kernel
theorem dX4_tryAlone_40 : decode cX4_tryAlone 40 = .ok (.aload_n 0, 1) := by decide +kernel
theorem dX4_tryAlone_41 : decode cX4_tryAlone 41 = .ok (.getfield 16, 3) := by decide +kernel
theorem dX4_tryAlone_44 : decode cX4_tryAlone 44 = .ok (.invokevirtual 232, 3) := by decide +kernel
theorem dX4_tryAlone_47 : decode cX4_tryAlone 47 = .ok (.iinc 3 1, 3) := by decide +kernel
theorem dX4_tryAlone_50 : decode cX4_tryAlone 50 = .ok (.goto (-28), 3) := by decide +kernel
theorem dX4_tryAlone_53 : decode cX4_tryAlone 53 = .ok (.iload_n 3, 1) := by decide +kernel
theorem dX4_tryAlone_54 : decode cX4_tryAlone 54 = .ok (.ireturn, 1) := by decide +kernel
theorem dJ6_bitCount_0f7a4_0 : decode cJ6_bitCount_0f7a4 0 = .ok (.iload_n 0, 1) := by decide +kernel
theorem dJ6_bitCount_0f7a4_1 : decode cJ6_bitCount_0f7a4 1 = .ok (.iload_n 0, 1) := by decide +kernel
theorem dJ6_bitCount_0f7a4_2 : decode cJ6_bitCount_0f7a4 2 = .ok (.iconst 1, 1) := by decide +kernel
theorem dJ6_bitCount_0f7a4_3 : decode cJ6_bitCount_0f7a4 3 = .ok (.iushr, 1) := by decide +kernel
theorem dJ6_bitCount_0f7a4_4 : decode cJ6_bitCount_0f7a4 4 = .ok (.ldc_w 265, 3) := by decide +kernel
theorem dJ6_bitCount_0f7a4_7 : decode cJ6_bitCount_0f7a4 7 = .ok (.iand, 1) := by decide +kernel
theorem dJ6_bitCount_0f7a4_8 : decode cJ6_bitCount_0f7a4 8 = .ok (.isub, 1) := by decide +kernel
theorem dJ6_bitCount_0f7a4_9 : decode cJ6_bitCount_0f7a4 9 = .ok (.istore_n 0, 1) := by decide +kernel
theorem dJ6_bitCount_0f7a4_10 : decode cJ6_bitCount_0f7a4 10 = .ok (.iload_n 0, 1) := by decide +kernel
theorem dJ6_bitCount_0f7a4_11 : decode cJ6_bitCount_0f7a4 11 = .ok (.ldc_w 266, 3) := by decide +kernel
theorem dJ6_bitCount_0f7a4_14 : decode cJ6_bitCount_0f7a4 14 = .ok (.iand, 1) := by decide +kernel
theorem dJ6_bitCount_0f7a4_15 : decode cJ6_bitCount_0f7a4 15 = .ok (.iload_n 0, 1) := by decide +kernel
theorem dJ6_bitCount_0f7a4_16 : decode cJ6_bitCount_0f7a4 16 = .ok (.iconst 2, 1) := by decide +kernel
theorem dJ6_bitCount_0f7a4_17 : decode cJ6_bitCount_0f7a4 17 = .ok (.iushr, 1) := by decide +kernel
theorem dJ6_bitCount_0f7a4_18 : decode cJ6_bitCount_0f7a4 18 = .ok (.ldc_w 266, 3) := by decide +kernel
theorem dJ6_bitCount_0f7a4_21 : decode cJ6_bitCount_0f7a4 21 = .ok (.iand, 1) := by decide +kernel
theorem dJ6_bitCount_0f7a4_22 : decode cJ6_bitCount_0f7a4 22 = .ok (.iadd, 1) := by decide +kernel
theorem dJ6_bitCount_0f7a4_23 : decode cJ6_bitCount_0f7a4 23 = .ok (.istore_n 0, 1) := by decide +kernel
theorem dJ6_bitCount_0f7a4_24 : decode cJ6_bitCount_0f7a4 24 = .ok (.iload_n 0, 1) := by decide +kernel
theorem dJ6_bitCount_0f7a4_25 : decode cJ6_bitCount_0f7a4 25 = .ok (.iload_n 0, 1) := by decide +kernel
theorem dJ6_bitCount_0f7a4_26 : decode cJ6_bitCount_0f7a4 26 = .ok (.iconst 4, 1) := by decide +kernel
theorem dJ6_bitCount_0f7a4_27 : decode cJ6_bitCount_0f7a4 27 = .ok (.iushr, 1) := by decide +kernel
theorem dJ6_bitCount_0f7a4_28 : decode cJ6_bitCount_0f7a4 28 = .ok (.iadd, 1) := by decide +kernel
theorem dJ6_bitCount_0f7a4_29 : decode cJ6_bitCount_0f7a4 29 = .ok (.ldc_w 267, 3) := by decide +kernel
theorem dJ6_bitCount_0f7a4_32 : decode cJ6_bitCount_0f7a4 32 = .ok (.iand, 1) := by decide +kernel
theorem dJ6_bitCount_0f7a4_33 : decode cJ6_bitCount_0f7a4 33 = .ok (.istore_n 0, 1) := by decide +kernel
theorem dJ6_bitCount_0f7a4_34 : decode cJ6_bitCount_0f7a4 34 = .ok (.iload_n 0, 1) := by decide +kernel
theorem dJ6_bitCount_0f7a4_35 : decode cJ6_bitCount_0f7a4 35 = .ok (.iload_n 0, 1) := by decide +kernel
theorem dJ6_bitCount_0f7a4_36 : decode cJ6_bitCount_0f7a4 36 = .ok (.bipush 8, 2) := by decide +kernel
theorem dJ6_bitCount_0f7a4_38 : decode cJ6_bitCount_0f7a4 38 = .ok (.iushr, 1) := by decide +kernel
theorem dJ6_bitCount_0f7a4_39 : decode cJ6_bitCount_0f7a4 39 = .ok (.iadd, 1) := by decide +kernel
theorem dJ6_bitCount_0f7a4_40 : decode cJ6_bitCount_0f7a4 40 = .ok (.istore_n 0, 1) := by decide +kernel
theorem dJ6_bitCount_0f7a4_41 : decode cJ6_bitCount_0f7a4 41 = .ok (.iload_n 0, 1) := by decide +kernel
theorem dJ6_bitCount_0f7a4_42 : decode cJ6_bitCount_0f7a4 42 = .ok (.iload_n 0, 1) := by decide +kernel
theorem dJ6_bitCount_0f7a4_43 : decode cJ6_bitCount_0f7a4 43 = .ok (.bipush 16, 2) := by decide +kernel
theorem dJ6_bitCount_0f7a4_45 : decode cJ6_bitCount_0f7a4 45 = .ok (.iushr, 1) := by decide +kernel
theorem dJ6_bitCount_0f7a4_46 : decode cJ6_bitCount_0f7a4 46 = .ok (.iadd, 1) := by decide +kernel
theorem dJ6_bitCount_0f7a4_47 : decode cJ6_bitCount_0f7a4 47 = .ok (.istore_n 0, 1) := by decide +kernel
theorem dJ6_bitCount_0f7a4_48 : decode cJ6_bitCount_0f7a4 48 = .ok (.iload_n 0, 1) := by decide +kernel
theorem dJ6_bitCount_0f7a4_49 : decode cJ6_bitCount_0f7a4 49 = .ok (.bipush 63, 2) := by decide +kernel
theorem dJ6_bitCount_0f7a4_51 : decode cJ6_bitCount_0f7a4 51 = .ok (.iand, 1) := by decide +kernel
theorem dJ6_bitCount_0f7a4_52 : decode cJ6_bitCount_0f7a4 52 = .ok (.ireturn, 1) := by decide +kernel
theorem dJ9_max_7cf53_0 : decode cJ9_max_7cf53 0 = .ok (.iload_n 0, 1) := by decide +kernel
theorem dJ9_max_7cf53_1 : decode cJ9_max_7cf53 1 = .ok (.iload_n 1, 1) := by decide +kernel
theorem dJ9_max_7cf53_2 : decode cJ9_max_7cf53 2 = .ok (.if_icmp .lt 7, 3) := by decide +kernel
theorem dJ9_max_7cf53_5 : decode cJ9_max_7cf53 5 = .ok (.iload_n 0, 1) := by decide +kernel
theorem dJ9_max_7cf53_6 : decode cJ9_max_7cf53 6 = .ok (.goto 4, 3) := by decide +kernel
theorem dJ9_max_7cf53_9 : decode cJ9_max_7cf53 9 = .ok (.iload_n 1, 1) := by decide +kernel
theorem dJ9_max_7cf53_10 : decode cJ9_max_7cf53 10 = .ok (.ireturn, 1) := by decide +kernel
theorem dJ9_min_7cf53_0 : decode cJ9_min_7cf53 0 = .ok (.iload_n 0, 1) := by decide +kernel
theorem dJ9_min_7cf53_1 : decode cJ9_min_7cf53 1 = .ok (.iload_n 1, 1) := by decide +kernel
theorem dJ9_min_7cf53_2 : decode cJ9_min_7cf53 2 = .ok (.if_icmp .gt 7, 3) := by decide +kernel
theorem dJ9_min_7cf53_5 : decode cJ9_min_7cf53 5 = .ok (.iload_n 0, 1) := by decide +kernel
theorem dJ9_min_7cf53_6 : decode cJ9_min_7cf53 6 = .ok (.goto 4, 3) := by decide +kernel
theorem dJ9_min_7cf53_9 : decode cJ9_min_7cf53 9 = .ok (.iload_n 1, 1) := by decide +kernel
theorem dJ9_min_7cf53_10 : decode cJ9_min_7cf53 10 = .ok (.ireturn, 1) := by decide +kernel
theorem dL_cell_0 : decode cL_cell 0 = .ok (.iload_n 1, 1) := by decide +kernel
theorem dL_cell_1 : decode cL_cell 1 = .ok (.aload_n 0, 1) := by decide +kernel
theorem dL_cell_2 : decode cL_cell 2 = .ok (.arraylength, 1) := by decide +kernel
theorem dL_cell_3 : decode cL_cell 3 = .ok (.if_icmp .ge 9, 3) := by decide +kernel
theorem dL_cell_6 : decode cL_cell 6 = .ok (.aload_n 0, 1) := by decide +kernel
theorem dL_cell_7 : decode cL_cell 7 = .ok (.iload_n 1, 1) := by decide +kernel
theorem dL_cell_8 : decode cL_cell 8 = .ok (.iaload, 1) := by decide +kernel
theorem dL_cell_9 : decode cL_cell 9 = .ok (.goto 13, 3) := by decide +kernel
theorem dL_cell_12 : decode cL_cell 12 = .ok (.ldc 7, 2) := by decide +kernel
theorem dL_cell_14 : decode cL_cell 14 = .ok (.iload_n 1, 1) := by decide +kernel
theorem dL_cell_15 : decode cL_cell 15 = .ok (.bipush 37, 2) := by decide +kernel
theorem dL_cell_17 : decode cL_cell 17 = .ok (.iadd, 1) := by decide +kernel
theorem dL_cell_18 : decode cL_cell 18 = .ok (.imul, 1) := by decide +kernel
theorem dL_cell_19 : decode cL_cell 19 = .ok (.bipush 71, 2) := by decide +kernel
theorem dL_cell_21 : decode cL_cell 21 = .ok (.iadd, 1) := by decide +kernel
theorem dL_cell_22 : decode cL_cell 22 = .ok (.ldc 8, 2) := by decide +kernel
theorem dL_cell_24 : decode cL_cell 24 = .ok (.iand, 1) := by decide +kernel
theorem dL_cell_25 : decode cL_cell 25 = .ok (.ireturn, 1) := by decide +kernel
theorem dL_grade_0 : decode cL_grade 0 = .ok (.aload_n 0, 1) := by decide +kernel
theorem dL_grade_1 : decode cL_grade 1 = .ok (.iload_n 1, 1) := by decide +kernel
theorem dL_grade_2 : decode cL_grade 2 = .ok (.iload_n 2, 1) := by decide +kernel
theorem dL_grade_3 : decode cL_grade 3 = .ok (.invokevirtual 9, 3) := by decide +kernel
theorem dL_grade_6 : decode cL_grade 6 = .ok (.ireturn, 1) := by decide +kernel
theorem dL_grade_7 : decode cL_grade 7 = .ok (.astore_n 3, 1) := by decide +kernel
theorem dL_grade_8 : decode cL_grade 8 = .ok (.bipush (-3), 2) := by decide +kernel
theorem dL_grade_10 : decode cL_grade 10 = .ok (.ireturn, 1) := by decide +kernel
theorem dL_grade_11 : decode cL_grade 11 = .ok (.astore_n 3, 1) := by decide +kernel
theorem dL_grade_12 : decode cL_grade 12 = .ok (.bipush (-2), 2) := by decide +kernel
theorem dL_grade_14 : decode cL_grade 14 = .ok (.ireturn, 1) := by decide +kernel
theorem dL_spring_0 : decode cL_spring 0 = .ok (.aload_n 0, 1) := by decide +kernel
theorem dL_spring_1 : decode cL_spring 1 = .ok (.iload_n 1, 1) := by decide +kernel
theorem dL_spring_2 : decode cL_spring 2 = .ok (.iload_n 2, 1) := by decide +kernel
theorem dL_spring_3 : decode cL_spring 3 = .ok (.invokevirtual 19, 3) := by decide +kernel
theorem dL_spring_6 : decode cL_spring 6 = .ok (.ireturn, 1) := by decide +kernel
theorem dL_spring_7 : decode cL_spring 7 = .ok (.astore_n 3, 1) := by decide +kernel
theorem dL_spring_8 : decode cL_spring 8 = .ok (.bipush (-3), 2) := by decide +kernel
theorem dL_spring_10 : decode cL_spring 10 = .ok (.ireturn, 1) := by decide +kernel
theorem dL_spring_11 : decode cL_spring 11 = .ok (.astore_n 3, 1) := by decide +kernel
theorem dL_spring_12 : decode cL_spring 12 = .ok (.bipush (-2), 2) := by decide +kernel
theorem dL_spring_14 : decode cL_spring 14 = .ok (.ireturn, 1) := by decide +kernel
theorem dL_spring_15 : decode cL_spring 15 = .ok (.astore_n 3, 1) := by decide +kernel
theorem dL_spring_16 : decode cL_spring 16 = .ok (.bipush (-4), 2) := by decide +kernel
theorem dL_spring_18 : decode cL_spring 18 = .ok (.ireturn, 1) := by decide +kernel
theorem dL_car_0 : decode cL_car 0 = .ok (.aload_n 0, 1) := by decide +kernel
theorem dL_car_1 : decode cL_car 1 = .ok (.invokevirtual 24, 3) := by decide +kernel
theorem dL_car_4 : decode cL_car 4 = .ok (.ireturn, 1) := by decide +kernel
theorem dL_car_5 : decode cL_car 5 = .ok (.astore_n 1, 1) := by decide +kernel
theorem dL_car_6 : decode cL_car 6 = .ok (.bipush (-2), 2) := by decide +kernel
theorem dL_car_8 : decode cL_car 8 = .ok (.ireturn, 1) := by decide +kernel
theorem dL_load_0 : decode cL_load 0 = .ok (.aload_n 0, 1) := by decide +kernel
theorem dL_load_1 : decode cL_load 1 = .ok (.iload_n 1, 1) := by decide +kernel
theorem dL_load_2 : decode cL_load 2 = .ok (.iload_n 2, 1) := by decide +kernel
theorem dL_load_3 : decode cL_load 3 = .ok (.invokevirtual 28, 3) := by decide +kernel
theorem dL_load_6 : decode cL_load 6 = .ok (.ireturn, 1) := by decide +kernel
theorem dL_load_7 : decode cL_load 7 = .ok (.astore_n 3, 1) := by decide +kernel
theorem dL_load_8 : decode cL_load 8 = .ok (.bipush (-3), 2) := by decide +kernel
theorem dL_load_10 : decode cL_load 10 = .ok (.ireturn, 1) := by decide +kernel
theorem dL_load_11 : decode cL_load 11 = .ok (.astore_n 3, 1) := by decide +kernel
theorem dL_load_12 : decode cL_load 12 = .ok (.bipush (-2), 2) := by decide +kernel
theorem dL_load_14 : decode cL_load 14 = .ok (.ireturn, 1) := by decide +kernel
theorem dL_load_15 : decode cL_load 15 = .ok (.astore_n 3, 1) := by decide +kernel
theorem dL_load_16 : decode cL_load 16 = .ok (.bipush (-4), 2) := by decide +kernel
theorem dL_load_18 : decode cL_load 18 = .ok (.ireturn, 1) := by decide +kernel
theorem dL_release_0 : decode cL_release 0 = .ok (.aload_n 0, 1) := by decide +kernel
theorem dL_release_1 : decode cL_release 1 = .ok (.iload_n 1, 1) := by decide +kernel
theorem dL_release_2 : decode cL_release 2 = .ok (.iload_n 2, 1) := by decide +kernel
theorem dL_release_3 : decode cL_release 3 = .ok (.invokevirtual 31, 3) := by decide +kernel
theorem dL_release_6 : decode cL_release 6 = .ok (.ireturn, 1) := by decide +kernel
theorem dL_release_7 : decode cL_release 7 = .ok (.astore_n 3, 1) := by decide +kernel
theorem dL_release_8 : decode cL_release 8 = .ok (.bipush (-3), 2) := by decide +kernel
theorem dL_release_10 : decode cL_release 10 = .ok (.ireturn, 1) := by decide +kernel
theorem dL_release_11 : decode cL_release 11 = .ok (.astore_n 3, 1) := by decide +kernel
theorem dL_release_12 : decode cL_release 12 = .ok (.bipush (-2), 2) := by decide +kernel
theorem dL_release_14 : decode cL_release 14 = .ok (.ireturn, 1) := by decide +kernel
theorem dL_brake_0 : decode cL_brake 0 = .ok (.aload_n 0, 1) := by decide +kernel
theorem dL_brake_1 : decode cL_brake 1 = .ok (.iload_n 1, 1) := by decide +kernel
theorem dL_brake_2 : decode cL_brake 2 = .ok (.iload_n 2, 1) := by decide +kernel
theorem dL_brake_3 : decode cL_brake 3 = .ok (.invokevirtual 34, 3) := by decide +kernel
theorem dL_brake_6 : decode cL_brake 6 = .ok (.ireturn, 1) := by decide +kernel
theorem dL_brake_7 : decode cL_brake 7 = .ok (.astore_n 3, 1) := by decide +kernel
theorem dL_brake_8 : decode cL_brake 8 = .ok (.bipush (-3), 2) := by decide +kernel
theorem dL_brake_10 : decode cL_brake 10 = .ok (.ireturn, 1) := by decide +kernel
theorem dL_brake_11 : decode cL_brake 11 = .ok (.astore_n 3, 1) := by decide +kernel
theorem dL_brake_12 : decode cL_brake 12 = .ok (.bipush (-2), 2) := by decide +kernel
theorem dL_brake_14 : decode cL_brake 14 = .ok (.ireturn, 1) := by decide +kernel
theorem dL_brake_15 : decode cL_brake 15 = .ok (.astore_n 3, 1) := by decide +kernel
theorem dL_brake_16 : decode cL_brake 16 = .ok (.bipush (-4), 2) := by decide +kernel
theorem dL_brake_18 : decode cL_brake 18 = .ok (.ireturn, 1) := by decide +kernel
theorem dL_pull_0 : decode cL_pull 0 = .ok (.aload_n 0, 1) := by decide +kernel
theorem dL_pull_1 : decode cL_pull 1 = .ok (.iload_n 1, 1) := by decide +kernel
theorem dL_pull_2 : decode cL_pull 2 = .ok (.invokevirtual 37, 3) := by decide +kernel
theorem dL_pull_5 : decode cL_pull 5 = .ok (.ireturn, 1) := by decide +kernel
theorem dL_pull_6 : decode cL_pull 6 = .ok (.astore_n 2, 1) := by decide +kernel
theorem dL_pull_7 : decode cL_pull 7 = .ok (.bipush (-3), 2) := by decide +kernel
theorem dL_pull_9 : decode cL_pull 9 = .ok (.ireturn, 1) := by decide +kernel
theorem dL_set_0 : decode cL_set 0 = .ok (.aload_n 0, 1) := by decide +kernel
theorem dL_set_1 : decode cL_set 1 = .ok (.iload_n 1, 1) := by decide +kernel
theorem dL_set_2 : decode cL_set 2 = .ok (.iload_n 2, 1) := by decide +kernel
theorem dL_set_3 : decode cL_set 3 = .ok (.invokevirtual 41, 3) := by decide +kernel
theorem dL_set_6 : decode cL_set 6 = .ok (.ireturn, 1) := by decide +kernel
theorem dL_set_7 : decode cL_set 7 = .ok (.astore_n 3, 1) := by decide +kernel
theorem dL_set_8 : decode cL_set 8 = .ok (.bipush (-3), 2) := by decide +kernel
theorem dL_set_10 : decode cL_set 10 = .ok (.ireturn, 1) := by decide +kernel
theorem dL_set_11 : decode cL_set 11 = .ok (.astore_n 3, 1) := by decide +kernel
theorem dL_set_12 : decode cL_set 12 = .ok (.bipush (-2), 2) := by decide +kernel
theorem dL_set_14 : decode cL_set 14 = .ok (.ireturn, 1) := by decide +kernel
theorem dL_run_0 : decode cL_run 0 = .ok (.aload_n 0, 1) := by decide +kernel
theorem dL_run_1 : decode cL_run 1 = .ok (.iload_n 1, 1) := by decide +kernel
theorem dL_run_2 : decode cL_run 2 = .ok (.invokevirtual 44, 3) := by decide +kernel
theorem dL_run_5 : decode cL_run 5 = .ok (.ireturn, 1) := by decide +kernel
theorem dL_run_6 : decode cL_run 6 = .ok (.astore_n 2, 1) := by decide +kernel
theorem dL_run_7 : decode cL_run 7 = .ok (.bipush (-2), 2) := by decide +kernel
theorem dL_run_9 : decode cL_run 9 = .ok (.ireturn, 1) := by decide +kernel
theorem dL_section_0 : decode cL_section 0 = .ok (.aload_n 0, 1) := by decide +kernel
theorem dL_section_1 : decode cL_section 1 = .ok (.iload_n 1, 1) := by decide +kernel
theorem dL_section_2 : decode cL_section 2 = .ok (.iload_n 2, 1) := by decide +kernel
theorem dL_section_3 : decode cL_section 3 = .ok (.invokevirtual 47, 3) := by decide +kernel
theorem dL_section_6 : decode cL_section 6 = .ok (.ireturn, 1) := by decide +kernel
theorem dL_section_7 : decode cL_section 7 = .ok (.astore_n 3, 1) := by decide +kernel
theorem dL_section_8 : decode cL_section 8 = .ok (.bipush (-3), 2) := by decide +kernel
theorem dL_section_10 : decode cL_section 10 = .ok (.ireturn, 1) := by decide +kernel
theorem dL_section_11 : decode cL_section 11 = .ok (.astore_n 3, 1) := by decide +kernel
theorem dL_section_12 : decode cL_section 12 = .ok (.bipush (-2), 2) := by decide +kernel
theorem dL_section_14 : decode cL_section 14 = .ok (.ireturn, 1) := by decide +kernel
theorem dL_carOf_0 : decode cL_carOf 0 = .ok (.aload_n 0, 1) := by decide +kernel
theorem dL_carOf_1 : decode cL_carOf 1 = .ok (.iload_n 1, 1) := by decide +kernel
theorem dL_carOf_2 : decode cL_carOf 2 = .ok (.iload_n 2, 1) := by decide +kernel
theorem dL_carOf_3 : decode cL_carOf 3 = .ok (.invokevirtual 50, 3) := by decide +kernel
theorem dL_carOf_6 : decode cL_carOf 6 = .ok (.ireturn, 1) := by decide +kernel
theorem dL_carOf_7 : decode cL_carOf 7 = .ok (.astore_n 3, 1) := by decide +kernel
theorem dL_carOf_8 : decode cL_carOf 8 = .ok (.bipush (-3), 2) := by decide +kernel
theorem dL_carOf_10 : decode cL_carOf 10 = .ok (.ireturn, 1) := by decide +kernel
theorem dL_carOf_11 : decode cL_carOf 11 = .ok (.astore_n 3, 1) := by decide +kernel
theorem dL_carOf_12 : decode cL_carOf 12 = .ok (.bipush (-2), 2) := by decide +kernel
theorem dL_carOf_14 : decode cL_carOf 14 = .ok (.ireturn, 1) := by decide +kernel
theorem dL_cars_0 : decode cL_cars 0 = .ok (.aload_n 0, 1) := by decide +kernel
theorem dL_cars_1 : decode cL_cars 1 = .ok (.iload_n 1, 1) := by decide +kernel
theorem dL_cars_2 : decode cL_cars 2 = .ok (.invokevirtual 53, 3) := by decide +kernel
theorem dL_cars_5 : decode cL_cars 5 = .ok (.ireturn, 1) := by decide +kernel
theorem dL_cars_6 : decode cL_cars 6 = .ok (.astore_n 2, 1) := by decide +kernel
theorem dL_cars_7 : decode cL_cars 7 = .ok (.bipush (-2), 2) := by decide +kernel
theorem dL_cars_9 : decode cL_cars 9 = .ok (.ireturn, 1) := by decide +kernel
theorem dL_rolling_0 : decode cL_rolling 0 = .ok (.aload_n 0, 1) := by decide +kernel
theorem dL_rolling_1 : decode cL_rolling 1 = .ok (.iload_n 1, 1) := by decide +kernel
theorem dL_rolling_2 : decode cL_rolling 2 = .ok (.invokevirtual 56, 3) := by decide +kernel
theorem dL_rolling_5 : decode cL_rolling 5 = .ok (.ireturn, 1) := by decide +kernel
theorem dL_rolling_6 : decode cL_rolling 6 = .ok (.astore_n 2, 1) := by decide +kernel
theorem dL_rolling_7 : decode cL_rolling 7 = .ok (.bipush (-2), 2) := by decide +kernel
theorem dL_rolling_9 : decode cL_rolling 9 = .ok (.ireturn, 1) := by decide +kernel
theorem dL_count_0 : decode cL_count 0 = .ok (.aload_n 0, 1) := by decide +kernel
theorem dL_count_1 : decode cL_count 1 = .ok (.iload_n 1, 1) := by decide +kernel
theorem dL_count_2 : decode cL_count 2 = .ok (.invokevirtual 59, 3) := by decide +kernel
theorem dL_count_5 : decode cL_count 5 = .ok (.ireturn, 1) := by decide +kernel
theorem dL_count_6 : decode cL_count 6 = .ok (.astore_n 2, 1) := by decide +kernel
theorem dL_count_7 : decode cL_count 7 = .ok (.bipush (-2), 2) := by decide +kernel
theorem dL_count_9 : decode cL_count 9 = .ok (.ireturn, 1) := by decide +kernel
theorem dL_refusal_0 : decode cL_refusal 0 = .ok (.aload_n 0, 1) := by decide +kernel
theorem dL_refusal_1 : decode cL_refusal 1 = .ok (.iload_n 1, 1) := by decide +kernel
theorem dL_refusal_2 : decode cL_refusal 2 = .ok (.iload_n 2, 1) := by decide +kernel
theorem dL_refusal_3 : decode cL_refusal 3 = .ok (.invokevirtual 62, 3) := by decide +kernel
theorem dL_refusal_6 : decode cL_refusal 6 = .ok (.ireturn, 1) := by decide +kernel
theorem dL_refusal_7 : decode cL_refusal 7 = .ok (.astore_n 3, 1) := by decide +kernel
theorem dL_refusal_8 : decode cL_refusal 8 = .ok (.bipush (-3), 2) := by decide +kernel
theorem dL_refusal_10 : decode cL_refusal 10 = .ok (.ireturn, 1) := by decide +kernel
theorem dL_append_0 : decode cL_append 0 = .ok (.aload_n 0, 1) := by decide +kernel
theorem dL_append_1 : decode cL_append 1 = .ok (.iload_n 1, 1) := by decide +kernel
theorem dL_append_2 : decode cL_append 2 = .ok (.invokevirtual 66, 3) := by decide +kernel
theorem dL_append_5 : decode cL_append 5 = .ok (.ireturn, 1) := by decide +kernel
theorem dL_append_6 : decode cL_append 6 = .ok (.astore_n 2, 1) := by decide +kernel
theorem dL_append_7 : decode cL_append 7 = .ok (.bipush (-2), 2) := by decide +kernel
theorem dL_append_9 : decode cL_append 9 = .ok (.ireturn, 1) := by decide +kernel
theorem dL_append_10 : decode cL_append 10 = .ok (.astore_n 2, 1) := by decide +kernel
theorem dL_append_11 : decode cL_append 11 = .ok (.bipush (-3), 2) := by decide +kernel
theorem dL_append_13 : decode cL_append 13 = .ok (.ireturn, 1) := by decide +kernel
theorem dL_execute_0 : decode cL_execute 0 = .ok (.aload_n 0, 1) := by decide +kernel
theorem dL_execute_1 : decode cL_execute 1 = .ok (.invokevirtual 69, 3) := by decide +kernel
theorem dL_execute_4 : decode cL_execute 4 = .ok (.ireturn, 1) := by decide +kernel
theorem dL_execute_5 : decode cL_execute 5 = .ok (.astore_n 1, 1) := by decide +kernel
theorem dL_execute_6 : decode cL_execute 6 = .ok (.bipush (-2), 2) := by decide +kernel
theorem dL_execute_8 : decode cL_execute 8 = .ok (.ireturn, 1) := by decide +kernel
theorem dL_undo_0 : decode cL_undo 0 = .ok (.aload_n 0, 1) := by decide +kernel
theorem dL_undo_1 : decode cL_undo 1 = .ok (.invokevirtual 72, 3) := by decide +kernel
theorem dL_undo_4 : decode cL_undo 4 = .ok (.ireturn, 1) := by decide +kernel
theorem dL_undo_5 : decode cL_undo 5 = .ok (.astore_n 1, 1) := by decide +kernel
theorem dL_undo_6 : decode cL_undo 6 = .ok (.bipush (-2), 2) := by decide +kernel
theorem dL_undo_8 : decode cL_undo 8 = .ok (.ireturn, 1) := by decide +kernel
theorem dL_keep_0 : decode cL_keep 0 = .ok (.aload_n 0, 1) := by decide +kernel
theorem dL_keep_1 : decode cL_keep 1 = .ok (.iload_n 1, 1) := by decide +kernel
theorem dL_keep_2 : decode cL_keep 2 = .ok (.invokevirtual 75, 3) := by decide +kernel
theorem dL_keep_5 : decode cL_keep 5 = .ok (.ireturn, 1) := by decide +kernel
theorem dL_keep_6 : decode cL_keep 6 = .ok (.astore_n 2, 1) := by decide +kernel
theorem dL_keep_7 : decode cL_keep 7 = .ok (.bipush (-2), 2) := by decide +kernel
theorem dL_keep_9 : decode cL_keep 9 = .ok (.ireturn, 1) := by decide +kernel
theorem dL_goBack_0 : decode cL_goBack 0 = .ok (.aload_n 0, 1) := by decide +kernel
theorem dL_goBack_1 : decode cL_goBack 1 = .ok (.iload_n 1, 1) := by decide +kernel
theorem dL_goBack_2 : decode cL_goBack 2 = .ok (.invokevirtual 78, 3) := by decide +kernel
theorem dL_goBack_5 : decode cL_goBack 5 = .ok (.ireturn, 1) := by decide +kernel
theorem dL_goBack_6 : decode cL_goBack 6 = .ok (.astore_n 2, 1) := by decide +kernel
theorem dL_goBack_7 : decode cL_goBack 7 = .ok (.bipush (-2), 2) := by decide +kernel
theorem dL_goBack_9 : decode cL_goBack 9 = .ok (.ireturn, 1) := by decide +kernel
theorem dL_goBack_10 : decode cL_goBack 10 = .ok (.astore_n 2, 1) := by decide +kernel
theorem dL_goBack_11 : decode cL_goBack 11 = .ok (.bipush (-3), 2) := by decide +kernel
theorem dL_goBack_13 : decode cL_goBack 13 = .ok (.ireturn, 1) := by decide +kernel
theorem dL_ifAlone_0 : decode cL_ifAlone 0 = .ok (.aload_n 0, 1) := by decide +kernel
theorem dL_ifAlone_1 : decode cL_ifAlone 1 = .ok (.iload_n 1, 1) := by decide +kernel
theorem dL_ifAlone_2 : decode cL_ifAlone 2 = .ok (.iload_n 2, 1) := by decide +kernel
theorem dL_ifAlone_3 : decode cL_ifAlone 3 = .ok (.iload_n 3, 1) := by decide +kernel
theorem dL_ifAlone_4 : decode cL_ifAlone 4 = .ok (.invokevirtual 81, 3) := by decide +kernel
theorem dL_ifAlone_7 : decode cL_ifAlone 7 = .ok (.ireturn, 1) := by decide +kernel
theorem dL_ifAlone_8 : decode cL_ifAlone 8 = .ok (.astore 4, 2) := by decide +kernel
theorem dL_ifAlone_10 : decode cL_ifAlone 10 = .ok (.bipush (-2), 2) := by decide +kernel
theorem dL_ifAlone_12 : decode cL_ifAlone 12 = .ok (.ireturn, 1) := by decide +kernel
theorem dL_leastBrake_0 : decode cL_leastBrake 0 = .ok (.aload_n 0, 1) := by decide +kernel
theorem dL_leastBrake_1 : decode cL_leastBrake 1 = .ok (.iload_n 1, 1) := by decide +kernel
theorem dL_leastBrake_2 : decode cL_leastBrake 2 = .ok (.invokevirtual 85, 3) := by decide +kernel
theorem dL_leastBrake_5 : decode cL_leastBrake 5 = .ok (.ireturn, 1) := by decide +kernel
theorem dL_leastBrake_6 : decode cL_leastBrake 6 = .ok (.astore_n 2, 1) := by decide +kernel
theorem dL_leastBrake_7 : decode cL_leastBrake 7 = .ok (.bipush (-2), 2) := by decide +kernel
theorem dL_leastBrake_9 : decode cL_leastBrake 9 = .ok (.ireturn, 1) := by decide +kernel
theorem dL_ifRun_0 : decode cL_ifRun 0 = .ok (.aload_n 0, 1) := by decide +kernel
theorem dL_ifRun_1 : decode cL_ifRun 1 = .ok (.iload_n 1, 1) := by decide +kernel
theorem dL_ifRun_2 : decode cL_ifRun 2 = .ok (.iload_n 2, 1) := by decide +kernel
theorem dL_ifRun_3 : decode cL_ifRun 3 = .ok (.invokevirtual 88, 3) := by decide +kernel
theorem dL_ifRun_6 : decode cL_ifRun 6 = .ok (.ireturn, 1) := by decide +kernel
theorem dL_ifRun_7 : decode cL_ifRun 7 = .ok (.astore_n 3, 1) := by decide +kernel
theorem dL_ifRun_8 : decode cL_ifRun 8 = .ok (.bipush (-2), 2) := by decide +kernel
theorem dL_ifRun_10 : decode cL_ifRun 10 = .ok (.ireturn, 1) := by decide +kernel
theorem dL_acts_0 : decode cL_acts 0 = .ok (.iload_n 1, 1) := by decide +kernel
theorem dL_acts_1 : decode cL_acts 1 = .ok (.bipush 32, 2) := by decide +kernel
theorem dL_acts_3 : decode cL_acts 3 = .ok (.idiv, 1) := by decide +kernel
theorem dL_acts_4 : decode cL_acts 4 = .ok (.istore_n 2, 1) := by decide +kernel
theorem dL_acts_5 : decode cL_acts 5 = .ok (.aload_n 0, 1) := by decide +kernel
theorem dL_acts_6 : decode cL_acts 6 = .ok (.iconst 1, 1) := by decide +kernel
theorem dL_acts_7 : decode cL_acts 7 = .ok (.invokestatic 91, 3) := by decide +kernel
theorem dL_acts_10 : decode cL_acts 10 = .ok (.istore_n 3, 1) := by decide +kernel
theorem dL_acts_11 : decode cL_acts 11 = .ok (.iload_n 3, 1) := by decide +kernel
theorem dL_acts_12 : decode cL_acts 12 = .ok (.iconst 1, 1) := by decide +kernel
theorem dL_acts_13 : decode cL_acts 13 = .ok (.if_icmp .ge 7, 3) := by decide +kernel
theorem dL_acts_16 : decode cL_acts 16 = .ok (.iconst 0, 1) := by decide +kernel
theorem dL_acts_17 : decode cL_acts 17 = .ok (.goto 6, 3) := by decide +kernel
theorem dL_acts_20 : decode cL_acts 20 = .ok (.iload_n 2, 1) := by decide +kernel
theorem dL_acts_21 : decode cL_acts 21 = .ok (.iload_n 3, 1) := by decide +kernel
theorem dL_acts_22 : decode cL_acts 22 = .ok (.irem, 1) := by decide +kernel
theorem dL_acts_23 : decode cL_acts 23 = .ok (.istore 4, 2) := by decide +kernel
theorem dL_acts_25 : decode cL_acts 25 = .ok (.iload_n 3, 1) := by decide +kernel
theorem dL_acts_26 : decode cL_acts 26 = .ok (.iconst 3, 1) := by decide +kernel
theorem dL_acts_27 : decode cL_acts 27 = .ok (.if_icmp .ge 7, 3) := by decide +kernel
theorem dL_acts_30 : decode cL_acts 30 = .ok (.iconst 0, 1) := by decide +kernel
theorem dL_acts_31 : decode cL_acts 31 = .ok (.goto 7, 3) := by decide +kernel
theorem dL_acts_34 : decode cL_acts 34 = .ok (.iload_n 1, 1) := by decide +kernel
theorem dL_acts_35 : decode cL_acts 35 = .ok (.bipush 32, 2) := by decide +kernel
theorem dL_acts_37 : decode cL_acts 37 = .ok (.irem, 1) := by decide +kernel
theorem dL_acts_38 : decode cL_acts 38 = .ok (.tableswitch 454 0 22 #[106, 111, 111, 127, 145, 145, 145, 161, 161, 161, 161, 175, 175, 189, 189, 196, 211, 211, 216, 224, 232, 232, 232], 106) := by decide +kernel
theorem dL_acts_144 : decode cL_acts 144 = .ok (.aload_n 0, 1) := by decide +kernel
theorem dL_acts_145 : decode cL_acts 145 = .ok (.invokestatic 96, 3) := by decide +kernel
theorem dL_acts_148 : decode cL_acts 148 = .ok (.ireturn, 1) := by decide +kernel
theorem dL_acts_149 : decode cL_acts 149 = .ok (.aload_n 0, 1) := by decide +kernel
theorem dL_acts_150 : decode cL_acts 150 = .ok (.iload_n 2, 1) := by decide +kernel
theorem dL_acts_151 : decode cL_acts 151 = .ok (.bipush 30, 2) := by decide +kernel
theorem dL_acts_153 : decode cL_acts 153 = .ok (.irem, 1) := by decide +kernel
theorem dL_acts_154 : decode cL_acts 154 = .ok (.iload_n 2, 1) := by decide +kernel
theorem dL_acts_155 : decode cL_acts 155 = .ok (.bipush 32, 2) := by decide +kernel
theorem dL_acts_157 : decode cL_acts 157 = .ok (.idiv, 1) := by decide +kernel
theorem dL_acts_158 : decode cL_acts 158 = .ok (.bipush 10, 2) := by decide +kernel
theorem dL_acts_160 : decode cL_acts 160 = .ok (.irem, 1) := by decide +kernel
theorem dL_acts_161 : decode cL_acts 161 = .ok (.invokestatic 99, 3) := by decide +kernel
theorem dL_acts_164 : decode cL_acts 164 = .ok (.ireturn, 1) := by decide +kernel
theorem dL_acts_165 : decode cL_acts 165 = .ok (.aload_n 0, 1) := by decide +kernel
theorem dL_acts_166 : decode cL_acts 166 = .ok (.iconst 1, 1) := by decide +kernel
theorem dL_acts_167 : decode cL_acts 167 = .ok (.iload_n 2, 1) := by decide +kernel
theorem dL_acts_168 : decode cL_acts 168 = .ok (.bipush 29, 2) := by decide +kernel
theorem dL_acts_170 : decode cL_acts 170 = .ok (.irem, 1) := by decide +kernel
theorem dL_acts_171 : decode cL_acts 171 = .ok (.iadd, 1) := by decide +kernel
theorem dL_acts_172 : decode cL_acts 172 = .ok (.iload_n 2, 1) := by decide +kernel
theorem dL_acts_173 : decode cL_acts 173 = .ok (.bipush 32, 2) := by decide +kernel
theorem dL_acts_175 : decode cL_acts 175 = .ok (.idiv, 1) := by decide +kernel
theorem dL_acts_176 : decode cL_acts 176 = .ok (.bipush 41, 2) := by decide +kernel
theorem dL_acts_178 : decode cL_acts 178 = .ok (.irem, 1) := by decide +kernel
theorem dL_acts_179 : decode cL_acts 179 = .ok (.invokestatic 102, 3) := by decide +kernel
theorem dL_acts_182 : decode cL_acts 182 = .ok (.ireturn, 1) := by decide +kernel
theorem dL_acts_183 : decode cL_acts 183 = .ok (.aload_n 0, 1) := by decide +kernel
theorem dL_acts_184 : decode cL_acts 184 = .ok (.iload 4, 2) := by decide +kernel
theorem dL_acts_186 : decode cL_acts 186 = .ok (.iconst 1, 1) := by decide +kernel
theorem dL_acts_187 : decode cL_acts 187 = .ok (.iload_n 2, 1) := by decide +kernel
theorem dL_acts_188 : decode cL_acts 188 = .ok (.bipush 8, 2) := by decide +kernel
theorem dL_acts_190 : decode cL_acts 190 = .ok (.idiv, 1) := by decide +kernel
theorem dL_acts_191 : decode cL_acts 191 = .ok (.bipush 15, 2) := by decide +kernel
theorem dL_acts_193 : decode cL_acts 193 = .ok (.irem, 1) := by decide +kernel
theorem dL_acts_194 : decode cL_acts 194 = .ok (.iadd, 1) := by decide +kernel
theorem dL_acts_195 : decode cL_acts 195 = .ok (.invokestatic 104, 3) := by decide +kernel
theorem dL_acts_198 : decode cL_acts 198 = .ok (.ireturn, 1) := by decide +kernel
theorem dL_acts_199 : decode cL_acts 199 = .ok (.aload_n 0, 1) := by decide +kernel
theorem dL_acts_200 : decode cL_acts 200 = .ok (.iload 4, 2) := by decide +kernel
theorem dL_acts_202 : decode cL_acts 202 = .ok (.iload_n 2, 1) := by decide +kernel
theorem dL_acts_203 : decode cL_acts 203 = .ok (.bipush 8, 2) := by decide +kernel
theorem dL_acts_205 : decode cL_acts 205 = .ok (.idiv, 1) := by decide +kernel
theorem dL_acts_206 : decode cL_acts 206 = .ok (.bipush 10, 2) := by decide +kernel
theorem dL_acts_208 : decode cL_acts 208 = .ok (.irem, 1) := by decide +kernel
theorem dL_acts_209 : decode cL_acts 209 = .ok (.invokestatic 106, 3) := by decide +kernel
theorem dL_acts_212 : decode cL_acts 212 = .ok (.ireturn, 1) := by decide +kernel
theorem dL_acts_213 : decode cL_acts 213 = .ok (.aload_n 0, 1) := by decide +kernel
theorem dL_acts_214 : decode cL_acts 214 = .ok (.iload 4, 2) := by decide +kernel
theorem dL_acts_216 : decode cL_acts 216 = .ok (.iload_n 2, 1) := by decide +kernel
theorem dL_acts_217 : decode cL_acts 217 = .ok (.bipush 8, 2) := by decide +kernel
theorem dL_acts_219 : decode cL_acts 219 = .ok (.idiv, 1) := by decide +kernel
theorem dL_acts_220 : decode cL_acts 220 = .ok (.bipush 10, 2) := by decide +kernel
theorem dL_acts_222 : decode cL_acts 222 = .ok (.irem, 1) := by decide +kernel
theorem dL_acts_223 : decode cL_acts 223 = .ok (.invokestatic 108, 3) := by decide +kernel
theorem dL_acts_226 : decode cL_acts 226 = .ok (.ireturn, 1) := by decide +kernel
theorem dL_acts_227 : decode cL_acts 227 = .ok (.aload_n 0, 1) := by decide +kernel
theorem dL_acts_228 : decode cL_acts 228 = .ok (.iload 4, 2) := by decide +kernel
theorem dL_acts_230 : decode cL_acts 230 = .ok (.invokestatic 110, 3) := by decide +kernel
theorem dL_acts_233 : decode cL_acts 233 = .ok (.ireturn, 1) := by decide +kernel
theorem dL_acts_234 : decode cL_acts 234 = .ok (.aload_n 0, 1) := by decide +kernel
theorem dL_acts_235 : decode cL_acts 235 = .ok (.iload_n 2, 1) := by decide +kernel
theorem dL_acts_236 : decode cL_acts 236 = .ok (.iconst 3, 1) := by decide +kernel
theorem dL_acts_237 : decode cL_acts 237 = .ok (.irem, 1) := by decide +kernel
theorem dL_acts_238 : decode cL_acts 238 = .ok (.iconst 1, 1) := by decide +kernel
theorem dL_acts_239 : decode cL_acts 239 = .ok (.iload_n 2, 1) := by decide +kernel
theorem dL_acts_240 : decode cL_acts 240 = .ok (.iconst 4, 1) := by decide +kernel
theorem dL_acts_241 : decode cL_acts 241 = .ok (.idiv, 1) := by decide +kernel
theorem dL_acts_242 : decode cL_acts 242 = .ok (.iconst 4, 1) := by decide +kernel
theorem dL_acts_243 : decode cL_acts 243 = .ok (.irem, 1) := by decide +kernel
theorem dL_acts_244 : decode cL_acts 244 = .ok (.iadd, 1) := by decide +kernel
theorem dL_acts_245 : decode cL_acts 245 = .ok (.invokestatic 112, 3) := by decide +kernel
theorem dL_acts_248 : decode cL_acts 248 = .ok (.ireturn, 1) := by decide +kernel
theorem dL_acts_249 : decode cL_acts 249 = .ok (.aload_n 0, 1) := by decide +kernel
theorem dL_acts_250 : decode cL_acts 250 = .ok (.invokestatic 114, 3) := by decide +kernel
theorem dL_acts_253 : decode cL_acts 253 = .ok (.ireturn, 1) := by decide +kernel
theorem dL_acts_254 : decode cL_acts 254 = .ok (.aload_n 0, 1) := by decide +kernel
theorem dL_acts_255 : decode cL_acts 255 = .ok (.iload_n 2, 1) := by decide +kernel
theorem dL_acts_256 : decode cL_acts 256 = .ok (.iconst 2, 1) := by decide +kernel
theorem dL_acts_257 : decode cL_acts 257 = .ok (.irem, 1) := by decide +kernel
theorem dL_acts_258 : decode cL_acts 258 = .ok (.invokestatic 116, 3) := by decide +kernel
theorem dL_acts_261 : decode cL_acts 261 = .ok (.ireturn, 1) := by decide +kernel
theorem dL_acts_262 : decode cL_acts 262 = .ok (.aload_n 0, 1) := by decide +kernel
theorem dL_acts_263 : decode cL_acts 263 = .ok (.iload_n 2, 1) := by decide +kernel
theorem dL_acts_264 : decode cL_acts 264 = .ok (.iconst 2, 1) := by decide +kernel
theorem dL_acts_265 : decode cL_acts 265 = .ok (.irem, 1) := by decide +kernel
theorem dL_acts_266 : decode cL_acts 266 = .ok (.invokestatic 118, 3) := by decide +kernel
theorem dL_acts_269 : decode cL_acts 269 = .ok (.ireturn, 1) := by decide +kernel
theorem dL_acts_270 : decode cL_acts 270 = .ok (.aload_n 0, 1) := by decide +kernel
theorem dL_acts_271 : decode cL_acts 271 = .ok (.invokevirtual 120, 3) := by decide +kernel
theorem dL_acts_274 : decode cL_acts 274 = .ok (.istore 5, 2) := by decide +kernel
theorem dL_acts_276 : decode cL_acts 276 = .ok (.iconst 0, 1) := by decide +kernel
theorem dL_acts_277 : decode cL_acts 277 = .ok (.istore 6, 2) := by decide +kernel
theorem dL_acts_279 : decode cL_acts 279 = .ok (.iload 6, 2) := by decide +kernel
theorem dL_acts_281 : decode cL_acts 281 = .ok (.iconst 1, 1) := by decide +kernel
theorem dL_acts_282 : decode cL_acts 282 = .ok (.iload_n 2, 1) := by decide +kernel
theorem dL_acts_283 : decode cL_acts 283 = .ok (.iconst 4, 1) := by decide +kernel
theorem dL_acts_284 : decode cL_acts 284 = .ok (.irem, 1) := by decide +kernel
theorem dL_acts_285 : decode cL_acts 285 = .ok (.iadd, 1) := by decide +kernel
theorem dL_acts_286 : decode cL_acts 286 = .ok (.if_icmp .ge 181, 3) := by decide +kernel
theorem dL_acts_289 : decode cL_acts 289 = .ok (.iload_n 2, 1) := by decide +kernel
theorem dL_acts_290 : decode cL_acts 290 = .ok (.iconst 4, 1) := by decide +kernel
theorem dL_acts_291 : decode cL_acts 291 = .ok (.idiv, 1) := by decide +kernel
theorem dL_acts_292 : decode cL_acts 292 = .ok (.iconst 5, 1) := by decide +kernel
theorem dL_acts_293 : decode cL_acts 293 = .ok (.iload 6, 2) := by decide +kernel
theorem dL_acts_295 : decode cL_acts 295 = .ok (.imul, 1) := by decide +kernel
theorem dL_acts_296 : decode cL_acts 296 = .ok (.ishr, 1) := by decide +kernel
theorem dL_acts_297 : decode cL_acts 297 = .ok (.istore 7, 2) := by decide +kernel
theorem dL_acts_299 : decode cL_acts 299 = .ok (.iload 6, 2) := by decide +kernel
theorem dL_acts_301 : decode cL_acts 301 = .ok (.ifCond .le 12, 3) := by decide +kernel
theorem dL_acts_304 : decode cL_acts 304 = .ok (.aload_n 0, 1) := by decide +kernel
theorem dL_acts_305 : decode cL_acts 305 = .ok (.bipush 59, 2) := by decide +kernel
theorem dL_acts_307 : decode cL_acts 307 = .ok (.invokestatic 123, 3) := by decide +kernel
theorem dL_acts_310 : decode cL_acts 310 = .ok (.goto 4, 3) := by decide +kernel
theorem dL_acts_313 : decode cL_acts 313 = .ok (.iconst 0, 1) := by decide +kernel
theorem dL_acts_314 : decode cL_acts 314 = .ok (.istore 5, 2) := by decide +kernel
theorem dL_acts_316 : decode cL_acts 316 = .ok (.aload_n 0, 1) := by decide +kernel
theorem dL_acts_317 : decode cL_acts 317 = .ok (.iload 7, 2) := by decide +kernel
theorem dL_acts_319 : decode cL_acts 319 = .ok (.iconst 4, 1) := by decide +kernel
theorem dL_acts_320 : decode cL_acts 320 = .ok (.irem, 1) := by decide +kernel
theorem dL_acts_321 : decode cL_acts 321 = .ok (.ifCond .ne 8, 3) := by decide +kernel
theorem dL_acts_324 : decode cL_acts 324 = .ok (.bipush 108, 2) := by decide +kernel
theorem dL_acts_326 : decode cL_acts 326 = .ok (.goto 31, 3) := by decide +kernel
theorem dL_acts_329 : decode cL_acts 329 = .ok (.iload 7, 2) := by decide +kernel
theorem dL_acts_331 : decode cL_acts 331 = .ok (.iconst 4, 1) := by decide +kernel
theorem dL_acts_332 : decode cL_acts 332 = .ok (.irem, 1) := by decide +kernel
theorem dL_acts_333 : decode cL_acts 333 = .ok (.iconst 1, 1) := by decide +kernel
theorem dL_acts_334 : decode cL_acts 334 = .ok (.if_icmp .ne 8, 3) := by decide +kernel
theorem dL_acts_337 : decode cL_acts 337 = .ok (.bipush 114, 2) := by decide +kernel
theorem dL_acts_339 : decode cL_acts 339 = .ok (.goto 18, 3) := by decide +kernel
theorem dL_acts_342 : decode cL_acts 342 = .ok (.iload 7, 2) := by decide +kernel
theorem dL_acts_344 : decode cL_acts 344 = .ok (.iconst 4, 1) := by decide +kernel
theorem dL_acts_345 : decode cL_acts 345 = .ok (.irem, 1) := by decide +kernel
theorem dL_acts_346 : decode cL_acts 346 = .ok (.iconst 2, 1) := by decide +kernel
theorem dL_acts_347 : decode cL_acts 347 = .ok (.if_icmp .ne 8, 3) := by decide +kernel
theorem dL_acts_350 : decode cL_acts 350 = .ok (.bipush 116, 2) := by decide +kernel
theorem dL_acts_352 : decode cL_acts 352 = .ok (.goto 5, 3) := by decide +kernel
theorem dL_acts_355 : decode cL_acts 355 = .ok (.bipush 109, 2) := by decide +kernel
theorem dL_acts_357 : decode cL_acts 357 = .ok (.invokestatic 123, 3) := by decide +kernel
theorem dL_acts_360 : decode cL_acts 360 = .ok (.istore 5, 2) := by decide +kernel
theorem dL_acts_362 : decode cL_acts 362 = .ok (.aload_n 0, 1) := by decide +kernel
theorem dL_acts_363 : decode cL_acts 363 = .ok (.iload 7, 2) := by decide +kernel
theorem dL_acts_365 : decode cL_acts 365 = .ok (.iconst 4, 1) := by decide +kernel
theorem dL_acts_366 : decode cL_acts 366 = .ok (.irem, 1) := by decide +kernel
theorem dL_acts_367 : decode cL_acts 367 = .ok (.iconst 2, 1) := by decide +kernel
theorem dL_acts_368 : decode cL_acts 368 = .ok (.if_icmp .ne 16, 3) := by decide +kernel
theorem dL_acts_371 : decode cL_acts 371 = .ok (.bipush 49, 2) := by decide +kernel
theorem dL_acts_373 : decode cL_acts 373 = .ok (.iload 7, 2) := by decide +kernel
theorem dL_acts_375 : decode cL_acts 375 = .ok (.iconst 4, 1) := by decide +kernel
theorem dL_acts_376 : decode cL_acts 376 = .ok (.idiv, 1) := by decide +kernel
theorem dL_acts_377 : decode cL_acts 377 = .ok (.bipush 9, 2) := by decide +kernel
theorem dL_acts_379 : decode cL_acts 379 = .ok (.irem, 1) := by decide +kernel
theorem dL_acts_380 : decode cL_acts 380 = .ok (.iadd, 1) := by decide +kernel
theorem dL_acts_381 : decode cL_acts 381 = .ok (.goto 12, 3) := by decide +kernel
theorem dL_acts_384 : decode cL_acts 384 = .ok (.bipush 48, 2) := by decide +kernel
theorem dL_acts_386 : decode cL_acts 386 = .ok (.iload 7, 2) := by decide +kernel
theorem dL_acts_388 : decode cL_acts 388 = .ok (.iconst 4, 1) := by decide +kernel
theorem dL_acts_389 : decode cL_acts 389 = .ok (.idiv, 1) := by decide +kernel
theorem dL_acts_390 : decode cL_acts 390 = .ok (.iconst 4, 1) := by decide +kernel
theorem dL_acts_391 : decode cL_acts 391 = .ok (.irem, 1) := by decide +kernel
theorem dL_acts_392 : decode cL_acts 392 = .ok (.iadd, 1) := by decide +kernel
theorem dL_acts_393 : decode cL_acts 393 = .ok (.invokestatic 123, 3) := by decide +kernel
theorem dL_acts_396 : decode cL_acts 396 = .ok (.istore 5, 2) := by decide +kernel
theorem dL_acts_398 : decode cL_acts 398 = .ok (.iload 7, 2) := by decide +kernel
theorem dL_acts_400 : decode cL_acts 400 = .ok (.iconst 4, 1) := by decide +kernel
theorem dL_acts_401 : decode cL_acts 401 = .ok (.irem, 1) := by decide +kernel
theorem dL_acts_402 : decode cL_acts 402 = .ok (.iconst 2, 1) := by decide +kernel
theorem dL_acts_403 : decode cL_acts 403 = .ok (.if_icmp .ge 24, 3) := by decide +kernel
theorem dL_acts_406 : decode cL_acts 406 = .ok (.aload_n 0, 1) := by decide +kernel
theorem dL_acts_407 : decode cL_acts 407 = .ok (.iload 7, 2) := by decide +kernel
theorem dL_acts_409 : decode cL_acts 409 = .ok (.iconst 4, 1) := by decide +kernel
theorem dL_acts_410 : decode cL_acts 410 = .ok (.irem, 1) := by decide +kernel
theorem dL_acts_411 : decode cL_acts 411 = .ok (.ifCond .ne 8, 3) := by decide +kernel
theorem dL_acts_414 : decode cL_acts 414 = .ok (.bipush 43, 2) := by decide +kernel
theorem dL_acts_416 : decode cL_acts 416 = .ok (.goto 5, 3) := by decide +kernel
theorem dL_acts_419 : decode cL_acts 419 = .ok (.bipush 47, 2) := by decide +kernel
theorem dL_acts_421 : decode cL_acts 421 = .ok (.invokestatic 123, 3) := by decide +kernel
theorem dL_acts_424 : decode cL_acts 424 = .ok (.goto 5, 3) := by decide +kernel
theorem dL_acts_427 : decode cL_acts 427 = .ok (.iload 5, 2) := by decide +kernel
theorem dL_acts_429 : decode cL_acts 429 = .ok (.istore 5, 2) := by decide +kernel
theorem dL_acts_431 : decode cL_acts 431 = .ok (.iload 7, 2) := by decide +kernel
theorem dL_acts_433 : decode cL_acts 433 = .ok (.iconst 4, 1) := by decide +kernel
theorem dL_acts_434 : decode cL_acts 434 = .ok (.irem, 1) := by decide +kernel
theorem dL_acts_435 : decode cL_acts 435 = .ok (.iconst 2, 1) := by decide +kernel
theorem dL_acts_436 : decode cL_acts 436 = .ok (.if_icmp .ge 21, 3) := by decide +kernel
theorem dL_acts_439 : decode cL_acts 439 = .ok (.aload_n 0, 1) := by decide +kernel
theorem dL_acts_440 : decode cL_acts 440 = .ok (.bipush 49, 2) := by decide +kernel
theorem dL_acts_442 : decode cL_acts 442 = .ok (.iload 7, 2) := by decide +kernel
theorem dL_acts_444 : decode cL_acts 444 = .ok (.bipush 16, 2) := by decide +kernel
theorem dL_acts_446 : decode cL_acts 446 = .ok (.idiv, 1) := by decide +kernel
theorem dL_acts_447 : decode cL_acts 447 = .ok (.bipush 9, 2) := by decide +kernel
theorem dL_acts_449 : decode cL_acts 449 = .ok (.irem, 1) := by decide +kernel
theorem dL_acts_450 : decode cL_acts 450 = .ok (.iadd, 1) := by decide +kernel
theorem dL_acts_451 : decode cL_acts 451 = .ok (.invokestatic 123, 3) := by decide +kernel
theorem dL_acts_454 : decode cL_acts 454 = .ok (.goto 5, 3) := by decide +kernel
theorem dL_acts_457 : decode cL_acts 457 = .ok (.iload 5, 2) := by decide +kernel
theorem dL_acts_459 : decode cL_acts 459 = .ok (.istore 5, 2) := by decide +kernel
theorem dL_acts_461 : decode cL_acts 461 = .ok (.iinc 6 1, 3) := by decide +kernel
theorem dL_acts_464 : decode cL_acts 464 = .ok (.goto (-185), 3) := by decide +kernel
theorem dL_acts_467 : decode cL_acts 467 = .ok (.iload 5, 2) := by decide +kernel
theorem dL_acts_469 : decode cL_acts 469 = .ok (.iconst 1, 1) := by decide +kernel
theorem dL_acts_470 : decode cL_acts 470 = .ok (.if_icmp .lt 12, 3) := by decide +kernel
theorem dL_acts_473 : decode cL_acts 473 = .ok (.aload_n 0, 1) := by decide +kernel
theorem dL_acts_474 : decode cL_acts 474 = .ok (.invokevirtual 125, 3) := by decide +kernel
theorem dL_acts_477 : decode cL_acts 477 = .ok (.iload 5, 2) := by decide +kernel
theorem dL_acts_479 : decode cL_acts 479 = .ok (.if_icmp .eq 8, 3) := by decide +kernel
theorem dL_acts_482 : decode cL_acts 482 = .ok (.bipush (-9), 2) := by decide +kernel
theorem dL_acts_484 : decode cL_acts 484 = .ok (.goto 7, 3) := by decide +kernel
theorem dL_acts_487 : decode cL_acts 487 = .ok (.aload_n 0, 1) := by decide +kernel
theorem dL_acts_488 : decode cL_acts 488 = .ok (.invokestatic 128, 3) := by decide +kernel
theorem dL_acts_491 : decode cL_acts 491 = .ok (.ireturn, 1) := by decide +kernel
theorem dL_acts_492 : decode cL_acts 492 = .ok (.aload_n 0, 1) := by decide +kernel
theorem dL_acts_493 : decode cL_acts 493 = .ok (.iconst 1, 1) := by decide +kernel
theorem dL_acts_494 : decode cL_acts 494 = .ok (.iload_n 2, 1) := by decide +kernel
theorem dL_acts_495 : decode cL_acts 495 = .ok (.iload_n 2, 1) := by decide +kernel
theorem dL_acts_496 : decode cL_acts 496 = .ok (.iconst 3, 1) := by decide +kernel
theorem dL_acts_497 : decode cL_acts 497 = .ok (.irem, 1) := by decide +kernel
theorem dL_acts_498 : decode cL_acts 498 = .ok (.ifCond .ne 8, 3) := by decide +kernel
theorem dL_acts_501 : decode cL_acts 501 = .ok (.bipush 60, 2) := by decide +kernel
theorem dL_acts_503 : decode cL_acts 503 = .ok (.goto 5, 3) := by decide +kernel
theorem dL_acts_506 : decode cL_acts 506 = .ok (.bipush 10, 2) := by decide +kernel
theorem dL_acts_508 : decode cL_acts 508 = .ok (.irem, 1) := by decide +kernel
theorem dL_acts_509 : decode cL_acts 509 = .ok (.iadd, 1) := by decide +kernel
theorem dL_acts_510 : decode cL_acts 510 = .ok (.invokestatic 130, 3) := by decide +kernel
theorem dL_acts_513 : decode cL_acts 513 = .ok (.ireturn, 1) := by decide +kernel
theorem dL_hangs_0 : decode cL_hangs 0 = .ok (.aload_n 0, 1) := by decide +kernel
theorem dL_hangs_1 : decode cL_hangs 1 = .ok (.iconst 1, 1) := by decide +kernel
theorem dL_hangs_2 : decode cL_hangs 2 = .ok (.invokestatic 91, 3) := by decide +kernel
theorem dL_hangs_5 : decode cL_hangs 5 = .ok (.istore_n 1, 1) := by decide +kernel
theorem dL_hangs_6 : decode cL_hangs 6 = .ok (.iconst 0, 1) := by decide +kernel
theorem dL_hangs_7 : decode cL_hangs 7 = .ok (.istore_n 2, 1) := by decide +kernel
theorem dL_hangs_8 : decode cL_hangs 8 = .ok (.iconst 0, 1) := by decide +kernel
theorem dL_hangs_9 : decode cL_hangs 9 = .ok (.istore_n 3, 1) := by decide +kernel
theorem dL_hangs_10 : decode cL_hangs 10 = .ok (.iconst 0, 1) := by decide +kernel
theorem dL_hangs_11 : decode cL_hangs 11 = .ok (.istore 4, 2) := by decide +kernel
theorem dL_hangs_13 : decode cL_hangs 13 = .ok (.iconst 0, 1) := by decide +kernel
theorem dL_hangs_14 : decode cL_hangs 14 = .ok (.istore 5, 2) := by decide +kernel
theorem dL_hangs_16 : decode cL_hangs 16 = .ok (.iload_n 1, 1) := by decide +kernel
theorem dL_hangs_17 : decode cL_hangs 17 = .ok (.ifCond .lt 58, 3) := by decide +kernel
theorem dL_hangs_20 : decode cL_hangs 20 = .ok (.iload_n 1, 1) := by decide +kernel
theorem dL_hangs_21 : decode cL_hangs 21 = .ok (.bipush 8, 2) := by decide +kernel
theorem dL_hangs_23 : decode cL_hangs 23 = .ok (.if_icmp .gt 52, 3) := by decide +kernel
theorem dL_hangs_26 : decode cL_hangs 26 = .ok (.aload_n 0, 1) := by decide +kernel
theorem dL_hangs_27 : decode cL_hangs 27 = .ok (.iconst 0, 1) := by decide +kernel
theorem dL_hangs_28 : decode cL_hangs 28 = .ok (.invokestatic 91, 3) := by decide +kernel
theorem dL_hangs_31 : decode cL_hangs 31 = .ok (.ifCond .lt 44, 3) := by decide +kernel
theorem dL_hangs_34 : decode cL_hangs 34 = .ok (.aload_n 0, 1) := by decide +kernel
theorem dL_hangs_35 : decode cL_hangs 35 = .ok (.iconst 2, 1) := by decide +kernel
theorem dL_hangs_36 : decode cL_hangs 36 = .ok (.invokestatic 91, 3) := by decide +kernel
theorem dL_hangs_39 : decode cL_hangs 39 = .ok (.ifCond .lt 36, 3) := by decide +kernel
theorem dL_hangs_42 : decode cL_hangs 42 = .ok (.aload_n 0, 1) := by decide +kernel
theorem dL_hangs_43 : decode cL_hangs 43 = .ok (.iconst 2, 1) := by decide +kernel
theorem dL_hangs_44 : decode cL_hangs 44 = .ok (.invokestatic 91, 3) := by decide +kernel
theorem dL_hangs_47 : decode cL_hangs 47 = .ok (.iconst 4, 1) := by decide +kernel
theorem dL_hangs_48 : decode cL_hangs 48 = .ok (.if_icmp .gt 27, 3) := by decide +kernel
theorem dL_hangs_51 : decode cL_hangs 51 = .ok (.aload_n 0, 1) := by decide +kernel
theorem dL_hangs_52 : decode cL_hangs 52 = .ok (.bipush 9, 2) := by decide +kernel
theorem dL_hangs_54 : decode cL_hangs 54 = .ok (.invokestatic 91, 3) := by decide +kernel
theorem dL_hangs_57 : decode cL_hangs 57 = .ok (.ifCond .lt 18, 3) := by decide +kernel
theorem dL_hangs_60 : decode cL_hangs 60 = .ok (.aload_n 0, 1) := by decide +kernel
theorem dL_hangs_61 : decode cL_hangs 61 = .ok (.bipush 9, 2) := by decide +kernel
theorem dL_hangs_63 : decode cL_hangs 63 = .ok (.invokestatic 91, 3) := by decide +kernel
theorem dL_hangs_66 : decode cL_hangs 66 = .ok (.bipush 7, 2) := by decide +kernel
theorem dL_hangs_68 : decode cL_hangs 68 = .ok (.if_icmp .ge 7, 3) := by decide +kernel
theorem dL_hangs_71 : decode cL_hangs 71 = .ok (.iconst 1, 1) := by decide +kernel
theorem dL_hangs_72 : decode cL_hangs 72 = .ok (.goto 4, 3) := by decide +kernel
theorem dL_hangs_75 : decode cL_hangs 75 = .ok (.iconst 0, 1) := by decide +kernel
theorem dL_hangs_76 : decode cL_hangs 76 = .ok (.istore 6, 2) := by decide +kernel
theorem dL_hangs_78 : decode cL_hangs 78 = .ok (.iconst 0, 1) := by decide +kernel
theorem dL_hangs_79 : decode cL_hangs 79 = .ok (.istore 7, 2) := by decide +kernel
theorem dL_hangs_81 : decode cL_hangs 81 = .ok (.iload 7, 2) := by decide +kernel
theorem dL_hangs_83 : decode cL_hangs 83 = .ok (.iconst 5, 1) := by decide +kernel
theorem dL_hangs_84 : decode cL_hangs 84 = .ok (.if_icmp .ge 50, 3) := by decide +kernel
theorem dL_hangs_87 : decode cL_hangs 87 = .ok (.iload 6, 2) := by decide +kernel
theorem dL_hangs_89 : decode cL_hangs 89 = .ok (.ifCond .eq 45, 3) := by decide +kernel
theorem dL_hangs_92 : decode cL_hangs 92 = .ok (.aload_n 0, 1) := by decide +kernel
theorem dL_hangs_93 : decode cL_hangs 93 = .ok (.iload 7, 2) := by decide +kernel
theorem dL_hangs_95 : decode cL_hangs 95 = .ok (.invokestatic 132, 3) := by decide +kernel
theorem dL_hangs_98 : decode cL_hangs 98 = .ok (.ifCond .lt 18, 3) := by decide +kernel
theorem dL_hangs_101 : decode cL_hangs 101 = .ok (.aload_n 0, 1) := by decide +kernel
theorem dL_hangs_102 : decode cL_hangs 102 = .ok (.iload 7, 2) := by decide +kernel
theorem dL_hangs_104 : decode cL_hangs 104 = .ok (.invokestatic 132, 3) := by decide +kernel
theorem dL_hangs_107 : decode cL_hangs 107 = .ok (.iload_n 2, 1) := by decide +kernel
theorem dL_hangs_108 : decode cL_hangs 108 = .ok (.iand, 1) := by decide +kernel
theorem dL_hangs_109 : decode cL_hangs 109 = .ok (.ifCond .ne 7, 3) := by decide +kernel
theorem dL_hangs_112 : decode cL_hangs 112 = .ok (.iconst 1, 1) := by decide +kernel
theorem dL_hangs_113 : decode cL_hangs 113 = .ok (.goto 4, 3) := by decide +kernel
theorem dL_hangs_116 : decode cL_hangs 116 = .ok (.iconst 0, 1) := by decide +kernel
theorem dL_hangs_117 : decode cL_hangs 117 = .ok (.istore 6, 2) := by decide +kernel
theorem dL_hangs_119 : decode cL_hangs 119 = .ok (.iload_n 2, 1) := by decide +kernel
theorem dL_hangs_120 : decode cL_hangs 120 = .ok (.aload_n 0, 1) := by decide +kernel
theorem dL_hangs_121 : decode cL_hangs 121 = .ok (.iload 7, 2) := by decide +kernel
theorem dL_hangs_123 : decode cL_hangs 123 = .ok (.invokestatic 132, 3) := by decide +kernel
theorem dL_hangs_126 : decode cL_hangs 126 = .ok (.ior, 1) := by decide +kernel
theorem dL_hangs_127 : decode cL_hangs 127 = .ok (.istore_n 2, 1) := by decide +kernel
theorem dL_hangs_128 : decode cL_hangs 128 = .ok (.iinc 7 1, 3) := by decide +kernel
theorem dL_hangs_131 : decode cL_hangs 131 = .ok (.goto (-50), 3) := by decide +kernel
theorem dL_hangs_134 : decode cL_hangs 134 = .ok (.iload 6, 2) := by decide +kernel
theorem dL_hangs_136 : decode cL_hangs 136 = .ok (.ifCond .eq 16, 3) := by decide +kernel
theorem dL_hangs_139 : decode cL_hangs 139 = .ok (.iload_n 2, 1) := by decide +kernel
theorem dL_hangs_140 : decode cL_hangs 140 = .ok (.iconst 1, 1) := by decide +kernel
theorem dL_hangs_141 : decode cL_hangs 141 = .ok (.iload_n 1, 1) := by decide +kernel
theorem dL_hangs_142 : decode cL_hangs 142 = .ok (.ishl, 1) := by decide +kernel
theorem dL_hangs_143 : decode cL_hangs 143 = .ok (.iconst 1, 1) := by decide +kernel
theorem dL_hangs_144 : decode cL_hangs 144 = .ok (.isub, 1) := by decide +kernel
theorem dL_hangs_145 : decode cL_hangs 145 = .ok (.if_icmp .ne 7, 3) := by decide +kernel
theorem dL_hangs_148 : decode cL_hangs 148 = .ok (.iconst 1, 1) := by decide +kernel
theorem dL_hangs_149 : decode cL_hangs 149 = .ok (.goto 4, 3) := by decide +kernel
theorem dL_hangs_152 : decode cL_hangs 152 = .ok (.iconst 0, 1) := by decide +kernel
theorem dL_hangs_153 : decode cL_hangs 153 = .ok (.istore 6, 2) := by decide +kernel
theorem dL_hangs_155 : decode cL_hangs 155 = .ok (.iconst 0, 1) := by decide +kernel
theorem dL_hangs_156 : decode cL_hangs 156 = .ok (.istore 7, 2) := by decide +kernel
theorem dL_hangs_158 : decode cL_hangs 158 = .ok (.iload 7, 2) := by decide +kernel
theorem dL_hangs_160 : decode cL_hangs 160 = .ok (.iload_n 1, 1) := by decide +kernel
theorem dL_hangs_161 : decode cL_hangs 161 = .ok (.if_icmp .ge 520, 3) := by decide +kernel
theorem dL_hangs_164 : decode cL_hangs 164 = .ok (.iload 6, 2) := by decide +kernel
theorem dL_hangs_166 : decode cL_hangs 166 = .ok (.ifCond .eq 515, 3) := by decide +kernel
theorem dL_hangs_169 : decode cL_hangs 169 = .ok (.aload_n 0, 1) := by decide +kernel
theorem dL_hangs_170 : decode cL_hangs 170 = .ok (.iload 7, 2) := by decide +kernel
theorem dL_hangs_172 : decode cL_hangs 172 = .ok (.iconst 0, 1) := by decide +kernel
theorem dL_hangs_173 : decode cL_hangs 173 = .ok (.invokestatic 134, 3) := by decide +kernel
theorem dL_hangs_176 : decode cL_hangs 176 = .ok (.istore 8, 2) := by decide +kernel
theorem dL_hangs_178 : decode cL_hangs 178 = .ok (.aload_n 0, 1) := by decide +kernel
theorem dL_hangs_179 : decode cL_hangs 179 = .ok (.iload 7, 2) := by decide +kernel
theorem dL_hangs_181 : decode cL_hangs 181 = .ok (.iconst 4, 1) := by decide +kernel
theorem dL_hangs_182 : decode cL_hangs 182 = .ok (.invokestatic 134, 3) := by decide +kernel
theorem dL_hangs_185 : decode cL_hangs 185 = .ok (.istore 9, 2) := by decide +kernel
theorem dL_hangs_187 : decode cL_hangs 187 = .ok (.aload_n 0, 1) := by decide +kernel
theorem dL_hangs_188 : decode cL_hangs 188 = .ok (.iload 7, 2) := by decide +kernel
theorem dL_hangs_190 : decode cL_hangs 190 = .ok (.iconst 3, 1) := by decide +kernel
theorem dL_hangs_191 : decode cL_hangs 191 = .ok (.invokestatic 134, 3) := by decide +kernel
theorem dL_hangs_194 : decode cL_hangs 194 = .ok (.istore 10, 2) := by decide +kernel
theorem dL_hangs_196 : decode cL_hangs 196 = .ok (.aload_n 0, 1) := by decide +kernel
theorem dL_hangs_197 : decode cL_hangs 197 = .ok (.iload 7, 2) := by decide +kernel
theorem dL_hangs_199 : decode cL_hangs 199 = .ok (.bipush 6, 2) := by decide +kernel
theorem dL_hangs_201 : decode cL_hangs 201 = .ok (.invokestatic 134, 3) := by decide +kernel
theorem dL_hangs_204 : decode cL_hangs 204 = .ok (.istore 11, 2) := by decide +kernel
theorem dL_hangs_206 : decode cL_hangs 206 = .ok (.aload_n 0, 1) := by decide +kernel
theorem dL_hangs_207 : decode cL_hangs 207 = .ok (.iload 8, 2) := by decide +kernel
theorem dL_hangs_209 : decode cL_hangs 209 = .ok (.invokestatic 132, 3) := by decide +kernel
theorem dL_hangs_212 : decode cL_hangs 212 = .ok (.iload 7, 2) := by decide +kernel
theorem dL_hangs_214 : decode cL_hangs 214 = .ok (.ishr, 1) := by decide +kernel
theorem dL_hangs_215 : decode cL_hangs 215 = .ok (.iconst 1, 1) := by decide +kernel
theorem dL_hangs_216 : decode cL_hangs 216 = .ok (.iand, 1) := by decide +kernel
theorem dL_hangs_217 : decode cL_hangs 217 = .ok (.iconst 1, 1) := by decide +kernel
theorem dL_hangs_218 : decode cL_hangs 218 = .ok (.if_icmp .ne 313, 3) := by decide +kernel
theorem dL_hangs_221 : decode cL_hangs 221 = .ok (.iload 9, 2) := by decide +kernel
theorem dL_hangs_223 : decode cL_hangs 223 = .ok (.ifCond .lt 308, 3) := by decide +kernel
theorem dL_hangs_226 : decode cL_hangs 226 = .ok (.iload 9, 2) := by decide +kernel
theorem dL_hangs_228 : decode cL_hangs 228 = .ok (.sipush 300, 3) := by decide +kernel
theorem dL_hangs_231 : decode cL_hangs 231 = .ok (.if_icmp .gt 300, 3) := by decide +kernel
theorem dL_hangs_234 : decode cL_hangs 234 = .ok (.iload 10, 2) := by decide +kernel
theorem dL_hangs_236 : decode cL_hangs 236 = .ok (.ifCond .lt 295, 3) := by decide +kernel
theorem dL_hangs_239 : decode cL_hangs 239 = .ok (.iload 10, 2) := by decide +kernel
theorem dL_hangs_241 : decode cL_hangs 241 = .ok (.bipush 40, 2) := by decide +kernel
theorem dL_hangs_243 : decode cL_hangs 243 = .ok (.if_icmp .gt 288, 3) := by decide +kernel
theorem dL_hangs_246 : decode cL_hangs 246 = .ok (.aload_n 0, 1) := by decide +kernel
theorem dL_hangs_247 : decode cL_hangs 247 = .ok (.iload 7, 2) := by decide +kernel
theorem dL_hangs_249 : decode cL_hangs 249 = .ok (.bipush 9, 2) := by decide +kernel
theorem dL_hangs_251 : decode cL_hangs 251 = .ok (.invokestatic 134, 3) := by decide +kernel
theorem dL_hangs_254 : decode cL_hangs 254 = .ok (.iload 10, 2) := by decide +kernel
theorem dL_hangs_256 : decode cL_hangs 256 = .ok (.if_icmp .lt 275, 3) := by decide +kernel
theorem dL_hangs_259 : decode cL_hangs 259 = .ok (.aload_n 0, 1) := by decide +kernel
theorem dL_hangs_260 : decode cL_hangs 260 = .ok (.iload 7, 2) := by decide +kernel
theorem dL_hangs_262 : decode cL_hangs 262 = .ok (.bipush 9, 2) := by decide +kernel
theorem dL_hangs_264 : decode cL_hangs 264 = .ok (.invokestatic 134, 3) := by decide +kernel
theorem dL_hangs_267 : decode cL_hangs 267 = .ok (.bipush 40, 2) := by decide +kernel
theorem dL_hangs_269 : decode cL_hangs 269 = .ok (.if_icmp .gt 262, 3) := by decide +kernel
theorem dL_hangs_272 : decode cL_hangs 272 = .ok (.aload_n 0, 1) := by decide +kernel
theorem dL_hangs_273 : decode cL_hangs 273 = .ok (.iload 7, 2) := by decide +kernel
theorem dL_hangs_275 : decode cL_hangs 275 = .ok (.iconst 1, 1) := by decide +kernel
theorem dL_hangs_276 : decode cL_hangs 276 = .ok (.invokestatic 134, 3) := by decide +kernel
theorem dL_hangs_279 : decode cL_hangs 279 = .ok (.ifCond .lt 252, 3) := by decide +kernel
theorem dL_hangs_282 : decode cL_hangs 282 = .ok (.aload_n 0, 1) := by decide +kernel
theorem dL_hangs_283 : decode cL_hangs 283 = .ok (.iload 7, 2) := by decide +kernel
theorem dL_hangs_285 : decode cL_hangs 285 = .ok (.iconst 1, 1) := by decide +kernel
theorem dL_hangs_286 : decode cL_hangs 286 = .ok (.invokestatic 134, 3) := by decide +kernel
theorem dL_hangs_289 : decode cL_hangs 289 = .ok (.bipush 20, 2) := by decide +kernel
theorem dL_hangs_291 : decode cL_hangs 291 = .ok (.if_icmp .gt 240, 3) := by decide +kernel
theorem dL_hangs_294 : decode cL_hangs 294 = .ok (.aload_n 0, 1) := by decide +kernel
theorem dL_hangs_295 : decode cL_hangs 295 = .ok (.iload 7, 2) := by decide +kernel
theorem dL_hangs_297 : decode cL_hangs 297 = .ok (.iconst 2, 1) := by decide +kernel
theorem dL_hangs_298 : decode cL_hangs 298 = .ok (.invokestatic 134, 3) := by decide +kernel
theorem dL_hangs_301 : decode cL_hangs 301 = .ok (.ifCond .lt 230, 3) := by decide +kernel
theorem dL_hangs_304 : decode cL_hangs 304 = .ok (.aload_n 0, 1) := by decide +kernel
theorem dL_hangs_305 : decode cL_hangs 305 = .ok (.iload 7, 2) := by decide +kernel
theorem dL_hangs_307 : decode cL_hangs 307 = .ok (.iconst 2, 1) := by decide +kernel
theorem dL_hangs_308 : decode cL_hangs 308 = .ok (.invokestatic 134, 3) := by decide +kernel
theorem dL_hangs_311 : decode cL_hangs 311 = .ok (.bipush 10, 2) := by decide +kernel
theorem dL_hangs_313 : decode cL_hangs 313 = .ok (.if_icmp .ge 218, 3) := by decide +kernel
theorem dL_hangs_316 : decode cL_hangs 316 = .ok (.aload_n 0, 1) := by decide +kernel
theorem dL_hangs_317 : decode cL_hangs 317 = .ok (.iload 7, 2) := by decide +kernel
theorem dL_hangs_319 : decode cL_hangs 319 = .ok (.iconst 5, 1) := by decide +kernel
theorem dL_hangs_320 : decode cL_hangs 320 = .ok (.invokestatic 134, 3) := by decide +kernel
theorem dL_hangs_323 : decode cL_hangs 323 = .ok (.ifCond .lt 208, 3) := by decide +kernel
theorem dL_hangs_326 : decode cL_hangs 326 = .ok (.aload_n 0, 1) := by decide +kernel
theorem dL_hangs_327 : decode cL_hangs 327 = .ok (.iload 7, 2) := by decide +kernel
theorem dL_hangs_329 : decode cL_hangs 329 = .ok (.iconst 5, 1) := by decide +kernel
theorem dL_hangs_330 : decode cL_hangs 330 = .ok (.invokestatic 134, 3) := by decide +kernel
theorem dL_hangs_333 : decode cL_hangs 333 = .ok (.sipush 200, 3) := by decide +kernel
theorem dL_hangs_336 : decode cL_hangs 336 = .ok (.if_icmp .gt 195, 3) := by decide +kernel
theorem dL_hangs_339 : decode cL_hangs 339 = .ok (.aload_n 0, 1) := by decide +kernel
theorem dL_hangs_340 : decode cL_hangs 340 = .ok (.iload 7, 2) := by decide +kernel
theorem dL_hangs_342 : decode cL_hangs 342 = .ok (.bipush 8, 2) := by decide +kernel
theorem dL_hangs_344 : decode cL_hangs 344 = .ok (.invokestatic 134, 3) := by decide +kernel
theorem dL_hangs_347 : decode cL_hangs 347 = .ok (.ifCond .lt 184, 3) := by decide +kernel
theorem dL_hangs_350 : decode cL_hangs 350 = .ok (.iload 11, 2) := by decide +kernel
theorem dL_hangs_352 : decode cL_hangs 352 = .ok (.aload_n 0, 1) := by decide +kernel
theorem dL_hangs_353 : decode cL_hangs 353 = .ok (.iload 7, 2) := by decide +kernel
theorem dL_hangs_355 : decode cL_hangs 355 = .ok (.iconst 5, 1) := by decide +kernel
theorem dL_hangs_356 : decode cL_hangs 356 = .ok (.invokestatic 134, 3) := by decide +kernel
theorem dL_hangs_359 : decode cL_hangs 359 = .ok (.bipush 100, 2) := by decide +kernel
theorem dL_hangs_361 : decode cL_hangs 361 = .ok (.if_icmp .le 15, 3) := by decide +kernel
theorem dL_hangs_364 : decode cL_hangs 364 = .ok (.aload_n 0, 1) := by decide +kernel
theorem dL_hangs_365 : decode cL_hangs 365 = .ok (.iload 7, 2) := by decide +kernel
theorem dL_hangs_367 : decode cL_hangs 367 = .ok (.iconst 2, 1) := by decide +kernel
theorem dL_hangs_368 : decode cL_hangs 368 = .ok (.invokestatic 134, 3) := by decide +kernel
theorem dL_hangs_371 : decode cL_hangs 371 = .ok (.iconst 2, 1) := by decide +kernel
theorem dL_hangs_372 : decode cL_hangs 372 = .ok (.idiv, 1) := by decide +kernel
theorem dL_hangs_373 : decode cL_hangs 373 = .ok (.goto 10, 3) := by decide +kernel
theorem dL_hangs_376 : decode cL_hangs 376 = .ok (.aload_n 0, 1) := by decide +kernel
theorem dL_hangs_377 : decode cL_hangs 377 = .ok (.iload 7, 2) := by decide +kernel
theorem dL_hangs_379 : decode cL_hangs 379 = .ok (.iconst 2, 1) := by decide +kernel
theorem dL_hangs_380 : decode cL_hangs 380 = .ok (.invokestatic 134, 3) := by decide +kernel
theorem dL_hangs_383 : decode cL_hangs 383 = .ok (.if_icmp .ne 148, 3) := by decide +kernel
theorem dL_hangs_386 : decode cL_hangs 386 = .ok (.iload 8, 2) := by decide +kernel
theorem dL_hangs_388 : decode cL_hangs 388 = .ok (.iconst 1, 1) := by decide +kernel
theorem dL_hangs_389 : decode cL_hangs 389 = .ok (.if_icmp .eq 8, 3) := by decide +kernel
theorem dL_hangs_392 : decode cL_hangs 392 = .ok (.iload 10, 2) := by decide +kernel
theorem dL_hangs_394 : decode cL_hangs 394 = .ok (.ifCond .ne 137, 3) := by decide +kernel
theorem dL_hangs_397 : decode cL_hangs 397 = .ok (.iload 8, 2) := by decide +kernel
theorem dL_hangs_399 : decode cL_hangs 399 = .ok (.ifCond .ne 8, 3) := by decide +kernel
theorem dL_hangs_402 : decode cL_hangs 402 = .ok (.iload 9, 2) := by decide +kernel
theorem dL_hangs_404 : decode cL_hangs 404 = .ok (.ifCond .ne 127, 3) := by decide +kernel
theorem dL_hangs_407 : decode cL_hangs 407 = .ok (.iload 8, 2) := by decide +kernel
theorem dL_hangs_409 : decode cL_hangs 409 = .ok (.iconst 1, 1) := by decide +kernel
theorem dL_hangs_410 : decode cL_hangs 410 = .ok (.if_icmp .ne 11, 3) := by decide +kernel
theorem dL_hangs_413 : decode cL_hangs 413 = .ok (.iload 9, 2) := by decide +kernel
theorem dL_hangs_415 : decode cL_hangs 415 = .ok (.sipush 300, 3) := by decide +kernel
theorem dL_hangs_418 : decode cL_hangs 418 = .ok (.if_icmp .ge 113, 3) := by decide +kernel
theorem dL_hangs_421 : decode cL_hangs 421 = .ok (.iload 8, 2) := by decide +kernel
theorem dL_hangs_423 : decode cL_hangs 423 = .ok (.iconst 2, 1) := by decide +kernel
theorem dL_hangs_424 : decode cL_hangs 424 = .ok (.if_icmp .ne 31, 3) := by decide +kernel
theorem dL_hangs_427 : decode cL_hangs 427 = .ok (.iload 9, 2) := by decide +kernel
theorem dL_hangs_429 : decode cL_hangs 429 = .ok (.sipush 300, 3) := by decide +kernel
theorem dL_hangs_432 : decode cL_hangs 432 = .ok (.if_icmp .ne 99, 3) := by decide +kernel
theorem dL_hangs_435 : decode cL_hangs 435 = .ok (.aload_n 0, 1) := by decide +kernel
theorem dL_hangs_436 : decode cL_hangs 436 = .ok (.iload 7, 2) := by decide +kernel
theorem dL_hangs_438 : decode cL_hangs 438 = .ok (.iconst 1, 1) := by decide +kernel
theorem dL_hangs_439 : decode cL_hangs 439 = .ok (.invokestatic 134, 3) := by decide +kernel
theorem dL_hangs_442 : decode cL_hangs 442 = .ok (.ifCond .ne 89, 3) := by decide +kernel
theorem dL_hangs_445 : decode cL_hangs 445 = .ok (.aload_n 0, 1) := by decide +kernel
theorem dL_hangs_446 : decode cL_hangs 446 = .ok (.iload 7, 2) := by decide +kernel
theorem dL_hangs_448 : decode cL_hangs 448 = .ok (.iconst 2, 1) := by decide +kernel
theorem dL_hangs_449 : decode cL_hangs 449 = .ok (.invokestatic 134, 3) := by decide +kernel
theorem dL_hangs_452 : decode cL_hangs 452 = .ok (.ifCond .ne 79, 3) := by decide +kernel
theorem dL_hangs_455 : decode cL_hangs 455 = .ok (.iload 8, 2) := by decide +kernel
theorem dL_hangs_457 : decode cL_hangs 457 = .ok (.iconst 3, 1) := by decide +kernel
theorem dL_hangs_458 : decode cL_hangs 458 = .ok (.if_icmp .ne 48, 3) := by decide +kernel
theorem dL_hangs_461 : decode cL_hangs 461 = .ok (.iload 9, 2) := by decide +kernel
theorem dL_hangs_463 : decode cL_hangs 463 = .ok (.bipush 10, 2) := by decide +kernel
theorem dL_hangs_465 : decode cL_hangs 465 = .ok (.irem, 1) := by decide +kernel
theorem dL_hangs_466 : decode cL_hangs 466 = .ok (.ifCond .ne 65, 3) := by decide +kernel
theorem dL_hangs_469 : decode cL_hangs 469 = .ok (.iload 9, 2) := by decide +kernel
theorem dL_hangs_471 : decode cL_hangs 471 = .ok (.ifCond .le 60, 3) := by decide +kernel
theorem dL_hangs_474 : decode cL_hangs 474 = .ok (.aload_n 0, 1) := by decide +kernel
theorem dL_hangs_475 : decode cL_hangs 475 = .ok (.iload 9, 2) := by decide +kernel
theorem dL_hangs_477 : decode cL_hangs 477 = .ok (.bipush 10, 2) := by decide +kernel
theorem dL_hangs_479 : decode cL_hangs 479 = .ok (.idiv, 1) := by decide +kernel
theorem dL_hangs_480 : decode cL_hangs 480 = .ok (.iconst 3, 1) := by decide +kernel
theorem dL_hangs_481 : decode cL_hangs 481 = .ok (.invokestatic 136, 3) := by decide +kernel
theorem dL_hangs_484 : decode cL_hangs 484 = .ok (.iload 7, 2) := by decide +kernel
theorem dL_hangs_486 : decode cL_hangs 486 = .ok (.ishr, 1) := by decide +kernel
theorem dL_hangs_487 : decode cL_hangs 487 = .ok (.iconst 1, 1) := by decide +kernel
theorem dL_hangs_488 : decode cL_hangs 488 = .ok (.iand, 1) := by decide +kernel
theorem dL_hangs_489 : decode cL_hangs 489 = .ok (.iconst 1, 1) := by decide +kernel
theorem dL_hangs_490 : decode cL_hangs 490 = .ok (.if_icmp .ne 41, 3) := by decide +kernel
theorem dL_hangs_493 : decode cL_hangs 493 = .ok (.aload_n 0, 1) := by decide +kernel
theorem dL_hangs_494 : decode cL_hangs 494 = .ok (.iload 9, 2) := by decide +kernel
theorem dL_hangs_496 : decode cL_hangs 496 = .ok (.bipush 10, 2) := by decide +kernel
theorem dL_hangs_498 : decode cL_hangs 498 = .ok (.idiv, 1) := by decide +kernel
theorem dL_hangs_499 : decode cL_hangs 499 = .ok (.iconst 4, 1) := by decide +kernel
theorem dL_hangs_500 : decode cL_hangs 500 = .ok (.invokestatic 136, 3) := by decide +kernel
theorem dL_hangs_503 : decode cL_hangs 503 = .ok (.ifCond .le 28, 3) := by decide +kernel
theorem dL_hangs_506 : decode cL_hangs 506 = .ok (.iload 8, 2) := by decide +kernel
theorem dL_hangs_508 : decode cL_hangs 508 = .ok (.iconst 4, 1) := by decide +kernel
theorem dL_hangs_509 : decode cL_hangs 509 = .ok (.if_icmp .ne 18, 3) := by decide +kernel
theorem dL_hangs_512 : decode cL_hangs 512 = .ok (.iload 9, 2) := by decide +kernel
theorem dL_hangs_514 : decode cL_hangs 514 = .ok (.ifCond .le 17, 3) := by decide +kernel
theorem dL_hangs_517 : decode cL_hangs 517 = .ok (.aload_n 0, 1) := by decide +kernel
theorem dL_hangs_518 : decode cL_hangs 518 = .ok (.iload 7, 2) := by decide +kernel
theorem dL_hangs_520 : decode cL_hangs 520 = .ok (.iconst 2, 1) := by decide +kernel
theorem dL_hangs_521 : decode cL_hangs 521 = .ok (.invokestatic 134, 3) := by decide +kernel
theorem dL_hangs_524 : decode cL_hangs 524 = .ok (.ifCond .ne 7, 3) := by decide +kernel
theorem dL_hangs_527 : decode cL_hangs 527 = .ok (.iconst 1, 1) := by decide +kernel
theorem dL_hangs_528 : decode cL_hangs 528 = .ok (.goto 4, 3) := by decide +kernel
theorem dL_hangs_531 : decode cL_hangs 531 = .ok (.iconst 0, 1) := by decide +kernel
theorem dL_hangs_532 : decode cL_hangs 532 = .ok (.istore 6, 2) := by decide +kernel
theorem dL_hangs_534 : decode cL_hangs 534 = .ok (.iload 6, 2) := by decide +kernel
theorem dL_hangs_536 : decode cL_hangs 536 = .ok (.ifCond .eq 97, 3) := by decide +kernel
theorem dL_hangs_539 : decode cL_hangs 539 = .ok (.iload 8, 2) := by decide +kernel
theorem dL_hangs_541 : decode cL_hangs 541 = .ok (.iconst 1, 1) := by decide +kernel
theorem dL_hangs_542 : decode cL_hangs 542 = .ok (.if_icmp .ne 22, 3) := by decide +kernel
theorem dL_hangs_545 : decode cL_hangs 545 = .ok (.aload_n 0, 1) := by decide +kernel
theorem dL_hangs_546 : decode cL_hangs 546 = .ok (.iload 9, 2) := by decide +kernel
theorem dL_hangs_548 : decode cL_hangs 548 = .ok (.bipush 10, 2) := by decide +kernel
theorem dL_hangs_550 : decode cL_hangs 550 = .ok (.idiv, 1) := by decide +kernel
theorem dL_hangs_551 : decode cL_hangs 551 = .ok (.iconst 2, 1) := by decide +kernel
theorem dL_hangs_552 : decode cL_hangs 552 = .ok (.invokestatic 136, 3) := by decide +kernel
theorem dL_hangs_555 : decode cL_hangs 555 = .ok (.iload 7, 2) := by decide +kernel
theorem dL_hangs_557 : decode cL_hangs 557 = .ok (.ishr, 1) := by decide +kernel
theorem dL_hangs_558 : decode cL_hangs 558 = .ok (.iconst 1, 1) := by decide +kernel
theorem dL_hangs_559 : decode cL_hangs 559 = .ok (.iand, 1) := by decide +kernel
theorem dL_hangs_560 : decode cL_hangs 560 = .ok (.iconst 1, 1) := by decide +kernel
theorem dL_hangs_561 : decode cL_hangs 561 = .ok (.if_icmp .ne 72, 3) := by decide +kernel
theorem dL_hangs_564 : decode cL_hangs 564 = .ok (.aload_n 0, 1) := by decide +kernel
theorem dL_hangs_565 : decode cL_hangs 565 = .ok (.iload 7, 2) := by decide +kernel
theorem dL_hangs_567 : decode cL_hangs 567 = .ok (.iconst 1, 1) := by decide +kernel
theorem dL_hangs_568 : decode cL_hangs 568 = .ok (.invokestatic 138, 3) := by decide +kernel
theorem dL_hangs_571 : decode cL_hangs 571 = .ok (.iconst 1, 1) := by decide +kernel
theorem dL_hangs_572 : decode cL_hangs 572 = .ok (.if_icmp .eq 7, 3) := by decide +kernel
theorem dL_hangs_575 : decode cL_hangs 575 = .ok (.iconst 1, 1) := by decide +kernel
theorem dL_hangs_576 : decode cL_hangs 576 = .ok (.goto 4, 3) := by decide +kernel
theorem dL_hangs_579 : decode cL_hangs 579 = .ok (.iconst 0, 1) := by decide +kernel
theorem dL_hangs_580 : decode cL_hangs 580 = .ok (.iload 8, 2) := by decide +kernel
theorem dL_hangs_582 : decode cL_hangs 582 = .ok (.ifCond .ne 7, 3) := by decide +kernel
theorem dL_hangs_585 : decode cL_hangs 585 = .ok (.iconst 1, 1) := by decide +kernel
theorem dL_hangs_586 : decode cL_hangs 586 = .ok (.goto 4, 3) := by decide +kernel
theorem dL_hangs_589 : decode cL_hangs 589 = .ok (.iconst 0, 1) := by decide +kernel
theorem dL_hangs_590 : decode cL_hangs 590 = .ok (.if_icmp .ne 43, 3) := by decide +kernel
theorem dL_hangs_593 : decode cL_hangs 593 = .ok (.aload_n 0, 1) := by decide +kernel
theorem dL_hangs_594 : decode cL_hangs 594 = .ok (.iload 7, 2) := by decide +kernel
theorem dL_hangs_596 : decode cL_hangs 596 = .ok (.iconst 0, 1) := by decide +kernel
theorem dL_hangs_597 : decode cL_hangs 597 = .ok (.invokestatic 138, 3) := by decide +kernel
theorem dL_hangs_600 : decode cL_hangs 600 = .ok (.iconst 1, 1) := by decide +kernel
theorem dL_hangs_601 : decode cL_hangs 601 = .ok (.if_icmp .eq 7, 3) := by decide +kernel
theorem dL_hangs_604 : decode cL_hangs 604 = .ok (.iconst 1, 1) := by decide +kernel
theorem dL_hangs_605 : decode cL_hangs 605 = .ok (.goto 4, 3) := by decide +kernel
theorem dL_hangs_608 : decode cL_hangs 608 = .ok (.iconst 0, 1) := by decide +kernel
theorem dL_hangs_609 : decode cL_hangs 609 = .ok (.iload 8, 2) := by decide +kernel
theorem dL_hangs_611 : decode cL_hangs 611 = .ok (.iconst 2, 1) := by decide +kernel
theorem dL_hangs_612 : decode cL_hangs 612 = .ok (.if_icmp .eq 9, 3) := by decide +kernel
theorem dL_hangs_615 : decode cL_hangs 615 = .ok (.iload 8, 2) := by decide +kernel
theorem dL_hangs_617 : decode cL_hangs 617 = .ok (.iconst 3, 1) := by decide +kernel
theorem dL_hangs_618 : decode cL_hangs 618 = .ok (.if_icmp .ne 7, 3) := by decide +kernel
theorem dL_hangs_621 : decode cL_hangs 621 = .ok (.iconst 1, 1) := by decide +kernel
theorem dL_hangs_622 : decode cL_hangs 622 = .ok (.goto 4, 3) := by decide +kernel
theorem dL_hangs_625 : decode cL_hangs 625 = .ok (.iconst 0, 1) := by decide +kernel
theorem dL_hangs_626 : decode cL_hangs 626 = .ok (.if_icmp .ne 7, 3) := by decide +kernel
theorem dL_hangs_629 : decode cL_hangs 629 = .ok (.iconst 1, 1) := by decide +kernel
theorem dL_hangs_630 : decode cL_hangs 630 = .ok (.goto 4, 3) := by decide +kernel
theorem dL_hangs_633 : decode cL_hangs 633 = .ok (.iconst 0, 1) := by decide +kernel
theorem dL_hangs_634 : decode cL_hangs 634 = .ok (.istore 6, 2) := by decide +kernel
theorem dL_hangs_636 : decode cL_hangs 636 = .ok (.iload_n 3, 1) := by decide +kernel
theorem dL_hangs_637 : decode cL_hangs 637 = .ok (.aload_n 0, 1) := by decide +kernel
theorem dL_hangs_638 : decode cL_hangs 638 = .ok (.iload 7, 2) := by decide +kernel
theorem dL_hangs_640 : decode cL_hangs 640 = .ok (.iconst 1, 1) := by decide +kernel
theorem dL_hangs_641 : decode cL_hangs 641 = .ok (.invokestatic 134, 3) := by decide +kernel
theorem dL_hangs_644 : decode cL_hangs 644 = .ok (.iadd, 1) := by decide +kernel
theorem dL_hangs_645 : decode cL_hangs 645 = .ok (.istore_n 3, 1) := by decide +kernel
theorem dL_hangs_646 : decode cL_hangs 646 = .ok (.iload 4, 2) := by decide +kernel
theorem dL_hangs_648 : decode cL_hangs 648 = .ok (.aload_n 0, 1) := by decide +kernel
theorem dL_hangs_649 : decode cL_hangs 649 = .ok (.iload 7, 2) := by decide +kernel
theorem dL_hangs_651 : decode cL_hangs 651 = .ok (.bipush 7, 2) := by decide +kernel
theorem dL_hangs_653 : decode cL_hangs 653 = .ok (.invokestatic 134, 3) := by decide +kernel
theorem dL_hangs_656 : decode cL_hangs 656 = .ok (.iadd, 1) := by decide +kernel
theorem dL_hangs_657 : decode cL_hangs 657 = .ok (.istore 4, 2) := by decide +kernel
theorem dL_hangs_659 : decode cL_hangs 659 = .ok (.iload 5, 2) := by decide +kernel
theorem dL_hangs_661 : decode cL_hangs 661 = .ok (.iload 8, 2) := by decide +kernel
theorem dL_hangs_663 : decode cL_hangs 663 = .ok (.iconst 4, 1) := by decide +kernel
theorem dL_hangs_664 : decode cL_hangs 664 = .ok (.if_icmp .ne 7, 3) := by decide +kernel
theorem dL_hangs_667 : decode cL_hangs 667 = .ok (.iconst 1, 1) := by decide +kernel
theorem dL_hangs_668 : decode cL_hangs 668 = .ok (.goto 4, 3) := by decide +kernel
theorem dL_hangs_671 : decode cL_hangs 671 = .ok (.iconst 0, 1) := by decide +kernel
theorem dL_hangs_672 : decode cL_hangs 672 = .ok (.iadd, 1) := by decide +kernel
theorem dL_hangs_673 : decode cL_hangs 673 = .ok (.istore 5, 2) := by decide +kernel
theorem dL_hangs_675 : decode cL_hangs 675 = .ok (.iinc 7 1, 3) := by decide +kernel
theorem dL_hangs_678 : decode cL_hangs 678 = .ok (.goto (-520), 3) := by decide +kernel
theorem dL_hangs_681 : decode cL_hangs 681 = .ok (.iconst (-1), 1) := by decide +kernel
theorem dL_hangs_682 : decode cL_hangs 682 = .ok (.istore 7, 2) := by decide +kernel
theorem dL_hangs_684 : decode cL_hangs 684 = .ok (.iconst 0, 1) := by decide +kernel
theorem dL_hangs_685 : decode cL_hangs 685 = .ok (.istore 8, 2) := by decide +kernel
theorem dL_hangs_687 : decode cL_hangs 687 = .ok (.iconst 0, 1) := by decide +kernel
theorem dL_hangs_688 : decode cL_hangs 688 = .ok (.istore 9, 2) := by decide +kernel
theorem dL_hangs_690 : decode cL_hangs 690 = .ok (.iload 9, 2) := by decide +kernel
theorem dL_hangs_692 : decode cL_hangs 692 = .ok (.bipush 8, 2) := by decide +kernel
theorem dL_hangs_694 : decode cL_hangs 694 = .ok (.if_icmp .ge 83, 3) := by decide +kernel
theorem dL_hangs_697 : decode cL_hangs 697 = .ok (.iload 6, 2) := by decide +kernel
theorem dL_hangs_699 : decode cL_hangs 699 = .ok (.ifCond .eq 78, 3) := by decide +kernel
theorem dL_hangs_702 : decode cL_hangs 702 = .ok (.aload_n 0, 1) := by decide +kernel
theorem dL_hangs_703 : decode cL_hangs 703 = .ok (.iload 9, 2) := by decide +kernel
theorem dL_hangs_705 : decode cL_hangs 705 = .ok (.invokestatic 141, 3) := by decide +kernel
theorem dL_hangs_708 : decode cL_hangs 708 = .ok (.istore 10, 2) := by decide +kernel
theorem dL_hangs_710 : decode cL_hangs 710 = .ok (.iload 10, 2) := by decide +kernel
theorem dL_hangs_712 : decode cL_hangs 712 = .ok (.ifCond .lt 59, 3) := by decide +kernel
theorem dL_hangs_715 : decode cL_hangs 715 = .ok (.aload_n 0, 1) := by decide +kernel
theorem dL_hangs_716 : decode cL_hangs 716 = .ok (.iload 10, 2) := by decide +kernel
theorem dL_hangs_718 : decode cL_hangs 718 = .ok (.iconst 0, 1) := by decide +kernel
theorem dL_hangs_719 : decode cL_hangs 719 = .ok (.invokestatic 134, 3) := by decide +kernel
theorem dL_hangs_722 : decode cL_hangs 722 = .ok (.iconst 1, 1) := by decide +kernel
theorem dL_hangs_723 : decode cL_hangs 723 = .ok (.if_icmp .ne 32, 3) := by decide +kernel
theorem dL_hangs_726 : decode cL_hangs 726 = .ok (.iload 7, 2) := by decide +kernel
theorem dL_hangs_728 : decode cL_hangs 728 = .ok (.ifCond .lt 23, 3) := by decide +kernel
theorem dL_hangs_731 : decode cL_hangs 731 = .ok (.aload_n 0, 1) := by decide +kernel
theorem dL_hangs_732 : decode cL_hangs 732 = .ok (.iload 7, 2) := by decide +kernel
theorem dL_hangs_734 : decode cL_hangs 734 = .ok (.iconst 4, 1) := by decide +kernel
theorem dL_hangs_735 : decode cL_hangs 735 = .ok (.invokestatic 134, 3) := by decide +kernel
theorem dL_hangs_738 : decode cL_hangs 738 = .ok (.aload_n 0, 1) := by decide +kernel
theorem dL_hangs_739 : decode cL_hangs 739 = .ok (.iload 10, 2) := by decide +kernel
theorem dL_hangs_741 : decode cL_hangs 741 = .ok (.iconst 4, 1) := by decide +kernel
theorem dL_hangs_742 : decode cL_hangs 742 = .ok (.invokestatic 134, 3) := by decide +kernel
theorem dL_hangs_745 : decode cL_hangs 745 = .ok (.isub, 1) := by decide +kernel
theorem dL_hangs_746 : decode cL_hangs 746 = .ok (.bipush 10, 2) := by decide +kernel
theorem dL_hangs_748 : decode cL_hangs 748 = .ok (.if_icmp .lt 7, 3) := by decide +kernel
theorem dL_hangs_751 : decode cL_hangs 751 = .ok (.iconst 1, 1) := by decide +kernel
theorem dL_hangs_752 : decode cL_hangs 752 = .ok (.goto 4, 3) := by decide +kernel
theorem dL_hangs_755 : decode cL_hangs 755 = .ok (.iconst 0, 1) := by decide +kernel
theorem dL_hangs_756 : decode cL_hangs 756 = .ok (.istore 6, 2) := by decide +kernel
theorem dL_hangs_758 : decode cL_hangs 758 = .ok (.iload 10, 2) := by decide +kernel
theorem dL_hangs_760 : decode cL_hangs 760 = .ok (.istore 7, 2) := by decide +kernel
theorem dL_hangs_762 : decode cL_hangs 762 = .ok (.iload 8, 2) := by decide +kernel
theorem dL_hangs_764 : decode cL_hangs 764 = .ok (.iconst 1, 1) := by decide +kernel
theorem dL_hangs_765 : decode cL_hangs 765 = .ok (.iload 10, 2) := by decide +kernel
theorem dL_hangs_767 : decode cL_hangs 767 = .ok (.ishl, 1) := by decide +kernel
theorem dL_hangs_768 : decode cL_hangs 768 = .ok (.ior, 1) := by decide +kernel
theorem dL_hangs_769 : decode cL_hangs 769 = .ok (.istore 8, 2) := by decide +kernel
theorem dL_hangs_771 : decode cL_hangs 771 = .ok (.iinc 9 1, 3) := by decide +kernel
theorem dL_hangs_774 : decode cL_hangs 774 = .ok (.goto (-84), 3) := by decide +kernel
theorem dL_hangs_777 : decode cL_hangs 777 = .ok (.iload 6, 2) := by decide +kernel
theorem dL_hangs_779 : decode cL_hangs 779 = .ok (.ifCond .eq 103, 3) := by decide +kernel
theorem dL_hangs_782 : decode cL_hangs 782 = .ok (.iload 8, 2) := by decide +kernel
theorem dL_hangs_784 : decode cL_hangs 784 = .ok (.aload_n 0, 1) := by decide +kernel
theorem dL_hangs_785 : decode cL_hangs 785 = .ok (.iconst 1, 1) := by decide +kernel
theorem dL_hangs_786 : decode cL_hangs 786 = .ok (.invokestatic 132, 3) := by decide +kernel
theorem dL_hangs_789 : decode cL_hangs 789 = .ok (.if_icmp .ne 93, 3) := by decide +kernel
theorem dL_hangs_792 : decode cL_hangs 792 = .ok (.aload_n 0, 1) := by decide +kernel
theorem dL_hangs_793 : decode cL_hangs 793 = .ok (.bipush 8, 2) := by decide +kernel
theorem dL_hangs_795 : decode cL_hangs 795 = .ok (.invokestatic 141, 3) := by decide +kernel
theorem dL_hangs_798 : decode cL_hangs 798 = .ok (.iconst (-1), 1) := by decide +kernel
theorem dL_hangs_799 : decode cL_hangs 799 = .ok (.if_icmp .ne 83, 3) := by decide +kernel
theorem dL_hangs_802 : decode cL_hangs 802 = .ok (.iload 8, 2) := by decide +kernel
theorem dL_hangs_804 : decode cL_hangs 804 = .ok (.ifCond .gt 12, 3) := by decide +kernel
theorem dL_hangs_807 : decode cL_hangs 807 = .ok (.aload_n 0, 1) := by decide +kernel
theorem dL_hangs_808 : decode cL_hangs 808 = .ok (.invokevirtual 143, 3) := by decide +kernel
theorem dL_hangs_811 : decode cL_hangs 811 = .ok (.fconst 0, 1) := by decide +kernel
theorem dL_hangs_812 : decode cL_hangs 812 = .ok (.fcmp .l, 1) := by decide +kernel
theorem dL_hangs_813 : decode cL_hangs 813 = .ok (.ifCond .ne 69, 3) := by decide +kernel
theorem dL_hangs_816 : decode cL_hangs 816 = .ok (.aload_n 0, 1) := by decide +kernel
theorem dL_hangs_817 : decode cL_hangs 817 = .ok (.iconst 5, 1) := by decide +kernel
theorem dL_hangs_818 : decode cL_hangs 818 = .ok (.iconst 4, 1) := by decide +kernel
theorem dL_hangs_819 : decode cL_hangs 819 = .ok (.invokestatic 147, 3) := by decide +kernel
theorem dL_hangs_822 : decode cL_hangs 822 = .ok (.ifCond .lt 60, 3) := by decide +kernel
theorem dL_hangs_825 : decode cL_hangs 825 = .ok (.aload_n 0, 1) := by decide +kernel
theorem dL_hangs_826 : decode cL_hangs 826 = .ok (.iconst 5, 1) := by decide +kernel
theorem dL_hangs_827 : decode cL_hangs 827 = .ok (.iconst 4, 1) := by decide +kernel
theorem dL_hangs_828 : decode cL_hangs 828 = .ok (.invokestatic 147, 3) := by decide +kernel
theorem dL_hangs_831 : decode cL_hangs 831 = .ok (.iload 8, 2) := by decide +kernel
theorem dL_hangs_833 : decode cL_hangs 833 = .ok (.iconst (-1), 1) := by decide +kernel
theorem dL_hangs_834 : decode cL_hangs 834 = .ok (.ixor, 1) := by decide +kernel
theorem dL_hangs_835 : decode cL_hangs 835 = .ok (.iand, 1) := by decide +kernel
theorem dL_hangs_836 : decode cL_hangs 836 = .ok (.ifCond .ne 46, 3) := by decide +kernel
theorem dL_hangs_839 : decode cL_hangs 839 = .ok (.aload_n 0, 1) := by decide +kernel
theorem dL_hangs_840 : decode cL_hangs 840 = .ok (.iconst 5, 1) := by decide +kernel
theorem dL_hangs_841 : decode cL_hangs 841 = .ok (.iconst 2, 1) := by decide +kernel
theorem dL_hangs_842 : decode cL_hangs 842 = .ok (.invokestatic 147, 3) := by decide +kernel
theorem dL_hangs_845 : decode cL_hangs 845 = .ok (.aload_n 0, 1) := by decide +kernel
theorem dL_hangs_846 : decode cL_hangs 846 = .ok (.iconst 3, 1) := by decide +kernel
theorem dL_hangs_847 : decode cL_hangs 847 = .ok (.invokestatic 132, 3) := by decide +kernel
theorem dL_hangs_850 : decode cL_hangs 850 = .ok (.iand, 1) := by decide +kernel
theorem dL_hangs_851 : decode cL_hangs 851 = .ok (.aload_n 0, 1) := by decide +kernel
theorem dL_hangs_852 : decode cL_hangs 852 = .ok (.iconst 3, 1) := by decide +kernel
theorem dL_hangs_853 : decode cL_hangs 853 = .ok (.invokestatic 132, 3) := by decide +kernel
theorem dL_hangs_856 : decode cL_hangs 856 = .ok (.if_icmp .ne 26, 3) := by decide +kernel
theorem dL_hangs_859 : decode cL_hangs 859 = .ok (.aload_n 0, 1) := by decide +kernel
theorem dL_hangs_860 : decode cL_hangs 860 = .ok (.bipush 9, 2) := by decide +kernel
theorem dL_hangs_862 : decode cL_hangs 862 = .ok (.iconst 0, 1) := by decide +kernel
theorem dL_hangs_863 : decode cL_hangs 863 = .ok (.invokestatic 147, 3) := by decide +kernel
theorem dL_hangs_866 : decode cL_hangs 866 = .ok (.aload_n 0, 1) := by decide +kernel
theorem dL_hangs_867 : decode cL_hangs 867 = .ok (.bipush 9, 2) := by decide +kernel
theorem dL_hangs_869 : decode cL_hangs 869 = .ok (.iconst 1, 1) := by decide +kernel
theorem dL_hangs_870 : decode cL_hangs 870 = .ok (.invokestatic 147, 3) := by decide +kernel
theorem dL_hangs_873 : decode cL_hangs 873 = .ok (.iadd, 1) := by decide +kernel
theorem dL_hangs_874 : decode cL_hangs 874 = .ok (.iload_n 3, 1) := by decide +kernel
theorem dL_hangs_875 : decode cL_hangs 875 = .ok (.if_icmp .gt 7, 3) := by decide +kernel
theorem dL_hangs_878 : decode cL_hangs 878 = .ok (.iconst 1, 1) := by decide +kernel
theorem dL_hangs_879 : decode cL_hangs 879 = .ok (.goto 4, 3) := by decide +kernel
theorem dL_hangs_882 : decode cL_hangs 882 = .ok (.iconst 0, 1) := by decide +kernel
theorem dL_hangs_883 : decode cL_hangs 883 = .ok (.istore 6, 2) := by decide +kernel
theorem dL_hangs_885 : decode cL_hangs 885 = .ok (.aload_n 0, 1) := by decide +kernel
theorem dL_hangs_886 : decode cL_hangs 886 = .ok (.bipush 13, 2) := by decide +kernel
theorem dL_hangs_888 : decode cL_hangs 888 = .ok (.invokestatic 91, 3) := by decide +kernel
theorem dL_hangs_891 : decode cL_hangs 891 = .ok (.iload 5, 2) := by decide +kernel
theorem dL_hangs_893 : decode cL_hangs 893 = .ok (.isub, 1) := by decide +kernel
theorem dL_hangs_894 : decode cL_hangs 894 = .ok (.istore 9, 2) := by decide +kernel
theorem dL_hangs_896 : decode cL_hangs 896 = .ok (.iload 6, 2) := by decide +kernel
theorem dL_hangs_898 : decode cL_hangs 898 = .ok (.ifCond .eq 76, 3) := by decide +kernel
theorem dL_hangs_901 : decode cL_hangs 901 = .ok (.iload_n 3, 1) := by decide +kernel
theorem dL_hangs_902 : decode cL_hangs 902 = .ok (.aload_n 0, 1) := by decide +kernel
theorem dL_hangs_903 : decode cL_hangs 903 = .ok (.bipush 6, 2) := by decide +kernel
theorem dL_hangs_905 : decode cL_hangs 905 = .ok (.invokestatic 91, 3) := by decide +kernel
theorem dL_hangs_908 : decode cL_hangs 908 = .ok (.if_icmp .ne 66, 3) := by decide +kernel
theorem dL_hangs_911 : decode cL_hangs 911 = .ok (.iload 4, 2) := by decide +kernel
theorem dL_hangs_913 : decode cL_hangs 913 = .ok (.aload_n 0, 1) := by decide +kernel
theorem dL_hangs_914 : decode cL_hangs 914 = .ok (.iconst 4, 1) := by decide +kernel
theorem dL_hangs_915 : decode cL_hangs 915 = .ok (.invokestatic 91, 3) := by decide +kernel
theorem dL_hangs_918 : decode cL_hangs 918 = .ok (.if_icmp .ne 56, 3) := by decide +kernel
theorem dL_hangs_921 : decode cL_hangs 921 = .ok (.aload_n 0, 1) := by decide +kernel
theorem dL_hangs_922 : decode cL_hangs 922 = .ok (.iconst 3, 1) := by decide +kernel
theorem dL_hangs_923 : decode cL_hangs 923 = .ok (.invokestatic 91, 3) := by decide +kernel
theorem dL_hangs_926 : decode cL_hangs 926 = .ok (.aload_n 0, 1) := by decide +kernel
theorem dL_hangs_927 : decode cL_hangs 927 = .ok (.iconst 4, 1) := by decide +kernel
theorem dL_hangs_928 : decode cL_hangs 928 = .ok (.invokestatic 91, 3) := by decide +kernel
theorem dL_hangs_931 : decode cL_hangs 931 = .ok (.aload_n 0, 1) := by decide +kernel
theorem dL_hangs_932 : decode cL_hangs 932 = .ok (.iconst 5, 1) := by decide +kernel
theorem dL_hangs_933 : decode cL_hangs 933 = .ok (.invokestatic 91, 3) := by decide +kernel
theorem dL_hangs_936 : decode cL_hangs 936 = .ok (.iadd, 1) := by decide +kernel
theorem dL_hangs_937 : decode cL_hangs 937 = .ok (.iload_n 3, 1) := by decide +kernel
theorem dL_hangs_938 : decode cL_hangs 938 = .ok (.iadd, 1) := by decide +kernel
theorem dL_hangs_939 : decode cL_hangs 939 = .ok (.if_icmp .ne 35, 3) := by decide +kernel
theorem dL_hangs_942 : decode cL_hangs 942 = .ok (.aload_n 0, 1) := by decide +kernel
theorem dL_hangs_943 : decode cL_hangs 943 = .ok (.bipush 7, 2) := by decide +kernel
theorem dL_hangs_945 : decode cL_hangs 945 = .ok (.invokestatic 91, 3) := by decide +kernel
theorem dL_hangs_948 : decode cL_hangs 948 = .ok (.iload 9, 2) := by decide +kernel
theorem dL_hangs_950 : decode cL_hangs 950 = .ok (.ifCond .le 8, 3) := by decide +kernel
theorem dL_hangs_953 : decode cL_hangs 953 = .ok (.iload 9, 2) := by decide +kernel
theorem dL_hangs_955 : decode cL_hangs 955 = .ok (.goto 4, 3) := by decide +kernel
theorem dL_hangs_958 : decode cL_hangs 958 = .ok (.iconst 0, 1) := by decide +kernel
theorem dL_hangs_959 : decode cL_hangs 959 = .ok (.if_icmp .ne 15, 3) := by decide +kernel
theorem dL_hangs_962 : decode cL_hangs 962 = .ok (.aload_n 0, 1) := by decide +kernel
theorem dL_hangs_963 : decode cL_hangs 963 = .ok (.iconst 5, 1) := by decide +kernel
theorem dL_hangs_964 : decode cL_hangs 964 = .ok (.invokestatic 91, 3) := by decide +kernel
theorem dL_hangs_967 : decode cL_hangs 967 = .ok (.ifCond .lt 7, 3) := by decide +kernel
theorem dL_hangs_970 : decode cL_hangs 970 = .ok (.iconst 1, 1) := by decide +kernel
theorem dL_hangs_971 : decode cL_hangs 971 = .ok (.goto 4, 3) := by decide +kernel
theorem dL_hangs_974 : decode cL_hangs 974 = .ok (.iconst 0, 1) := by decide +kernel
theorem dL_hangs_975 : decode cL_hangs 975 = .ok (.ireturn, 1) := by decide +kernel
theorem dL_same_0 : decode cL_same 0 = .ok (.aload_n 0, 1) := by decide +kernel
theorem dL_same_1 : decode cL_same 1 = .ok (.invokevirtual 143, 3) := by decide +kernel
theorem dL_same_4 : decode cL_same 4 = .ok (.aload_n 1, 1) := by decide +kernel
theorem dL_same_5 : decode cL_same 5 = .ok (.invokevirtual 143, 3) := by decide +kernel
theorem dL_same_8 : decode cL_same 8 = .ok (.fcmp .l, 1) := by decide +kernel
theorem dL_same_9 : decode cL_same 9 = .ok (.ifCond .ne 7, 3) := by decide +kernel
theorem dL_same_12 : decode cL_same 12 = .ok (.iconst 1, 1) := by decide +kernel
theorem dL_same_13 : decode cL_same 13 = .ok (.goto 4, 3) := by decide +kernel
theorem dL_same_16 : decode cL_same 16 = .ok (.iconst 0, 1) := by decide +kernel
theorem dL_same_17 : decode cL_same 17 = .ok (.istore_n 2, 1) := by decide +kernel
theorem dL_same_18 : decode cL_same 18 = .ok (.iconst 0, 1) := by decide +kernel
theorem dL_same_19 : decode cL_same 19 = .ok (.istore_n 3, 1) := by decide +kernel
theorem dL_same_20 : decode cL_same 20 = .ok (.iload_n 3, 1) := by decide +kernel
theorem dL_same_21 : decode cL_same 21 = .ok (.bipush 14, 2) := by decide +kernel
theorem dL_same_23 : decode cL_same 23 = .ok (.if_icmp .ge 38, 3) := by decide +kernel
theorem dL_same_26 : decode cL_same 26 = .ok (.iload_n 2, 1) := by decide +kernel
theorem dL_same_27 : decode cL_same 27 = .ok (.ifCond .eq 34, 3) := by decide +kernel
theorem dL_same_30 : decode cL_same 30 = .ok (.iload_n 3, 1) := by decide +kernel
theorem dL_same_31 : decode cL_same 31 = .ok (.bipush 10, 2) := by decide +kernel
theorem dL_same_33 : decode cL_same 33 = .ok (.if_icmp .eq 16, 3) := by decide +kernel
theorem dL_same_36 : decode cL_same 36 = .ok (.aload_n 0, 1) := by decide +kernel
theorem dL_same_37 : decode cL_same 37 = .ok (.iload_n 3, 1) := by decide +kernel
theorem dL_same_38 : decode cL_same 38 = .ok (.invokestatic 91, 3) := by decide +kernel
theorem dL_same_41 : decode cL_same 41 = .ok (.aload_n 1, 1) := by decide +kernel
theorem dL_same_42 : decode cL_same 42 = .ok (.iload_n 3, 1) := by decide +kernel
theorem dL_same_43 : decode cL_same 43 = .ok (.invokestatic 91, 3) := by decide +kernel
theorem dL_same_46 : decode cL_same 46 = .ok (.if_icmp .ne 7, 3) := by decide +kernel
theorem dL_same_49 : decode cL_same 49 = .ok (.iconst 1, 1) := by decide +kernel
theorem dL_same_50 : decode cL_same 50 = .ok (.goto 4, 3) := by decide +kernel
theorem dL_same_53 : decode cL_same 53 = .ok (.iconst 0, 1) := by decide +kernel
theorem dL_same_54 : decode cL_same 54 = .ok (.istore_n 2, 1) := by decide +kernel
theorem dL_same_55 : decode cL_same 55 = .ok (.iinc 3 1, 3) := by decide +kernel
theorem dL_same_58 : decode cL_same 58 = .ok (.goto (-38), 3) := by decide +kernel
theorem dL_same_61 : decode cL_same 61 = .ok (.iconst 0, 1) := by decide +kernel
theorem dL_same_62 : decode cL_same 62 = .ok (.istore_n 3, 1) := by decide +kernel
theorem dL_same_63 : decode cL_same 63 = .ok (.iload_n 3, 1) := by decide +kernel
theorem dL_same_64 : decode cL_same 64 = .ok (.bipush 8, 2) := by decide +kernel
theorem dL_same_66 : decode cL_same 66 = .ok (.if_icmp .ge 56, 3) := by decide +kernel
theorem dL_same_69 : decode cL_same 69 = .ok (.iload_n 2, 1) := by decide +kernel
theorem dL_same_70 : decode cL_same 70 = .ok (.ifCond .eq 52, 3) := by decide +kernel
theorem dL_same_73 : decode cL_same 73 = .ok (.iconst 0, 1) := by decide +kernel
theorem dL_same_74 : decode cL_same 74 = .ok (.istore 4, 2) := by decide +kernel
theorem dL_same_76 : decode cL_same 76 = .ok (.iload 4, 2) := by decide +kernel
theorem dL_same_78 : decode cL_same 78 = .ok (.bipush 10, 2) := by decide +kernel
theorem dL_same_80 : decode cL_same 80 = .ok (.if_icmp .ge 36, 3) := by decide +kernel
theorem dL_same_83 : decode cL_same 83 = .ok (.iload_n 2, 1) := by decide +kernel
theorem dL_same_84 : decode cL_same 84 = .ok (.ifCond .eq 32, 3) := by decide +kernel
theorem dL_same_87 : decode cL_same 87 = .ok (.aload_n 0, 1) := by decide +kernel
theorem dL_same_88 : decode cL_same 88 = .ok (.iload_n 3, 1) := by decide +kernel
theorem dL_same_89 : decode cL_same 89 = .ok (.iload 4, 2) := by decide +kernel
theorem dL_same_91 : decode cL_same 91 = .ok (.invokestatic 134, 3) := by decide +kernel
theorem dL_same_94 : decode cL_same 94 = .ok (.aload_n 1, 1) := by decide +kernel
theorem dL_same_95 : decode cL_same 95 = .ok (.iload_n 3, 1) := by decide +kernel
theorem dL_same_96 : decode cL_same 96 = .ok (.iload 4, 2) := by decide +kernel
theorem dL_same_98 : decode cL_same 98 = .ok (.invokestatic 134, 3) := by decide +kernel
theorem dL_same_101 : decode cL_same 101 = .ok (.if_icmp .ne 7, 3) := by decide +kernel
theorem dL_same_104 : decode cL_same 104 = .ok (.iconst 1, 1) := by decide +kernel
theorem dL_same_105 : decode cL_same 105 = .ok (.goto 4, 3) := by decide +kernel
theorem dL_same_108 : decode cL_same 108 = .ok (.iconst 0, 1) := by decide +kernel
theorem dL_same_109 : decode cL_same 109 = .ok (.istore_n 2, 1) := by decide +kernel
theorem dL_same_110 : decode cL_same 110 = .ok (.iinc 4 1, 3) := by decide +kernel
theorem dL_same_113 : decode cL_same 113 = .ok (.goto (-37), 3) := by decide +kernel
theorem dL_same_116 : decode cL_same 116 = .ok (.iinc 3 1, 3) := by decide +kernel
theorem dL_same_119 : decode cL_same 119 = .ok (.goto (-56), 3) := by decide +kernel
theorem dL_same_122 : decode cL_same 122 = .ok (.iconst 0, 1) := by decide +kernel
theorem dL_same_123 : decode cL_same 123 = .ok (.istore_n 3, 1) := by decide +kernel
theorem dL_same_124 : decode cL_same 124 = .ok (.iload_n 3, 1) := by decide +kernel
theorem dL_same_125 : decode cL_same 125 = .ok (.bipush 30, 2) := by decide +kernel
theorem dL_same_127 : decode cL_same 127 = .ok (.if_icmp .ge 64, 3) := by decide +kernel
theorem dL_same_130 : decode cL_same 130 = .ok (.iload_n 2, 1) := by decide +kernel
theorem dL_same_131 : decode cL_same 131 = .ok (.ifCond .eq 60, 3) := by decide +kernel
theorem dL_same_134 : decode cL_same 134 = .ok (.aload_n 0, 1) := by decide +kernel
theorem dL_same_135 : decode cL_same 135 = .ok (.iload_n 3, 1) := by decide +kernel
theorem dL_same_136 : decode cL_same 136 = .ok (.iconst 0, 1) := by decide +kernel
theorem dL_same_137 : decode cL_same 137 = .ok (.invokestatic 136, 3) := by decide +kernel
theorem dL_same_140 : decode cL_same 140 = .ok (.aload_n 1, 1) := by decide +kernel
theorem dL_same_141 : decode cL_same 141 = .ok (.iload_n 3, 1) := by decide +kernel
theorem dL_same_142 : decode cL_same 142 = .ok (.iconst 0, 1) := by decide +kernel
theorem dL_same_143 : decode cL_same 143 = .ok (.invokestatic 136, 3) := by decide +kernel
theorem dL_same_146 : decode cL_same 146 = .ok (.if_icmp .ne 37, 3) := by decide +kernel
theorem dL_same_149 : decode cL_same 149 = .ok (.aload_n 0, 1) := by decide +kernel
theorem dL_same_150 : decode cL_same 150 = .ok (.iload_n 3, 1) := by decide +kernel
theorem dL_same_151 : decode cL_same 151 = .ok (.iconst 1, 1) := by decide +kernel
theorem dL_same_152 : decode cL_same 152 = .ok (.invokestatic 136, 3) := by decide +kernel
theorem dL_same_155 : decode cL_same 155 = .ok (.aload_n 1, 1) := by decide +kernel
theorem dL_same_156 : decode cL_same 156 = .ok (.iload_n 3, 1) := by decide +kernel
theorem dL_same_157 : decode cL_same 157 = .ok (.iconst 1, 1) := by decide +kernel
theorem dL_same_158 : decode cL_same 158 = .ok (.invokestatic 136, 3) := by decide +kernel
theorem dL_same_161 : decode cL_same 161 = .ok (.if_icmp .ne 22, 3) := by decide +kernel
theorem dL_same_164 : decode cL_same 164 = .ok (.aload_n 0, 1) := by decide +kernel
theorem dL_same_165 : decode cL_same 165 = .ok (.iload_n 3, 1) := by decide +kernel
theorem dL_same_166 : decode cL_same 166 = .ok (.iconst 4, 1) := by decide +kernel
theorem dL_same_167 : decode cL_same 167 = .ok (.invokestatic 136, 3) := by decide +kernel
theorem dL_same_170 : decode cL_same 170 = .ok (.aload_n 1, 1) := by decide +kernel
theorem dL_same_171 : decode cL_same 171 = .ok (.iload_n 3, 1) := by decide +kernel
theorem dL_same_172 : decode cL_same 172 = .ok (.iconst 4, 1) := by decide +kernel
theorem dL_same_173 : decode cL_same 173 = .ok (.invokestatic 136, 3) := by decide +kernel
theorem dL_same_176 : decode cL_same 176 = .ok (.if_icmp .ne 7, 3) := by decide +kernel
theorem dL_same_179 : decode cL_same 179 = .ok (.iconst 1, 1) := by decide +kernel
theorem dL_same_180 : decode cL_same 180 = .ok (.goto 4, 3) := by decide +kernel
theorem dL_same_183 : decode cL_same 183 = .ok (.iconst 0, 1) := by decide +kernel
theorem dL_same_184 : decode cL_same 184 = .ok (.istore_n 2, 1) := by decide +kernel
theorem dL_same_185 : decode cL_same 185 = .ok (.iinc 3 1, 3) := by decide +kernel
theorem dL_same_188 : decode cL_same 188 = .ok (.goto (-64), 3) := by decide +kernel
theorem dL_same_191 : decode cL_same 191 = .ok (.iload_n 2, 1) := by decide +kernel
theorem dL_same_192 : decode cL_same 192 = .ok (.ireturn, 1) := by decide +kernel
theorem dL_refuses_0 : decode cL_refuses 0 = .ok (.aload_n 0, 1) := by decide +kernel
theorem dL_refuses_1 : decode cL_refuses 1 = .ok (.iconst 1, 1) := by decide +kernel
theorem dL_refuses_2 : decode cL_refuses 2 = .ok (.invokestatic 91, 3) := by decide +kernel
theorem dL_refuses_5 : decode cL_refuses 5 = .ok (.istore_n 2, 1) := by decide +kernel
theorem dL_refuses_6 : decode cL_refuses 6 = .ok (.iload_n 1, 1) := by decide +kernel
theorem dL_refuses_7 : decode cL_refuses 7 = .ok (.iconst 2, 1) := by decide +kernel
theorem dL_refuses_8 : decode cL_refuses 8 = .ok (.irem, 1) := by decide +kernel
theorem dL_refuses_9 : decode cL_refuses 9 = .ok (.ifCond .ne 9, 3) := by decide +kernel
theorem dL_refuses_12 : decode cL_refuses 12 = .ok (.iload_n 2, 1) := by decide +kernel
theorem dL_refuses_13 : decode cL_refuses 13 = .ok (.iload_n 1, 1) := by decide +kernel
theorem dL_refuses_14 : decode cL_refuses 14 = .ok (.iadd, 1) := by decide +kernel
theorem dL_refuses_15 : decode cL_refuses 15 = .ok (.goto 6, 3) := by decide +kernel
theorem dL_refuses_18 : decode cL_refuses 18 = .ok (.iconst (-1), 1) := by decide +kernel
theorem dL_refuses_19 : decode cL_refuses 19 = .ok (.iload_n 1, 1) := by decide +kernel
theorem dL_refuses_20 : decode cL_refuses 20 = .ok (.isub, 1) := by decide +kernel
theorem dL_refuses_21 : decode cL_refuses 21 = .ok (.istore_n 3, 1) := by decide +kernel
theorem dL_refuses_22 : decode cL_refuses 22 = .ok (.aload_n 0, 1) := by decide +kernel
theorem dL_refuses_23 : decode cL_refuses 23 = .ok (.bipush 30, 2) := by decide +kernel
theorem dL_refuses_25 : decode cL_refuses 25 = .ok (.iload_n 1, 1) := by decide +kernel
theorem dL_refuses_26 : decode cL_refuses 26 = .ok (.iadd, 1) := by decide +kernel
theorem dL_refuses_27 : decode cL_refuses 27 = .ok (.iconst 0, 1) := by decide +kernel
theorem dL_refuses_28 : decode cL_refuses 28 = .ok (.invokestatic 99, 3) := by decide +kernel
theorem dL_refuses_31 : decode cL_refuses 31 = .ok (.bipush (-3), 2) := by decide +kernel
theorem dL_refuses_33 : decode cL_refuses 33 = .ok (.if_icmp .ne 425, 3) := by decide +kernel
theorem dL_refuses_36 : decode cL_refuses 36 = .ok (.aload_n 0, 1) := by decide +kernel
theorem dL_refuses_37 : decode cL_refuses 37 = .ok (.iconst 0, 1) := by decide +kernel
theorem dL_refuses_38 : decode cL_refuses 38 = .ok (.bipush 10, 2) := by decide +kernel
theorem dL_refuses_40 : decode cL_refuses 40 = .ok (.iload_n 1, 1) := by decide +kernel
theorem dL_refuses_41 : decode cL_refuses 41 = .ok (.iadd, 1) := by decide +kernel
theorem dL_refuses_42 : decode cL_refuses 42 = .ok (.invokestatic 99, 3) := by decide +kernel
theorem dL_refuses_45 : decode cL_refuses 45 = .ok (.bipush (-2), 2) := by decide +kernel
theorem dL_refuses_47 : decode cL_refuses 47 = .ok (.if_icmp .ne 411, 3) := by decide +kernel
theorem dL_refuses_50 : decode cL_refuses 50 = .ok (.aload_n 0, 1) := by decide +kernel
theorem dL_refuses_51 : decode cL_refuses 51 = .ok (.iconst 0, 1) := by decide +kernel
theorem dL_refuses_52 : decode cL_refuses 52 = .ok (.iconst 0, 1) := by decide +kernel
theorem dL_refuses_53 : decode cL_refuses 53 = .ok (.invokestatic 102, 3) := by decide +kernel
theorem dL_refuses_56 : decode cL_refuses 56 = .ok (.bipush (-3), 2) := by decide +kernel
theorem dL_refuses_58 : decode cL_refuses 58 = .ok (.if_icmp .ne 400, 3) := by decide +kernel
theorem dL_refuses_61 : decode cL_refuses 61 = .ok (.aload_n 0, 1) := by decide +kernel
theorem dL_refuses_62 : decode cL_refuses 62 = .ok (.bipush 30, 2) := by decide +kernel
theorem dL_refuses_64 : decode cL_refuses 64 = .ok (.iload_n 1, 1) := by decide +kernel
theorem dL_refuses_65 : decode cL_refuses 65 = .ok (.iadd, 1) := by decide +kernel
theorem dL_refuses_66 : decode cL_refuses 66 = .ok (.bipush 50, 2) := by decide +kernel
theorem dL_refuses_68 : decode cL_refuses 68 = .ok (.invokestatic 102, 3) := by decide +kernel
theorem dL_refuses_71 : decode cL_refuses 71 = .ok (.bipush (-3), 2) := by decide +kernel
theorem dL_refuses_73 : decode cL_refuses 73 = .ok (.if_icmp .ne 385, 3) := by decide +kernel
theorem dL_refuses_76 : decode cL_refuses 76 = .ok (.aload_n 0, 1) := by decide +kernel
theorem dL_refuses_77 : decode cL_refuses 77 = .ok (.iconst 1, 1) := by decide +kernel
theorem dL_refuses_78 : decode cL_refuses 78 = .ok (.bipush 41, 2) := by decide +kernel
theorem dL_refuses_80 : decode cL_refuses 80 = .ok (.iload_n 1, 1) := by decide +kernel
theorem dL_refuses_81 : decode cL_refuses 81 = .ok (.iadd, 1) := by decide +kernel
theorem dL_refuses_82 : decode cL_refuses 82 = .ok (.invokestatic 102, 3) := by decide +kernel
theorem dL_refuses_85 : decode cL_refuses 85 = .ok (.bipush (-2), 2) := by decide +kernel
theorem dL_refuses_87 : decode cL_refuses 87 = .ok (.if_icmp .ne 371, 3) := by decide +kernel
theorem dL_refuses_90 : decode cL_refuses 90 = .ok (.aload_n 0, 1) := by decide +kernel
theorem dL_refuses_91 : decode cL_refuses 91 = .ok (.bipush 29, 2) := by decide +kernel
theorem dL_refuses_93 : decode cL_refuses 93 = .ok (.iconst (-1), 1) := by decide +kernel
theorem dL_refuses_94 : decode cL_refuses 94 = .ok (.iload_n 1, 1) := by decide +kernel
theorem dL_refuses_95 : decode cL_refuses 95 = .ok (.isub, 1) := by decide +kernel
theorem dL_refuses_96 : decode cL_refuses 96 = .ok (.invokestatic 102, 3) := by decide +kernel
theorem dL_refuses_99 : decode cL_refuses 99 = .ok (.bipush (-2), 2) := by decide +kernel
theorem dL_refuses_101 : decode cL_refuses 101 = .ok (.if_icmp .ne 357, 3) := by decide +kernel
theorem dL_refuses_104 : decode cL_refuses 104 = .ok (.iload_n 2, 1) := by decide +kernel
theorem dL_refuses_105 : decode cL_refuses 105 = .ok (.bipush 8, 2) := by decide +kernel
theorem dL_refuses_107 : decode cL_refuses 107 = .ok (.if_icmp .lt 12, 3) := by decide +kernel
theorem dL_refuses_110 : decode cL_refuses 110 = .ok (.aload_n 0, 1) := by decide +kernel
theorem dL_refuses_111 : decode cL_refuses 111 = .ok (.invokestatic 96, 3) := by decide +kernel
theorem dL_refuses_114 : decode cL_refuses 114 = .ok (.bipush (-2), 2) := by decide +kernel
theorem dL_refuses_116 : decode cL_refuses 116 = .ok (.if_icmp .ne 342, 3) := by decide +kernel
theorem dL_refuses_119 : decode cL_refuses 119 = .ok (.aload_n 0, 1) := by decide +kernel
theorem dL_refuses_120 : decode cL_refuses 120 = .ok (.iload_n 3, 1) := by decide +kernel
theorem dL_refuses_121 : decode cL_refuses 121 = .ok (.iconst 0, 1) := by decide +kernel
theorem dL_refuses_122 : decode cL_refuses 122 = .ok (.invokestatic 104, 3) := by decide +kernel
theorem dL_refuses_125 : decode cL_refuses 125 = .ok (.bipush (-3), 2) := by decide +kernel
theorem dL_refuses_127 : decode cL_refuses 127 = .ok (.if_icmp .ne 331, 3) := by decide +kernel
theorem dL_refuses_130 : decode cL_refuses 130 = .ok (.aload_n 0, 1) := by decide +kernel
theorem dL_refuses_131 : decode cL_refuses 131 = .ok (.iload_n 3, 1) := by decide +kernel
theorem dL_refuses_132 : decode cL_refuses 132 = .ok (.bipush 10, 2) := by decide +kernel
theorem dL_refuses_134 : decode cL_refuses 134 = .ok (.invokestatic 106, 3) := by decide +kernel
theorem dL_refuses_137 : decode cL_refuses 137 = .ok (.bipush (-3), 2) := by decide +kernel
theorem dL_refuses_139 : decode cL_refuses 139 = .ok (.if_icmp .ne 319, 3) := by decide +kernel
theorem dL_refuses_142 : decode cL_refuses 142 = .ok (.aload_n 0, 1) := by decide +kernel
theorem dL_refuses_143 : decode cL_refuses 143 = .ok (.iload_n 3, 1) := by decide +kernel
theorem dL_refuses_144 : decode cL_refuses 144 = .ok (.iconst 0, 1) := by decide +kernel
theorem dL_refuses_145 : decode cL_refuses 145 = .ok (.invokestatic 108, 3) := by decide +kernel
theorem dL_refuses_148 : decode cL_refuses 148 = .ok (.bipush (-3), 2) := by decide +kernel
theorem dL_refuses_150 : decode cL_refuses 150 = .ok (.if_icmp .ne 308, 3) := by decide +kernel
theorem dL_refuses_153 : decode cL_refuses 153 = .ok (.aload_n 0, 1) := by decide +kernel
theorem dL_refuses_154 : decode cL_refuses 154 = .ok (.iload_n 3, 1) := by decide +kernel
theorem dL_refuses_155 : decode cL_refuses 155 = .ok (.invokestatic 110, 3) := by decide +kernel
theorem dL_refuses_158 : decode cL_refuses 158 = .ok (.bipush (-3), 2) := by decide +kernel
theorem dL_refuses_160 : decode cL_refuses 160 = .ok (.if_icmp .ne 298, 3) := by decide +kernel
theorem dL_refuses_163 : decode cL_refuses 163 = .ok (.aload_n 0, 1) := by decide +kernel
theorem dL_refuses_164 : decode cL_refuses 164 = .ok (.iconst 3, 1) := by decide +kernel
theorem dL_refuses_165 : decode cL_refuses 165 = .ok (.iload_n 1, 1) := by decide +kernel
theorem dL_refuses_166 : decode cL_refuses 166 = .ok (.iadd, 1) := by decide +kernel
theorem dL_refuses_167 : decode cL_refuses 167 = .ok (.iconst 0, 1) := by decide +kernel
theorem dL_refuses_168 : decode cL_refuses 168 = .ok (.invokestatic 112, 3) := by decide +kernel
theorem dL_refuses_171 : decode cL_refuses 171 = .ok (.bipush (-3), 2) := by decide +kernel
theorem dL_refuses_173 : decode cL_refuses 173 = .ok (.if_icmp .ne 285, 3) := by decide +kernel
theorem dL_refuses_176 : decode cL_refuses 176 = .ok (.aload_n 0, 1) := by decide +kernel
theorem dL_refuses_177 : decode cL_refuses 177 = .ok (.iconst 0, 1) := by decide +kernel
theorem dL_refuses_178 : decode cL_refuses 178 = .ok (.bipush 6, 2) := by decide +kernel
theorem dL_refuses_180 : decode cL_refuses 180 = .ok (.iload_n 1, 1) := by decide +kernel
theorem dL_refuses_181 : decode cL_refuses 181 = .ok (.iadd, 1) := by decide +kernel
theorem dL_refuses_182 : decode cL_refuses 182 = .ok (.invokestatic 112, 3) := by decide +kernel
theorem dL_refuses_185 : decode cL_refuses 185 = .ok (.bipush (-2), 2) := by decide +kernel
theorem dL_refuses_187 : decode cL_refuses 187 = .ok (.if_icmp .ne 271, 3) := by decide +kernel
theorem dL_refuses_190 : decode cL_refuses 190 = .ok (.aload_n 0, 1) := by decide +kernel
theorem dL_refuses_191 : decode cL_refuses 191 = .ok (.iconst 1, 1) := by decide +kernel
theorem dL_refuses_192 : decode cL_refuses 192 = .ok (.iconst 0, 1) := by decide +kernel
theorem dL_refuses_193 : decode cL_refuses 193 = .ok (.invokestatic 112, 3) := by decide +kernel
theorem dL_refuses_196 : decode cL_refuses 196 = .ok (.bipush (-2), 2) := by decide +kernel
theorem dL_refuses_198 : decode cL_refuses 198 = .ok (.if_icmp .ne 260, 3) := by decide +kernel
theorem dL_refuses_201 : decode cL_refuses 201 = .ok (.aload_n 0, 1) := by decide +kernel
theorem dL_refuses_202 : decode cL_refuses 202 = .ok (.iconst 2, 1) := by decide +kernel
theorem dL_refuses_203 : decode cL_refuses 203 = .ok (.iconst (-1), 1) := by decide +kernel
theorem dL_refuses_204 : decode cL_refuses 204 = .ok (.iload_n 1, 1) := by decide +kernel
theorem dL_refuses_205 : decode cL_refuses 205 = .ok (.isub, 1) := by decide +kernel
theorem dL_refuses_206 : decode cL_refuses 206 = .ok (.invokestatic 112, 3) := by decide +kernel
theorem dL_refuses_209 : decode cL_refuses 209 = .ok (.bipush (-2), 2) := by decide +kernel
theorem dL_refuses_211 : decode cL_refuses 211 = .ok (.if_icmp .ne 247, 3) := by decide +kernel
theorem dL_refuses_214 : decode cL_refuses 214 = .ok (.aload_n 0, 1) := by decide +kernel
theorem dL_refuses_215 : decode cL_refuses 215 = .ok (.iconst 0, 1) := by decide +kernel
theorem dL_refuses_216 : decode cL_refuses 216 = .ok (.invokestatic 130, 3) := by decide +kernel
theorem dL_refuses_219 : decode cL_refuses 219 = .ok (.bipush (-2), 2) := by decide +kernel
theorem dL_refuses_221 : decode cL_refuses 221 = .ok (.if_icmp .ne 237, 3) := by decide +kernel
theorem dL_refuses_224 : decode cL_refuses 224 = .ok (.aload_n 0, 1) := by decide +kernel
theorem dL_refuses_225 : decode cL_refuses 225 = .ok (.bipush 61, 2) := by decide +kernel
theorem dL_refuses_227 : decode cL_refuses 227 = .ok (.iload_n 1, 1) := by decide +kernel
theorem dL_refuses_228 : decode cL_refuses 228 = .ok (.iadd, 1) := by decide +kernel
theorem dL_refuses_229 : decode cL_refuses 229 = .ok (.invokestatic 130, 3) := by decide +kernel
theorem dL_refuses_232 : decode cL_refuses 232 = .ok (.bipush (-2), 2) := by decide +kernel
theorem dL_refuses_234 : decode cL_refuses 234 = .ok (.if_icmp .ne 224, 3) := by decide +kernel
theorem dL_refuses_237 : decode cL_refuses 237 = .ok (.aload_n 0, 1) := by decide +kernel
theorem dL_refuses_238 : decode cL_refuses 238 = .ok (.bipush 32, 2) := by decide +kernel
theorem dL_refuses_240 : decode cL_refuses 240 = .ok (.iload_n 1, 1) := by decide +kernel
theorem dL_refuses_241 : decode cL_refuses 241 = .ok (.isub, 1) := by decide +kernel
theorem dL_refuses_242 : decode cL_refuses 242 = .ok (.invokestatic 123, 3) := by decide +kernel
theorem dL_refuses_245 : decode cL_refuses 245 = .ok (.bipush (-2), 2) := by decide +kernel
theorem dL_refuses_247 : decode cL_refuses 247 = .ok (.if_icmp .ne 211, 3) := by decide +kernel
theorem dL_refuses_250 : decode cL_refuses 250 = .ok (.aload_n 0, 1) := by decide +kernel
theorem dL_refuses_251 : decode cL_refuses 251 = .ok (.bipush 127, 2) := by decide +kernel
theorem dL_refuses_253 : decode cL_refuses 253 = .ok (.iload_n 1, 1) := by decide +kernel
theorem dL_refuses_254 : decode cL_refuses 254 = .ok (.iadd, 1) := by decide +kernel
theorem dL_refuses_255 : decode cL_refuses 255 = .ok (.invokestatic 123, 3) := by decide +kernel
theorem dL_refuses_258 : decode cL_refuses 258 = .ok (.bipush (-2), 2) := by decide +kernel
theorem dL_refuses_260 : decode cL_refuses 260 = .ok (.if_icmp .ne 198, 3) := by decide +kernel
theorem dL_refuses_263 : decode cL_refuses 263 = .ok (.aload_n 0, 1) := by decide +kernel
theorem dL_refuses_264 : decode cL_refuses 264 = .ok (.iconst 2, 1) := by decide +kernel
theorem dL_refuses_265 : decode cL_refuses 265 = .ok (.iload_n 1, 1) := by decide +kernel
theorem dL_refuses_266 : decode cL_refuses 266 = .ok (.iadd, 1) := by decide +kernel
theorem dL_refuses_267 : decode cL_refuses 267 = .ok (.invokestatic 116, 3) := by decide +kernel
theorem dL_refuses_270 : decode cL_refuses 270 = .ok (.bipush (-2), 2) := by decide +kernel
theorem dL_refuses_272 : decode cL_refuses 272 = .ok (.if_icmp .ne 186, 3) := by decide +kernel
theorem dL_refuses_275 : decode cL_refuses 275 = .ok (.aload_n 0, 1) := by decide +kernel
theorem dL_refuses_276 : decode cL_refuses 276 = .ok (.iconst (-1), 1) := by decide +kernel
theorem dL_refuses_277 : decode cL_refuses 277 = .ok (.iload_n 1, 1) := by decide +kernel
theorem dL_refuses_278 : decode cL_refuses 278 = .ok (.isub, 1) := by decide +kernel
theorem dL_refuses_279 : decode cL_refuses 279 = .ok (.invokestatic 118, 3) := by decide +kernel
theorem dL_refuses_282 : decode cL_refuses 282 = .ok (.bipush (-2), 2) := by decide +kernel
theorem dL_refuses_284 : decode cL_refuses 284 = .ok (.if_icmp .ne 174, 3) := by decide +kernel
theorem dL_refuses_287 : decode cL_refuses 287 = .ok (.aload_n 0, 1) := by decide +kernel
theorem dL_refuses_288 : decode cL_refuses 288 = .ok (.iconst (-1), 1) := by decide +kernel
theorem dL_refuses_289 : decode cL_refuses 289 = .ok (.iload_n 1, 1) := by decide +kernel
theorem dL_refuses_290 : decode cL_refuses 290 = .ok (.isub, 1) := by decide +kernel
theorem dL_refuses_291 : decode cL_refuses 291 = .ok (.bipush 9, 2) := by decide +kernel
theorem dL_refuses_293 : decode cL_refuses 293 = .ok (.invokestatic 136, 3) := by decide +kernel
theorem dL_refuses_296 : decode cL_refuses 296 = .ok (.bipush (-3), 2) := by decide +kernel
theorem dL_refuses_298 : decode cL_refuses 298 = .ok (.if_icmp .ne 160, 3) := by decide +kernel
theorem dL_refuses_301 : decode cL_refuses 301 = .ok (.aload_n 0, 1) := by decide +kernel
theorem dL_refuses_302 : decode cL_refuses 302 = .ok (.iconst 3, 1) := by decide +kernel
theorem dL_refuses_303 : decode cL_refuses 303 = .ok (.iconst 5, 1) := by decide +kernel
theorem dL_refuses_304 : decode cL_refuses 304 = .ok (.iload_n 1, 1) := by decide +kernel
theorem dL_refuses_305 : decode cL_refuses 305 = .ok (.iadd, 1) := by decide +kernel
theorem dL_refuses_306 : decode cL_refuses 306 = .ok (.invokestatic 136, 3) := by decide +kernel
theorem dL_refuses_309 : decode cL_refuses 309 = .ok (.bipush (-2), 2) := by decide +kernel
theorem dL_refuses_311 : decode cL_refuses 311 = .ok (.if_icmp .ne 147, 3) := by decide +kernel
theorem dL_refuses_314 : decode cL_refuses 314 = .ok (.aload_n 0, 1) := by decide +kernel
theorem dL_refuses_315 : decode cL_refuses 315 = .ok (.iload_n 3, 1) := by decide +kernel
theorem dL_refuses_316 : decode cL_refuses 316 = .ok (.bipush 99, 2) := by decide +kernel
theorem dL_refuses_318 : decode cL_refuses 318 = .ok (.invokestatic 134, 3) := by decide +kernel
theorem dL_refuses_321 : decode cL_refuses 321 = .ok (.bipush (-3), 2) := by decide +kernel
theorem dL_refuses_323 : decode cL_refuses 323 = .ok (.if_icmp .ne 135, 3) := by decide +kernel
theorem dL_refuses_326 : decode cL_refuses 326 = .ok (.aload_n 0, 1) := by decide +kernel
theorem dL_refuses_327 : decode cL_refuses 327 = .ok (.iconst 5, 1) := by decide +kernel
theorem dL_refuses_328 : decode cL_refuses 328 = .ok (.iload_n 1, 1) := by decide +kernel
theorem dL_refuses_329 : decode cL_refuses 329 = .ok (.iadd, 1) := by decide +kernel
theorem dL_refuses_330 : decode cL_refuses 330 = .ok (.invokestatic 132, 3) := by decide +kernel
theorem dL_refuses_333 : decode cL_refuses 333 = .ok (.bipush (-2), 2) := by decide +kernel
theorem dL_refuses_335 : decode cL_refuses 335 = .ok (.if_icmp .ne 123, 3) := by decide +kernel
theorem dL_refuses_338 : decode cL_refuses 338 = .ok (.aload_n 0, 1) := by decide +kernel
theorem dL_refuses_339 : decode cL_refuses 339 = .ok (.iconst (-1), 1) := by decide +kernel
theorem dL_refuses_340 : decode cL_refuses 340 = .ok (.iload_n 1, 1) := by decide +kernel
theorem dL_refuses_341 : decode cL_refuses 341 = .ok (.isub, 1) := by decide +kernel
theorem dL_refuses_342 : decode cL_refuses 342 = .ok (.invokestatic 141, 3) := by decide +kernel
theorem dL_refuses_345 : decode cL_refuses 345 = .ok (.bipush (-2), 2) := by decide +kernel
theorem dL_refuses_347 : decode cL_refuses 347 = .ok (.if_icmp .ne 111, 3) := by decide +kernel
theorem dL_refuses_350 : decode cL_refuses 350 = .ok (.aload_n 0, 1) := by decide +kernel
theorem dL_refuses_351 : decode cL_refuses 351 = .ok (.bipush 14, 2) := by decide +kernel
theorem dL_refuses_353 : decode cL_refuses 353 = .ok (.iload_n 1, 1) := by decide +kernel
theorem dL_refuses_354 : decode cL_refuses 354 = .ok (.iadd, 1) := by decide +kernel
theorem dL_refuses_355 : decode cL_refuses 355 = .ok (.invokestatic 91, 3) := by decide +kernel
theorem dL_refuses_358 : decode cL_refuses 358 = .ok (.bipush (-2), 2) := by decide +kernel
theorem dL_refuses_360 : decode cL_refuses 360 = .ok (.if_icmp .ne 98, 3) := by decide +kernel
theorem dL_refuses_363 : decode cL_refuses 363 = .ok (.aload_n 0, 1) := by decide +kernel
theorem dL_refuses_364 : decode cL_refuses 364 = .ok (.iload_n 3, 1) := by decide +kernel
theorem dL_refuses_365 : decode cL_refuses 365 = .ok (.iconst 1, 1) := by decide +kernel
theorem dL_refuses_366 : decode cL_refuses 366 = .ok (.invokestatic 138, 3) := by decide +kernel
theorem dL_refuses_369 : decode cL_refuses 369 = .ok (.bipush (-3), 2) := by decide +kernel
theorem dL_refuses_371 : decode cL_refuses 371 = .ok (.if_icmp .ne 87, 3) := by decide +kernel
theorem dL_refuses_374 : decode cL_refuses 374 = .ok (.aload_n 0, 1) := by decide +kernel
theorem dL_refuses_375 : decode cL_refuses 375 = .ok (.bipush 21, 2) := by decide +kernel
theorem dL_refuses_377 : decode cL_refuses 377 = .ok (.iload_n 1, 1) := by decide +kernel
theorem dL_refuses_378 : decode cL_refuses 378 = .ok (.iadd, 1) := by decide +kernel
theorem dL_refuses_379 : decode cL_refuses 379 = .ok (.iconst 0, 1) := by decide +kernel
theorem dL_refuses_380 : decode cL_refuses 380 = .ok (.iconst 0, 1) := by decide +kernel
theorem dL_refuses_381 : decode cL_refuses 381 = .ok (.invokestatic 149, 3) := by decide +kernel
theorem dL_refuses_384 : decode cL_refuses 384 = .ok (.bipush (-2), 2) := by decide +kernel
theorem dL_refuses_386 : decode cL_refuses 386 = .ok (.if_icmp .ne 72, 3) := by decide +kernel
theorem dL_refuses_389 : decode cL_refuses 389 = .ok (.aload_n 0, 1) := by decide +kernel
theorem dL_refuses_390 : decode cL_refuses 390 = .ok (.iconst 0, 1) := by decide +kernel
theorem dL_refuses_391 : decode cL_refuses 391 = .ok (.iconst (-1), 1) := by decide +kernel
theorem dL_refuses_392 : decode cL_refuses 392 = .ok (.iload_n 1, 1) := by decide +kernel
theorem dL_refuses_393 : decode cL_refuses 393 = .ok (.isub, 1) := by decide +kernel
theorem dL_refuses_394 : decode cL_refuses 394 = .ok (.iconst 0, 1) := by decide +kernel
theorem dL_refuses_395 : decode cL_refuses 395 = .ok (.invokestatic 149, 3) := by decide +kernel
theorem dL_refuses_398 : decode cL_refuses 398 = .ok (.bipush (-2), 2) := by decide +kernel
theorem dL_refuses_400 : decode cL_refuses 400 = .ok (.if_icmp .ne 58, 3) := by decide +kernel
theorem dL_refuses_403 : decode cL_refuses 403 = .ok (.aload_n 0, 1) := by decide +kernel
theorem dL_refuses_404 : decode cL_refuses 404 = .ok (.iconst (-1), 1) := by decide +kernel
theorem dL_refuses_405 : decode cL_refuses 405 = .ok (.iload_n 1, 1) := by decide +kernel
theorem dL_refuses_406 : decode cL_refuses 406 = .ok (.isub, 1) := by decide +kernel
theorem dL_refuses_407 : decode cL_refuses 407 = .ok (.invokestatic 152, 3) := by decide +kernel
theorem dL_refuses_410 : decode cL_refuses 410 = .ok (.bipush (-2), 2) := by decide +kernel
theorem dL_refuses_412 : decode cL_refuses 412 = .ok (.if_icmp .ne 46, 3) := by decide +kernel
theorem dL_refuses_415 : decode cL_refuses 415 = .ok (.aload_n 0, 1) := by decide +kernel
theorem dL_refuses_416 : decode cL_refuses 416 = .ok (.iconst 0, 1) := by decide +kernel
theorem dL_refuses_417 : decode cL_refuses 417 = .ok (.iconst 0, 1) := by decide +kernel
theorem dL_refuses_418 : decode cL_refuses 418 = .ok (.invokestatic 147, 3) := by decide +kernel
theorem dL_refuses_421 : decode cL_refuses 421 = .ok (.bipush (-2), 2) := by decide +kernel
theorem dL_refuses_423 : decode cL_refuses 423 = .ok (.if_icmp .ne 35, 3) := by decide +kernel
theorem dL_refuses_426 : decode cL_refuses 426 = .ok (.aload_n 0, 1) := by decide +kernel
theorem dL_refuses_427 : decode cL_refuses 427 = .ok (.sipush 201, 3) := by decide +kernel
theorem dL_refuses_430 : decode cL_refuses 430 = .ok (.iload_n 1, 1) := by decide +kernel
theorem dL_refuses_431 : decode cL_refuses 431 = .ok (.iadd, 1) := by decide +kernel
theorem dL_refuses_432 : decode cL_refuses 432 = .ok (.iconst 0, 1) := by decide +kernel
theorem dL_refuses_433 : decode cL_refuses 433 = .ok (.invokestatic 147, 3) := by decide +kernel
theorem dL_refuses_436 : decode cL_refuses 436 = .ok (.bipush (-2), 2) := by decide +kernel
theorem dL_refuses_438 : decode cL_refuses 438 = .ok (.if_icmp .ne 20, 3) := by decide +kernel
theorem dL_refuses_441 : decode cL_refuses 441 = .ok (.aload_n 0, 1) := by decide +kernel
theorem dL_refuses_442 : decode cL_refuses 442 = .ok (.iconst 1, 1) := by decide +kernel
theorem dL_refuses_443 : decode cL_refuses 443 = .ok (.iconst 5, 1) := by decide +kernel
theorem dL_refuses_444 : decode cL_refuses 444 = .ok (.iload_n 1, 1) := by decide +kernel
theorem dL_refuses_445 : decode cL_refuses 445 = .ok (.iadd, 1) := by decide +kernel
theorem dL_refuses_446 : decode cL_refuses 446 = .ok (.invokestatic 147, 3) := by decide +kernel
theorem dL_refuses_449 : decode cL_refuses 449 = .ok (.bipush (-2), 2) := by decide +kernel
theorem dL_refuses_451 : decode cL_refuses 451 = .ok (.if_icmp .ne 7, 3) := by decide +kernel
theorem dL_refuses_454 : decode cL_refuses 454 = .ok (.iconst 1, 1) := by decide +kernel
theorem dL_refuses_455 : decode cL_refuses 455 = .ok (.goto 4, 3) := by decide +kernel
theorem dL_refuses_458 : decode cL_refuses 458 = .ok (.iconst 0, 1) := by decide +kernel
theorem dL_refuses_459 : decode cL_refuses 459 = .ok (.istore 4, 2) := by decide +kernel
theorem dL_refuses_461 : decode cL_refuses 461 = .ok (.iload 4, 2) := by decide +kernel
theorem dL_refuses_463 : decode cL_refuses 463 = .ok (.ifCond .eq 107, 3) := by decide +kernel
theorem dL_refuses_466 : decode cL_refuses 466 = .ok (.iload_n 2, 1) := by decide +kernel
theorem dL_refuses_467 : decode cL_refuses 467 = .ok (.ifCond .eq 99, 3) := by decide +kernel
theorem dL_refuses_470 : decode cL_refuses 470 = .ok (.aload_n 0, 1) := by decide +kernel
theorem dL_refuses_471 : decode cL_refuses 471 = .ok (.iconst 0, 1) := by decide +kernel
theorem dL_refuses_472 : decode cL_refuses 472 = .ok (.bipush 21, 2) := by decide +kernel
theorem dL_refuses_474 : decode cL_refuses 474 = .ok (.iload_n 1, 1) := by decide +kernel
theorem dL_refuses_475 : decode cL_refuses 475 = .ok (.iadd, 1) := by decide +kernel
theorem dL_refuses_476 : decode cL_refuses 476 = .ok (.invokestatic 104, 3) := by decide +kernel
theorem dL_refuses_479 : decode cL_refuses 479 = .ok (.bipush (-2), 2) := by decide +kernel
theorem dL_refuses_481 : decode cL_refuses 481 = .ok (.if_icmp .ne 89, 3) := by decide +kernel
theorem dL_refuses_484 : decode cL_refuses 484 = .ok (.aload_n 0, 1) := by decide +kernel
theorem dL_refuses_485 : decode cL_refuses 485 = .ok (.iconst 0, 1) := by decide +kernel
theorem dL_refuses_486 : decode cL_refuses 486 = .ok (.bipush 10, 2) := by decide +kernel
theorem dL_refuses_488 : decode cL_refuses 488 = .ok (.iload_n 1, 1) := by decide +kernel
theorem dL_refuses_489 : decode cL_refuses 489 = .ok (.iadd, 1) := by decide +kernel
theorem dL_refuses_490 : decode cL_refuses 490 = .ok (.invokestatic 106, 3) := by decide +kernel
theorem dL_refuses_493 : decode cL_refuses 493 = .ok (.bipush (-2), 2) := by decide +kernel
theorem dL_refuses_495 : decode cL_refuses 495 = .ok (.if_icmp .ne 75, 3) := by decide +kernel
theorem dL_refuses_498 : decode cL_refuses 498 = .ok (.aload_n 0, 1) := by decide +kernel
theorem dL_refuses_499 : decode cL_refuses 499 = .ok (.iconst 0, 1) := by decide +kernel
theorem dL_refuses_500 : decode cL_refuses 500 = .ok (.iconst (-1), 1) := by decide +kernel
theorem dL_refuses_501 : decode cL_refuses 501 = .ok (.iload_n 1, 1) := by decide +kernel
theorem dL_refuses_502 : decode cL_refuses 502 = .ok (.isub, 1) := by decide +kernel
theorem dL_refuses_503 : decode cL_refuses 503 = .ok (.invokestatic 108, 3) := by decide +kernel
theorem dL_refuses_506 : decode cL_refuses 506 = .ok (.bipush (-2), 2) := by decide +kernel
theorem dL_refuses_508 : decode cL_refuses 508 = .ok (.if_icmp .ne 62, 3) := by decide +kernel
theorem dL_refuses_511 : decode cL_refuses 511 = .ok (.aload_n 0, 1) := by decide +kernel
theorem dL_refuses_512 : decode cL_refuses 512 = .ok (.iconst 0, 1) := by decide +kernel
theorem dL_refuses_513 : decode cL_refuses 513 = .ok (.bipush 10, 2) := by decide +kernel
theorem dL_refuses_515 : decode cL_refuses 515 = .ok (.iload_n 1, 1) := by decide +kernel
theorem dL_refuses_516 : decode cL_refuses 516 = .ok (.iadd, 1) := by decide +kernel
theorem dL_refuses_517 : decode cL_refuses 517 = .ok (.invokestatic 134, 3) := by decide +kernel
theorem dL_refuses_520 : decode cL_refuses 520 = .ok (.bipush (-2), 2) := by decide +kernel
theorem dL_refuses_522 : decode cL_refuses 522 = .ok (.if_icmp .ne 48, 3) := by decide +kernel
theorem dL_refuses_525 : decode cL_refuses 525 = .ok (.aload_n 0, 1) := by decide +kernel
theorem dL_refuses_526 : decode cL_refuses 526 = .ok (.iconst 0, 1) := by decide +kernel
theorem dL_refuses_527 : decode cL_refuses 527 = .ok (.iconst 0, 1) := by decide +kernel
theorem dL_refuses_528 : decode cL_refuses 528 = .ok (.invokestatic 134, 3) := by decide +kernel
theorem dL_refuses_531 : decode cL_refuses 531 = .ok (.iconst 1, 1) := by decide +kernel
theorem dL_refuses_532 : decode cL_refuses 532 = .ok (.if_icmp .eq 14, 3) := by decide +kernel
theorem dL_refuses_535 : decode cL_refuses 535 = .ok (.aload_n 0, 1) := by decide +kernel
theorem dL_refuses_536 : decode cL_refuses 536 = .ok (.iconst 0, 1) := by decide +kernel
theorem dL_refuses_537 : decode cL_refuses 537 = .ok (.iconst 1, 1) := by decide +kernel
theorem dL_refuses_538 : decode cL_refuses 538 = .ok (.invokestatic 108, 3) := by decide +kernel
theorem dL_refuses_541 : decode cL_refuses 541 = .ok (.bipush (-4), 2) := by decide +kernel
theorem dL_refuses_543 : decode cL_refuses 543 = .ok (.if_icmp .ne 27, 3) := by decide +kernel
theorem dL_refuses_546 : decode cL_refuses 546 = .ok (.aload_n 0, 1) := by decide +kernel
theorem dL_refuses_547 : decode cL_refuses 547 = .ok (.iconst 0, 1) := by decide +kernel
theorem dL_refuses_548 : decode cL_refuses 548 = .ok (.iconst 0, 1) := by decide +kernel
theorem dL_refuses_549 : decode cL_refuses 549 = .ok (.invokestatic 134, 3) := by decide +kernel
theorem dL_refuses_552 : decode cL_refuses 552 = .ok (.ifCond .eq 14, 3) := by decide +kernel
theorem dL_refuses_555 : decode cL_refuses 555 = .ok (.aload_n 0, 1) := by decide +kernel
theorem dL_refuses_556 : decode cL_refuses 556 = .ok (.iconst 0, 1) := by decide +kernel
theorem dL_refuses_557 : decode cL_refuses 557 = .ok (.iconst 1, 1) := by decide +kernel
theorem dL_refuses_558 : decode cL_refuses 558 = .ok (.invokestatic 104, 3) := by decide +kernel
theorem dL_refuses_561 : decode cL_refuses 561 = .ok (.bipush (-4), 2) := by decide +kernel
theorem dL_refuses_563 : decode cL_refuses 563 = .ok (.if_icmp .ne 7, 3) := by decide +kernel
theorem dL_refuses_566 : decode cL_refuses 566 = .ok (.iconst 1, 1) := by decide +kernel
theorem dL_refuses_567 : decode cL_refuses 567 = .ok (.goto 4, 3) := by decide +kernel
theorem dL_refuses_570 : decode cL_refuses 570 = .ok (.iconst 0, 1) := by decide +kernel
theorem dL_refuses_571 : decode cL_refuses 571 = .ok (.istore 4, 2) := by decide +kernel
theorem dL_refuses_573 : decode cL_refuses 573 = .ok (.aload_n 0, 1) := by decide +kernel
theorem dL_refuses_574 : decode cL_refuses 574 = .ok (.invokevirtual 120, 3) := by decide +kernel
theorem dL_refuses_577 : decode cL_refuses 577 = .ok (.istore 5, 2) := by decide +kernel
theorem dL_refuses_579 : decode cL_refuses 579 = .ok (.iload 4, 2) := by decide +kernel
theorem dL_refuses_581 : decode cL_refuses 581 = .ok (.ifCond .eq 55, 3) := by decide +kernel
theorem dL_refuses_584 : decode cL_refuses 584 = .ok (.iload 5, 2) := by decide +kernel
theorem dL_refuses_586 : decode cL_refuses 586 = .ok (.ifCond .lt 50, 3) := by decide +kernel
theorem dL_refuses_589 : decode cL_refuses 589 = .ok (.aload_n 0, 1) := by decide +kernel
theorem dL_refuses_590 : decode cL_refuses 590 = .ok (.invokestatic 128, 3) := by decide +kernel
theorem dL_refuses_593 : decode cL_refuses 593 = .ok (.bipush (-2), 2) := by decide +kernel
theorem dL_refuses_595 : decode cL_refuses 595 = .ok (.if_icmp .ne 41, 3) := by decide +kernel
theorem dL_refuses_598 : decode cL_refuses 598 = .ok (.aload_n 0, 1) := by decide +kernel
theorem dL_refuses_599 : decode cL_refuses 599 = .ok (.bipush 59, 2) := by decide +kernel
theorem dL_refuses_601 : decode cL_refuses 601 = .ok (.invokestatic 123, 3) := by decide +kernel
theorem dL_refuses_604 : decode cL_refuses 604 = .ok (.iconst 1, 1) := by decide +kernel
theorem dL_refuses_605 : decode cL_refuses 605 = .ok (.if_icmp .ne 31, 3) := by decide +kernel
theorem dL_refuses_608 : decode cL_refuses 608 = .ok (.aload_n 0, 1) := by decide +kernel
theorem dL_refuses_609 : decode cL_refuses 609 = .ok (.invokevirtual 125, 3) := by decide +kernel
theorem dL_refuses_612 : decode cL_refuses 612 = .ok (.ifCond .ne 24, 3) := by decide +kernel
theorem dL_refuses_615 : decode cL_refuses 615 = .ok (.aload_n 0, 1) := by decide +kernel
theorem dL_refuses_616 : decode cL_refuses 616 = .ok (.invokestatic 128, 3) := by decide +kernel
theorem dL_refuses_619 : decode cL_refuses 619 = .ok (.bipush (-2), 2) := by decide +kernel
theorem dL_refuses_621 : decode cL_refuses 621 = .ok (.if_icmp .ne 15, 3) := by decide +kernel
theorem dL_refuses_624 : decode cL_refuses 624 = .ok (.aload_n 0, 1) := by decide +kernel
theorem dL_refuses_625 : decode cL_refuses 625 = .ok (.invokevirtual 120, 3) := by decide +kernel
theorem dL_refuses_628 : decode cL_refuses 628 = .ok (.iconst 1, 1) := by decide +kernel
theorem dL_refuses_629 : decode cL_refuses 629 = .ok (.if_icmp .ne 7, 3) := by decide +kernel
theorem dL_refuses_632 : decode cL_refuses 632 = .ok (.iconst 1, 1) := by decide +kernel
theorem dL_refuses_633 : decode cL_refuses 633 = .ok (.goto 4, 3) := by decide +kernel
theorem dL_refuses_636 : decode cL_refuses 636 = .ok (.iconst 0, 1) := by decide +kernel
theorem dL_refuses_637 : decode cL_refuses 637 = .ok (.ireturn, 1) := by decide +kernel
theorem dL_law_0 : decode cL_law 0 = .ok (.new 10, 3) := by decide +kernel
theorem dL_law_3 : decode cL_law 3 = .ok (.dup, 1) := by decide +kernel
theorem dL_law_4 : decode cL_law 4 = .ok (.invokespecial 154, 3) := by decide +kernel
theorem dL_law_7 : decode cL_law 7 = .ok (.astore_n 1, 1) := by decide +kernel
theorem dL_law_8 : decode cL_law 8 = .ok (.new 10, 3) := by decide +kernel
theorem dL_law_11 : decode cL_law 11 = .ok (.dup, 1) := by decide +kernel
theorem dL_law_12 : decode cL_law 12 = .ok (.invokespecial 154, 3) := by decide +kernel
theorem dL_law_15 : decode cL_law 15 = .ok (.astore_n 2, 1) := by decide +kernel
theorem dL_law_16 : decode cL_law 16 = .ok (.aload_n 1, 1) := by decide +kernel
theorem dL_law_17 : decode cL_law 17 = .ok (.invokestatic 114, 3) := by decide +kernel
theorem dL_law_20 : decode cL_law 20 = .ok (.bipush (-2), 2) := by decide +kernel
theorem dL_law_22 : decode cL_law 22 = .ok (.if_icmp .ne 39, 3) := by decide +kernel
theorem dL_law_25 : decode cL_law 25 = .ok (.aload_n 1, 1) := by decide +kernel
theorem dL_law_26 : decode cL_law 26 = .ok (.iconst 0, 1) := by decide +kernel
theorem dL_law_27 : decode cL_law 27 = .ok (.invokestatic 118, 3) := by decide +kernel
theorem dL_law_30 : decode cL_law 30 = .ok (.bipush (-3), 2) := by decide +kernel
theorem dL_law_32 : decode cL_law 32 = .ok (.if_icmp .ne 29, 3) := by decide +kernel
theorem dL_law_35 : decode cL_law 35 = .ok (.aload_n 1, 1) := by decide +kernel
theorem dL_law_36 : decode cL_law 36 = .ok (.invokevirtual 125, 3) := by decide +kernel
theorem dL_law_39 : decode cL_law 39 = .ok (.ifCond .ne 22, 3) := by decide +kernel
theorem dL_law_42 : decode cL_law 42 = .ok (.aload_n 1, 1) := by decide +kernel
theorem dL_law_43 : decode cL_law 43 = .ok (.iconst 0, 1) := by decide +kernel
theorem dL_law_44 : decode cL_law 44 = .ok (.invokestatic 152, 3) := by decide +kernel
theorem dL_law_47 : decode cL_law 47 = .ok (.ifCond .ne 14, 3) := by decide +kernel
theorem dL_law_50 : decode cL_law 50 = .ok (.aload_n 1, 1) := by decide +kernel
theorem dL_law_51 : decode cL_law 51 = .ok (.invokestatic 155, 3) := by decide +kernel
theorem dL_law_54 : decode cL_law 54 = .ok (.ifCond .eq 7, 3) := by decide +kernel
theorem dL_law_57 : decode cL_law 57 = .ok (.iconst 1, 1) := by decide +kernel
theorem dL_law_58 : decode cL_law 58 = .ok (.goto 4, 3) := by decide +kernel
theorem dL_law_61 : decode cL_law 61 = .ok (.iconst 0, 1) := by decide +kernel
theorem dL_law_62 : decode cL_law 62 = .ok (.istore_n 3, 1) := by decide +kernel
theorem dL_law_63 : decode cL_law 63 = .ok (.iconst 0, 1) := by decide +kernel
theorem dL_law_64 : decode cL_law 64 = .ok (.istore 4, 2) := by decide +kernel
theorem dL_law_66 : decode cL_law 66 = .ok (.iload 4, 2) := by decide +kernel
theorem dL_law_68 : decode cL_law 68 = .ok (.bipush 34, 2) := by decide +kernel
theorem dL_law_70 : decode cL_law 70 = .ok (.if_icmp .ge 98, 3) := by decide +kernel
theorem dL_law_73 : decode cL_law 73 = .ok (.iload_n 3, 1) := by decide +kernel
theorem dL_law_74 : decode cL_law 74 = .ok (.ifCond .eq 94, 3) := by decide +kernel
theorem dL_law_77 : decode cL_law 77 = .ok (.aload_n 0, 1) := by decide +kernel
theorem dL_law_78 : decode cL_law 78 = .ok (.iload 4, 2) := by decide +kernel
theorem dL_law_80 : decode cL_law 80 = .ok (.invokestatic 159, 3) := by decide +kernel
theorem dL_law_83 : decode cL_law 83 = .ok (.istore 5, 2) := by decide +kernel
theorem dL_law_85 : decode cL_law 85 = .ok (.aload_n 1, 1) := by decide +kernel
theorem dL_law_86 : decode cL_law 86 = .ok (.iload 5, 2) := by decide +kernel
theorem dL_law_88 : decode cL_law 88 = .ok (.invokestatic 163, 3) := by decide +kernel
theorem dL_law_91 : decode cL_law 91 = .ok (.istore 6, 2) := by decide +kernel
theorem dL_law_93 : decode cL_law 93 = .ok (.iload 4, 2) := by decide +kernel
theorem dL_law_95 : decode cL_law 95 = .ok (.iconst 3, 1) := by decide +kernel
theorem dL_law_96 : decode cL_law 96 = .ok (.irem, 1) := by decide +kernel
theorem dL_law_97 : decode cL_law 97 = .ok (.ifCond .gt 15, 3) := by decide +kernel
theorem dL_law_100 : decode cL_law 100 = .ok (.aload_n 2, 1) := by decide +kernel
theorem dL_law_101 : decode cL_law 101 = .ok (.iload 5, 2) := by decide +kernel
theorem dL_law_103 : decode cL_law 103 = .ok (.ldc 166, 2) := by decide +kernel
theorem dL_law_105 : decode cL_law 105 = .ok (.irem, 1) := by decide +kernel
theorem dL_law_106 : decode cL_law 106 = .ok (.invokestatic 167, 3) := by decide +kernel
theorem dL_law_109 : decode cL_law 109 = .ok (.ifCond .eq 51, 3) := by decide +kernel
theorem dL_law_112 : decode cL_law 112 = .ok (.aload_n 2, 1) := by decide +kernel
theorem dL_law_113 : decode cL_law 113 = .ok (.iload 5, 2) := by decide +kernel
theorem dL_law_115 : decode cL_law 115 = .ok (.invokestatic 163, 3) := by decide +kernel
theorem dL_law_118 : decode cL_law 118 = .ok (.iload 6, 2) := by decide +kernel
theorem dL_law_120 : decode cL_law 120 = .ok (.if_icmp .ne 40, 3) := by decide +kernel
theorem dL_law_123 : decode cL_law 123 = .ok (.aload_n 1, 1) := by decide +kernel
theorem dL_law_124 : decode cL_law 124 = .ok (.aload_n 2, 1) := by decide +kernel
theorem dL_law_125 : decode cL_law 125 = .ok (.invokestatic 171, 3) := by decide +kernel
theorem dL_law_128 : decode cL_law 128 = .ok (.ifCond .eq 32, 3) := by decide +kernel
theorem dL_law_131 : decode cL_law 131 = .ok (.iload 4, 2) := by decide +kernel
theorem dL_law_133 : decode cL_law 133 = .ok (.iconst 3, 1) := by decide +kernel
theorem dL_law_134 : decode cL_law 134 = .ok (.irem, 1) := by decide +kernel
theorem dL_law_135 : decode cL_law 135 = .ok (.ifCond .gt 21, 3) := by decide +kernel
theorem dL_law_138 : decode cL_law 138 = .ok (.iload 4, 2) := by decide +kernel
theorem dL_law_140 : decode cL_law 140 = .ok (.iconst 2, 1) := by decide +kernel
theorem dL_law_141 : decode cL_law 141 = .ok (.irem, 1) := by decide +kernel
theorem dL_law_142 : decode cL_law 142 = .ok (.ifCond .ne 7, 3) := by decide +kernel
theorem dL_law_145 : decode cL_law 145 = .ok (.aload_n 1, 1) := by decide +kernel
theorem dL_law_146 : decode cL_law 146 = .ok (.goto 4, 3) := by decide +kernel
theorem dL_law_149 : decode cL_law 149 = .ok (.aload_n 2, 1) := by decide +kernel
theorem dL_law_150 : decode cL_law 150 = .ok (.invokestatic 155, 3) := by decide +kernel
theorem dL_law_153 : decode cL_law 153 = .ok (.ifCond .eq 7, 3) := by decide +kernel
theorem dL_law_156 : decode cL_law 156 = .ok (.iconst 1, 1) := by decide +kernel
theorem dL_law_157 : decode cL_law 157 = .ok (.goto 4, 3) := by decide +kernel
theorem dL_law_160 : decode cL_law 160 = .ok (.iconst 0, 1) := by decide +kernel
theorem dL_law_161 : decode cL_law 161 = .ok (.istore_n 3, 1) := by decide +kernel
theorem dL_law_162 : decode cL_law 162 = .ok (.iinc 4 1, 3) := by decide +kernel
theorem dL_law_165 : decode cL_law 165 = .ok (.goto (-99), 3) := by decide +kernel
theorem dL_law_168 : decode cL_law 168 = .ok (.iconst 2, 1) := by decide +kernel
theorem dL_law_169 : decode cL_law 169 = .ok (.aload_n 0, 1) := by decide +kernel
theorem dL_law_170 : decode cL_law 170 = .ok (.bipush 34, 2) := by decide +kernel
theorem dL_law_172 : decode cL_law 172 = .ok (.invokestatic 159, 3) := by decide +kernel
theorem dL_law_175 : decode cL_law 175 = .ok (.bipush 50, 2) := by decide +kernel
theorem dL_law_177 : decode cL_law 177 = .ok (.irem, 1) := by decide +kernel
theorem dL_law_178 : decode cL_law 178 = .ok (.iadd, 1) := by decide +kernel
theorem dL_law_179 : decode cL_law 179 = .ok (.istore 4, 2) := by decide +kernel
theorem dL_law_181 : decode cL_law 181 = .ok (.iconst 0, 1) := by decide +kernel
theorem dL_law_182 : decode cL_law 182 = .ok (.istore 5, 2) := by decide +kernel
theorem dL_law_184 : decode cL_law 184 = .ok (.iconst 0, 1) := by decide +kernel
theorem dL_law_185 : decode cL_law 185 = .ok (.istore 6, 2) := by decide +kernel
theorem dL_law_187 : decode cL_law 187 = .ok (.iload 6, 2) := by decide +kernel
theorem dL_law_189 : decode cL_law 189 = .ok (.iload 4, 2) := by decide +kernel
theorem dL_law_191 : decode cL_law 191 = .ok (.if_icmp .ge 23, 3) := by decide +kernel
theorem dL_law_194 : decode cL_law 194 = .ok (.iload_n 3, 1) := by decide +kernel
theorem dL_law_195 : decode cL_law 195 = .ok (.ifCond .eq 19, 3) := by decide +kernel
theorem dL_law_198 : decode cL_law 198 = .ok (.iload 5, 2) := by decide +kernel
theorem dL_law_200 : decode cL_law 200 = .ok (.aload_n 1, 1) := by decide +kernel
theorem dL_law_201 : decode cL_law 201 = .ok (.iconst 1, 1) := by decide +kernel
theorem dL_law_202 : decode cL_law 202 = .ok (.invokestatic 130, 3) := by decide +kernel
theorem dL_law_205 : decode cL_law 205 = .ok (.iadd, 1) := by decide +kernel
theorem dL_law_206 : decode cL_law 206 = .ok (.istore 5, 2) := by decide +kernel
theorem dL_law_208 : decode cL_law 208 = .ok (.iinc 6 1, 3) := by decide +kernel
theorem dL_law_211 : decode cL_law 211 = .ok (.goto (-24), 3) := by decide +kernel
theorem dL_law_214 : decode cL_law 214 = .ok (.iload_n 3, 1) := by decide +kernel
theorem dL_law_215 : decode cL_law 215 = .ok (.ifCond .eq 18, 3) := by decide +kernel
theorem dL_law_218 : decode cL_law 218 = .ok (.aload_n 2, 1) := by decide +kernel
theorem dL_law_219 : decode cL_law 219 = .ok (.iload 4, 2) := by decide +kernel
theorem dL_law_221 : decode cL_law 221 = .ok (.invokestatic 130, 3) := by decide +kernel
theorem dL_law_224 : decode cL_law 224 = .ok (.iload 5, 2) := by decide +kernel
theorem dL_law_226 : decode cL_law 226 = .ok (.if_icmp .ne 7, 3) := by decide +kernel
theorem dL_law_229 : decode cL_law 229 = .ok (.iconst 1, 1) := by decide +kernel
theorem dL_law_230 : decode cL_law 230 = .ok (.goto 4, 3) := by decide +kernel
theorem dL_law_233 : decode cL_law 233 = .ok (.iconst 0, 1) := by decide +kernel
theorem dL_law_234 : decode cL_law 234 = .ok (.istore_n 3, 1) := by decide +kernel
theorem dL_law_235 : decode cL_law 235 = .ok (.aload_n 1, 1) := by decide +kernel
theorem dL_law_236 : decode cL_law 236 = .ok (.bipush 9, 2) := by decide +kernel
theorem dL_law_238 : decode cL_law 238 = .ok (.invokestatic 91, 3) := by decide +kernel
theorem dL_law_241 : decode cL_law 241 = .ok (.istore 6, 2) := by decide +kernel
theorem dL_law_243 : decode cL_law 243 = .ok (.aload_n 2, 1) := by decide +kernel
theorem dL_law_244 : decode cL_law 244 = .ok (.bipush 9, 2) := by decide +kernel
theorem dL_law_246 : decode cL_law 246 = .ok (.invokestatic 91, 3) := by decide +kernel
theorem dL_law_249 : decode cL_law 249 = .ok (.istore 7, 2) := by decide +kernel
theorem dL_law_251 : decode cL_law 251 = .ok (.iload_n 3, 1) := by decide +kernel
theorem dL_law_252 : decode cL_law 252 = .ok (.ifCond .eq 93, 3) := by decide +kernel
theorem dL_law_255 : decode cL_law 255 = .ok (.iload 6, 2) := by decide +kernel
theorem dL_law_257 : decode cL_law 257 = .ok (.iload 7, 2) := by decide +kernel
theorem dL_law_259 : decode cL_law 259 = .ok (.if_icmp .lt 86, 3) := by decide +kernel
theorem dL_law_262 : decode cL_law 262 = .ok (.aload_n 1, 1) := by decide +kernel
theorem dL_law_263 : decode cL_law 263 = .ok (.iconst 0, 1) := by decide +kernel
theorem dL_law_264 : decode cL_law 264 = .ok (.invokestatic 91, 3) := by decide +kernel
theorem dL_law_267 : decode cL_law 267 = .ok (.aload_n 2, 1) := by decide +kernel
theorem dL_law_268 : decode cL_law 268 = .ok (.iconst 0, 1) := by decide +kernel
theorem dL_law_269 : decode cL_law 269 = .ok (.invokestatic 91, 3) := by decide +kernel
theorem dL_law_272 : decode cL_law 272 = .ok (.if_icmp .ne 73, 3) := by decide +kernel
theorem dL_law_275 : decode cL_law 275 = .ok (.aload_n 1, 1) := by decide +kernel
theorem dL_law_276 : decode cL_law 276 = .ok (.iconst 1, 1) := by decide +kernel
theorem dL_law_277 : decode cL_law 277 = .ok (.invokestatic 132, 3) := by decide +kernel
theorem dL_law_280 : decode cL_law 280 = .ok (.aload_n 2, 1) := by decide +kernel
theorem dL_law_281 : decode cL_law 281 = .ok (.iconst 1, 1) := by decide +kernel
theorem dL_law_282 : decode cL_law 282 = .ok (.invokestatic 132, 3) := by decide +kernel
theorem dL_law_285 : decode cL_law 285 = .ok (.if_icmp .ne 60, 3) := by decide +kernel
theorem dL_law_288 : decode cL_law 288 = .ok (.aload_n 1, 1) := by decide +kernel
theorem dL_law_289 : decode cL_law 289 = .ok (.iconst 3, 1) := by decide +kernel
theorem dL_law_290 : decode cL_law 290 = .ok (.invokestatic 132, 3) := by decide +kernel
theorem dL_law_293 : decode cL_law 293 = .ok (.aload_n 2, 1) := by decide +kernel
theorem dL_law_294 : decode cL_law 294 = .ok (.iconst 3, 1) := by decide +kernel
theorem dL_law_295 : decode cL_law 295 = .ok (.invokestatic 132, 3) := by decide +kernel
theorem dL_law_298 : decode cL_law 298 = .ok (.if_icmp .ne 47, 3) := by decide +kernel
theorem dL_law_301 : decode cL_law 301 = .ok (.aload_n 1, 1) := by decide +kernel
theorem dL_law_302 : decode cL_law 302 = .ok (.iconst 4, 1) := by decide +kernel
theorem dL_law_303 : decode cL_law 303 = .ok (.invokestatic 91, 3) := by decide +kernel
theorem dL_law_306 : decode cL_law 306 = .ok (.aload_n 2, 1) := by decide +kernel
theorem dL_law_307 : decode cL_law 307 = .ok (.iconst 4, 1) := by decide +kernel
theorem dL_law_308 : decode cL_law 308 = .ok (.invokestatic 91, 3) := by decide +kernel
theorem dL_law_311 : decode cL_law 311 = .ok (.if_icmp .ne 34, 3) := by decide +kernel
theorem dL_law_314 : decode cL_law 314 = .ok (.aload_n 1, 1) := by decide +kernel
theorem dL_law_315 : decode cL_law 315 = .ok (.iconst 5, 1) := by decide +kernel
theorem dL_law_316 : decode cL_law 316 = .ok (.invokestatic 91, 3) := by decide +kernel
theorem dL_law_319 : decode cL_law 319 = .ok (.aload_n 2, 1) := by decide +kernel
theorem dL_law_320 : decode cL_law 320 = .ok (.iconst 5, 1) := by decide +kernel
theorem dL_law_321 : decode cL_law 321 = .ok (.invokestatic 91, 3) := by decide +kernel
theorem dL_law_324 : decode cL_law 324 = .ok (.if_icmp .ne 21, 3) := by decide +kernel
theorem dL_law_327 : decode cL_law 327 = .ok (.aload_n 1, 1) := by decide +kernel
theorem dL_law_328 : decode cL_law 328 = .ok (.invokestatic 155, 3) := by decide +kernel
theorem dL_law_331 : decode cL_law 331 = .ok (.ifCond .eq 14, 3) := by decide +kernel
theorem dL_law_334 : decode cL_law 334 = .ok (.aload_n 2, 1) := by decide +kernel
theorem dL_law_335 : decode cL_law 335 = .ok (.invokestatic 155, 3) := by decide +kernel
theorem dL_law_338 : decode cL_law 338 = .ok (.ifCond .eq 7, 3) := by decide +kernel
theorem dL_law_341 : decode cL_law 341 = .ok (.iconst 1, 1) := by decide +kernel
theorem dL_law_342 : decode cL_law 342 = .ok (.goto 4, 3) := by decide +kernel
theorem dL_law_345 : decode cL_law 345 = .ok (.iconst 0, 1) := by decide +kernel
theorem dL_law_346 : decode cL_law 346 = .ok (.ireturn, 1) := by decide +kernel
