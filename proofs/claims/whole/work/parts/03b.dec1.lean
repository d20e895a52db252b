theorem dX4_ifRun_129 : decode cX4_ifRun 129 = .ok (.aload_n 0, 1) := by decide +kernel
theorem dX4_ifRun_130 : decode cX4_ifRun 130 = .ok (.getfield 16, 3) := by decide +kernel
theorem dX4_ifRun_133 : decode cX4_ifRun 133 = .ok (.iconst 1, 1) := by decide +kernel
theorem dX4_ifRun_134 : decode cX4_ifRun 134 = .ok (.invokevirtual 165, 3) := by decide +kernel
theorem dX4_ifRun_137 : decode cX4_ifRun 137 = .ok (.ireturn, 1) := by decide +kernel
theorem dX4_meanSpeed_0 : decode cX4_meanSpeed 0 = .ok (.iconst 0, 1) := by decide +kernel
theorem dX4_meanSpeed_1 : decode cX4_meanSpeed 1 = .ok (.istore_n 1, 1) := by decide +kernel
theorem dX4_meanSpeed_2 : decode cX4_meanSpeed 2 = .ok (.iconst 0, 1) := by decide +kernel
theorem dX4_meanSpeed_3 : decode cX4_meanSpeed 3 = .ok (.istore_n 2, 1) := by decide +kernel
theorem dX4_meanSpeed_4 : decode cX4_meanSpeed 4 = .ok (.iconst 0, 1) := by decide +kernel
theorem dX4_meanSpeed_5 : decode cX4_meanSpeed 5 = .ok (.istore_n 3, 1) := by decide +kernel
theorem dX4_meanSpeed_6 : decode cX4_meanSpeed 6 = .ok (.iload_n 3, 1) := by decide +kernel
theorem dX4_meanSpeed_7 : decode cX4_meanSpeed 7 = .ok (.aload_n 0, 1) := by decide +kernel
theorem dX4_meanSpeed_8 : decode cX4_meanSpeed 8 = .ok (.getfield 10, 3) := by decide +kernel
theorem dX4_meanSpeed_11 : decode cX4_meanSpeed 11 = .ok (.getfield 70, 3) := by decide +kernel
theorem dX4_meanSpeed_14 : decode cX4_meanSpeed 14 = .ok (.if_icmp .ge 43, 3) := by decide +kernel
theorem dX4_meanSpeed_17 : decode cX4_meanSpeed 17 = .ok (.aload_n 0, 1) := by decide +kernel
theorem dX4_meanSpeed_18 : decode cX4_meanSpeed 18 = .ok (.getfield 10, 3) := by decide +kernel
theorem dX4_meanSpeed_21 : decode cX4_meanSpeed 21 = .ok (.getfield 156, 3) := by decide +kernel
theorem dX4_meanSpeed_24 : decode cX4_meanSpeed 24 = .ok (.iload_n 3, 1) := by decide +kernel
theorem dX4_meanSpeed_25 : decode cX4_meanSpeed 25 = .ok (.aaload, 1) := by decide +kernel
theorem dX4_meanSpeed_26 : decode cX4_meanSpeed 26 = .ok (.getfield 168, 3) := by decide +kernel
theorem dX4_meanSpeed_29 : decode cX4_meanSpeed 29 = .ok (.iconst 1, 1) := by decide +kernel
theorem dX4_meanSpeed_30 : decode cX4_meanSpeed 30 = .ok (.if_icmp .ne 21, 3) := by decide +kernel
theorem dX4_meanSpeed_33 : decode cX4_meanSpeed 33 = .ok (.iload_n 1, 1) := by decide +kernel
theorem dX4_meanSpeed_34 : decode cX4_meanSpeed 34 = .ok (.aload_n 0, 1) := by decide +kernel
theorem dX4_meanSpeed_35 : decode cX4_meanSpeed 35 = .ok (.getfield 10, 3) := by decide +kernel
theorem dX4_meanSpeed_38 : decode cX4_meanSpeed 38 = .ok (.getfield 156, 3) := by decide +kernel
theorem dX4_meanSpeed_41 : decode cX4_meanSpeed 41 = .ok (.iload_n 3, 1) := by decide +kernel
theorem dX4_meanSpeed_42 : decode cX4_meanSpeed 42 = .ok (.aaload, 1) := by decide +kernel
theorem dX4_meanSpeed_43 : decode cX4_meanSpeed 43 = .ok (.getfield 197, 3) := by decide +kernel
theorem dX4_meanSpeed_46 : decode cX4_meanSpeed 46 = .ok (.iadd, 1) := by decide +kernel
theorem dX4_meanSpeed_47 : decode cX4_meanSpeed 47 = .ok (.istore_n 1, 1) := by decide +kernel
theorem dX4_meanSpeed_48 : decode cX4_meanSpeed 48 = .ok (.iinc 2 1, 3) := by decide +kernel
theorem dX4_meanSpeed_51 : decode cX4_meanSpeed 51 = .ok (.iinc 3 1, 3) := by decide +kernel
theorem dX4_meanSpeed_54 : decode cX4_meanSpeed 54 = .ok (.goto (-48), 3) := by decide +kernel
theorem dX4_meanSpeed_57 : decode cX4_meanSpeed 57 = .ok (.iload_n 2, 1) := by decide +kernel
theorem dX4_meanSpeed_58 : decode cX4_meanSpeed 58 = .ok (.ifCond .ne 7, 3) := by decide +kernel
theorem dX4_meanSpeed_61 : decode cX4_meanSpeed 61 = .ok (.fconst 0, 1) := by decide +kernel
theorem dX4_meanSpeed_62 : decode cX4_meanSpeed 62 = .ok (.goto 8, 3) := by decide +kernel
theorem dX4_meanSpeed_65 : decode cX4_meanSpeed 65 = .ok (.iload_n 1, 1) := by decide +kernel
theorem dX4_meanSpeed_66 : decode cX4_meanSpeed 66 = .ok (.i2f, 1) := by decide +kernel
theorem dX4_meanSpeed_67 : decode cX4_meanSpeed 67 = .ok (.iload_n 2, 1) := by decide +kernel
theorem dX4_meanSpeed_68 : decode cX4_meanSpeed 68 = .ok (.i2f, 1) := by decide +kernel
theorem dX4_meanSpeed_69 : decode cX4_meanSpeed 69 = .ok (.fdiv, 1) := by decide +kernel
theorem dX4_meanSpeed_70 : decode cX4_meanSpeed 70 = .ok (.freturn, 1) := by decide +kernel
theorem dX4_requireIndex_0 : decode cX4_requireIndex 0 = .ok (.iload_n 0, 1) := by decide +kernel
theorem dX4_requireIndex_1 : decode cX4_requireIndex 1 = .ok (.ifCond .ne 13, 3) := by decide +kernel
theorem dX4_requireIndex_4 : decode cX4_requireIndex 4 = .ok (.new 200, 3) := by decide +kernel
theorem dX4_requireIndex_7 : decode cX4_requireIndex 7 = .ok (.dup, 1) := by decide +kernel
theorem dX4_requireIndex_8 : decode cX4_requireIndex 8 = .ok (.ldc 202, 2) := by decide +kernel
theorem dX4_requireIndex_10 : decode cX4_requireIndex 10 = .ok (.invokespecial 204, 3) := by decide +kernel
theorem dX4_requireIndex_13 : decode cX4_requireIndex 13 = .ok (.athrow, 1) := by decide +kernel
theorem dX4_requireIndex_14 : decode cX4_requireIndex 14 = .ok (.return_, 1) := by decide +kernel
theorem dX4_requireArgument_0 : decode cX4_requireArgument 0 = .ok (.iload_n 0, 1) := by decide +kernel
theorem dX4_requireArgument_1 : decode cX4_requireArgument 1 = .ok (.ifCond .ne 13, 3) := by decide +kernel
theorem dX4_requireArgument_4 : decode cX4_requireArgument 4 = .ok (.new 207, 3) := by decide +kernel
theorem dX4_requireArgument_7 : decode cX4_requireArgument 7 = .ok (.dup, 1) := by decide +kernel
theorem dX4_requireArgument_8 : decode cX4_requireArgument 8 = .ok (.ldc 209, 2) := by decide +kernel
theorem dX4_requireArgument_10 : decode cX4_requireArgument 10 = .ok (.invokespecial 211, 3) := by decide +kernel
theorem dX4_requireArgument_13 : decode cX4_requireArgument 13 = .ok (.athrow, 1) := by decide +kernel
theorem dX4_requireArgument_14 : decode cX4_requireArgument 14 = .ok (.return_, 1) := by decide +kernel
theorem dX4_requireState_0 : decode cX4_requireState 0 = .ok (.iload_n 0, 1) := by decide +kernel
theorem dX4_requireState_1 : decode cX4_requireState 1 = .ok (.ifCond .ne 13, 3) := by decide +kernel
theorem dX4_requireState_4 : decode cX4_requireState 4 = .ok (.new 212, 3) := by decide +kernel
theorem dX4_requireState_7 : decode cX4_requireState 7 = .ok (.dup, 1) := by decide +kernel
theorem dX4_requireState_8 : decode cX4_requireState 8 = .ok (.ldc 214, 2) := by decide +kernel
theorem dX4_requireState_10 : decode cX4_requireState 10 = .ok (.invokespecial 216, 3) := by decide +kernel
theorem dX4_requireState_13 : decode cX4_requireState 13 = .ok (.athrow, 1) := by decide +kernel
theorem dX4_requireState_14 : decode cX4_requireState 14 = .ok (.return_, 1) := by decide +kernel
theorem dX4_isWithin_0 : decode cX4_isWithin 0 = .ok (.iload_n 0, 1) := by decide +kernel
theorem dX4_isWithin_1 : decode cX4_isWithin 1 = .ok (.iload_n 1, 1) := by decide +kernel
theorem dX4_isWithin_2 : decode cX4_isWithin 2 = .ok (.if_icmp .lt 12, 3) := by decide +kernel
theorem dX4_isWithin_5 : decode cX4_isWithin 5 = .ok (.iload_n 0, 1) := by decide +kernel
theorem dX4_isWithin_6 : decode cX4_isWithin 6 = .ok (.iload_n 2, 1) := by decide +kernel
theorem dX4_isWithin_7 : decode cX4_isWithin 7 = .ok (.if_icmp .gt 7, 3) := by decide +kernel
theorem dX4_isWithin_10 : decode cX4_isWithin 10 = .ok (.iconst 1, 1) := by decide +kernel
theorem dX4_isWithin_11 : decode cX4_isWithin 11 = .ok (.goto 4, 3) := by decide +kernel
theorem dX4_isWithin_14 : decode cX4_isWithin 14 = .ok (.iconst 0, 1) := by decide +kernel
theorem dX4_isWithin_15 : decode cX4_isWithin 15 = .ok (.ireturn, 1) := by decide +kernel
theorem dX4_leastOfSetting_0 : decode cX4_leastOfSetting 0 = .ok (.iload_n 0, 1) := by decide +kernel
theorem dX4_leastOfSetting_1 : decode cX4_leastOfSetting 1 = .ok (.iconst 1, 1) := by decide +kernel
theorem dX4_leastOfSetting_2 : decode cX4_leastOfSetting 2 = .ok (.if_icmp .ne 7, 3) := by decide +kernel
theorem dX4_leastOfSetting_5 : decode cX4_leastOfSetting 5 = .ok (.iconst 1, 1) := by decide +kernel
theorem dX4_leastOfSetting_6 : decode cX4_leastOfSetting 6 = .ok (.goto 4, 3) := by decide +kernel
theorem dX4_leastOfSetting_9 : decode cX4_leastOfSetting 9 = .ok (.iconst 0, 1) := by decide +kernel
theorem dX4_leastOfSetting_10 : decode cX4_leastOfSetting 10 = .ok (.ireturn, 1) := by decide +kernel
theorem dX4_greatestOfSetting_0 : decode cX4_greatestOfSetting 0 = .ok (.iload_n 0, 1) := by decide +kernel
theorem dX4_greatestOfSetting_1 : decode cX4_greatestOfSetting 1 = .ok (.lookupswitch 32 #[(0, 27), (1, 29)], 27) := by decide +kernel
theorem dX4_greatestOfSetting_28 : decode cX4_greatestOfSetting 28 = .ok (.iconst 5, 1) := by decide +kernel
theorem dX4_greatestOfSetting_29 : decode cX4_greatestOfSetting 29 = .ok (.ireturn, 1) := by decide +kernel
theorem dX4_greatestOfSetting_30 : decode cX4_greatestOfSetting 30 = .ok (.bipush 20, 2) := by decide +kernel
theorem dX4_greatestOfSetting_32 : decode cX4_greatestOfSetting 32 = .ok (.ireturn, 1) := by decide +kernel
theorem dX4_greatestOfSetting_33 : decode cX4_greatestOfSetting 33 = .ok (.iconst 4, 1) := by decide +kernel
theorem dX4_greatestOfSetting_34 : decode cX4_greatestOfSetting 34 = .ok (.ireturn, 1) := by decide +kernel
theorem dX4_perform_0 : decode cX4_perform 0 = .ok (.aload_n 0, 1) := by decide +kernel
theorem dX4_perform_1 : decode cX4_perform 1 = .ok (.getfield 37, 3) := by decide +kernel
theorem dX4_perform_4 : decode cX4_perform 4 = .ok (.iload_n 1, 1) := by decide +kernel
theorem dX4_perform_5 : decode cX4_perform 5 = .ok (.invokevirtual 217, 3) := by decide +kernel
theorem dX4_perform_8 : decode cX4_perform 8 = .ok (.istore_n 3, 1) := by decide +kernel
theorem dX4_perform_9 : decode cX4_perform 9 = .ok (.iload_n 3, 1) := by decide +kernel
theorem dX4_perform_10 : decode cX4_perform 10 = .ok (.bipush 110, 2) := by decide +kernel
theorem dX4_perform_12 : decode cX4_perform 12 = .ok (.if_icmp .ne 20, 3) := by decide +kernel
theorem dX4_perform_15 : decode cX4_perform 15 = .ok (.aload_n 0, 1) := by decide +kernel
theorem dX4_perform_16 : decode cX4_perform 16 = .ok (.getfield 10, 3) := by decide +kernel
theorem dX4_perform_19 : decode cX4_perform 19 = .ok (.invokevirtual 74, 3) := by decide +kernel
theorem dX4_perform_22 : decode cX4_perform 22 = .ok (.iconst (-1), 1) := by decide +kernel
theorem dX4_perform_23 : decode cX4_perform 23 = .ok (.if_icmp .eq 7, 3) := by decide +kernel
theorem dX4_perform_26 : decode cX4_perform 26 = .ok (.iconst 1, 1) := by decide +kernel
theorem dX4_perform_27 : decode cX4_perform 27 = .ok (.goto 4, 3) := by decide +kernel
theorem dX4_perform_30 : decode cX4_perform 30 = .ok (.iconst 0, 1) := by decide +kernel
theorem dX4_perform_31 : decode cX4_perform 31 = .ok (.ireturn, 1) := by decide +kernel
theorem dX4_perform_32 : decode cX4_perform 32 = .ok (.iload_n 3, 1) := by decide +kernel
theorem dX4_perform_33 : decode cX4_perform 33 = .ok (.bipush 116, 2) := by decide +kernel
theorem dX4_perform_35 : decode cX4_perform 35 = .ok (.if_icmp .ne 23, 3) := by decide +kernel
theorem dX4_perform_38 : decode cX4_perform 38 = .ok (.aload_n 0, 1) := by decide +kernel
theorem dX4_perform_39 : decode cX4_perform 39 = .ok (.getfield 10, 3) := by decide +kernel
theorem dX4_perform_42 : decode cX4_perform 42 = .ok (.aload_n 0, 1) := by decide +kernel
theorem dX4_perform_43 : decode cX4_perform 43 = .ok (.getfield 37, 3) := by decide +kernel
theorem dX4_perform_46 : decode cX4_perform 46 = .ok (.iload_n 1, 1) := by decide +kernel
theorem dX4_perform_47 : decode cX4_perform 47 = .ok (.iconst 1, 1) := by decide +kernel
theorem dX4_perform_48 : decode cX4_perform 48 = .ok (.iadd, 1) := by decide +kernel
theorem dX4_perform_49 : decode cX4_perform 49 = .ok (.iload_n 2, 1) := by decide +kernel
theorem dX4_perform_50 : decode cX4_perform 50 = .ok (.invokevirtual 221, 3) := by decide +kernel
theorem dX4_perform_53 : decode cX4_perform 53 = .ok (.invokevirtual 114, 3) := by decide +kernel
theorem dX4_perform_56 : decode cX4_perform 56 = .ok (.iconst 1, 1) := by decide +kernel
theorem dX4_perform_57 : decode cX4_perform 57 = .ok (.ireturn, 1) := by decide +kernel
theorem dX4_perform_58 : decode cX4_perform 58 = .ok (.aload_n 0, 1) := by decide +kernel
theorem dX4_perform_59 : decode cX4_perform 59 = .ok (.getfield 37, 3) := by decide +kernel
theorem dX4_perform_62 : decode cX4_perform 62 = .ok (.iload_n 1, 1) := by decide +kernel
theorem dX4_perform_63 : decode cX4_perform 63 = .ok (.iconst 1, 1) := by decide +kernel
theorem dX4_perform_64 : decode cX4_perform 64 = .ok (.iadd, 1) := by decide +kernel
theorem dX4_perform_65 : decode cX4_perform 65 = .ok (.iload_n 1, 1) := by decide +kernel
theorem dX4_perform_66 : decode cX4_perform 66 = .ok (.iconst 2, 1) := by decide +kernel
theorem dX4_perform_67 : decode cX4_perform 67 = .ok (.iadd, 1) := by decide +kernel
theorem dX4_perform_68 : decode cX4_perform 68 = .ok (.invokevirtual 221, 3) := by decide +kernel
theorem dX4_perform_71 : decode cX4_perform 71 = .ok (.istore 4, 2) := by decide +kernel
theorem dX4_perform_73 : decode cX4_perform 73 = .ok (.aload_n 0, 1) := by decide +kernel
theorem dX4_perform_74 : decode cX4_perform 74 = .ok (.getfield 10, 3) := by decide +kernel
theorem dX4_perform_77 : decode cX4_perform 77 = .ok (.iload 4, 2) := by decide +kernel
theorem dX4_perform_79 : decode cX4_perform 79 = .ok (.invokevirtual 77, 3) := by decide +kernel
theorem dX4_perform_82 : decode cX4_perform 82 = .ok (.ifCond .eq 28, 3) := by decide +kernel
theorem dX4_perform_85 : decode cX4_perform 85 = .ok (.aload_n 0, 1) := by decide +kernel
theorem dX4_perform_86 : decode cX4_perform 86 = .ok (.iload 4, 2) := by decide +kernel
theorem dX4_perform_88 : decode cX4_perform 88 = .ok (.iload_n 3, 1) := by decide +kernel
theorem dX4_perform_89 : decode cX4_perform 89 = .ok (.aload_n 0, 1) := by decide +kernel
theorem dX4_perform_90 : decode cX4_perform 90 = .ok (.getfield 37, 3) := by decide +kernel
theorem dX4_perform_93 : decode cX4_perform 93 = .ok (.iload_n 1, 1) := by decide +kernel
theorem dX4_perform_94 : decode cX4_perform 94 = .ok (.iconst 3, 1) := by decide +kernel
theorem dX4_perform_95 : decode cX4_perform 95 = .ok (.iadd, 1) := by decide +kernel
theorem dX4_perform_96 : decode cX4_perform 96 = .ok (.iload_n 2, 1) := by decide +kernel
theorem dX4_perform_97 : decode cX4_perform 97 = .ok (.invokevirtual 221, 3) := by decide +kernel
theorem dX4_perform_100 : decode cX4_perform 100 = .ok (.invokevirtual 224, 3) := by decide +kernel
theorem dX4_perform_103 : decode cX4_perform 103 = .ok (.ifCond .eq 7, 3) := by decide +kernel
theorem dX4_perform_106 : decode cX4_perform 106 = .ok (.iconst 1, 1) := by decide +kernel
theorem dX4_perform_107 : decode cX4_perform 107 = .ok (.goto 4, 3) := by decide +kernel
theorem dX4_perform_110 : decode cX4_perform 110 = .ok (.iconst 0, 1) := by decide +kernel
theorem dX4_perform_111 : decode cX4_perform 111 = .ok (.ireturn, 1) := by decide +kernel
theorem dX4_performOn_0 : decode cX4_performOn 0 = .ok (.iload_n 2, 1) := by decide +kernel
theorem dX4_performOn_1 : decode cX4_performOn 1 = .ok (.bipush 114, 2) := by decide +kernel
theorem dX4_performOn_3 : decode cX4_performOn 3 = .ok (.if_icmp .ne 21, 3) := by decide +kernel
theorem dX4_performOn_6 : decode cX4_performOn 6 = .ok (.aload_n 0, 1) := by decide +kernel
theorem dX4_performOn_7 : decode cX4_performOn 7 = .ok (.getfield 10, 3) := by decide +kernel
theorem dX4_performOn_10 : decode cX4_performOn 10 = .ok (.iload_n 1, 1) := by decide +kernel
theorem dX4_performOn_11 : decode cX4_performOn 11 = .ok (.iload_n 3, 1) := by decide +kernel
theorem dX4_performOn_12 : decode cX4_performOn 12 = .ok (.invokevirtual 89, 3) := by decide +kernel
theorem dX4_performOn_15 : decode cX4_performOn 15 = .ok (.ifCond .ne 7, 3) := by decide +kernel
theorem dX4_performOn_18 : decode cX4_performOn 18 = .ok (.iconst 1, 1) := by decide +kernel
theorem dX4_performOn_19 : decode cX4_performOn 19 = .ok (.goto 4, 3) := by decide +kernel
theorem dX4_performOn_22 : decode cX4_performOn 22 = .ok (.iconst 0, 1) := by decide +kernel
theorem dX4_performOn_23 : decode cX4_performOn 23 = .ok (.ireturn, 1) := by decide +kernel
theorem dX4_performOn_24 : decode cX4_performOn 24 = .ok (.iload_n 2, 1) := by decide +kernel
theorem dX4_performOn_25 : decode cX4_performOn 25 = .ok (.bipush 109, 2) := by decide +kernel
theorem dX4_performOn_27 : decode cX4_performOn 27 = .ok (.if_icmp .ne 20, 3) := by decide +kernel
theorem dX4_performOn_30 : decode cX4_performOn 30 = .ok (.aload_n 0, 1) := by decide +kernel
theorem dX4_performOn_31 : decode cX4_performOn 31 = .ok (.getfield 10, 3) := by decide +kernel
theorem dX4_performOn_34 : decode cX4_performOn 34 = .ok (.iload_n 1, 1) := by decide +kernel
theorem dX4_performOn_35 : decode cX4_performOn 35 = .ok (.invokevirtual 98, 3) := by decide +kernel
theorem dX4_performOn_38 : decode cX4_performOn 38 = .ok (.ifCond .ne 7, 3) := by decide +kernel
theorem dX4_performOn_41 : decode cX4_performOn 41 = .ok (.iconst 1, 1) := by decide +kernel
theorem dX4_performOn_42 : decode cX4_performOn 42 = .ok (.goto 4, 3) := by decide +kernel
theorem dX4_performOn_45 : decode cX4_performOn 45 = .ok (.iconst 0, 1) := by decide +kernel
theorem dX4_performOn_46 : decode cX4_performOn 46 = .ok (.ireturn, 1) := by decide +kernel
theorem dX4_performOn_47 : decode cX4_performOn 47 = .ok (.iload_n 2, 1) := by decide +kernel
theorem dX4_performOn_48 : decode cX4_performOn 48 = .ok (.bipush 108, 2) := by decide +kernel
theorem dX4_performOn_50 : decode cX4_performOn 50 = .ok (.if_icmp .ne 27, 3) := by decide +kernel
theorem dX4_performOn_53 : decode cX4_performOn 53 = .ok (.aload_n 0, 1) := by decide +kernel
theorem dX4_performOn_54 : decode cX4_performOn 54 = .ok (.getfield 10, 3) := by decide +kernel
theorem dX4_performOn_57 : decode cX4_performOn 57 = .ok (.iload_n 1, 1) := by decide +kernel
theorem dX4_performOn_58 : decode cX4_performOn 58 = .ok (.iload_n 3, 1) := by decide +kernel
theorem dX4_performOn_59 : decode cX4_performOn 59 = .ok (.invokevirtual 81, 3) := by decide +kernel
theorem dX4_performOn_62 : decode cX4_performOn 62 = .ok (.ifCond .eq 15, 3) := by decide +kernel
theorem dX4_performOn_65 : decode cX4_performOn 65 = .ok (.aload_n 0, 1) := by decide +kernel
theorem dX4_performOn_66 : decode cX4_performOn 66 = .ok (.getfield 10, 3) := by decide +kernel
theorem dX4_performOn_69 : decode cX4_performOn 69 = .ok (.iload_n 1, 1) := by decide +kernel
theorem dX4_performOn_70 : decode cX4_performOn 70 = .ok (.iload_n 3, 1) := by decide +kernel
theorem dX4_performOn_71 : decode cX4_performOn 71 = .ok (.invokevirtual 85, 3) := by decide +kernel
theorem dX4_performOn_74 : decode cX4_performOn 74 = .ok (.pop, 1) := by decide +kernel
theorem dX4_performOn_75 : decode cX4_performOn 75 = .ok (.iconst 1, 1) := by decide +kernel
theorem dX4_performOn_76 : decode cX4_performOn 76 = .ok (.ireturn, 1) := by decide +kernel
theorem dX4_performOn_77 : decode cX4_performOn 77 = .ok (.iload_n 2, 1) := by decide +kernel
theorem dX4_performOn_78 : decode cX4_performOn 78 = .ok (.bipush 98, 2) := by decide +kernel
theorem dX4_performOn_80 : decode cX4_performOn 80 = .ok (.if_icmp .ne 26, 3) := by decide +kernel
theorem dX4_performOn_83 : decode cX4_performOn 83 = .ok (.aload_n 0, 1) := by decide +kernel
theorem dX4_performOn_84 : decode cX4_performOn 84 = .ok (.getfield 10, 3) := by decide +kernel
theorem dX4_performOn_87 : decode cX4_performOn 87 = .ok (.iload_n 1, 1) := by decide +kernel
theorem dX4_performOn_88 : decode cX4_performOn 88 = .ok (.invokevirtual 92, 3) := by decide +kernel
theorem dX4_performOn_91 : decode cX4_performOn 91 = .ok (.ifCond .eq 15, 3) := by decide +kernel
theorem dX4_performOn_94 : decode cX4_performOn 94 = .ok (.aload_n 0, 1) := by decide +kernel
theorem dX4_performOn_95 : decode cX4_performOn 95 = .ok (.getfield 10, 3) := by decide +kernel
theorem dX4_performOn_98 : decode cX4_performOn 98 = .ok (.iload_n 1, 1) := by decide +kernel
theorem dX4_performOn_99 : decode cX4_performOn 99 = .ok (.iload_n 3, 1) := by decide +kernel
theorem dX4_performOn_100 : decode cX4_performOn 100 = .ok (.invokevirtual 95, 3) := by decide +kernel
theorem dX4_performOn_103 : decode cX4_performOn 103 = .ok (.pop, 1) := by decide +kernel
theorem dX4_performOn_104 : decode cX4_performOn 104 = .ok (.iconst 1, 1) := by decide +kernel
theorem dX4_performOn_105 : decode cX4_performOn 105 = .ok (.ireturn, 1) := by decide +kernel
theorem dX4_performOn_106 : decode cX4_performOn 106 = .ok (.iconst 0, 1) := by decide +kernel
theorem dX4_performOn_107 : decode cX4_performOn 107 = .ok (.ireturn, 1) := by decide +kernel
theorem dX4_tryAlone_0 : decode cX4_tryAlone 0 = .ok (.aload_n 0, 1) := by decide +kernel
theorem dX4_tryAlone_1 : decode cX4_tryAlone 1 = .ok (.getfield 16, 3) := by decide +kernel
theorem dX4_tryAlone_4 : decode cX4_tryAlone 4 = .ok (.aload_n 0, 1) := by decide +kernel
theorem dX4_tryAlone_5 : decode cX4_tryAlone 5 = .ok (.getfield 10, 3) := by decide +kernel
theorem dX4_tryAlone_8 : decode cX4_tryAlone 8 = .ok (.invokevirtual 144, 3) := by decide +kernel
theorem dX4_tryAlone_11 : decode cX4_tryAlone 11 = .ok (.aload_n 0, 1) := by decide +kernel
theorem dX4_tryAlone_12 : decode cX4_tryAlone 12 = .ok (.getfield 16, 3) := by decide +kernel
theorem dX4_tryAlone_15 : decode cX4_tryAlone 15 = .ok (.iload_n 1, 1) := by decide +kernel
theorem dX4_tryAlone_16 : decode cX4_tryAlone 16 = .ok (.iload_n 2, 1) := by decide +kernel
theorem dX4_tryAlone_17 : decode cX4_tryAlone 17 = .ok (.invokevirtual 228, 3) := by decide +kernel
theorem dX4_tryAlone_20 : decode cX4_tryAlone 20 = .ok (.iconst 0, 1) := by decide +kernel
theorem dX4_tryAlone_21 : decode cX4_tryAlone 21 = .ok (.istore_n 3, 1) := by decide +kernel
theorem dX4_tryAlone_22 : decode cX4_tryAlone 22 = .ok (.iload_n 3, 1) := by decide +kernel
theorem dX4_tryAlone_23 : decode cX4_tryAlone 23 = .ok (.sipush 200, 3) := by decide +kernel
theorem dX4_tryAlone_26 : decode cX4_tryAlone 26 = .ok (.if_icmp .ge 27, 3) := by decide +kernel
theorem dX4_tryAlone_29 : decode cX4_tryAlone 29 = .ok (.aload_n 0, 1) := by decide +kernel
theorem dX4_tryAlone_30 : decode cX4_tryAlone 30 = .ok (.getfield 16, 3) := by decide +kernel
theorem dX4_tryAlone_33 : decode cX4_tryAlone 33 = .ok (.iconst 0, 1) := by decide +kernel
theorem dX4_tryAlone_34 : decode cX4_tryAlone 34 = .ok (.invokevirtual 92, 3) := by decide +kernel
theorem dX4_tryAlone_37 : decode cX4_tryAlone 37 = .ok (.ifCond .eq 16, 3) := by decide +kernel
theorem dX4_tryAlone_40 : decode cX4_tryAlone 40 = .ok (.aload_n 0, 1) := by decide +kernel
theorem dX4_tryAlone_41 : decode cX4_tryAlone 41 = .ok (.getfield 16, 3) := by decide +kernel
theorem dX4_tryAlone_44 : decode cX4_tryAlone 44 = .ok (.invokevirtual 232, 3) := by decide +kernel
theorem dX4_tryAlone_47 : decode cX4_tryAlone 47 = .ok (.iinc 3 1, 3) := by decide +kernel
theorem dX4_tryAlone_50 : decode cX4_tryAlone 50 = .ok (.goto (-28), 3) := by decide +kernel
theorem dX4_tryAlone_53 : decode cX4_tryAlone 53 = .ok (.iload_n 3, 1) := by decide +kernel
theorem dX4_tryAlone_54 : decode cX4_tryAlone 54 = .ok (.ireturn, 1) := by decide +kernel
theorem dX5_init_0 : decode cX5_init 0 = .ok (.aload_n 0, 1) := by decide +kernel
theorem dX5_init_1 : decode cX5_init 1 = .ok (.invokespecial 1, 3) := by decide +kernel
theorem dX5_init_4 : decode cX5_init 4 = .ok (.aload_n 0, 1) := by decide +kernel
theorem dX5_init_5 : decode cX5_init 5 = .ok (.sipush 171, 3) := by decide +kernel
theorem dX5_init_8 : decode cX5_init 8 = .ok (.newarray .int, 2) := by decide +kernel
theorem dX5_init_10 : decode cX5_init 10 = .ok (.putfield 7, 3) := by decide +kernel
theorem dX5_init_13 : decode cX5_init 13 = .ok (.aload_n 0, 1) := by decide +kernel
theorem dX5_init_14 : decode cX5_init 14 = .ok (.sipush 171, 3) := by decide +kernel
theorem dX5_init_17 : decode cX5_init 17 = .ok (.newarray .int, 2) := by decide +kernel
theorem dX5_init_19 : decode cX5_init 19 = .ok (.putfield 13, 3) := by decide +kernel
theorem dX5_init_22 : decode cX5_init 22 = .ok (.aload_n 0, 1) := by decide +kernel
theorem dX5_init_23 : decode cX5_init 23 = .ok (.sipush 1026, 3) := by decide +kernel
theorem dX5_init_26 : decode cX5_init 26 = .ok (.newarray .int, 2) := by decide +kernel
theorem dX5_init_28 : decode cX5_init 28 = .ok (.putfield 16, 3) := by decide +kernel
theorem dX5_init_31 : decode cX5_init 31 = .ok (.aload_n 0, 1) := by decide +kernel
theorem dX5_init_32 : decode cX5_init 32 = .ok (.sipush 342, 3) := by decide +kernel
theorem dX5_init_35 : decode cX5_init 35 = .ok (.newarray .int, 2) := by decide +kernel
theorem dX5_init_37 : decode cX5_init 37 = .ok (.putfield 19, 3) := by decide +kernel
theorem dX5_init_40 : decode cX5_init 40 = .ok (.aload_n 0, 1) := by decide +kernel
theorem dX5_init_41 : decode cX5_init 41 = .ok (.iconst 2, 1) := by decide +kernel
theorem dX5_init_42 : decode cX5_init 42 = .ok (.newarray .boolean, 2) := by decide +kernel
theorem dX5_init_44 : decode cX5_init 44 = .ok (.putfield 22, 3) := by decide +kernel
theorem dX5_init_47 : decode cX5_init 47 = .ok (.aload_n 0, 1) := by decide +kernel
theorem dX5_init_48 : decode cX5_init 48 = .ok (.bipush 60, 2) := by decide +kernel
theorem dX5_init_50 : decode cX5_init 50 = .ok (.newarray .int, 2) := by decide +kernel
theorem dX5_init_52 : decode cX5_init 52 = .ok (.putfield 26, 3) := by decide +kernel
theorem dX5_init_55 : decode cX5_init 55 = .ok (.aload_n 0, 1) := by decide +kernel
theorem dX5_init_56 : decode cX5_init 56 = .ok (.bipush 8, 2) := by decide +kernel
theorem dX5_init_58 : decode cX5_init 58 = .ok (.newarray .int, 2) := by decide +kernel
theorem dX5_init_60 : decode cX5_init 60 = .ok (.putfield 29, 3) := by decide +kernel
theorem dX5_init_63 : decode cX5_init 63 = .ok (.aload_n 0, 1) := by decide +kernel
theorem dX5_init_64 : decode cX5_init 64 = .ok (.bipush 8, 2) := by decide +kernel
theorem dX5_init_66 : decode cX5_init 66 = .ok (.newarray .boolean, 2) := by decide +kernel
theorem dX5_init_68 : decode cX5_init 68 = .ok (.putfield 32, 3) := by decide +kernel
theorem dX5_init_71 : decode cX5_init 71 = .ok (.iconst 0, 1) := by decide +kernel
theorem dX5_init_72 : decode cX5_init 72 = .ok (.istore_n 1, 1) := by decide +kernel
theorem dX5_init_73 : decode cX5_init 73 = .ok (.iload_n 1, 1) := by decide +kernel
theorem dX5_init_74 : decode cX5_init 74 = .ok (.bipush 30, 2) := by decide +kernel
theorem dX5_init_76 : decode cX5_init 76 = .ok (.if_icmp .ge 18, 3) := by decide +kernel
theorem dX5_init_79 : decode cX5_init 79 = .ok (.aload_n 0, 1) := by decide +kernel
theorem dX5_init_80 : decode cX5_init 80 = .ok (.getfield 7, 3) := by decide +kernel
theorem dX5_init_83 : decode cX5_init 83 = .ok (.iconst 0, 1) := by decide +kernel
theorem dX5_init_84 : decode cX5_init 84 = .ok (.iload_n 1, 1) := by decide +kernel
theorem dX5_init_85 : decode cX5_init 85 = .ok (.iadd, 1) := by decide +kernel
theorem dX5_init_86 : decode cX5_init 86 = .ok (.iconst 3, 1) := by decide +kernel
theorem dX5_init_87 : decode cX5_init 87 = .ok (.iastore, 1) := by decide +kernel
theorem dX5_init_88 : decode cX5_init 88 = .ok (.iinc 1 1, 3) := by decide +kernel
theorem dX5_init_91 : decode cX5_init 91 = .ok (.goto (-18), 3) := by decide +kernel
theorem dX5_init_94 : decode cX5_init 94 = .ok (.aload_n 0, 1) := by decide +kernel
theorem dX5_init_95 : decode cX5_init 95 = .ok (.getfield 7, 3) := by decide +kernel
theorem dX5_init_98 : decode cX5_init 98 = .ok (.sipush 168, 3) := by decide +kernel
theorem dX5_init_101 : decode cX5_init 101 = .ok (.iconst 2, 1) := by decide +kernel
theorem dX5_init_102 : decode cX5_init 102 = .ok (.iastore, 1) := by decide +kernel
theorem dX5_init_103 : decode cX5_init 103 = .ok (.aload_n 0, 1) := by decide +kernel
theorem dX5_init_104 : decode cX5_init 104 = .ok (.getfield 7, 3) := by decide +kernel
theorem dX5_init_107 : decode cX5_init 107 = .ok (.sipush 169, 3) := by decide +kernel
theorem dX5_init_110 : decode cX5_init 110 = .ok (.bipush 6, 2) := by decide +kernel
theorem dX5_init_112 : decode cX5_init 112 = .ok (.iastore, 1) := by decide +kernel
theorem dX5_init_113 : decode cX5_init 113 = .ok (.aload_n 0, 1) := by decide +kernel
theorem dX5_init_114 : decode cX5_init 114 = .ok (.getfield 7, 3) := by decide +kernel
theorem dX5_init_117 : decode cX5_init 117 = .ok (.sipush 170, 3) := by decide +kernel
theorem dX5_init_120 : decode cX5_init 120 = .ok (.iconst 1, 1) := by decide +kernel
theorem dX5_init_121 : decode cX5_init 121 = .ok (.iastore, 1) := by decide +kernel
theorem dX5_init_122 : decode cX5_init 122 = .ok (.return_, 1) := by decide +kernel
theorem dX5_thrown_0 : decode cX5_thrown 0 = .ok (.aload_n 0, 1) := by decide +kernel
theorem dX5_thrown_1 : decode cX5_thrown 1 = .ok (.getfield 35, 3) := by decide +kernel
theorem dX5_thrown_4 : decode cX5_thrown 4 = .ok (.ireturn, 1) := by decide +kernel
theorem dX5_refused_0 : decode cX5_refused 0 = .ok (.aload_n 0, 1) := by decide +kernel
theorem dX5_refused_1 : decode cX5_refused 1 = .ok (.iload_n 1, 1) := by decide +kernel
theorem dX5_refused_2 : decode cX5_refused 2 = .ok (.putfield 35, 3) := by decide +kernel
theorem dX5_refused_5 : decode cX5_refused 5 = .ok (.iload_n 1, 1) := by decide +kernel
theorem dX5_refused_6 : decode cX5_refused 6 = .ok (.ifCond .le 7, 3) := by decide +kernel
theorem dX5_refused_9 : decode cX5_refused 9 = .ok (.iconst 1, 1) := by decide +kernel
theorem dX5_refused_10 : decode cX5_refused 10 = .ok (.goto 4, 3) := by decide +kernel
theorem dX5_refused_13 : decode cX5_refused 13 = .ok (.iconst 0, 1) := by decide +kernel
theorem dX5_refused_14 : decode cX5_refused 14 = .ok (.ireturn, 1) := by decide +kernel
theorem dX5_in_0 : decode cX5_in 0 = .ok (.iload_n 0, 1) := by decide +kernel
theorem dX5_in_1 : decode cX5_in 1 = .ok (.iload_n 1, 1) := by decide +kernel
theorem dX5_in_2 : decode cX5_in 2 = .ok (.if_icmp .lt 12, 3) := by decide +kernel
theorem dX5_in_5 : decode cX5_in 5 = .ok (.iload_n 0, 1) := by decide +kernel
theorem dX5_in_6 : decode cX5_in 6 = .ok (.iload_n 2, 1) := by decide +kernel
theorem dX5_in_7 : decode cX5_in 7 = .ok (.if_icmp .gt 7, 3) := by decide +kernel
theorem dX5_in_10 : decode cX5_in 10 = .ok (.iconst 1, 1) := by decide +kernel
theorem dX5_in_11 : decode cX5_in 11 = .ok (.goto 4, 3) := by decide +kernel
theorem dX5_in_14 : decode cX5_in 14 = .ok (.iconst 0, 1) := by decide +kernel
theorem dX5_in_15 : decode cX5_in 15 = .ok (.ireturn, 1) := by decide +kernel
theorem dX5_of_0 : decode cX5_of 0 = .ok (.bipush 90, 2) := by decide +kernel
theorem dX5_of_2 : decode cX5_of 2 = .ok (.bipush 9, 2) := by decide +kernel
theorem dX5_of_4 : decode cX5_of 4 = .ok (.iload_n 0, 1) := by decide +kernel
theorem dX5_of_5 : decode cX5_of 5 = .ok (.imul, 1) := by decide +kernel
theorem dX5_of_6 : decode cX5_of 6 = .ok (.iadd, 1) := by decide +kernel
theorem dX5_of_7 : decode cX5_of 7 = .ok (.iload_n 1, 1) := by decide +kernel
theorem dX5_of_8 : decode cX5_of 8 = .ok (.iadd, 1) := by decide +kernel
theorem dX5_of_9 : decode cX5_of 9 = .ok (.ireturn, 1) := by decide +kernel
theorem dX5_isCar_0 : decode cX5_isCar 0 = .ok (.iload_n 1, 1) := by decide +kernel
theorem dX5_isCar_1 : decode cX5_isCar 1 = .ok (.iconst 0, 1) := by decide +kernel
theorem dX5_isCar_2 : decode cX5_isCar 2 = .ok (.aload_n 0, 1) := by decide +kernel
theorem dX5_isCar_3 : decode cX5_isCar 3 = .ok (.getfield 7, 3) := by decide +kernel
theorem dX5_isCar_6 : decode cX5_isCar 6 = .ok (.sipush 162, 3) := by decide +kernel
theorem dX5_isCar_9 : decode cX5_isCar 9 = .ok (.iaload, 1) := by decide +kernel
theorem dX5_isCar_10 : decode cX5_isCar 10 = .ok (.iconst 1, 1) := by decide +kernel
theorem dX5_isCar_11 : decode cX5_isCar 11 = .ok (.isub, 1) := by decide +kernel
theorem dX5_isCar_12 : decode cX5_isCar 12 = .ok (.invokestatic 39, 3) := by decide +kernel
theorem dX5_isCar_15 : decode cX5_isCar 15 = .ok (.ireturn, 1) := by decide +kernel
theorem dX5_isIn_0 : decode cX5_isIn 0 = .ok (.aload_n 0, 1) := by decide +kernel
theorem dX5_isIn_1 : decode cX5_isIn 1 = .ok (.getfield 7, 3) := by decide +kernel
theorem dX5_isIn_4 : decode cX5_isIn 4 = .ok (.iload_n 1, 1) := by decide +kernel
theorem dX5_isIn_5 : decode cX5_isIn 5 = .ok (.iconst 0, 1) := by decide +kernel
theorem dX5_isIn_6 : decode cX5_isIn 6 = .ok (.invokestatic 43, 3) := by decide +kernel
theorem dX5_isIn_9 : decode cX5_isIn 9 = .ok (.iaload, 1) := by decide +kernel
theorem dX5_isIn_10 : decode cX5_isIn 10 = .ok (.iload_n 2, 1) := by decide +kernel
theorem dX5_isIn_11 : decode cX5_isIn 11 = .ok (.if_icmp .ne 7, 3) := by decide +kernel
theorem dX5_isIn_14 : decode cX5_isIn 14 = .ok (.iconst 1, 1) := by decide +kernel
theorem dX5_isIn_15 : decode cX5_isIn 15 = .ok (.goto 4, 3) := by decide +kernel
theorem dX5_isIn_18 : decode cX5_isIn 18 = .ok (.iconst 0, 1) := by decide +kernel
theorem dX5_isIn_19 : decode cX5_isIn 19 = .ok (.ireturn, 1) := by decide +kernel
theorem dX5_saves_0 : decode cX5_saves 0 = .ok (.aload_n 0, 1) := by decide +kernel
theorem dX5_saves_1 : decode cX5_saves 1 = .ok (.getfield 47, 3) := by decide +kernel
theorem dX5_saves_4 : decode cX5_saves 4 = .ok (.bipush 6, 2) := by decide +kernel
theorem dX5_saves_6 : decode cX5_saves 6 = .ok (.if_icmp .ne 44, 3) := by decide +kernel
theorem dX5_saves_9 : decode cX5_saves 9 = .ok (.iconst 0, 1) := by decide +kernel
theorem dX5_saves_10 : decode cX5_saves 10 = .ok (.istore_n 1, 1) := by decide +kernel
theorem dX5_saves_11 : decode cX5_saves 11 = .ok (.iload_n 1, 1) := by decide +kernel
theorem dX5_saves_12 : decode cX5_saves 12 = .ok (.sipush 855, 3) := by decide +kernel
theorem dX5_saves_15 : decode cX5_saves 15 = .ok (.if_icmp .ge 25, 3) := by decide +kernel
theorem dX5_saves_18 : decode cX5_saves 18 = .ok (.aload_n 0, 1) := by decide +kernel
theorem dX5_saves_19 : decode cX5_saves 19 = .ok (.getfield 16, 3) := by decide +kernel
theorem dX5_saves_22 : decode cX5_saves 22 = .ok (.iload_n 1, 1) := by decide +kernel
theorem dX5_saves_23 : decode cX5_saves 23 = .ok (.aload_n 0, 1) := by decide +kernel
theorem dX5_saves_24 : decode cX5_saves 24 = .ok (.getfield 16, 3) := by decide +kernel
theorem dX5_saves_27 : decode cX5_saves 27 = .ok (.sipush 171, 3) := by decide +kernel
theorem dX5_saves_30 : decode cX5_saves 30 = .ok (.iload_n 1, 1) := by decide +kernel
theorem dX5_saves_31 : decode cX5_saves 31 = .ok (.iadd, 1) := by decide +kernel
theorem dX5_saves_32 : decode cX5_saves 32 = .ok (.iaload, 1) := by decide +kernel
theorem dX5_saves_33 : decode cX5_saves 33 = .ok (.iastore, 1) := by decide +kernel
theorem dX5_saves_34 : decode cX5_saves 34 = .ok (.iinc 1 1, 3) := by decide +kernel
theorem dX5_saves_37 : decode cX5_saves 37 = .ok (.goto (-26), 3) := by decide +kernel
theorem dX5_saves_40 : decode cX5_saves 40 = .ok (.aload_n 0, 1) := by decide +kernel
theorem dX5_saves_41 : decode cX5_saves 41 = .ok (.dup, 1) := by decide +kernel
theorem dX5_saves_42 : decode cX5_saves 42 = .ok (.getfield 47, 3) := by decide +kernel
theorem dX5_saves_45 : decode cX5_saves 45 = .ok (.iconst 1, 1) := by decide +kernel
theorem dX5_saves_46 : decode cX5_saves 46 = .ok (.isub, 1) := by decide +kernel
theorem dX5_saves_47 : decode cX5_saves 47 = .ok (.putfield 47, 3) := by decide +kernel
theorem dX5_saves_50 : decode cX5_saves 50 = .ok (.iconst 0, 1) := by decide +kernel
theorem dX5_saves_51 : decode cX5_saves 51 = .ok (.istore_n 1, 1) := by decide +kernel
theorem dX5_saves_52 : decode cX5_saves 52 = .ok (.iload_n 1, 1) := by decide +kernel
theorem dX5_saves_53 : decode cX5_saves 53 = .ok (.sipush 171, 3) := by decide +kernel
theorem dX5_saves_56 : decode cX5_saves 56 = .ok (.if_icmp .ge 30, 3) := by decide +kernel
theorem dX5_saves_59 : decode cX5_saves 59 = .ok (.aload_n 0, 1) := by decide +kernel
theorem dX5_saves_60 : decode cX5_saves 60 = .ok (.getfield 16, 3) := by decide +kernel
theorem dX5_saves_63 : decode cX5_saves 63 = .ok (.sipush 171, 3) := by decide +kernel
theorem dX5_saves_66 : decode cX5_saves 66 = .ok (.aload_n 0, 1) := by decide +kernel
theorem dX5_saves_67 : decode cX5_saves 67 = .ok (.getfield 47, 3) := by decide +kernel
theorem dX5_saves_70 : decode cX5_saves 70 = .ok (.imul, 1) := by decide +kernel
theorem dX5_saves_71 : decode cX5_saves 71 = .ok (.iload_n 1, 1) := by decide +kernel
theorem dX5_saves_72 : decode cX5_saves 72 = .ok (.iadd, 1) := by decide +kernel
theorem dX5_saves_73 : decode cX5_saves 73 = .ok (.aload_n 0, 1) := by decide +kernel
theorem dX5_saves_74 : decode cX5_saves 74 = .ok (.getfield 7, 3) := by decide +kernel
theorem dX5_saves_77 : decode cX5_saves 77 = .ok (.iload_n 1, 1) := by decide +kernel
theorem dX5_saves_78 : decode cX5_saves 78 = .ok (.iaload, 1) := by decide +kernel
theorem dX5_saves_79 : decode cX5_saves 79 = .ok (.iastore, 1) := by decide +kernel
theorem dX5_saves_80 : decode cX5_saves 80 = .ok (.iinc 1 1, 3) := by decide +kernel
theorem dX5_saves_83 : decode cX5_saves 83 = .ok (.goto (-31), 3) := by decide +kernel
theorem dX5_saves_86 : decode cX5_saves 86 = .ok (.aload_n 0, 1) := by decide +kernel
theorem dX5_saves_87 : decode cX5_saves 87 = .ok (.dup, 1) := by decide +kernel
theorem dX5_saves_88 : decode cX5_saves 88 = .ok (.getfield 47, 3) := by decide +kernel
theorem dX5_saves_91 : decode cX5_saves 91 = .ok (.iconst 1, 1) := by decide +kernel
theorem dX5_saves_92 : decode cX5_saves 92 = .ok (.iadd, 1) := by decide +kernel
theorem dX5_saves_93 : decode cX5_saves 93 = .ok (.putfield 47, 3) := by decide +kernel
theorem dX5_saves_96 : decode cX5_saves 96 = .ok (.return_, 1) := by decide +kernel
theorem dX5_putAside_0 : decode cX5_putAside 0 = .ok (.iconst 0, 1) := by decide +kernel
theorem dX5_putAside_1 : decode cX5_putAside 1 = .ok (.istore_n 1, 1) := by decide +kernel
theorem dX5_putAside_2 : decode cX5_putAside 2 = .ok (.iload_n 1, 1) := by decide +kernel
theorem dX5_putAside_3 : decode cX5_putAside 3 = .ok (.sipush 171, 3) := by decide +kernel
theorem dX5_putAside_6 : decode cX5_putAside 6 = .ok (.if_icmp .ge 21, 3) := by decide +kernel
theorem dX5_putAside_9 : decode cX5_putAside 9 = .ok (.aload_n 0, 1) := by decide +kernel
theorem dX5_putAside_10 : decode cX5_putAside 10 = .ok (.getfield 13, 3) := by decide +kernel
theorem dX5_putAside_13 : decode cX5_putAside 13 = .ok (.iload_n 1, 1) := by decide +kernel
theorem dX5_putAside_14 : decode cX5_putAside 14 = .ok (.aload_n 0, 1) := by decide +kernel
theorem dX5_putAside_15 : decode cX5_putAside 15 = .ok (.getfield 7, 3) := by decide +kernel
theorem dX5_putAside_18 : decode cX5_putAside 18 = .ok (.iload_n 1, 1) := by decide +kernel
theorem dX5_putAside_19 : decode cX5_putAside 19 = .ok (.iaload, 1) := by decide +kernel
theorem dX5_putAside_20 : decode cX5_putAside 20 = .ok (.iastore, 1) := by decide +kernel
theorem dX5_putAside_21 : decode cX5_putAside 21 = .ok (.iinc 1 1, 3) := by decide +kernel
theorem dX5_putAside_24 : decode cX5_putAside 24 = .ok (.goto (-22), 3) := by decide +kernel
theorem dX5_putAside_27 : decode cX5_putAside 27 = .ok (.return_, 1) := by decide +kernel
theorem dX5_putBack_0 : decode cX5_putBack 0 = .ok (.iconst 0, 1) := by decide +kernel
theorem dX5_putBack_1 : decode cX5_putBack 1 = .ok (.istore_n 1, 1) := by decide +kernel
theorem dX5_putBack_2 : decode cX5_putBack 2 = .ok (.iload_n 1, 1) := by decide +kernel
theorem dX5_putBack_3 : decode cX5_putBack 3 = .ok (.sipush 171, 3) := by decide +kernel
theorem dX5_putBack_6 : decode cX5_putBack 6 = .ok (.if_icmp .ge 21, 3) := by decide +kernel
theorem dX5_putBack_9 : decode cX5_putBack 9 = .ok (.aload_n 0, 1) := by decide +kernel
theorem dX5_putBack_10 : decode cX5_putBack 10 = .ok (.getfield 7, 3) := by decide +kernel
theorem dX5_putBack_13 : decode cX5_putBack 13 = .ok (.iload_n 1, 1) := by decide +kernel
theorem dX5_putBack_14 : decode cX5_putBack 14 = .ok (.aload_n 0, 1) := by decide +kernel
theorem dX5_putBack_15 : decode cX5_putBack 15 = .ok (.getfield 13, 3) := by decide +kernel
theorem dX5_putBack_18 : decode cX5_putBack 18 = .ok (.iload_n 1, 1) := by decide +kernel
theorem dX5_putBack_19 : decode cX5_putBack 19 = .ok (.iaload, 1) := by decide +kernel
theorem dX5_putBack_20 : decode cX5_putBack 20 = .ok (.iastore, 1) := by decide +kernel
theorem dX5_putBack_21 : decode cX5_putBack 21 = .ok (.iinc 1 1, 3) := by decide +kernel
theorem dX5_putBack_24 : decode cX5_putBack 24 = .ok (.goto (-22), 3) := by decide +kernel
theorem dX5_putBack_27 : decode cX5_putBack 27 = .ok (.return_, 1) := by decide +kernel
theorem dX5_grade_0 : decode cX5_grade 0 = .ok (.aload_n 0, 1) := by decide +kernel
theorem dX5_grade_1 : decode cX5_grade 1 = .ok (.iload_n 1, 1) := by decide +kernel
theorem dX5_grade_2 : decode cX5_grade 2 = .ok (.iconst 0, 1) := by decide +kernel
theorem dX5_grade_3 : decode cX5_grade 3 = .ok (.bipush 29, 2) := by decide +kernel
theorem dX5_grade_5 : decode cX5_grade 5 = .ok (.invokestatic 39, 3) := by decide +kernel
theorem dX5_grade_8 : decode cX5_grade 8 = .ok (.ifCond .ne 7, 3) := by decide +kernel
theorem dX5_grade_11 : decode cX5_grade 11 = .ok (.iconst 1, 1) := by decide +kernel
theorem dX5_grade_12 : decode cX5_grade 12 = .ok (.goto 18, 3) := by decide +kernel
theorem dX5_grade_15 : decode cX5_grade 15 = .ok (.iload_n 2, 1) := by decide +kernel
theorem dX5_grade_16 : decode cX5_grade 16 = .ok (.iconst 0, 1) := by decide +kernel
theorem dX5_grade_17 : decode cX5_grade 17 = .ok (.bipush 9, 2) := by decide +kernel
theorem dX5_grade_19 : decode cX5_grade 19 = .ok (.invokestatic 39, 3) := by decide +kernel
theorem dX5_grade_22 : decode cX5_grade 22 = .ok (.ifCond .eq 7, 3) := by decide +kernel
theorem dX5_grade_25 : decode cX5_grade 25 = .ok (.iconst 0, 1) := by decide +kernel
theorem dX5_grade_26 : decode cX5_grade 26 = .ok (.goto 4, 3) := by decide +kernel
theorem dX5_grade_29 : decode cX5_grade 29 = .ok (.iconst 2, 1) := by decide +kernel
theorem dX5_grade_30 : decode cX5_grade 30 = .ok (.invokevirtual 50, 3) := by decide +kernel
theorem dX5_grade_33 : decode cX5_grade 33 = .ok (.ifCond .eq 5, 3) := by decide +kernel
theorem dX5_grade_36 : decode cX5_grade 36 = .ok (.iconst 0, 1) := by decide +kernel
theorem dX5_grade_37 : decode cX5_grade 37 = .ok (.ireturn, 1) := by decide +kernel
theorem dX5_grade_38 : decode cX5_grade 38 = .ok (.aload_n 0, 1) := by decide +kernel
theorem dX5_grade_39 : decode cX5_grade 39 = .ok (.invokevirtual 54, 3) := by decide +kernel
theorem dX5_grade_42 : decode cX5_grade 42 = .ok (.aload_n 0, 1) := by decide +kernel
theorem dX5_grade_43 : decode cX5_grade 43 = .ok (.getfield 7, 3) := by decide +kernel
theorem dX5_grade_46 : decode cX5_grade 46 = .ok (.iconst 0, 1) := by decide +kernel
theorem dX5_grade_47 : decode cX5_grade 47 = .ok (.iload_n 1, 1) := by decide +kernel
theorem dX5_grade_48 : decode cX5_grade 48 = .ok (.iadd, 1) := by decide +kernel
theorem dX5_grade_49 : decode cX5_grade 49 = .ok (.iaload, 1) := by decide +kernel
theorem dX5_grade_50 : decode cX5_grade 50 = .ok (.istore_n 3, 1) := by decide +kernel
theorem dX5_grade_51 : decode cX5_grade 51 = .ok (.aload_n 0, 1) := by decide +kernel
theorem dX5_grade_52 : decode cX5_grade 52 = .ok (.getfield 7, 3) := by decide +kernel
theorem dX5_grade_55 : decode cX5_grade 55 = .ok (.iconst 0, 1) := by decide +kernel
theorem dX5_grade_56 : decode cX5_grade 56 = .ok (.iload_n 1, 1) := by decide +kernel
theorem dX5_grade_57 : decode cX5_grade 57 = .ok (.iadd, 1) := by decide +kernel
theorem dX5_grade_58 : decode cX5_grade 58 = .ok (.iload_n 2, 1) := by decide +kernel
theorem dX5_grade_59 : decode cX5_grade 59 = .ok (.iastore, 1) := by decide +kernel
theorem dX5_grade_60 : decode cX5_grade 60 = .ok (.iload_n 3, 1) := by decide +kernel
theorem dX5_grade_61 : decode cX5_grade 61 = .ok (.ireturn, 1) := by decide +kernel
theorem dX5_switches_0 : decode cX5_switches 0 = .ok (.iconst 0, 1) := by decide +kernel
theorem dX5_switches_1 : decode cX5_switches 1 = .ok (.istore_n 1, 1) := by decide +kernel
theorem dX5_switches_2 : decode cX5_switches 2 = .ok (.iconst 0, 1) := by decide +kernel
theorem dX5_switches_3 : decode cX5_switches 3 = .ok (.istore_n 2, 1) := by decide +kernel
theorem dX5_switches_4 : decode cX5_switches 4 = .ok (.iload_n 2, 1) := by decide +kernel
theorem dX5_switches_5 : decode cX5_switches 5 = .ok (.bipush 30, 2) := by decide +kernel
theorem dX5_switches_7 : decode cX5_switches 7 = .ok (.if_icmp .ge 29, 3) := by decide +kernel
theorem dX5_switches_10 : decode cX5_switches 10 = .ok (.iload_n 1, 1) := by decide +kernel
theorem dX5_switches_11 : decode cX5_switches 11 = .ok (.aload_n 0, 1) := by decide +kernel
theorem dX5_switches_12 : decode cX5_switches 12 = .ok (.getfield 7, 3) := by decide +kernel
theorem dX5_switches_15 : decode cX5_switches 15 = .ok (.bipush 30, 2) := by decide +kernel
theorem dX5_switches_17 : decode cX5_switches 17 = .ok (.iload_n 2, 1) := by decide +kernel
theorem dX5_switches_18 : decode cX5_switches 18 = .ok (.iadd, 1) := by decide +kernel
theorem dX5_switches_19 : decode cX5_switches 19 = .ok (.iaload, 1) := by decide +kernel
theorem dX5_switches_20 : decode cX5_switches 20 = .ok (.ifCond .le 7, 3) := by decide +kernel
theorem dX5_switches_23 : decode cX5_switches 23 = .ok (.iconst 1, 1) := by decide +kernel
theorem dX5_switches_24 : decode cX5_switches 24 = .ok (.goto 4, 3) := by decide +kernel
theorem dX5_switches_27 : decode cX5_switches 27 = .ok (.iconst 0, 1) := by decide +kernel
theorem dX5_switches_28 : decode cX5_switches 28 = .ok (.iadd, 1) := by decide +kernel
theorem dX5_switches_29 : decode cX5_switches 29 = .ok (.istore_n 1, 1) := by decide +kernel
theorem dX5_switches_30 : decode cX5_switches 30 = .ok (.iinc 2 1, 3) := by decide +kernel
theorem dX5_switches_33 : decode cX5_switches 33 = .ok (.goto (-29), 3) := by decide +kernel
theorem dX5_switches_36 : decode cX5_switches 36 = .ok (.iload_n 1, 1) := by decide +kernel
theorem dX5_switches_37 : decode cX5_switches 37 = .ok (.ireturn, 1) := by decide +kernel
theorem dX5_spring_0 : decode cX5_spring 0 = .ok (.iload_n 1, 1) := by decide +kernel
theorem dX5_spring_1 : decode cX5_spring 1 = .ok (.iconst 1, 1) := by decide +kernel
theorem dX5_spring_2 : decode cX5_spring 2 = .ok (.bipush 29, 2) := by decide +kernel
theorem dX5_spring_4 : decode cX5_spring 4 = .ok (.invokestatic 39, 3) := by decide +kernel
theorem dX5_spring_7 : decode cX5_spring 7 = .ok (.istore_n 3, 1) := by decide +kernel
theorem dX5_spring_8 : decode cX5_spring 8 = .ok (.aload_n 0, 1) := by decide +kernel
theorem dX5_spring_9 : decode cX5_spring 9 = .ok (.iload_n 3, 1) := by decide +kernel
theorem dX5_spring_10 : decode cX5_spring 10 = .ok (.ifCond .ne 7, 3) := by decide +kernel
theorem dX5_spring_13 : decode cX5_spring 13 = .ok (.iconst 1, 1) := by decide +kernel
theorem dX5_spring_14 : decode cX5_spring 14 = .ok (.goto 46, 3) := by decide +kernel
theorem dX5_spring_17 : decode cX5_spring 17 = .ok (.iload_n 2, 1) := by decide +kernel
theorem dX5_spring_18 : decode cX5_spring 18 = .ok (.iconst 0, 1) := by decide +kernel
theorem dX5_spring_19 : decode cX5_spring 19 = .ok (.bipush 40, 2) := by decide +kernel
theorem dX5_spring_21 : decode cX5_spring 21 = .ok (.invokestatic 39, 3) := by decide +kernel
theorem dX5_spring_24 : decode cX5_spring 24 = .ok (.ifCond .ne 7, 3) := by decide +kernel
theorem dX5_spring_27 : decode cX5_spring 27 = .ok (.iconst 2, 1) := by decide +kernel
theorem dX5_spring_28 : decode cX5_spring 28 = .ok (.goto 32, 3) := by decide +kernel
theorem dX5_spring_31 : decode cX5_spring 31 = .ok (.iload_n 2, 1) := by decide +kernel
theorem dX5_spring_32 : decode cX5_spring 32 = .ok (.ifCond .le 27, 3) := by decide +kernel
theorem dX5_spring_35 : decode cX5_spring 35 = .ok (.aload_n 0, 1) := by decide +kernel
theorem dX5_spring_36 : decode cX5_spring 36 = .ok (.getfield 7, 3) := by decide +kernel
theorem dX5_spring_39 : decode cX5_spring 39 = .ok (.bipush 30, 2) := by decide +kernel
theorem dX5_spring_41 : decode cX5_spring 41 = .ok (.iload_n 1, 1) := by decide +kernel
theorem dX5_spring_42 : decode cX5_spring 42 = .ok (.iadd, 1) := by decide +kernel
theorem dX5_spring_43 : decode cX5_spring 43 = .ok (.iaload, 1) := by decide +kernel
theorem dX5_spring_44 : decode cX5_spring 44 = .ok (.ifCond .ne 15, 3) := by decide +kernel
theorem dX5_spring_47 : decode cX5_spring 47 = .ok (.aload_n 0, 1) := by decide +kernel
theorem dX5_spring_48 : decode cX5_spring 48 = .ok (.invokevirtual 57, 3) := by decide +kernel
theorem dX5_spring_51 : decode cX5_spring 51 = .ok (.iconst 4, 1) := by decide +kernel
theorem dX5_spring_52 : decode cX5_spring 52 = .ok (.if_icmp .ne 7, 3) := by decide +kernel
theorem dX5_spring_55 : decode cX5_spring 55 = .ok (.iconst 3, 1) := by decide +kernel
theorem dX5_spring_56 : decode cX5_spring 56 = .ok (.goto 4, 3) := by decide +kernel
theorem dX5_spring_59 : decode cX5_spring 59 = .ok (.iconst 0, 1) := by decide +kernel
theorem dX5_spring_60 : decode cX5_spring 60 = .ok (.invokevirtual 50, 3) := by decide +kernel
theorem dX5_spring_63 : decode cX5_spring 63 = .ok (.ifCond .eq 5, 3) := by decide +kernel
theorem dX5_spring_66 : decode cX5_spring 66 = .ok (.iconst 0, 1) := by decide +kernel
theorem dX5_spring_67 : decode cX5_spring 67 = .ok (.ireturn, 1) := by decide +kernel
theorem dX5_spring_68 : decode cX5_spring 68 = .ok (.aload_n 0, 1) := by decide +kernel
theorem dX5_spring_69 : decode cX5_spring 69 = .ok (.invokevirtual 54, 3) := by decide +kernel
theorem dX5_spring_72 : decode cX5_spring 72 = .ok (.aload_n 0, 1) := by decide +kernel
theorem dX5_spring_73 : decode cX5_spring 73 = .ok (.getfield 7, 3) := by decide +kernel
theorem dX5_spring_76 : decode cX5_spring 76 = .ok (.bipush 30, 2) := by decide +kernel
theorem dX5_spring_78 : decode cX5_spring 78 = .ok (.iload_n 1, 1) := by decide +kernel
theorem dX5_spring_79 : decode cX5_spring 79 = .ok (.iadd, 1) := by decide +kernel
theorem dX5_spring_80 : decode cX5_spring 80 = .ok (.iaload, 1) := by decide +kernel
theorem dX5_spring_81 : decode cX5_spring 81 = .ok (.istore 4, 2) := by decide +kernel
theorem dX5_spring_83 : decode cX5_spring 83 = .ok (.aload_n 0, 1) := by decide +kernel
theorem dX5_spring_84 : decode cX5_spring 84 = .ok (.getfield 7, 3) := by decide +kernel
theorem dX5_spring_87 : decode cX5_spring 87 = .ok (.bipush 30, 2) := by decide +kernel
theorem dX5_spring_89 : decode cX5_spring 89 = .ok (.iload_n 1, 1) := by decide +kernel
theorem dX5_spring_90 : decode cX5_spring 90 = .ok (.iadd, 1) := by decide +kernel
theorem dX5_spring_91 : decode cX5_spring 91 = .ok (.iload_n 2, 1) := by decide +kernel
theorem dX5_spring_92 : decode cX5_spring 92 = .ok (.iastore, 1) := by decide +kernel
theorem dX5_spring_93 : decode cX5_spring 93 = .ok (.iload 4, 2) := by decide +kernel
theorem dX5_spring_95 : decode cX5_spring 95 = .ok (.ireturn, 1) := by decide +kernel
theorem dX5_adds_0 : decode cX5_adds 0 = .ok (.aload_n 0, 1) := by decide +kernel
theorem dX5_adds_1 : decode cX5_adds 1 = .ok (.getfield 7, 3) := by decide +kernel
theorem dX5_adds_4 : decode cX5_adds 4 = .ok (.sipush 162, 3) := by decide +kernel
theorem dX5_adds_7 : decode cX5_adds 7 = .ok (.iaload, 1) := by decide +kernel
theorem dX5_adds_8 : decode cX5_adds 8 = .ok (.istore_n 1, 1) := by decide +kernel
theorem dX5_adds_9 : decode cX5_adds 9 = .ok (.iconst 0, 1) := by decide +kernel
theorem dX5_adds_10 : decode cX5_adds 10 = .ok (.istore_n 2, 1) := by decide +kernel
theorem dX5_adds_11 : decode cX5_adds 11 = .ok (.iload_n 2, 1) := by decide +kernel
theorem dX5_adds_12 : decode cX5_adds 12 = .ok (.bipush 9, 2) := by decide +kernel
theorem dX5_adds_14 : decode cX5_adds 14 = .ok (.if_icmp .ge 20, 3) := by decide +kernel
theorem dX5_adds_17 : decode cX5_adds 17 = .ok (.aload_n 0, 1) := by decide +kernel
theorem dX5_adds_18 : decode cX5_adds 18 = .ok (.getfield 7, 3) := by decide +kernel
theorem dX5_adds_21 : decode cX5_adds 21 = .ok (.iload_n 1, 1) := by decide +kernel
theorem dX5_adds_22 : decode cX5_adds 22 = .ok (.iload_n 2, 1) := by decide +kernel
theorem dX5_adds_23 : decode cX5_adds 23 = .ok (.invokestatic 43, 3) := by decide +kernel
theorem dX5_adds_26 : decode cX5_adds 26 = .ok (.iconst 0, 1) := by decide +kernel
theorem dX5_adds_27 : decode cX5_adds 27 = .ok (.iastore, 1) := by decide +kernel
theorem dX5_adds_28 : decode cX5_adds 28 = .ok (.iinc 2 1, 3) := by decide +kernel
theorem dX5_adds_31 : decode cX5_adds 31 = .ok (.goto (-20), 3) := by decide +kernel
theorem dX5_adds_34 : decode cX5_adds 34 = .ok (.aload_n 0, 1) := by decide +kernel
theorem dX5_adds_35 : decode cX5_adds 35 = .ok (.getfield 7, 3) := by decide +kernel
theorem dX5_adds_38 : decode cX5_adds 38 = .ok (.sipush 162, 3) := by decide +kernel
theorem dX5_adds_41 : decode cX5_adds 41 = .ok (.dup2, 1) := by decide +kernel
theorem dX5_adds_42 : decode cX5_adds 42 = .ok (.iaload, 1) := by decide +kernel
theorem dX5_adds_43 : decode cX5_adds 43 = .ok (.iconst 1, 1) := by decide +kernel
theorem dX5_adds_44 : decode cX5_adds 44 = .ok (.iadd, 1) := by decide +kernel
theorem dX5_adds_45 : decode cX5_adds 45 = .ok (.iastore, 1) := by decide +kernel
theorem dX5_adds_46 : decode cX5_adds 46 = .ok (.iload_n 1, 1) := by decide +kernel
theorem dX5_adds_47 : decode cX5_adds 47 = .ok (.ireturn, 1) := by decide +kernel
theorem dX5_car_0 : decode cX5_car 0 = .ok (.aload_n 0, 1) := by decide +kernel
theorem dX5_car_1 : decode cX5_car 1 = .ok (.aload_n 0, 1) := by decide +kernel
theorem dX5_car_2 : decode cX5_car 2 = .ok (.getfield 7, 3) := by decide +kernel
theorem dX5_car_5 : decode cX5_car 5 = .ok (.sipush 162, 3) := by decide +kernel
theorem dX5_car_8 : decode cX5_car 8 = .ok (.iaload, 1) := by decide +kernel
theorem dX5_car_9 : decode cX5_car 9 = .ok (.bipush 8, 2) := by decide +kernel
theorem dX5_car_11 : decode cX5_car 11 = .ok (.if_icmp .ne 7, 3) := by decide +kernel
theorem dX5_car_14 : decode cX5_car 14 = .ok (.iconst 1, 1) := by decide +kernel
theorem dX5_car_15 : decode cX5_car 15 = .ok (.goto 4, 3) := by decide +kernel
theorem dX5_car_18 : decode cX5_car 18 = .ok (.iconst 0, 1) := by decide +kernel
theorem dX5_car_19 : decode cX5_car 19 = .ok (.invokevirtual 50, 3) := by decide +kernel
theorem dX5_car_22 : decode cX5_car 22 = .ok (.ifCond .eq 5, 3) := by decide +kernel
theorem dX5_car_25 : decode cX5_car 25 = .ok (.iconst 0, 1) := by decide +kernel
theorem dX5_car_26 : decode cX5_car 26 = .ok (.ireturn, 1) := by decide +kernel
theorem dX5_car_27 : decode cX5_car 27 = .ok (.aload_n 0, 1) := by decide +kernel
theorem dX5_car_28 : decode cX5_car 28 = .ok (.invokevirtual 54, 3) := by decide +kernel
theorem dX5_car_31 : decode cX5_car 31 = .ok (.aload_n 0, 1) := by decide +kernel
theorem dX5_car_32 : decode cX5_car 32 = .ok (.invokevirtual 61, 3) := by decide +kernel
theorem dX5_car_35 : decode cX5_car 35 = .ok (.ireturn, 1) := by decide +kernel
theorem dX5_barLoad_0 : decode cX5_barLoad 0 = .ok (.aload_n 0, 1) := by decide +kernel
theorem dX5_barLoad_1 : decode cX5_barLoad 1 = .ok (.iload_n 1, 1) := by decide +kernel
theorem dX5_barLoad_2 : decode cX5_barLoad 2 = .ok (.invokevirtual 64, 3) := by decide +kernel
theorem dX5_barLoad_5 : decode cX5_barLoad 5 = .ok (.ifCond .ne 7, 3) := by decide +kernel
theorem dX5_barLoad_8 : decode cX5_barLoad 8 = .ok (.iconst 1, 1) := by decide +kernel
theorem dX5_barLoad_9 : decode cX5_barLoad 9 = .ok (.goto 48, 3) := by decide +kernel
theorem dX5_barLoad_12 : decode cX5_barLoad 12 = .ok (.iload_n 2, 1) := by decide +kernel
theorem dX5_barLoad_13 : decode cX5_barLoad 13 = .ok (.iconst 1, 1) := by decide +kernel
theorem dX5_barLoad_14 : decode cX5_barLoad 14 = .ok (.bipush 20, 2) := by decide +kernel
theorem dX5_barLoad_16 : decode cX5_barLoad 16 = .ok (.invokestatic 39, 3) := by decide +kernel
theorem dX5_barLoad_19 : decode cX5_barLoad 19 = .ok (.ifCond .ne 7, 3) := by decide +kernel
theorem dX5_barLoad_22 : decode cX5_barLoad 22 = .ok (.iconst 2, 1) := by decide +kernel
theorem dX5_barLoad_23 : decode cX5_barLoad 23 = .ok (.goto 34, 3) := by decide +kernel
theorem dX5_barLoad_26 : decode cX5_barLoad 26 = .ok (.aload_n 0, 1) := by decide +kernel
theorem dX5_barLoad_27 : decode cX5_barLoad 27 = .ok (.iload_n 1, 1) := by decide +kernel
theorem dX5_barLoad_28 : decode cX5_barLoad 28 = .ok (.iconst 0, 1) := by decide +kernel
theorem dX5_barLoad_29 : decode cX5_barLoad 29 = .ok (.invokevirtual 67, 3) := by decide +kernel
theorem dX5_barLoad_32 : decode cX5_barLoad 32 = .ok (.ifCond .eq 20, 3) := by decide +kernel
theorem dX5_barLoad_35 : decode cX5_barLoad 35 = .ok (.aload_n 0, 1) := by decide +kernel
theorem dX5_barLoad_36 : decode cX5_barLoad 36 = .ok (.getfield 7, 3) := by decide +kernel
theorem dX5_barLoad_39 : decode cX5_barLoad 39 = .ok (.iload_n 1, 1) := by decide +kernel
theorem dX5_barLoad_40 : decode cX5_barLoad 40 = .ok (.iconst 1, 1) := by decide +kernel
theorem dX5_barLoad_41 : decode cX5_barLoad 41 = .ok (.invokestatic 43, 3) := by decide +kernel
theorem dX5_barLoad_44 : decode cX5_barLoad 44 = .ok (.iaload, 1) := by decide +kernel
theorem dX5_barLoad_45 : decode cX5_barLoad 45 = .ok (.iload_n 2, 1) := by decide +kernel
theorem dX5_barLoad_46 : decode cX5_barLoad 46 = .ok (.iadd, 1) := by decide +kernel
theorem dX5_barLoad_47 : decode cX5_barLoad 47 = .ok (.bipush 20, 2) := by decide +kernel
theorem dX5_barLoad_49 : decode cX5_barLoad 49 = .ok (.if_icmp .le 7, 3) := by decide +kernel
theorem dX5_barLoad_52 : decode cX5_barLoad 52 = .ok (.iconst 3, 1) := by decide +kernel
theorem dX5_barLoad_53 : decode cX5_barLoad 53 = .ok (.goto 4, 3) := by decide +kernel
theorem dX5_barLoad_56 : decode cX5_barLoad 56 = .ok (.iconst 0, 1) := by decide +kernel
theorem dX5_barLoad_57 : decode cX5_barLoad 57 = .ok (.ireturn, 1) := by decide +kernel
theorem dX5_loads_0 : decode cX5_loads 0 = .ok (.aload_n 0, 1) := by decide +kernel
theorem dX5_loads_1 : decode cX5_loads 1 = .ok (.getfield 7, 3) := by decide +kernel
theorem dX5_loads_4 : decode cX5_loads 4 = .ok (.iload_n 1, 1) := by decide +kernel
theorem dX5_loads_5 : decode cX5_loads 5 = .ok (.iconst 1, 1) := by decide +kernel
theorem dX5_loads_6 : decode cX5_loads 6 = .ok (.invokestatic 43, 3) := by decide +kernel
theorem dX5_loads_9 : decode cX5_loads 9 = .ok (.dup2, 1) := by decide +kernel
theorem dX5_loads_10 : decode cX5_loads 10 = .ok (.iaload, 1) := by decide +kernel
theorem dX5_loads_11 : decode cX5_loads 11 = .ok (.iload_n 2, 1) := by decide +kernel
theorem dX5_loads_12 : decode cX5_loads 12 = .ok (.iadd, 1) := by decide +kernel
theorem dX5_loads_13 : decode cX5_loads 13 = .ok (.iastore, 1) := by decide +kernel
theorem dX5_loads_14 : decode cX5_loads 14 = .ok (.aload_n 0, 1) := by decide +kernel
theorem dX5_loads_15 : decode cX5_loads 15 = .ok (.getfield 7, 3) := by decide +kernel
theorem dX5_loads_18 : decode cX5_loads 18 = .ok (.sipush 164, 3) := by decide +kernel
theorem dX5_loads_21 : decode cX5_loads 21 = .ok (.dup2, 1) := by decide +kernel
theorem dX5_loads_22 : decode cX5_loads 22 = .ok (.iaload, 1) := by decide +kernel
theorem dX5_loads_23 : decode cX5_loads 23 = .ok (.iload_n 2, 1) := by decide +kernel
theorem dX5_loads_24 : decode cX5_loads 24 = .ok (.iadd, 1) := by decide +kernel
theorem dX5_loads_25 : decode cX5_loads 25 = .ok (.iastore, 1) := by decide +kernel
theorem dX5_loads_26 : decode cX5_loads 26 = .ok (.aload_n 0, 1) := by decide +kernel
theorem dX5_loads_27 : decode cX5_loads 27 = .ok (.getfield 7, 3) := by decide +kernel
theorem dX5_loads_30 : decode cX5_loads 30 = .ok (.iload_n 1, 1) := by decide +kernel
theorem dX5_loads_31 : decode cX5_loads 31 = .ok (.iconst 1, 1) := by decide +kernel
theorem dX5_loads_32 : decode cX5_loads 32 = .ok (.invokestatic 43, 3) := by decide +kernel
theorem dX5_loads_35 : decode cX5_loads 35 = .ok (.iaload, 1) := by decide +kernel
theorem dX5_loads_36 : decode cX5_loads 36 = .ok (.ireturn, 1) := by decide +kernel
theorem dX5_load_0 : decode cX5_load 0 = .ok (.aload_n 0, 1) := by decide +kernel
theorem dX5_load_1 : decode cX5_load 1 = .ok (.aload_n 0, 1) := by decide +kernel
theorem dX5_load_2 : decode cX5_load 2 = .ok (.iload_n 1, 1) := by decide +kernel
theorem dX5_load_3 : decode cX5_load 3 = .ok (.iload_n 2, 1) := by decide +kernel
theorem dX5_load_4 : decode cX5_load 4 = .ok (.invokevirtual 71, 3) := by decide +kernel
theorem dX5_load_7 : decode cX5_load 7 = .ok (.invokevirtual 50, 3) := by decide +kernel
theorem dX5_load_10 : decode cX5_load 10 = .ok (.ifCond .eq 5, 3) := by decide +kernel
theorem dX5_load_13 : decode cX5_load 13 = .ok (.iconst 0, 1) := by decide +kernel
theorem dX5_load_14 : decode cX5_load 14 = .ok (.ireturn, 1) := by decide +kernel
theorem dX5_load_15 : decode cX5_load 15 = .ok (.aload_n 0, 1) := by decide +kernel
theorem dX5_load_16 : decode cX5_load 16 = .ok (.invokevirtual 54, 3) := by decide +kernel
theorem dX5_load_19 : decode cX5_load 19 = .ok (.aload_n 0, 1) := by decide +kernel
theorem dX5_load_20 : decode cX5_load 20 = .ok (.iload_n 1, 1) := by decide +kernel
theorem dX5_load_21 : decode cX5_load 21 = .ok (.iload_n 2, 1) := by decide +kernel
theorem dX5_load_22 : decode cX5_load 22 = .ok (.invokevirtual 74, 3) := by decide +kernel
theorem dX5_load_25 : decode cX5_load 25 = .ok (.ireturn, 1) := by decide +kernel
theorem dX5_pulled_0 : decode cX5_pulled 0 = .ok (.iconst 0, 1) := by decide +kernel
theorem dX5_pulled_1 : decode cX5_pulled 1 = .ok (.istore_n 1, 1) := by decide +kernel
theorem dX5_pulled_2 : decode cX5_pulled 2 = .ok (.iconst 0, 1) := by decide +kernel
theorem dX5_pulled_3 : decode cX5_pulled 3 = .ok (.istore_n 2, 1) := by decide +kernel
theorem dX5_pulled_4 : decode cX5_pulled 4 = .ok (.iload_n 2, 1) := by decide +kernel
theorem dX5_pulled_5 : decode cX5_pulled 5 = .ok (.aload_n 0, 1) := by decide +kernel
theorem dX5_pulled_6 : decode cX5_pulled 6 = .ok (.getfield 7, 3) := by decide +kernel
theorem dX5_pulled_9 : decode cX5_pulled 9 = .ok (.sipush 162, 3) := by decide +kernel
theorem dX5_pulled_12 : decode cX5_pulled 12 = .ok (.iaload, 1) := by decide +kernel
theorem dX5_pulled_13 : decode cX5_pulled 13 = .ok (.if_icmp .ge 26, 3) := by decide +kernel
theorem dX5_pulled_16 : decode cX5_pulled 16 = .ok (.iload_n 1, 1) := by decide +kernel
theorem dX5_pulled_17 : decode cX5_pulled 17 = .ok (.aload_n 0, 1) := by decide +kernel
theorem dX5_pulled_18 : decode cX5_pulled 18 = .ok (.iload_n 2, 1) := by decide +kernel
theorem dX5_pulled_19 : decode cX5_pulled 19 = .ok (.iconst 4, 1) := by decide +kernel
theorem dX5_pulled_20 : decode cX5_pulled 20 = .ok (.invokevirtual 67, 3) := by decide +kernel
theorem dX5_pulled_23 : decode cX5_pulled 23 = .ok (.ifCond .eq 7, 3) := by decide +kernel
theorem dX5_pulled_26 : decode cX5_pulled 26 = .ok (.iconst 1, 1) := by decide +kernel
theorem dX5_pulled_27 : decode cX5_pulled 27 = .ok (.goto 4, 3) := by decide +kernel
theorem dX5_pulled_30 : decode cX5_pulled 30 = .ok (.iconst 0, 1) := by decide +kernel
theorem dX5_pulled_31 : decode cX5_pulled 31 = .ok (.iadd, 1) := by decide +kernel
theorem dX5_pulled_32 : decode cX5_pulled 32 = .ok (.istore_n 1, 1) := by decide +kernel
theorem dX5_pulled_33 : decode cX5_pulled 33 = .ok (.iinc 2 1, 3) := by decide +kernel
theorem dX5_pulled_36 : decode cX5_pulled 36 = .ok (.goto (-32), 3) := by decide +kernel
theorem dX5_pulled_39 : decode cX5_pulled 39 = .ok (.iload_n 1, 1) := by decide +kernel
theorem dX5_pulled_40 : decode cX5_pulled 40 = .ok (.ireturn, 1) := by decide +kernel
theorem dX5_mules_0 : decode cX5_mules 0 = .ok (.aload_n 0, 1) := by decide +kernel
theorem dX5_mules_1 : decode cX5_mules 1 = .ok (.getfield 7, 3) := by decide +kernel
theorem dX5_mules_4 : decode cX5_mules 4 = .ok (.sipush 170, 3) := by decide +kernel
theorem dX5_mules_7 : decode cX5_mules 7 = .ok (.iaload, 1) := by decide +kernel
theorem dX5_mules_8 : decode cX5_mules 8 = .ok (.aload_n 0, 1) := by decide +kernel
theorem dX5_mules_9 : decode cX5_mules 9 = .ok (.invokevirtual 77, 3) := by decide +kernel
theorem dX5_mules_12 : decode cX5_mules 12 = .ok (.isub, 1) := by decide +kernel
theorem dX5_mules_13 : decode cX5_mules 13 = .ok (.istore_n 1, 1) := by decide +kernel
theorem dX5_mules_14 : decode cX5_mules 14 = .ok (.iload_n 1, 1) := by decide +kernel
theorem dX5_mules_15 : decode cX5_mules 15 = .ok (.ifCond .le 7, 3) := by decide +kernel
theorem dX5_mules_18 : decode cX5_mules 18 = .ok (.iload_n 1, 1) := by decide +kernel
theorem dX5_mules_19 : decode cX5_mules 19 = .ok (.goto 4, 3) := by decide +kernel
theorem dX5_mules_22 : decode cX5_mules 22 = .ok (.iconst 0, 1) := by decide +kernel
theorem dX5_mules_23 : decode cX5_mules 23 = .ok (.ireturn, 1) := by decide +kernel
theorem dX5_noRelease_0 : decode cX5_noRelease 0 = .ok (.iconst 0, 1) := by decide +kernel
theorem dX5_noRelease_1 : decode cX5_noRelease 1 = .ok (.istore_n 2, 1) := by decide +kernel
theorem dX5_noRelease_2 : decode cX5_noRelease 2 = .ok (.iconst 0, 1) := by decide +kernel
theorem dX5_noRelease_3 : decode cX5_noRelease 3 = .ok (.istore_n 3, 1) := by decide +kernel
theorem dX5_noRelease_4 : decode cX5_noRelease 4 = .ok (.iload_n 3, 1) := by decide +kernel
theorem dX5_noRelease_5 : decode cX5_noRelease 5 = .ok (.aload_n 0, 1) := by decide +kernel
theorem dX5_noRelease_6 : decode cX5_noRelease 6 = .ok (.getfield 7, 3) := by decide +kernel
theorem dX5_noRelease_9 : decode cX5_noRelease 9 = .ok (.sipush 162, 3) := by decide +kernel
theorem dX5_noRelease_12 : decode cX5_noRelease 12 = .ok (.iaload, 1) := by decide +kernel
theorem dX5_noRelease_13 : decode cX5_noRelease 13 = .ok (.if_icmp .ge 43, 3) := by decide +kernel
theorem dX5_noRelease_16 : decode cX5_noRelease 16 = .ok (.iload_n 2, 1) := by decide +kernel
theorem dX5_noRelease_17 : decode cX5_noRelease 17 = .ok (.ifCond .ne 27, 3) := by decide +kernel
theorem dX5_noRelease_20 : decode cX5_noRelease 20 = .ok (.aload_n 0, 1) := by decide +kernel
theorem dX5_noRelease_21 : decode cX5_noRelease 21 = .ok (.iload_n 3, 1) := by decide +kernel
theorem dX5_noRelease_22 : decode cX5_noRelease 22 = .ok (.iconst 1, 1) := by decide +kernel
theorem dX5_noRelease_23 : decode cX5_noRelease 23 = .ok (.invokevirtual 67, 3) := by decide +kernel
theorem dX5_noRelease_26 : decode cX5_noRelease 26 = .ok (.ifCond .eq 22, 3) := by decide +kernel
theorem dX5_noRelease_29 : decode cX5_noRelease 29 = .ok (.aload_n 0, 1) := by decide +kernel
theorem dX5_noRelease_30 : decode cX5_noRelease 30 = .ok (.getfield 7, 3) := by decide +kernel
theorem dX5_noRelease_33 : decode cX5_noRelease 33 = .ok (.iload_n 3, 1) := by decide +kernel
theorem dX5_noRelease_34 : decode cX5_noRelease 34 = .ok (.iconst 4, 1) := by decide +kernel
theorem dX5_noRelease_35 : decode cX5_noRelease 35 = .ok (.invokestatic 43, 3) := by decide +kernel
theorem dX5_noRelease_38 : decode cX5_noRelease 38 = .ok (.iaload, 1) := by decide +kernel
theorem dX5_noRelease_39 : decode cX5_noRelease 39 = .ok (.bipush 10, 2) := by decide +kernel
theorem dX5_noRelease_41 : decode cX5_noRelease 41 = .ok (.if_icmp .ge 7, 3) := by decide +kernel
theorem dX5_noRelease_44 : decode cX5_noRelease 44 = .ok (.iconst 1, 1) := by decide +kernel
theorem dX5_noRelease_45 : decode cX5_noRelease 45 = .ok (.goto 4, 3) := by decide +kernel
theorem dX5_noRelease_48 : decode cX5_noRelease 48 = .ok (.iconst 0, 1) := by decide +kernel
theorem dX5_noRelease_49 : decode cX5_noRelease 49 = .ok (.istore_n 2, 1) := by decide +kernel
theorem dX5_noRelease_50 : decode cX5_noRelease 50 = .ok (.iinc 3 1, 3) := by decide +kernel
theorem dX5_noRelease_53 : decode cX5_noRelease 53 = .ok (.goto (-49), 3) := by decide +kernel
theorem dX5_noRelease_56 : decode cX5_noRelease 56 = .ok (.aload_n 0, 1) := by decide +kernel
theorem dX5_noRelease_57 : decode cX5_noRelease 57 = .ok (.iload_n 1, 1) := by decide +kernel
theorem dX5_noRelease_58 : decode cX5_noRelease 58 = .ok (.iconst 0, 1) := by decide +kernel
theorem dX5_noRelease_59 : decode cX5_noRelease 59 = .ok (.invokevirtual 67, 3) := by decide +kernel
theorem dX5_noRelease_62 : decode cX5_noRelease 62 = .ok (.ifCond .ne 7, 3) := by decide +kernel
theorem dX5_noRelease_65 : decode cX5_noRelease 65 = .ok (.iconst 1, 1) := by decide +kernel
theorem dX5_noRelease_66 : decode cX5_noRelease 66 = .ok (.goto 12, 3) := by decide +kernel
theorem dX5_noRelease_69 : decode cX5_noRelease 69 = .ok (.iload_n 2, 1) := by decide +kernel
theorem dX5_noRelease_70 : decode cX5_noRelease 70 = .ok (.ifCond .eq 7, 3) := by decide +kernel
theorem dX5_noRelease_73 : decode cX5_noRelease 73 = .ok (.iconst 2, 1) := by decide +kernel
theorem dX5_noRelease_74 : decode cX5_noRelease 74 = .ok (.goto 4, 3) := by decide +kernel
theorem dX5_noRelease_77 : decode cX5_noRelease 77 = .ok (.iconst 0, 1) := by decide +kernel
theorem dX5_noRelease_78 : decode cX5_noRelease 78 = .ok (.ireturn, 1) := by decide +kernel
theorem dX5_noPull_0 : decode cX5_noPull 0 = .ok (.aload_n 0, 1) := by decide +kernel
theorem dX5_noPull_1 : decode cX5_noPull 1 = .ok (.iload_n 1, 1) := by decide +kernel
theorem dX5_noPull_2 : decode cX5_noPull 2 = .ok (.iconst 2, 1) := by decide +kernel
theorem dX5_noPull_3 : decode cX5_noPull 3 = .ok (.invokevirtual 67, 3) := by decide +kernel
theorem dX5_noPull_6 : decode cX5_noPull 6 = .ok (.ifCond .ne 16, 3) := by decide +kernel
theorem dX5_noPull_9 : decode cX5_noPull 9 = .ok (.aload_n 0, 1) := by decide +kernel
theorem dX5_noPull_10 : decode cX5_noPull 10 = .ok (.iload_n 1, 1) := by decide +kernel
theorem dX5_noPull_11 : decode cX5_noPull 11 = .ok (.iconst 3, 1) := by decide +kernel
theorem dX5_noPull_12 : decode cX5_noPull 12 = .ok (.invokevirtual 67, 3) := by decide +kernel
theorem dX5_noPull_15 : decode cX5_noPull 15 = .ok (.ifCond .ne 7, 3) := by decide +kernel
theorem dX5_noPull_18 : decode cX5_noPull 18 = .ok (.iconst 1, 1) := by decide +kernel
theorem dX5_noPull_19 : decode cX5_noPull 19 = .ok (.goto 15, 3) := by decide +kernel
theorem dX5_noPull_22 : decode cX5_noPull 22 = .ok (.aload_n 0, 1) := by decide +kernel
theorem dX5_noPull_23 : decode cX5_noPull 23 = .ok (.invokevirtual 80, 3) := by decide +kernel
theorem dX5_noPull_26 : decode cX5_noPull 26 = .ok (.ifCond .ne 7, 3) := by decide +kernel
theorem dX5_noPull_29 : decode cX5_noPull 29 = .ok (.iconst 2, 1) := by decide +kernel
theorem dX5_noPull_30 : decode cX5_noPull 30 = .ok (.goto 4, 3) := by decide +kernel
theorem dX5_noPull_33 : decode cX5_noPull 33 = .ok (.iconst 0, 1) := by decide +kernel
theorem dX5_noPull_34 : decode cX5_noPull 34 = .ok (.ireturn, 1) := by decide +kernel
theorem dX5_releases_0 : decode cX5_releases 0 = .ok (.aload_n 0, 1) := by decide +kernel
theorem dX5_releases_1 : decode cX5_releases 1 = .ok (.iload_n 1, 1) := by decide +kernel
theorem dX5_releases_2 : decode cX5_releases 2 = .ok (.invokevirtual 83, 3) := by decide +kernel
theorem dX5_releases_5 : decode cX5_releases 5 = .ok (.istore_n 3, 1) := by decide +kernel
theorem dX5_releases_6 : decode cX5_releases 6 = .ok (.iload_n 3, 1) := by decide +kernel
theorem dX5_releases_7 : decode cX5_releases 7 = .ok (.ifCond .le 17, 3) := by decide +kernel
theorem dX5_releases_10 : decode cX5_releases 10 = .ok (.aload_n 0, 1) := by decide +kernel
theorem dX5_releases_11 : decode cX5_releases 11 = .ok (.getfield 7, 3) := by decide +kernel
theorem dX5_releases_14 : decode cX5_releases 14 = .ok (.sipush 167, 3) := by decide +kernel
theorem dX5_releases_17 : decode cX5_releases 17 = .ok (.dup2, 1) := by decide +kernel
theorem dX5_releases_18 : decode cX5_releases 18 = .ok (.iaload, 1) := by decide +kernel
theorem dX5_releases_19 : decode cX5_releases 19 = .ok (.iconst 1, 1) := by decide +kernel
theorem dX5_releases_20 : decode cX5_releases 20 = .ok (.iadd, 1) := by decide +kernel
theorem dX5_releases_21 : decode cX5_releases 21 = .ok (.iastore, 1) := by decide +kernel
theorem dX5_releases_22 : decode cX5_releases 22 = .ok (.iload_n 3, 1) := by decide +kernel
theorem dX5_releases_23 : decode cX5_releases 23 = .ok (.ireturn, 1) := by decide +kernel
theorem dX5_releases_24 : decode cX5_releases 24 = .ok (.aload_n 0, 1) := by decide +kernel
theorem dX5_releases_25 : decode cX5_releases 25 = .ok (.getfield 7, 3) := by decide +kernel
theorem dX5_releases_28 : decode cX5_releases 28 = .ok (.iload_n 1, 1) := by decide +kernel
theorem dX5_releases_29 : decode cX5_releases 29 = .ok (.iconst 0, 1) := by decide +kernel
theorem dX5_releases_30 : decode cX5_releases 30 = .ok (.invokestatic 43, 3) := by decide +kernel
theorem dX5_releases_33 : decode cX5_releases 33 = .ok (.iconst 1, 1) := by decide +kernel
theorem dX5_releases_34 : decode cX5_releases 34 = .ok (.iastore, 1) := by decide +kernel
theorem dX5_releases_35 : decode cX5_releases 35 = .ok (.aload_n 0, 1) := by decide +kernel
theorem dX5_releases_36 : decode cX5_releases 36 = .ok (.getfield 7, 3) := by decide +kernel
theorem dX5_releases_39 : decode cX5_releases 39 = .ok (.iload_n 1, 1) := by decide +kernel
theorem dX5_releases_40 : decode cX5_releases 40 = .ok (.iconst 2, 1) := by decide +kernel
theorem dX5_releases_41 : decode cX5_releases 41 = .ok (.invokestatic 43, 3) := by decide +kernel
theorem dX5_releases_44 : decode cX5_releases 44 = .ok (.iload_n 2, 1) := by decide +kernel
theorem dX5_releases_45 : decode cX5_releases 45 = .ok (.iastore, 1) := by decide +kernel
theorem dX5_releases_46 : decode cX5_releases 46 = .ok (.iconst 0, 1) := by decide +kernel
theorem dX5_releases_47 : decode cX5_releases 47 = .ok (.ireturn, 1) := by decide +kernel
theorem dX5_pulls_0 : decode cX5_pulls 0 = .ok (.aload_n 0, 1) := by decide +kernel
theorem dX5_pulls_1 : decode cX5_pulls 1 = .ok (.iload_n 1, 1) := by decide +kernel
theorem dX5_pulls_2 : decode cX5_pulls 2 = .ok (.invokevirtual 87, 3) := by decide +kernel
theorem dX5_pulls_5 : decode cX5_pulls 5 = .ok (.istore_n 2, 1) := by decide +kernel
theorem dX5_pulls_6 : decode cX5_pulls 6 = .ok (.iload_n 2, 1) := by decide +kernel
theorem dX5_pulls_7 : decode cX5_pulls 7 = .ok (.ifCond .le 17, 3) := by decide +kernel
theorem dX5_pulls_10 : decode cX5_pulls 10 = .ok (.aload_n 0, 1) := by decide +kernel
theorem dX5_pulls_11 : decode cX5_pulls 11 = .ok (.getfield 7, 3) := by decide +kernel
theorem dX5_pulls_14 : decode cX5_pulls 14 = .ok (.sipush 167, 3) := by decide +kernel
theorem dX5_pulls_17 : decode cX5_pulls 17 = .ok (.dup2, 1) := by decide +kernel
theorem dX5_pulls_18 : decode cX5_pulls 18 = .ok (.iaload, 1) := by decide +kernel
theorem dX5_pulls_19 : decode cX5_pulls 19 = .ok (.iconst 1, 1) := by decide +kernel
theorem dX5_pulls_20 : decode cX5_pulls 20 = .ok (.iadd, 1) := by decide +kernel
theorem dX5_pulls_21 : decode cX5_pulls 21 = .ok (.iastore, 1) := by decide +kernel
theorem dX5_pulls_22 : decode cX5_pulls 22 = .ok (.iload_n 2, 1) := by decide +kernel
theorem dX5_pulls_23 : decode cX5_pulls 23 = .ok (.ireturn, 1) := by decide +kernel
theorem dX5_pulls_24 : decode cX5_pulls 24 = .ok (.aload_n 0, 1) := by decide +kernel
theorem dX5_pulls_25 : decode cX5_pulls 25 = .ok (.getfield 7, 3) := by decide +kernel
theorem dX5_pulls_28 : decode cX5_pulls 28 = .ok (.iload_n 1, 1) := by decide +kernel
theorem dX5_pulls_29 : decode cX5_pulls 29 = .ok (.iconst 0, 1) := by decide +kernel
theorem dX5_pulls_30 : decode cX5_pulls 30 = .ok (.invokestatic 43, 3) := by decide +kernel
theorem dX5_pulls_33 : decode cX5_pulls 33 = .ok (.iconst 4, 1) := by decide +kernel
theorem dX5_pulls_34 : decode cX5_pulls 34 = .ok (.iastore, 1) := by decide +kernel
theorem dX5_pulls_35 : decode cX5_pulls 35 = .ok (.aload_n 0, 1) := by decide +kernel
theorem dX5_pulls_36 : decode cX5_pulls 36 = .ok (.getfield 7, 3) := by decide +kernel
theorem dX5_pulls_39 : decode cX5_pulls 39 = .ok (.iload_n 1, 1) := by decide +kernel
theorem dX5_pulls_40 : decode cX5_pulls 40 = .ok (.iconst 2, 1) := by decide +kernel
theorem dX5_pulls_41 : decode cX5_pulls 41 = .ok (.invokestatic 43, 3) := by decide +kernel
theorem dX5_pulls_44 : decode cX5_pulls 44 = .ok (.iconst 0, 1) := by decide +kernel
theorem dX5_pulls_45 : decode cX5_pulls 45 = .ok (.iastore, 1) := by decide +kernel
theorem dX5_pulls_46 : decode cX5_pulls 46 = .ok (.iconst 0, 1) := by decide +kernel
theorem dX5_pulls_47 : decode cX5_pulls 47 = .ok (.ireturn, 1) := by decide +kernel
theorem dX5_isBrake_0 : decode cX5_isBrake 0 = .ok (.iload_n 0, 1) := by decide +kernel
theorem dX5_isBrake_1 : decode cX5_isBrake 1 = .ok (.iconst 0, 1) := by decide +kernel
theorem dX5_isBrake_2 : decode cX5_isBrake 2 = .ok (.bipush 9, 2) := by decide +kernel
theorem dX5_isBrake_4 : decode cX5_isBrake 4 = .ok (.invokestatic 39, 3) := by decide +kernel
theorem dX5_isBrake_7 : decode cX5_isBrake 7 = .ok (.ireturn, 1) := by decide +kernel
theorem dX5_release_0 : decode cX5_release 0 = .ok (.aload_n 0, 1) := by decide +kernel
theorem dX5_release_1 : decode cX5_release 1 = .ok (.aload_n 0, 1) := by decide +kernel
theorem dX5_release_2 : decode cX5_release 2 = .ok (.iload_n 1, 1) := by decide +kernel
theorem dX5_release_3 : decode cX5_release 3 = .ok (.invokevirtual 64, 3) := by decide +kernel
theorem dX5_release_6 : decode cX5_release 6 = .ok (.ifCond .ne 7, 3) := by decide +kernel
theorem dX5_release_9 : decode cX5_release 9 = .ok (.iconst 1, 1) := by decide +kernel
theorem dX5_release_10 : decode cX5_release 10 = .ok (.goto 15, 3) := by decide +kernel
theorem dX5_release_13 : decode cX5_release 13 = .ok (.iload_n 2, 1) := by decide +kernel
theorem dX5_release_14 : decode cX5_release 14 = .ok (.invokestatic 90, 3) := by decide +kernel
theorem dX5_release_17 : decode cX5_release 17 = .ok (.ifCond .eq 7, 3) := by decide +kernel
theorem dX5_release_20 : decode cX5_release 20 = .ok (.iconst 0, 1) := by decide +kernel
theorem dX5_release_21 : decode cX5_release 21 = .ok (.goto 4, 3) := by decide +kernel
theorem dX5_release_24 : decode cX5_release 24 = .ok (.iconst 2, 1) := by decide +kernel
theorem dX5_release_25 : decode cX5_release 25 = .ok (.invokevirtual 50, 3) := by decide +kernel
theorem dX5_release_28 : decode cX5_release 28 = .ok (.ifCond .eq 5, 3) := by decide +kernel
theorem dX5_release_31 : decode cX5_release 31 = .ok (.iconst 0, 1) := by decide +kernel
theorem dX5_release_32 : decode cX5_release 32 = .ok (.ireturn, 1) := by decide +kernel
theorem dX5_release_33 : decode cX5_release 33 = .ok (.aload_n 0, 1) := by decide +kernel
theorem dX5_release_34 : decode cX5_release 34 = .ok (.invokevirtual 54, 3) := by decide +kernel
theorem dX5_release_37 : decode cX5_release 37 = .ok (.aload_n 0, 1) := by decide +kernel
theorem dX5_release_38 : decode cX5_release 38 = .ok (.iload_n 1, 1) := by decide +kernel
theorem dX5_release_39 : decode cX5_release 39 = .ok (.iload_n 2, 1) := by decide +kernel
theorem dX5_release_40 : decode cX5_release 40 = .ok (.invokevirtual 93, 3) := by decide +kernel
theorem dX5_release_43 : decode cX5_release 43 = .ok (.ireturn, 1) := by decide +kernel
theorem dX5_barBrake_0 : decode cX5_barBrake 0 = .ok (.aload_n 0, 1) := by decide +kernel
theorem dX5_barBrake_1 : decode cX5_barBrake 1 = .ok (.iload_n 1, 1) := by decide +kernel
theorem dX5_barBrake_2 : decode cX5_barBrake 2 = .ok (.invokevirtual 64, 3) := by decide +kernel
theorem dX5_barBrake_5 : decode cX5_barBrake 5 = .ok (.ifCond .ne 7, 3) := by decide +kernel
theorem dX5_barBrake_8 : decode cX5_barBrake 8 = .ok (.iconst 1, 1) := by decide +kernel
theorem dX5_barBrake_9 : decode cX5_barBrake 9 = .ok (.goto 28, 3) := by decide +kernel
theorem dX5_barBrake_12 : decode cX5_barBrake 12 = .ok (.iload_n 2, 1) := by decide +kernel
theorem dX5_barBrake_13 : decode cX5_barBrake 13 = .ok (.invokestatic 90, 3) := by decide +kernel
theorem dX5_barBrake_16 : decode cX5_barBrake 16 = .ok (.ifCond .ne 7, 3) := by decide +kernel
theorem dX5_barBrake_19 : decode cX5_barBrake 19 = .ok (.iconst 2, 1) := by decide +kernel
theorem dX5_barBrake_20 : decode cX5_barBrake 20 = .ok (.goto 17, 3) := by decide +kernel
theorem dX5_barBrake_23 : decode cX5_barBrake 23 = .ok (.aload_n 0, 1) := by decide +kernel
theorem dX5_barBrake_24 : decode cX5_barBrake 24 = .ok (.iload_n 1, 1) := by decide +kernel
theorem dX5_barBrake_25 : decode cX5_barBrake 25 = .ok (.iconst 1, 1) := by decide +kernel
theorem dX5_barBrake_26 : decode cX5_barBrake 26 = .ok (.invokevirtual 67, 3) := by decide +kernel
theorem dX5_barBrake_29 : decode cX5_barBrake 29 = .ok (.ifCond .eq 7, 3) := by decide +kernel
theorem dX5_barBrake_32 : decode cX5_barBrake 32 = .ok (.iconst 0, 1) := by decide +kernel
theorem dX5_barBrake_33 : decode cX5_barBrake 33 = .ok (.goto 4, 3) := by decide +kernel
theorem dX5_barBrake_36 : decode cX5_barBrake 36 = .ok (.iconst 3, 1) := by decide +kernel
theorem dX5_barBrake_37 : decode cX5_barBrake 37 = .ok (.ireturn, 1) := by decide +kernel
theorem dX5_brakes_0 : decode cX5_brakes 0 = .ok (.aload_n 0, 1) := by decide +kernel
theorem dX5_brakes_1 : decode cX5_brakes 1 = .ok (.getfield 7, 3) := by decide +kernel
theorem dX5_brakes_4 : decode cX5_brakes 4 = .ok (.iload_n 1, 1) := by decide +kernel
theorem dX5_brakes_5 : decode cX5_brakes 5 = .ok (.iconst 2, 1) := by decide +kernel
theorem dX5_brakes_6 : decode cX5_brakes 6 = .ok (.invokestatic 43, 3) := by decide +kernel
theorem dX5_brakes_9 : decode cX5_brakes 9 = .ok (.iaload, 1) := by decide +kernel
theorem dX5_brakes_10 : decode cX5_brakes 10 = .ok (.istore_n 3, 1) := by decide +kernel
theorem dX5_brakes_11 : decode cX5_brakes 11 = .ok (.aload_n 0, 1) := by decide +kernel
theorem dX5_brakes_12 : decode cX5_brakes 12 = .ok (.getfield 7, 3) := by decide +kernel
theorem dX5_brakes_15 : decode cX5_brakes 15 = .ok (.iload_n 1, 1) := by decide +kernel
theorem dX5_brakes_16 : decode cX5_brakes 16 = .ok (.iconst 2, 1) := by decide +kernel
theorem dX5_brakes_17 : decode cX5_brakes 17 = .ok (.invokestatic 43, 3) := by decide +kernel
theorem dX5_brakes_20 : decode cX5_brakes 20 = .ok (.iload_n 2, 1) := by decide +kernel
theorem dX5_brakes_21 : decode cX5_brakes 21 = .ok (.iastore, 1) := by decide +kernel
theorem dX5_brakes_22 : decode cX5_brakes 22 = .ok (.iload_n 3, 1) := by decide +kernel
theorem dX5_brakes_23 : decode cX5_brakes 23 = .ok (.ireturn, 1) := by decide +kernel
theorem dX5_brake_0 : decode cX5_brake 0 = .ok (.aload_n 0, 1) := by decide +kernel
theorem dX5_brake_1 : decode cX5_brake 1 = .ok (.aload_n 0, 1) := by decide +kernel
theorem dX5_brake_2 : decode cX5_brake 2 = .ok (.iload_n 1, 1) := by decide +kernel
theorem dX5_brake_3 : decode cX5_brake 3 = .ok (.iload_n 2, 1) := by decide +kernel
theorem dX5_brake_4 : decode cX5_brake 4 = .ok (.invokevirtual 96, 3) := by decide +kernel
theorem dX5_brake_7 : decode cX5_brake 7 = .ok (.invokevirtual 50, 3) := by decide +kernel
theorem dX5_brake_10 : decode cX5_brake 10 = .ok (.ifCond .eq 5, 3) := by decide +kernel
theorem dX5_brake_13 : decode cX5_brake 13 = .ok (.iconst 0, 1) := by decide +kernel
theorem dX5_brake_14 : decode cX5_brake 14 = .ok (.ireturn, 1) := by decide +kernel
theorem dX5_brake_15 : decode cX5_brake 15 = .ok (.aload_n 0, 1) := by decide +kernel
theorem dX5_brake_16 : decode cX5_brake 16 = .ok (.invokevirtual 54, 3) := by decide +kernel
theorem dX5_brake_19 : decode cX5_brake 19 = .ok (.aload_n 0, 1) := by decide +kernel
theorem dX5_brake_20 : decode cX5_brake 20 = .ok (.iload_n 1, 1) := by decide +kernel
theorem dX5_brake_21 : decode cX5_brake 21 = .ok (.iload_n 2, 1) := by decide +kernel
theorem dX5_brake_22 : decode cX5_brake 22 = .ok (.invokevirtual 99, 3) := by decide +kernel
theorem dX5_brake_25 : decode cX5_brake 25 = .ok (.ireturn, 1) := by decide +kernel
theorem dX5_pull_0 : decode cX5_pull 0 = .ok (.aload_n 0, 1) := by decide +kernel
theorem dX5_pull_1 : decode cX5_pull 1 = .ok (.aload_n 0, 1) := by decide +kernel
theorem dX5_pull_2 : decode cX5_pull 2 = .ok (.iload_n 1, 1) := by decide +kernel
theorem dX5_pull_3 : decode cX5_pull 3 = .ok (.invokevirtual 64, 3) := by decide +kernel
theorem dX5_pull_6 : decode cX5_pull 6 = .ok (.ifCond .eq 7, 3) := by decide +kernel
theorem dX5_pull_9 : decode cX5_pull 9 = .ok (.iconst 0, 1) := by decide +kernel
theorem dX5_pull_10 : decode cX5_pull 10 = .ok (.goto 4, 3) := by decide +kernel
theorem dX5_pull_13 : decode cX5_pull 13 = .ok (.iconst 1, 1) := by decide +kernel
theorem dX5_pull_14 : decode cX5_pull 14 = .ok (.invokevirtual 50, 3) := by decide +kernel
theorem dX5_pull_17 : decode cX5_pull 17 = .ok (.ifCond .eq 5, 3) := by decide +kernel
theorem dX5_pull_20 : decode cX5_pull 20 = .ok (.iconst 0, 1) := by decide +kernel
theorem dX5_pull_21 : decode cX5_pull 21 = .ok (.ireturn, 1) := by decide +kernel
theorem dX5_pull_22 : decode cX5_pull 22 = .ok (.aload_n 0, 1) := by decide +kernel
theorem dX5_pull_23 : decode cX5_pull 23 = .ok (.invokevirtual 54, 3) := by decide +kernel
theorem dX5_pull_26 : decode cX5_pull 26 = .ok (.aload_n 0, 1) := by decide +kernel
theorem dX5_pull_27 : decode cX5_pull 27 = .ok (.iload_n 1, 1) := by decide +kernel
theorem dX5_pull_28 : decode cX5_pull 28 = .ok (.invokevirtual 102, 3) := by decide +kernel
theorem dX5_pull_31 : decode cX5_pull 31 = .ok (.ireturn, 1) := by decide +kernel
theorem dX5_least_0 : decode cX5_least 0 = .ok (.iload_n 0, 1) := by decide +kernel
theorem dX5_least_1 : decode cX5_least 1 = .ok (.iconst 1, 1) := by decide +kernel
theorem dX5_least_2 : decode cX5_least 2 = .ok (.if_icmp .ne 7, 3) := by decide +kernel
theorem dX5_least_5 : decode cX5_least 5 = .ok (.iconst 1, 1) := by decide +kernel
theorem dX5_least_6 : decode cX5_least 6 = .ok (.goto 4, 3) := by decide +kernel
theorem dX5_least_9 : decode cX5_least 9 = .ok (.iconst 0, 1) := by decide +kernel
theorem dX5_least_10 : decode cX5_least 10 = .ok (.ireturn, 1) := by decide +kernel
theorem dX5_most_0 : decode cX5_most 0 = .ok (.iload_n 0, 1) := by decide +kernel
theorem dX5_most_1 : decode cX5_most 1 = .ok (.ifCond .ne 7, 3) := by decide +kernel
theorem dX5_most_4 : decode cX5_most 4 = .ok (.iconst 5, 1) := by decide +kernel
theorem dX5_most_5 : decode cX5_most 5 = .ok (.goto 14, 3) := by decide +kernel
theorem dX5_most_8 : decode cX5_most 8 = .ok (.iload_n 0, 1) := by decide +kernel
theorem dX5_most_9 : decode cX5_most 9 = .ok (.iconst 1, 1) := by decide +kernel
theorem dX5_most_10 : decode cX5_most 10 = .ok (.if_icmp .ne 8, 3) := by decide +kernel
theorem dX5_most_13 : decode cX5_most 13 = .ok (.bipush 20, 2) := by decide +kernel
theorem dX5_most_15 : decode cX5_most 15 = .ok (.goto 4, 3) := by decide +kernel
theorem dX5_most_18 : decode cX5_most 18 = .ok (.iconst 4, 1) := by decide +kernel
theorem dX5_most_19 : decode cX5_most 19 = .ok (.ireturn, 1) := by decide +kernel
theorem dX5_set_0 : decode cX5_set 0 = .ok (.aload_n 0, 1) := by decide +kernel
theorem dX5_set_1 : decode cX5_set 1 = .ok (.iload_n 1, 1) := by decide +kernel
theorem dX5_set_2 : decode cX5_set 2 = .ok (.iconst 0, 1) := by decide +kernel
theorem dX5_set_3 : decode cX5_set 3 = .ok (.iconst 2, 1) := by decide +kernel
theorem dX5_set_4 : decode cX5_set 4 = .ok (.invokestatic 39, 3) := by decide +kernel
theorem dX5_set_7 : decode cX5_set 7 = .ok (.ifCond .ne 7, 3) := by decide +kernel
theorem dX5_set_10 : decode cX5_set 10 = .ok (.iconst 1, 1) := by decide +kernel
theorem dX5_set_11 : decode cX5_set 11 = .ok (.goto 23, 3) := by decide +kernel
theorem dX5_set_14 : decode cX5_set 14 = .ok (.iload_n 2, 1) := by decide +kernel
theorem dX5_set_15 : decode cX5_set 15 = .ok (.iload_n 1, 1) := by decide +kernel
theorem dX5_set_16 : decode cX5_set 16 = .ok (.invokestatic 105, 3) := by decide +kernel
theorem dX5_set_19 : decode cX5_set 19 = .ok (.iload_n 1, 1) := by decide +kernel
theorem dX5_set_20 : decode cX5_set 20 = .ok (.invokestatic 108, 3) := by decide +kernel
theorem dX5_set_23 : decode cX5_set 23 = .ok (.invokestatic 39, 3) := by decide +kernel
theorem dX5_set_26 : decode cX5_set 26 = .ok (.ifCond .eq 7, 3) := by decide +kernel
theorem dX5_set_29 : decode cX5_set 29 = .ok (.iconst 0, 1) := by decide +kernel
theorem dX5_set_30 : decode cX5_set 30 = .ok (.goto 4, 3) := by decide +kernel
theorem dX5_set_33 : decode cX5_set 33 = .ok (.iconst 2, 1) := by decide +kernel
theorem dX5_set_34 : decode cX5_set 34 = .ok (.invokevirtual 50, 3) := by decide +kernel
theorem dX5_set_37 : decode cX5_set 37 = .ok (.ifCond .eq 5, 3) := by decide +kernel
theorem dX5_set_40 : decode cX5_set 40 = .ok (.iconst 0, 1) := by decide +kernel
theorem dX5_set_41 : decode cX5_set 41 = .ok (.ireturn, 1) := by decide +kernel
theorem dX5_set_42 : decode cX5_set 42 = .ok (.aload_n 0, 1) := by decide +kernel
theorem dX5_set_43 : decode cX5_set 43 = .ok (.invokevirtual 54, 3) := by decide +kernel
theorem dX5_set_46 : decode cX5_set 46 = .ok (.aload_n 0, 1) := by decide +kernel
theorem dX5_set_47 : decode cX5_set 47 = .ok (.getfield 7, 3) := by decide +kernel
theorem dX5_set_50 : decode cX5_set 50 = .ok (.sipush 168, 3) := by decide +kernel
theorem dX5_set_53 : decode cX5_set 53 = .ok (.iload_n 1, 1) := by decide +kernel
theorem dX5_set_54 : decode cX5_set 54 = .ok (.iadd, 1) := by decide +kernel
theorem dX5_set_55 : decode cX5_set 55 = .ok (.iaload, 1) := by decide +kernel
theorem dX5_set_56 : decode cX5_set 56 = .ok (.istore_n 3, 1) := by decide +kernel
theorem dX5_set_57 : decode cX5_set 57 = .ok (.aload_n 0, 1) := by decide +kernel
theorem dX5_set_58 : decode cX5_set 58 = .ok (.getfield 7, 3) := by decide +kernel
theorem dX5_set_61 : decode cX5_set 61 = .ok (.sipush 168, 3) := by decide +kernel
theorem dX5_set_64 : decode cX5_set 64 = .ok (.iload_n 1, 1) := by decide +kernel
theorem dX5_set_65 : decode cX5_set 65 = .ok (.iadd, 1) := by decide +kernel
theorem dX5_set_66 : decode cX5_set 66 = .ok (.iload_n 2, 1) := by decide +kernel
theorem dX5_set_67 : decode cX5_set 67 = .ok (.iastore, 1) := by decide +kernel
theorem dX5_set_68 : decode cX5_set 68 = .ok (.iload_n 3, 1) := by decide +kernel
theorem dX5_set_69 : decode cX5_set 69 = .ok (.ireturn, 1) := by decide +kernel
theorem dX5_force_0 : decode cX5_force 0 = .ok (.aload_n 0, 1) := by decide +kernel
theorem dX5_force_1 : decode cX5_force 1 = .ok (.getfield 7, 3) := by decide +kernel
theorem dX5_force_4 : decode cX5_force 4 = .ok (.iload_n 1, 1) := by decide +kernel
theorem dX5_force_5 : decode cX5_force 5 = .ok (.iconst 5, 1) := by decide +kernel
theorem dX5_force_6 : decode cX5_force 6 = .ok (.invokestatic 43, 3) := by decide +kernel
theorem dX5_force_9 : decode cX5_force 9 = .ok (.iaload, 1) := by decide +kernel
theorem dX5_force_10 : decode cX5_force 10 = .ok (.bipush 100, 2) := by decide +kernel
theorem dX5_force_12 : decode cX5_force 12 = .ok (.if_icmp .gt 16, 3) := by decide +kernel
theorem dX5_force_15 : decode cX5_force 15 = .ok (.aload_n 0, 1) := by decide +kernel
theorem dX5_force_16 : decode cX5_force 16 = .ok (.getfield 7, 3) := by decide +kernel
theorem dX5_force_19 : decode cX5_force 19 = .ok (.iload_n 1, 1) := by decide +kernel
theorem dX5_force_20 : decode cX5_force 20 = .ok (.iconst 2, 1) := by decide +kernel
theorem dX5_force_21 : decode cX5_force 21 = .ok (.invokestatic 43, 3) := by decide +kernel
theorem dX5_force_24 : decode cX5_force 24 = .ok (.iaload, 1) := by decide +kernel
theorem dX5_force_25 : decode cX5_force 25 = .ok (.goto 15, 3) := by decide +kernel
theorem dX5_force_28 : decode cX5_force 28 = .ok (.aload_n 0, 1) := by decide +kernel
theorem dX5_force_29 : decode cX5_force 29 = .ok (.getfield 7, 3) := by decide +kernel
theorem dX5_force_32 : decode cX5_force 32 = .ok (.iload_n 1, 1) := by decide +kernel
theorem dX5_force_33 : decode cX5_force 33 = .ok (.iconst 2, 1) := by decide +kernel
theorem dX5_force_34 : decode cX5_force 34 = .ok (.invokestatic 43, 3) := by decide +kernel
theorem dX5_force_37 : decode cX5_force 37 = .ok (.iaload, 1) := by decide +kernel
theorem dX5_force_38 : decode cX5_force 38 = .ok (.iconst 2, 1) := by decide +kernel
theorem dX5_force_39 : decode cX5_force 39 = .ok (.idiv, 1) := by decide +kernel
theorem dX5_force_40 : decode cX5_force 40 = .ok (.ireturn, 1) := by decide +kernel
theorem dX5_isAhead_0 : decode cX5_isAhead 0 = .ok (.aload_n 0, 1) := by decide +kernel
theorem dX5_isAhead_1 : decode cX5_isAhead 1 = .ok (.getfield 7, 3) := by decide +kernel
theorem dX5_isAhead_4 : decode cX5_isAhead 4 = .ok (.iload_n 1, 1) := by decide +kernel
theorem dX5_isAhead_5 : decode cX5_isAhead 5 = .ok (.iconst 4, 1) := by decide +kernel
theorem dX5_isAhead_6 : decode cX5_isAhead 6 = .ok (.invokestatic 43, 3) := by decide +kernel
theorem dX5_isAhead_9 : decode cX5_isAhead 9 = .ok (.iaload, 1) := by decide +kernel
theorem dX5_isAhead_10 : decode cX5_isAhead 10 = .ok (.istore_n 3, 1) := by decide +kernel
theorem dX5_isAhead_11 : decode cX5_isAhead 11 = .ok (.aload_n 0, 1) := by decide +kernel
theorem dX5_isAhead_12 : decode cX5_isAhead 12 = .ok (.getfield 7, 3) := by decide +kernel
theorem dX5_isAhead_15 : decode cX5_isAhead 15 = .ok (.iload_n 2, 1) := by decide +kernel
theorem dX5_isAhead_16 : decode cX5_isAhead 16 = .ok (.iconst 4, 1) := by decide +kernel
theorem dX5_isAhead_17 : decode cX5_isAhead 17 = .ok (.invokestatic 43, 3) := by decide +kernel
theorem dX5_isAhead_20 : decode cX5_isAhead 20 = .ok (.iaload, 1) := by decide +kernel
theorem dX5_isAhead_21 : decode cX5_isAhead 21 = .ok (.istore 4, 2) := by decide +kernel
theorem dX5_isAhead_23 : decode cX5_isAhead 23 = .ok (.iload_n 3, 1) := by decide +kernel
theorem dX5_isAhead_24 : decode cX5_isAhead 24 = .ok (.iload 4, 2) := by decide +kernel
theorem dX5_isAhead_26 : decode cX5_isAhead 26 = .ok (.if_icmp .gt 14, 3) := by decide +kernel
theorem dX5_isAhead_29 : decode cX5_isAhead 29 = .ok (.iload_n 3, 1) := by decide +kernel
theorem dX5_isAhead_30 : decode cX5_isAhead 30 = .ok (.iload 4, 2) := by decide +kernel
theorem dX5_isAhead_32 : decode cX5_isAhead 32 = .ok (.if_icmp .ne 12, 3) := by decide +kernel
theorem dX5_isAhead_35 : decode cX5_isAhead 35 = .ok (.iload_n 1, 1) := by decide +kernel
theorem dX5_isAhead_36 : decode cX5_isAhead 36 = .ok (.iload_n 2, 1) := by decide +kernel
theorem dX5_isAhead_37 : decode cX5_isAhead 37 = .ok (.if_icmp .ge 7, 3) := by decide +kernel
theorem dX5_isAhead_40 : decode cX5_isAhead 40 = .ok (.iconst 1, 1) := by decide +kernel
theorem dX5_isAhead_41 : decode cX5_isAhead 41 = .ok (.goto 4, 3) := by decide +kernel
theorem dX5_isAhead_44 : decode cX5_isAhead 44 = .ok (.iconst 0, 1) := by decide +kernel
theorem dX5_isAhead_45 : decode cX5_isAhead 45 = .ok (.ireturn, 1) := by decide +kernel
theorem dX5_notes_0 : decode cX5_notes 0 = .ok (.iconst 0, 1) := by decide +kernel
theorem dX5_notes_1 : decode cX5_notes 1 = .ok (.istore_n 1, 1) := by decide +kernel
theorem dX5_notes_2 : decode cX5_notes 2 = .ok (.iconst 0, 1) := by decide +kernel
theorem dX5_notes_3 : decode cX5_notes 3 = .ok (.istore_n 2, 1) := by decide +kernel
theorem dX5_notes_4 : decode cX5_notes 4 = .ok (.iload_n 2, 1) := by decide +kernel
theorem dX5_notes_5 : decode cX5_notes 5 = .ok (.aload_n 0, 1) := by decide +kernel
theorem dX5_notes_6 : decode cX5_notes 6 = .ok (.getfield 7, 3) := by decide +kernel
theorem dX5_notes_9 : decode cX5_notes 9 = .ok (.sipush 162, 3) := by decide +kernel
theorem dX5_notes_12 : decode cX5_notes 12 = .ok (.iaload, 1) := by decide +kernel
theorem dX5_notes_13 : decode cX5_notes 13 = .ok (.if_icmp .ge 70, 3) := by decide +kernel
theorem dX5_notes_16 : decode cX5_notes 16 = .ok (.aload_n 0, 1) := by decide +kernel
theorem dX5_notes_17 : decode cX5_notes 17 = .ok (.iload_n 2, 1) := by decide +kernel
theorem dX5_notes_18 : decode cX5_notes 18 = .ok (.iconst 1, 1) := by decide +kernel
theorem dX5_notes_19 : decode cX5_notes 19 = .ok (.invokevirtual 67, 3) := by decide +kernel
theorem dX5_notes_22 : decode cX5_notes 22 = .ok (.ifCond .eq 55, 3) := by decide +kernel
theorem dX5_notes_25 : decode cX5_notes 25 = .ok (.iload_n 1, 1) := by decide +kernel
theorem dX5_notes_26 : decode cX5_notes 26 = .ok (.istore_n 3, 1) := by decide +kernel
theorem dX5_notes_27 : decode cX5_notes 27 = .ok (.iload_n 3, 1) := by decide +kernel
theorem dX5_notes_28 : decode cX5_notes 28 = .ok (.ifCond .le 39, 3) := by decide +kernel
theorem dX5_notes_31 : decode cX5_notes 31 = .ok (.aload_n 0, 1) := by decide +kernel
theorem dX5_notes_32 : decode cX5_notes 32 = .ok (.iload_n 2, 1) := by decide +kernel
theorem dX5_notes_33 : decode cX5_notes 33 = .ok (.aload_n 0, 1) := by decide +kernel
theorem dX5_notes_34 : decode cX5_notes 34 = .ok (.getfield 29, 3) := by decide +kernel
theorem dX5_notes_37 : decode cX5_notes 37 = .ok (.iload_n 3, 1) := by decide +kernel
theorem dX5_notes_38 : decode cX5_notes 38 = .ok (.iconst 1, 1) := by decide +kernel
theorem dX5_notes_39 : decode cX5_notes 39 = .ok (.isub, 1) := by decide +kernel
theorem dX5_notes_40 : decode cX5_notes 40 = .ok (.iaload, 1) := by decide +kernel
theorem dX5_notes_41 : decode cX5_notes 41 = .ok (.invokevirtual 111, 3) := by decide +kernel
theorem dX5_notes_44 : decode cX5_notes 44 = .ok (.ifCond .eq 23, 3) := by decide +kernel
theorem dX5_notes_47 : decode cX5_notes 47 = .ok (.aload_n 0, 1) := by decide +kernel
theorem dX5_notes_48 : decode cX5_notes 48 = .ok (.getfield 29, 3) := by decide +kernel
theorem dX5_notes_51 : decode cX5_notes 51 = .ok (.iload_n 3, 1) := by decide +kernel
theorem dX5_notes_52 : decode cX5_notes 52 = .ok (.aload_n 0, 1) := by decide +kernel
theorem dX5_notes_53 : decode cX5_notes 53 = .ok (.getfield 29, 3) := by decide +kernel
theorem dX5_notes_56 : decode cX5_notes 56 = .ok (.iload_n 3, 1) := by decide +kernel
theorem dX5_notes_57 : decode cX5_notes 57 = .ok (.iconst 1, 1) := by decide +kernel
theorem dX5_notes_58 : decode cX5_notes 58 = .ok (.isub, 1) := by decide +kernel
theorem dX5_notes_59 : decode cX5_notes 59 = .ok (.iaload, 1) := by decide +kernel
theorem dX5_notes_60 : decode cX5_notes 60 = .ok (.iastore, 1) := by decide +kernel
theorem dX5_notes_61 : decode cX5_notes 61 = .ok (.iinc 3 (-1), 3) := by decide +kernel
theorem dX5_notes_64 : decode cX5_notes 64 = .ok (.goto (-37), 3) := by decide +kernel
theorem dX5_notes_67 : decode cX5_notes 67 = .ok (.aload_n 0, 1) := by decide +kernel
theorem dX5_notes_68 : decode cX5_notes 68 = .ok (.getfield 29, 3) := by decide +kernel
theorem dX5_notes_71 : decode cX5_notes 71 = .ok (.iload_n 3, 1) := by decide +kernel
theorem dX5_notes_72 : decode cX5_notes 72 = .ok (.iload_n 2, 1) := by decide +kernel
theorem dX5_notes_73 : decode cX5_notes 73 = .ok (.iastore, 1) := by decide +kernel
theorem dX5_notes_74 : decode cX5_notes 74 = .ok (.iinc 1 1, 3) := by decide +kernel
theorem dX5_notes_77 : decode cX5_notes 77 = .ok (.iinc 2 1, 3) := by decide +kernel
theorem dX5_notes_80 : decode cX5_notes 80 = .ok (.goto (-76), 3) := by decide +kernel
theorem dX5_notes_83 : decode cX5_notes 83 = .ok (.iload_n 1, 1) := by decide +kernel
theorem dX5_notes_84 : decode cX5_notes 84 = .ok (.ireturn, 1) := by decide +kernel
theorem dX5_before_0 : decode cX5_before 0 = .ok (.iconst (-1), 1) := by decide +kernel
theorem dX5_before_1 : decode cX5_before 1 = .ok (.istore_n 2, 1) := by decide +kernel
theorem dX5_before_2 : decode cX5_before 2 = .ok (.iconst 0, 1) := by decide +kernel
theorem dX5_before_3 : decode cX5_before 3 = .ok (.istore_n 3, 1) := by decide +kernel
theorem dX5_before_4 : decode cX5_before 4 = .ok (.iload_n 3, 1) := by decide +kernel
theorem dX5_before_5 : decode cX5_before 5 = .ok (.aload_n 0, 1) := by decide +kernel
theorem dX5_before_6 : decode cX5_before 6 = .ok (.getfield 7, 3) := by decide +kernel
theorem dX5_before_9 : decode cX5_before 9 = .ok (.sipush 162, 3) := by decide +kernel
theorem dX5_before_12 : decode cX5_before 12 = .ok (.iaload, 1) := by decide +kernel
theorem dX5_before_13 : decode cX5_before 13 = .ok (.if_icmp .ge 78, 3) := by decide +kernel
theorem dX5_before_16 : decode cX5_before 16 = .ok (.iload_n 3, 1) := by decide +kernel
theorem dX5_before_17 : decode cX5_before 17 = .ok (.iload_n 1, 1) := by decide +kernel
theorem dX5_before_18 : decode cX5_before 18 = .ok (.if_icmp .eq 25, 3) := by decide +kernel
theorem dX5_before_21 : decode cX5_before 21 = .ok (.aload_n 0, 1) := by decide +kernel
theorem dX5_before_22 : decode cX5_before 22 = .ok (.iload_n 3, 1) := by decide +kernel
theorem dX5_before_23 : decode cX5_before 23 = .ok (.iconst 1, 1) := by decide +kernel
theorem dX5_before_24 : decode cX5_before 24 = .ok (.invokevirtual 67, 3) := by decide +kernel
theorem dX5_before_27 : decode cX5_before 27 = .ok (.ifCond .eq 16, 3) := by decide +kernel
theorem dX5_before_30 : decode cX5_before 30 = .ok (.aload_n 0, 1) := by decide +kernel
theorem dX5_before_31 : decode cX5_before 31 = .ok (.iload_n 3, 1) := by decide +kernel
theorem dX5_before_32 : decode cX5_before 32 = .ok (.iload_n 1, 1) := by decide +kernel
theorem dX5_before_33 : decode cX5_before 33 = .ok (.invokevirtual 111, 3) := by decide +kernel
theorem dX5_before_36 : decode cX5_before 36 = .ok (.ifCond .eq 7, 3) := by decide +kernel
theorem dX5_before_39 : decode cX5_before 39 = .ok (.iconst 1, 1) := by decide +kernel
theorem dX5_before_40 : decode cX5_before 40 = .ok (.goto 4, 3) := by decide +kernel
theorem dX5_before_43 : decode cX5_before 43 = .ok (.iconst 0, 1) := by decide +kernel
theorem dX5_before_44 : decode cX5_before 44 = .ok (.istore 4, 2) := by decide +kernel
theorem dX5_before_46 : decode cX5_before 46 = .ok (.iload 4, 2) := by decide +kernel
theorem dX5_before_48 : decode cX5_before 48 = .ok (.ifCond .eq 35, 3) := by decide +kernel
theorem dX5_before_51 : decode cX5_before 51 = .ok (.iload_n 2, 1) := by decide +kernel
theorem dX5_before_52 : decode cX5_before 52 = .ok (.iconst (-1), 1) := by decide +kernel
theorem dX5_before_53 : decode cX5_before 53 = .ok (.if_icmp .eq 26, 3) := by decide +kernel
theorem dX5_before_56 : decode cX5_before 56 = .ok (.aload_n 0, 1) := by decide +kernel
theorem dX5_before_57 : decode cX5_before 57 = .ok (.getfield 7, 3) := by decide +kernel
theorem dX5_before_60 : decode cX5_before 60 = .ok (.iload_n 3, 1) := by decide +kernel
theorem dX5_before_61 : decode cX5_before 61 = .ok (.iconst 4, 1) := by decide +kernel
theorem dX5_before_62 : decode cX5_before 62 = .ok (.invokestatic 43, 3) := by decide +kernel
theorem dX5_before_65 : decode cX5_before 65 = .ok (.iaload, 1) := by decide +kernel
theorem dX5_before_66 : decode cX5_before 66 = .ok (.aload_n 0, 1) := by decide +kernel
theorem dX5_before_67 : decode cX5_before 67 = .ok (.getfield 7, 3) := by decide +kernel
theorem dX5_before_70 : decode cX5_before 70 = .ok (.iload_n 2, 1) := by decide +kernel
theorem dX5_before_71 : decode cX5_before 71 = .ok (.iconst 4, 1) := by decide +kernel
theorem dX5_before_72 : decode cX5_before 72 = .ok (.invokestatic 43, 3) := by decide +kernel
theorem dX5_before_75 : decode cX5_before 75 = .ok (.iaload, 1) := by decide +kernel
theorem dX5_before_76 : decode cX5_before 76 = .ok (.if_icmp .gt 7, 3) := by decide +kernel
theorem dX5_before_79 : decode cX5_before 79 = .ok (.iload_n 3, 1) := by decide +kernel
theorem dX5_before_80 : decode cX5_before 80 = .ok (.goto 4, 3) := by decide +kernel
theorem dX5_before_83 : decode cX5_before 83 = .ok (.iload_n 2, 1) := by decide +kernel
theorem dX5_before_84 : decode cX5_before 84 = .ok (.istore_n 2, 1) := by decide +kernel
theorem dX5_before_85 : decode cX5_before 85 = .ok (.iinc 3 1, 3) := by decide +kernel
theorem dX5_before_88 : decode cX5_before 88 = .ok (.goto (-84), 3) := by decide +kernel
theorem dX5_before_91 : decode cX5_before 91 = .ok (.iload_n 2, 1) := by decide +kernel
theorem dX5_before_92 : decode cX5_before 92 = .ok (.ireturn, 1) := by decide +kernel
theorem dX5_within_0 : decode cX5_within 0 = .ok (.iload_n 0, 1) := by decide +kernel
theorem dX5_within_1 : decode cX5_within 1 = .ok (.iload_n 1, 1) := by decide +kernel
theorem dX5_within_2 : decode cX5_within 2 = .ok (.if_icmp .ge 7, 3) := by decide +kernel
theorem dX5_within_5 : decode cX5_within 5 = .ok (.iload_n 1, 1) := by decide +kernel
theorem dX5_within_6 : decode cX5_within 6 = .ok (.goto 13, 3) := by decide +kernel
theorem dX5_within_9 : decode cX5_within 9 = .ok (.iload_n 0, 1) := by decide +kernel
theorem dX5_within_10 : decode cX5_within 10 = .ok (.iload_n 2, 1) := by decide +kernel
theorem dX5_within_11 : decode cX5_within 11 = .ok (.if_icmp .le 7, 3) := by decide +kernel
theorem dX5_within_14 : decode cX5_within 14 = .ok (.iload_n 2, 1) := by decide +kernel
theorem dX5_within_15 : decode cX5_within 15 = .ok (.goto 4, 3) := by decide +kernel
theorem dX5_within_18 : decode cX5_within 18 = .ok (.iload_n 0, 1) := by decide +kernel
theorem dX5_within_19 : decode cX5_within 19 = .ok (.ireturn, 1) := by decide +kernel
theorem dX5_moves_0 : decode cX5_moves 0 = .ok (.aload_n 0, 1) := by decide +kernel
theorem dX5_moves_1 : decode cX5_moves 1 = .ok (.getfield 7, 3) := by decide +kernel
theorem dX5_moves_4 : decode cX5_moves 4 = .ok (.iload_n 1, 1) := by decide +kernel
theorem dX5_moves_5 : decode cX5_moves 5 = .ok (.iconst 4, 1) := by decide +kernel
theorem dX5_moves_6 : decode cX5_moves 6 = .ok (.invokestatic 43, 3) := by decide +kernel
theorem dX5_moves_9 : decode cX5_moves 9 = .ok (.iaload, 1) := by decide +kernel
theorem dX5_moves_10 : decode cX5_moves 10 = .ok (.istore_n 2, 1) := by decide +kernel
theorem dX5_moves_11 : decode cX5_moves 11 = .ok (.aload_n 0, 1) := by decide +kernel
theorem dX5_moves_12 : decode cX5_moves 12 = .ok (.getfield 7, 3) := by decide +kernel
theorem dX5_moves_15 : decode cX5_moves 15 = .ok (.iload_n 1, 1) := by decide +kernel
theorem dX5_moves_16 : decode cX5_moves 16 = .ok (.iconst 3, 1) := by decide +kernel
theorem dX5_moves_17 : decode cX5_moves 17 = .ok (.invokestatic 43, 3) := by decide +kernel
theorem dX5_moves_20 : decode cX5_moves 20 = .ok (.iaload, 1) := by decide +kernel
theorem dX5_moves_21 : decode cX5_moves 21 = .ok (.aload_n 0, 1) := by decide +kernel
theorem dX5_moves_22 : decode cX5_moves 22 = .ok (.getfield 7, 3) := by decide +kernel
theorem dX5_moves_25 : decode cX5_moves 25 = .ok (.iconst 0, 1) := by decide +kernel
theorem dX5_moves_26 : decode cX5_moves 26 = .ok (.iload_n 2, 1) := by decide +kernel
theorem dX5_moves_27 : decode cX5_moves 27 = .ok (.bipush 10, 2) := by decide +kernel
theorem dX5_moves_29 : decode cX5_moves 29 = .ok (.idiv, 1) := by decide +kernel
theorem dX5_moves_30 : decode cX5_moves 30 = .ok (.iadd, 1) := by decide +kernel
theorem dX5_moves_31 : decode cX5_moves 31 = .ok (.iaload, 1) := by decide +kernel
theorem dX5_moves_32 : decode cX5_moves 32 = .ok (.iadd, 1) := by decide +kernel
theorem dX5_moves_33 : decode cX5_moves 33 = .ok (.aload_n 0, 1) := by decide +kernel
theorem dX5_moves_34 : decode cX5_moves 34 = .ok (.getfield 7, 3) := by decide +kernel
theorem dX5_moves_37 : decode cX5_moves 37 = .ok (.iload_n 1, 1) := by decide +kernel
theorem dX5_moves_38 : decode cX5_moves 38 = .ok (.iconst 1, 1) := by decide +kernel
theorem dX5_moves_39 : decode cX5_moves 39 = .ok (.invokestatic 43, 3) := by decide +kernel
theorem dX5_moves_42 : decode cX5_moves 42 = .ok (.iaload, 1) := by decide +kernel
theorem dX5_moves_43 : decode cX5_moves 43 = .ok (.iconst 5, 1) := by decide +kernel
theorem dX5_moves_44 : decode cX5_moves 44 = .ok (.idiv, 1) := by decide +kernel
theorem dX5_moves_45 : decode cX5_moves 45 = .ok (.iadd, 1) := by decide +kernel
theorem dX5_moves_46 : decode cX5_moves 46 = .ok (.aload_n 0, 1) := by decide +kernel
theorem dX5_moves_47 : decode cX5_moves 47 = .ok (.iload_n 1, 1) := by decide +kernel
theorem dX5_moves_48 : decode cX5_moves 48 = .ok (.invokevirtual 114, 3) := by decide +kernel
theorem dX5_moves_51 : decode cX5_moves 51 = .ok (.isub, 1) := by decide +kernel
theorem dX5_moves_52 : decode cX5_moves 52 = .ok (.aload_n 0, 1) := by decide +kernel
theorem dX5_moves_53 : decode cX5_moves 53 = .ok (.getfield 7, 3) := by decide +kernel
theorem dX5_moves_56 : decode cX5_moves 56 = .ok (.sipush 168, 3) := by decide +kernel
theorem dX5_moves_59 : decode cX5_moves 59 = .ok (.iaload, 1) := by decide +kernel
theorem dX5_moves_60 : decode cX5_moves 60 = .ok (.isub, 1) := by decide +kernel
theorem dX5_moves_61 : decode cX5_moves 61 = .ok (.iconst 0, 1) := by decide +kernel
theorem dX5_moves_62 : decode cX5_moves 62 = .ok (.bipush 40, 2) := by decide +kernel
theorem dX5_moves_64 : decode cX5_moves 64 = .ok (.invokestatic 117, 3) := by decide +kernel
theorem dX5_moves_67 : decode cX5_moves 67 = .ok (.istore_n 3, 1) := by decide +kernel
theorem dX5_moves_68 : decode cX5_moves 68 = .ok (.aload_n 0, 1) := by decide +kernel
theorem dX5_moves_69 : decode cX5_moves 69 = .ok (.getfield 7, 3) := by decide +kernel
theorem dX5_moves_72 : decode cX5_moves 72 = .ok (.iload_n 1, 1) := by decide +kernel
theorem dX5_moves_73 : decode cX5_moves 73 = .ok (.iconst 5, 1) := by decide +kernel
theorem dX5_moves_74 : decode cX5_moves 74 = .ok (.invokestatic 43, 3) := by decide +kernel
theorem dX5_moves_77 : decode cX5_moves 77 = .ok (.aload_n 0, 1) := by decide +kernel
theorem dX5_moves_78 : decode cX5_moves 78 = .ok (.getfield 7, 3) := by decide +kernel
theorem dX5_moves_81 : decode cX5_moves 81 = .ok (.iload_n 1, 1) := by decide +kernel
theorem dX5_moves_82 : decode cX5_moves 82 = .ok (.iconst 5, 1) := by decide +kernel
theorem dX5_moves_83 : decode cX5_moves 83 = .ok (.invokestatic 43, 3) := by decide +kernel
theorem dX5_moves_86 : decode cX5_moves 86 = .ok (.iaload, 1) := by decide +kernel
theorem dX5_moves_87 : decode cX5_moves 87 = .ok (.iload_n 3, 1) := by decide +kernel
theorem dX5_moves_88 : decode cX5_moves 88 = .ok (.ifCond .le 16, 3) := by decide +kernel
theorem dX5_moves_91 : decode cX5_moves 91 = .ok (.aload_n 0, 1) := by decide +kernel
theorem dX5_moves_92 : decode cX5_moves 92 = .ok (.getfield 7, 3) := by decide +kernel
theorem dX5_moves_95 : decode cX5_moves 95 = .ok (.iload_n 1, 1) := by decide +kernel
theorem dX5_moves_96 : decode cX5_moves 96 = .ok (.iconst 2, 1) := by decide +kernel
theorem dX5_moves_97 : decode cX5_moves 97 = .ok (.invokestatic 43, 3) := by decide +kernel
theorem dX5_moves_100 : decode cX5_moves 100 = .ok (.iaload, 1) := by decide +kernel
theorem dX5_moves_101 : decode cX5_moves 101 = .ok (.goto 5, 3) := by decide +kernel
theorem dX5_moves_104 : decode cX5_moves 104 = .ok (.bipush (-5), 2) := by decide +kernel
theorem dX5_moves_106 : decode cX5_moves 106 = .ok (.iadd, 1) := by decide +kernel
theorem dX5_moves_107 : decode cX5_moves 107 = .ok (.iconst 0, 1) := by decide +kernel
theorem dX5_moves_108 : decode cX5_moves 108 = .ok (.sipush 200, 3) := by decide +kernel
theorem dX5_moves_111 : decode cX5_moves 111 = .ok (.invokestatic 117, 3) := by decide +kernel
theorem dX5_moves_114 : decode cX5_moves 114 = .ok (.iastore, 1) := by decide +kernel
theorem dX5_moves_115 : decode cX5_moves 115 = .ok (.aload_n 0, 1) := by decide +kernel
theorem dX5_moves_116 : decode cX5_moves 116 = .ok (.getfield 7, 3) := by decide +kernel
theorem dX5_moves_119 : decode cX5_moves 119 = .ok (.iload_n 1, 1) := by decide +kernel
theorem dX5_moves_120 : decode cX5_moves 120 = .ok (.bipush 8, 2) := by decide +kernel
theorem dX5_moves_122 : decode cX5_moves 122 = .ok (.invokestatic 43, 3) := by decide +kernel
theorem dX5_moves_125 : decode cX5_moves 125 = .ok (.iload_n 3, 1) := by decide +kernel
theorem dX5_moves_126 : decode cX5_moves 126 = .ok (.aload_n 0, 1) := by decide +kernel
theorem dX5_moves_127 : decode cX5_moves 127 = .ok (.getfield 7, 3) := by decide +kernel
theorem dX5_moves_130 : decode cX5_moves 130 = .ok (.iload_n 1, 1) := by decide +kernel
theorem dX5_moves_131 : decode cX5_moves 131 = .ok (.bipush 8, 2) := by decide +kernel
theorem dX5_moves_133 : decode cX5_moves 133 = .ok (.invokestatic 43, 3) := by decide +kernel
theorem dX5_moves_136 : decode cX5_moves 136 = .ok (.iaload, 1) := by decide +kernel
theorem dX5_moves_137 : decode cX5_moves 137 = .ok (.if_icmp .le 7, 3) := by decide +kernel
theorem dX5_moves_140 : decode cX5_moves 140 = .ok (.iload_n 3, 1) := by decide +kernel
theorem dX5_moves_141 : decode cX5_moves 141 = .ok (.goto 14, 3) := by decide +kernel
theorem dX5_moves_144 : decode cX5_moves 144 = .ok (.aload_n 0, 1) := by decide +kernel
theorem dX5_moves_145 : decode cX5_moves 145 = .ok (.getfield 7, 3) := by decide +kernel
theorem dX5_moves_148 : decode cX5_moves 148 = .ok (.iload_n 1, 1) := by decide +kernel
theorem dX5_moves_149 : decode cX5_moves 149 = .ok (.bipush 8, 2) := by decide +kernel
theorem dX5_moves_151 : decode cX5_moves 151 = .ok (.invokestatic 43, 3) := by decide +kernel
theorem dX5_moves_154 : decode cX5_moves 154 = .ok (.iaload, 1) := by decide +kernel
theorem dX5_moves_155 : decode cX5_moves 155 = .ok (.iastore, 1) := by decide +kernel
theorem dX5_moves_156 : decode cX5_moves 156 = .ok (.iload_n 2, 1) := by decide +kernel
theorem dX5_moves_157 : decode cX5_moves 157 = .ok (.iload_n 3, 1) := by decide +kernel
theorem dX5_moves_158 : decode cX5_moves 158 = .ok (.iadd, 1) := by decide +kernel
theorem dX5_moves_159 : decode cX5_moves 159 = .ok (.istore 4, 2) := by decide +kernel
theorem dX5_moves_161 : decode cX5_moves 161 = .ok (.aload_n 0, 1) := by decide +kernel
theorem dX5_moves_162 : decode cX5_moves 162 = .ok (.iload_n 1, 1) := by decide +kernel
theorem dX5_moves_163 : decode cX5_moves 163 = .ok (.invokevirtual 121, 3) := by decide +kernel
theorem dX5_moves_166 : decode cX5_moves 166 = .ok (.istore 5, 2) := by decide +kernel
theorem dX5_moves_168 : decode cX5_moves 168 = .ok (.iload 5, 2) := by decide +kernel
theorem dX5_moves_170 : decode cX5_moves 170 = .ok (.iconst (-1), 1) := by decide +kernel
theorem dX5_moves_171 : decode cX5_moves 171 = .ok (.if_icmp .eq 98, 3) := by decide +kernel
theorem dX5_moves_174 : decode cX5_moves 174 = .ok (.iload 4, 2) := by decide +kernel
theorem dX5_moves_176 : decode cX5_moves 176 = .ok (.aload_n 0, 1) := by decide +kernel
theorem dX5_moves_177 : decode cX5_moves 177 = .ok (.getfield 7, 3) := by decide +kernel
theorem dX5_moves_180 : decode cX5_moves 180 = .ok (.iload 5, 2) := by decide +kernel
theorem dX5_moves_182 : decode cX5_moves 182 = .ok (.iconst 4, 1) := by decide +kernel
theorem dX5_moves_183 : decode cX5_moves 183 = .ok (.invokestatic 43, 3) := by decide +kernel
theorem dX5_moves_186 : decode cX5_moves 186 = .ok (.iaload, 1) := by decide +kernel
theorem dX5_moves_187 : decode cX5_moves 187 = .ok (.bipush 10, 2) := by decide +kernel
theorem dX5_moves_189 : decode cX5_moves 189 = .ok (.isub, 1) := by decide +kernel
theorem dX5_moves_190 : decode cX5_moves 190 = .ok (.if_icmp .le 79, 3) := by decide +kernel
theorem dX5_moves_193 : decode cX5_moves 193 = .ok (.aload_n 0, 1) := by decide +kernel
theorem dX5_moves_194 : decode cX5_moves 194 = .ok (.getfield 7, 3) := by decide +kernel
theorem dX5_moves_197 : decode cX5_moves 197 = .ok (.iload 5, 2) := by decide +kernel
theorem dX5_moves_199 : decode cX5_moves 199 = .ok (.iconst 4, 1) := by decide +kernel
theorem dX5_moves_200 : decode cX5_moves 200 = .ok (.invokestatic 43, 3) := by decide +kernel
theorem dX5_moves_203 : decode cX5_moves 203 = .ok (.iaload, 1) := by decide +kernel
theorem dX5_moves_204 : decode cX5_moves 204 = .ok (.bipush 10, 2) := by decide +kernel
theorem dX5_moves_206 : decode cX5_moves 206 = .ok (.isub, 1) := by decide +kernel
theorem dX5_moves_207 : decode cX5_moves 207 = .ok (.istore 6, 2) := by decide +kernel
theorem dX5_moves_209 : decode cX5_moves 209 = .ok (.iload 6, 2) := by decide +kernel
theorem dX5_moves_211 : decode cX5_moves 211 = .ok (.iload_n 2, 1) := by decide +kernel
theorem dX5_moves_212 : decode cX5_moves 212 = .ok (.if_icmp .le 8, 3) := by decide +kernel
theorem dX5_moves_215 : decode cX5_moves 215 = .ok (.iload 6, 2) := by decide +kernel
theorem dX5_moves_217 : decode cX5_moves 217 = .ok (.goto 4, 3) := by decide +kernel
theorem dX5_moves_220 : decode cX5_moves 220 = .ok (.iload_n 2, 1) := by decide +kernel
theorem dX5_moves_221 : decode cX5_moves 221 = .ok (.istore 4, 2) := by decide +kernel
theorem dX5_moves_223 : decode cX5_moves 223 = .ok (.aload_n 0, 1) := by decide +kernel
theorem dX5_moves_224 : decode cX5_moves 224 = .ok (.getfield 7, 3) := by decide +kernel
theorem dX5_moves_227 : decode cX5_moves 227 = .ok (.iload 5, 2) := by decide +kernel
theorem dX5_moves_229 : decode cX5_moves 229 = .ok (.iconst 3, 1) := by decide +kernel
theorem dX5_moves_230 : decode cX5_moves 230 = .ok (.invokestatic 43, 3) := by decide +kernel
theorem dX5_moves_233 : decode cX5_moves 233 = .ok (.iaload, 1) := by decide +kernel
theorem dX5_moves_234 : decode cX5_moves 234 = .ok (.iload_n 3, 1) := by decide +kernel
theorem dX5_moves_235 : decode cX5_moves 235 = .ok (.if_icmp .ge 17, 3) := by decide +kernel
theorem dX5_moves_238 : decode cX5_moves 238 = .ok (.aload_n 0, 1) := by decide +kernel
theorem dX5_moves_239 : decode cX5_moves 239 = .ok (.getfield 7, 3) := by decide +kernel
theorem dX5_moves_242 : decode cX5_moves 242 = .ok (.iload 5, 2) := by decide +kernel
theorem dX5_moves_244 : decode cX5_moves 244 = .ok (.iconst 3, 1) := by decide +kernel
theorem dX5_moves_245 : decode cX5_moves 245 = .ok (.invokestatic 43, 3) := by decide +kernel
theorem dX5_moves_248 : decode cX5_moves 248 = .ok (.iaload, 1) := by decide +kernel
theorem dX5_moves_249 : decode cX5_moves 249 = .ok (.goto 4, 3) := by decide +kernel
theorem dX5_moves_252 : decode cX5_moves 252 = .ok (.iload_n 3, 1) := by decide +kernel
theorem dX5_moves_253 : decode cX5_moves 253 = .ok (.istore_n 3, 1) := by decide +kernel
theorem dX5_moves_254 : decode cX5_moves 254 = .ok (.aload_n 0, 1) := by decide +kernel
theorem dX5_moves_255 : decode cX5_moves 255 = .ok (.getfield 7, 3) := by decide +kernel
theorem dX5_moves_258 : decode cX5_moves 258 = .ok (.iload_n 1, 1) := by decide +kernel
theorem dX5_moves_259 : decode cX5_moves 259 = .ok (.bipush 7, 2) := by decide +kernel
theorem dX5_moves_261 : decode cX5_moves 261 = .ok (.invokestatic 43, 3) := by decide +kernel
theorem dX5_moves_264 : decode cX5_moves 264 = .ok (.dup2, 1) := by decide +kernel
theorem dX5_moves_265 : decode cX5_moves 265 = .ok (.iaload, 1) := by decide +kernel
theorem dX5_moves_266 : decode cX5_moves 266 = .ok (.iconst 1, 1) := by decide +kernel
theorem dX5_moves_267 : decode cX5_moves 267 = .ok (.iadd, 1) := by decide +kernel
theorem dX5_moves_268 : decode cX5_moves 268 = .ok (.iastore, 1) := by decide +kernel
theorem dX5_moves_269 : decode cX5_moves 269 = .ok (.aload_n 0, 1) := by decide +kernel
theorem dX5_moves_270 : decode cX5_moves 270 = .ok (.getfield 7, 3) := by decide +kernel
theorem dX5_moves_273 : decode cX5_moves 273 = .ok (.iload_n 1, 1) := by decide +kernel
theorem dX5_moves_274 : decode cX5_moves 274 = .ok (.iconst 3, 1) := by decide +kernel
theorem dX5_moves_275 : decode cX5_moves 275 = .ok (.invokestatic 43, 3) := by decide +kernel
theorem dX5_moves_278 : decode cX5_moves 278 = .ok (.iload_n 3, 1) := by decide +kernel
theorem dX5_moves_279 : decode cX5_moves 279 = .ok (.iastore, 1) := by decide +kernel
theorem dX5_moves_280 : decode cX5_moves 280 = .ok (.aload_n 0, 1) := by decide +kernel
theorem dX5_moves_281 : decode cX5_moves 281 = .ok (.getfield 7, 3) := by decide +kernel
theorem dX5_moves_284 : decode cX5_moves 284 = .ok (.iload_n 1, 1) := by decide +kernel
theorem dX5_moves_285 : decode cX5_moves 285 = .ok (.iconst 4, 1) := by decide +kernel
theorem dX5_moves_286 : decode cX5_moves 286 = .ok (.invokestatic 43, 3) := by decide +kernel
theorem dX5_moves_289 : decode cX5_moves 289 = .ok (.iload 4, 2) := by decide +kernel
theorem dX5_moves_291 : decode cX5_moves 291 = .ok (.iastore, 1) := by decide +kernel
theorem dX5_moves_292 : decode cX5_moves 292 = .ok (.iload_n 2, 1) := by decide +kernel
theorem dX5_moves_293 : decode cX5_moves 293 = .ok (.bipush 10, 2) := by decide +kernel
theorem dX5_moves_295 : decode cX5_moves 295 = .ok (.idiv, 1) := by decide +kernel
theorem dX5_moves_296 : decode cX5_moves 296 = .ok (.iconst 1, 1) := by decide +kernel
theorem dX5_moves_297 : decode cX5_moves 297 = .ok (.iadd, 1) := by decide +kernel
theorem dX5_moves_298 : decode cX5_moves 298 = .ok (.istore 6, 2) := by decide +kernel
theorem dX5_moves_300 : decode cX5_moves 300 = .ok (.iload 6, 2) := by decide +kernel
theorem dX5_moves_302 : decode cX5_moves 302 = .ok (.bipush 30, 2) := by decide +kernel
theorem dX5_moves_304 : decode cX5_moves 304 = .ok (.if_icmp .ge 98, 3) := by decide +kernel
theorem dX5_moves_307 : decode cX5_moves 307 = .ok (.bipush 10, 2) := by decide +kernel
theorem dX5_moves_309 : decode cX5_moves 309 = .ok (.iload 6, 2) := by decide +kernel
theorem dX5_moves_311 : decode cX5_moves 311 = .ok (.imul, 1) := by decide +kernel
theorem dX5_moves_312 : decode cX5_moves 312 = .ok (.iload 4, 2) := by decide +kernel
theorem dX5_moves_314 : decode cX5_moves 314 = .ok (.if_icmp .gt 88, 3) := by decide +kernel
theorem dX5_moves_317 : decode cX5_moves 317 = .ok (.aload_n 0, 1) := by decide +kernel
theorem dX5_moves_318 : decode cX5_moves 318 = .ok (.getfield 7, 3) := by decide +kernel
theorem dX5_moves_321 : decode cX5_moves 321 = .ok (.bipush 30, 2) := by decide +kernel
theorem dX5_moves_323 : decode cX5_moves 323 = .ok (.iload 6, 2) := by decide +kernel
theorem dX5_moves_325 : decode cX5_moves 325 = .ok (.iadd, 1) := by decide +kernel
theorem dX5_moves_326 : decode cX5_moves 326 = .ok (.iaload, 1) := by decide +kernel
theorem dX5_moves_327 : decode cX5_moves 327 = .ok (.ifCond .le 69, 3) := by decide +kernel
theorem dX5_moves_330 : decode cX5_moves 330 = .ok (.iload_n 3, 1) := by decide +kernel
theorem dX5_moves_331 : decode cX5_moves 331 = .ok (.aload_n 0, 1) := by decide +kernel
theorem dX5_moves_332 : decode cX5_moves 332 = .ok (.getfield 7, 3) := by decide +kernel
theorem dX5_moves_335 : decode cX5_moves 335 = .ok (.bipush 30, 2) := by decide +kernel
theorem dX5_moves_337 : decode cX5_moves 337 = .ok (.iload 6, 2) := by decide +kernel
theorem dX5_moves_339 : decode cX5_moves 339 = .ok (.iadd, 1) := by decide +kernel
theorem dX5_moves_340 : decode cX5_moves 340 = .ok (.iaload, 1) := by decide +kernel
theorem dX5_moves_341 : decode cX5_moves 341 = .ok (.if_icmp .le 55, 3) := by decide +kernel
theorem dX5_moves_344 : decode cX5_moves 344 = .ok (.aload_n 0, 1) := by decide +kernel
theorem dX5_moves_345 : decode cX5_moves 345 = .ok (.getfield 7, 3) := by decide +kernel
theorem dX5_moves_348 : decode cX5_moves 348 = .ok (.iload_n 1, 1) := by decide +kernel
theorem dX5_moves_349 : decode cX5_moves 349 = .ok (.iconst 0, 1) := by decide +kernel
theorem dX5_moves_350 : decode cX5_moves 350 = .ok (.invokestatic 43, 3) := by decide +kernel
theorem dX5_moves_353 : decode cX5_moves 353 = .ok (.iconst 3, 1) := by decide +kernel
theorem dX5_moves_354 : decode cX5_moves 354 = .ok (.iastore, 1) := by decide +kernel
theorem dX5_moves_355 : decode cX5_moves 355 = .ok (.aload_n 0, 1) := by decide +kernel
theorem dX5_moves_356 : decode cX5_moves 356 = .ok (.getfield 7, 3) := by decide +kernel
theorem dX5_moves_359 : decode cX5_moves 359 = .ok (.iload_n 1, 1) := by decide +kernel
theorem dX5_moves_360 : decode cX5_moves 360 = .ok (.iconst 4, 1) := by decide +kernel
theorem dX5_moves_361 : decode cX5_moves 361 = .ok (.invokestatic 43, 3) := by decide +kernel
theorem dX5_moves_364 : decode cX5_moves 364 = .ok (.bipush 10, 2) := by decide +kernel
theorem dX5_moves_366 : decode cX5_moves 366 = .ok (.iload 6, 2) := by decide +kernel
theorem dX5_moves_368 : decode cX5_moves 368 = .ok (.imul, 1) := by decide +kernel
theorem dX5_moves_369 : decode cX5_moves 369 = .ok (.iastore, 1) := by decide +kernel
theorem dX5_moves_370 : decode cX5_moves 370 = .ok (.aload_n 0, 1) := by decide +kernel
theorem dX5_moves_371 : decode cX5_moves 371 = .ok (.getfield 7, 3) := by decide +kernel
theorem dX5_moves_374 : decode cX5_moves 374 = .ok (.iload_n 1, 1) := by decide +kernel
theorem dX5_moves_375 : decode cX5_moves 375 = .ok (.iconst 3, 1) := by decide +kernel
theorem dX5_moves_376 : decode cX5_moves 376 = .ok (.invokestatic 43, 3) := by decide +kernel
theorem dX5_moves_379 : decode cX5_moves 379 = .ok (.iconst 0, 1) := by decide +kernel
theorem dX5_moves_380 : decode cX5_moves 380 = .ok (.iastore, 1) := by decide +kernel
theorem dX5_moves_381 : decode cX5_moves 381 = .ok (.aload_n 0, 1) := by decide +kernel
theorem dX5_moves_382 : decode cX5_moves 382 = .ok (.getfield 7, 3) := by decide +kernel
theorem dX5_moves_385 : decode cX5_moves 385 = .ok (.bipush 60, 2) := by decide +kernel
theorem dX5_moves_387 : decode cX5_moves 387 = .ok (.iload 6, 2) := by decide +kernel
theorem dX5_moves_389 : decode cX5_moves 389 = .ok (.iadd, 1) := by decide +kernel
theorem dX5_moves_390 : decode cX5_moves 390 = .ok (.dup2, 1) := by decide +kernel
theorem dX5_moves_391 : decode cX5_moves 391 = .ok (.iaload, 1) := by decide +kernel
theorem dX5_moves_392 : decode cX5_moves 392 = .ok (.iconst 1, 1) := by decide +kernel
theorem dX5_moves_393 : decode cX5_moves 393 = .ok (.iadd, 1) := by decide +kernel
theorem dX5_moves_394 : decode cX5_moves 394 = .ok (.iastore, 1) := by decide +kernel
theorem dX5_moves_395 : decode cX5_moves 395 = .ok (.return_, 1) := by decide +kernel
theorem dX5_moves_396 : decode cX5_moves 396 = .ok (.iinc 6 1, 3) := by decide +kernel
theorem dX5_moves_399 : decode cX5_moves 399 = .ok (.goto (-99), 3) := by decide +kernel
theorem dX5_moves_402 : decode cX5_moves 402 = .ok (.iload 4, 2) := by decide +kernel
theorem dX5_moves_404 : decode cX5_moves 404 = .ok (.sipush 300, 3) := by decide +kernel
theorem dX5_moves_407 : decode cX5_moves 407 = .ok (.if_icmp .lt 9, 3) := by decide +kernel
theorem dX5_moves_410 : decode cX5_moves 410 = .ok (.aload_n 0, 1) := by decide +kernel
theorem dX5_moves_411 : decode cX5_moves 411 = .ok (.iload_n 1, 1) := by decide +kernel
theorem dX5_moves_412 : decode cX5_moves 412 = .ok (.iload_n 3, 1) := by decide +kernel
theorem dX5_moves_413 : decode cX5_moves 413 = .ok (.invokevirtual 124, 3) := by decide +kernel
theorem dX5_moves_416 : decode cX5_moves 416 = .ok (.return_, 1) := by decide +kernel
theorem dX5_arrives_0 : decode cX5_arrives 0 = .ok (.aload_n 0, 1) := by decide +kernel
theorem dX5_arrives_1 : decode cX5_arrives 1 = .ok (.getfield 7, 3) := by decide +kernel
theorem dX5_arrives_4 : decode cX5_arrives 4 = .ok (.iload_n 1, 1) := by decide +kernel
theorem dX5_arrives_5 : decode cX5_arrives 5 = .ok (.iconst 1, 1) := by decide +kernel
theorem dX5_arrives_6 : decode cX5_arrives 6 = .ok (.invokestatic 43, 3) := by decide +kernel
theorem dX5_arrives_9 : decode cX5_arrives 9 = .ok (.iaload, 1) := by decide +kernel
theorem dX5_arrives_10 : decode cX5_arrives 10 = .ok (.istore_n 3, 1) := by decide +kernel
theorem dX5_arrives_11 : decode cX5_arrives 11 = .ok (.iload_n 2, 1) := by decide +kernel
theorem dX5_arrives_12 : decode cX5_arrives 12 = .ok (.bipush 25, 2) := by decide +kernel
theorem dX5_arrives_14 : decode cX5_arrives 14 = .ok (.if_icmp .le 9, 3) := by decide +kernel
theorem dX5_arrives_17 : decode cX5_arrives 17 = .ok (.iload_n 3, 1) := by decide +kernel
theorem dX5_arrives_18 : decode cX5_arrives 18 = .ok (.iconst 2, 1) := by decide +kernel
theorem dX5_arrives_19 : decode cX5_arrives 19 = .ok (.idiv, 1) := by decide +kernel
theorem dX5_arrives_20 : decode cX5_arrives 20 = .ok (.goto 4, 3) := by decide +kernel
theorem dX5_arrives_23 : decode cX5_arrives 23 = .ok (.iconst 0, 1) := by decide +kernel
theorem dX5_arrives_24 : decode cX5_arrives 24 = .ok (.istore 4, 2) := by decide +kernel
theorem dX5_arrives_26 : decode cX5_arrives 26 = .ok (.aload_n 0, 1) := by decide +kernel
theorem dX5_arrives_27 : decode cX5_arrives 27 = .ok (.getfield 7, 3) := by decide +kernel
theorem dX5_arrives_30 : decode cX5_arrives 30 = .ok (.iload_n 1, 1) := by decide +kernel
theorem dX5_arrives_31 : decode cX5_arrives 31 = .ok (.iconst 4, 1) := by decide +kernel
theorem dX5_arrives_32 : decode cX5_arrives 32 = .ok (.invokestatic 43, 3) := by decide +kernel
theorem dX5_arrives_35 : decode cX5_arrives 35 = .ok (.sipush 300, 3) := by decide +kernel
theorem dX5_arrives_38 : decode cX5_arrives 38 = .ok (.iastore, 1) := by decide +kernel
theorem dX5_arrives_39 : decode cX5_arrives 39 = .ok (.aload_n 0, 1) := by decide +kernel
theorem dX5_arrives_40 : decode cX5_arrives 40 = .ok (.getfield 7, 3) := by decide +kernel
theorem dX5_arrives_43 : decode cX5_arrives 43 = .ok (.iload_n 1, 1) := by decide +kernel
theorem dX5_arrives_44 : decode cX5_arrives 44 = .ok (.iconst 0, 1) := by decide +kernel
theorem dX5_arrives_45 : decode cX5_arrives 45 = .ok (.invokestatic 43, 3) := by decide +kernel
theorem dX5_arrives_48 : decode cX5_arrives 48 = .ok (.iconst 2, 1) := by decide +kernel
theorem dX5_arrives_49 : decode cX5_arrives 49 = .ok (.iastore, 1) := by decide +kernel
theorem dX5_arrives_50 : decode cX5_arrives 50 = .ok (.aload_n 0, 1) := by decide +kernel
theorem dX5_arrives_51 : decode cX5_arrives 51 = .ok (.getfield 7, 3) := by decide +kernel
theorem dX5_arrives_54 : decode cX5_arrives 54 = .ok (.sipush 166, 3) := by decide +kernel
theorem dX5_arrives_57 : decode cX5_arrives 57 = .ok (.dup2, 1) := by decide +kernel
theorem dX5_arrives_58 : decode cX5_arrives 58 = .ok (.iaload, 1) := by decide +kernel
theorem dX5_arrives_59 : decode cX5_arrives 59 = .ok (.iload 4, 2) := by decide +kernel
theorem dX5_arrives_61 : decode cX5_arrives 61 = .ok (.iadd, 1) := by decide +kernel
theorem dX5_arrives_62 : decode cX5_arrives 62 = .ok (.iastore, 1) := by decide +kernel
theorem dX5_arrives_63 : decode cX5_arrives 63 = .ok (.aload_n 0, 1) := by decide +kernel
theorem dX5_arrives_64 : decode cX5_arrives 64 = .ok (.getfield 7, 3) := by decide +kernel
theorem dX5_arrives_67 : decode cX5_arrives 67 = .ok (.sipush 165, 3) := by decide +kernel
theorem dX5_arrives_70 : decode cX5_arrives 70 = .ok (.dup2, 1) := by decide +kernel
theorem dX5_arrives_71 : decode cX5_arrives 71 = .ok (.iaload, 1) := by decide +kernel
theorem dX5_arrives_72 : decode cX5_arrives 72 = .ok (.iload_n 3, 1) := by decide +kernel
theorem dX5_arrives_73 : decode cX5_arrives 73 = .ok (.iload 4, 2) := by decide +kernel
theorem dX5_arrives_75 : decode cX5_arrives 75 = .ok (.isub, 1) := by decide +kernel
theorem dX5_arrives_76 : decode cX5_arrives 76 = .ok (.iadd, 1) := by decide +kernel
theorem dX5_arrives_77 : decode cX5_arrives 77 = .ok (.iastore, 1) := by decide +kernel
theorem dX5_arrives_78 : decode cX5_arrives 78 = .ok (.aload_n 0, 1) := by decide +kernel
theorem dX5_arrives_79 : decode cX5_arrives 79 = .ok (.getfield 7, 3) := by decide +kernel
theorem dX5_arrives_82 : decode cX5_arrives 82 = .ok (.iload_n 1, 1) := by decide +kernel
theorem dX5_arrives_83 : decode cX5_arrives 83 = .ok (.bipush 6, 2) := by decide +kernel
theorem dX5_arrives_85 : decode cX5_arrives 85 = .ok (.invokestatic 43, 3) := by decide +kernel
theorem dX5_arrives_88 : decode cX5_arrives 88 = .ok (.dup2, 1) := by decide +kernel
theorem dX5_arrives_89 : decode cX5_arrives 89 = .ok (.iaload, 1) := by decide +kernel
theorem dX5_arrives_90 : decode cX5_arrives 90 = .ok (.iload_n 3, 1) := by decide +kernel
theorem dX5_arrives_91 : decode cX5_arrives 91 = .ok (.iload 4, 2) := by decide +kernel
theorem dX5_arrives_93 : decode cX5_arrives 93 = .ok (.isub, 1) := by decide +kernel
theorem dX5_arrives_94 : decode cX5_arrives 94 = .ok (.iadd, 1) := by decide +kernel
theorem dX5_arrives_95 : decode cX5_arrives 95 = .ok (.iastore, 1) := by decide +kernel
theorem dX5_arrives_96 : decode cX5_arrives 96 = .ok (.aload_n 0, 1) := by decide +kernel
theorem dX5_arrives_97 : decode cX5_arrives 97 = .ok (.getfield 7, 3) := by decide +kernel
theorem dX5_arrives_100 : decode cX5_arrives 100 = .ok (.iload_n 1, 1) := by decide +kernel
theorem dX5_arrives_101 : decode cX5_arrives 101 = .ok (.iconst 1, 1) := by decide +kernel
theorem dX5_arrives_102 : decode cX5_arrives 102 = .ok (.invokestatic 43, 3) := by decide +kernel
theorem dX5_arrives_105 : decode cX5_arrives 105 = .ok (.iconst 0, 1) := by decide +kernel
theorem dX5_arrives_106 : decode cX5_arrives 106 = .ok (.iastore, 1) := by decide +kernel
theorem dX5_arrives_107 : decode cX5_arrives 107 = .ok (.aload_n 0, 1) := by decide +kernel
theorem dX5_arrives_108 : decode cX5_arrives 108 = .ok (.getfield 7, 3) := by decide +kernel
theorem dX5_arrives_111 : decode cX5_arrives 111 = .ok (.iload_n 1, 1) := by decide +kernel
theorem dX5_arrives_112 : decode cX5_arrives 112 = .ok (.iconst 3, 1) := by decide +kernel
theorem dX5_arrives_113 : decode cX5_arrives 113 = .ok (.invokestatic 43, 3) := by decide +kernel
theorem dX5_arrives_116 : decode cX5_arrives 116 = .ok (.iconst 0, 1) := by decide +kernel
theorem dX5_arrives_117 : decode cX5_arrives 117 = .ok (.iastore, 1) := by decide +kernel
theorem dX5_arrives_118 : decode cX5_arrives 118 = .ok (.aload_n 0, 1) := by decide +kernel
theorem dX5_arrives_119 : decode cX5_arrives 119 = .ok (.getfield 7, 3) := by decide +kernel
theorem dX5_arrives_122 : decode cX5_arrives 122 = .ok (.iload_n 1, 1) := by decide +kernel
theorem dX5_arrives_123 : decode cX5_arrives 123 = .ok (.iconst 2, 1) := by decide +kernel
theorem dX5_arrives_124 : decode cX5_arrives 124 = .ok (.invokestatic 43, 3) := by decide +kernel
theorem dX5_arrives_127 : decode cX5_arrives 127 = .ok (.iconst 0, 1) := by decide +kernel
theorem dX5_arrives_128 : decode cX5_arrives 128 = .ok (.iastore, 1) := by decide +kernel
theorem dX5_arrives_129 : decode cX5_arrives 129 = .ok (.return_, 1) := by decide +kernel
theorem dX5_tick_0 : decode cX5_tick 0 = .ok (.aload_n 0, 1) := by decide +kernel
theorem dX5_tick_1 : decode cX5_tick 1 = .ok (.getfield 7, 3) := by decide +kernel
theorem dX5_tick_4 : decode cX5_tick 4 = .ok (.sipush 163, 3) := by decide +kernel
theorem dX5_tick_7 : decode cX5_tick 7 = .ok (.dup2, 1) := by decide +kernel
theorem dX5_tick_8 : decode cX5_tick 8 = .ok (.iaload, 1) := by decide +kernel
theorem dX5_tick_9 : decode cX5_tick 9 = .ok (.iconst 1, 1) := by decide +kernel
theorem dX5_tick_10 : decode cX5_tick 10 = .ok (.iadd, 1) := by decide +kernel
theorem dX5_tick_11 : decode cX5_tick 11 = .ok (.iastore, 1) := by decide +kernel
theorem dX5_tick_12 : decode cX5_tick 12 = .ok (.aload_n 0, 1) := by decide +kernel
theorem dX5_tick_13 : decode cX5_tick 13 = .ok (.invokevirtual 128, 3) := by decide +kernel
theorem dX5_tick_16 : decode cX5_tick 16 = .ok (.istore_n 1, 1) := by decide +kernel
theorem dX5_tick_17 : decode cX5_tick 17 = .ok (.iconst 0, 1) := by decide +kernel
theorem dX5_tick_18 : decode cX5_tick 18 = .ok (.istore_n 2, 1) := by decide +kernel
theorem dX5_tick_19 : decode cX5_tick 19 = .ok (.iload_n 2, 1) := by decide +kernel
theorem dX5_tick_20 : decode cX5_tick 20 = .ok (.bipush 8, 2) := by decide +kernel
theorem dX5_tick_22 : decode cX5_tick 22 = .ok (.if_icmp .ge 16, 3) := by decide +kernel
theorem dX5_tick_25 : decode cX5_tick 25 = .ok (.aload_n 0, 1) := by decide +kernel
theorem dX5_tick_26 : decode cX5_tick 26 = .ok (.getfield 32, 3) := by decide +kernel
theorem dX5_tick_29 : decode cX5_tick 29 = .ok (.iload_n 2, 1) := by decide +kernel
theorem dX5_tick_30 : decode cX5_tick 30 = .ok (.iconst 0, 1) := by decide +kernel
theorem dX5_tick_31 : decode cX5_tick 31 = .ok (.bastore, 1) := by decide +kernel
theorem dX5_tick_32 : decode cX5_tick 32 = .ok (.iinc 2 1, 3) := by decide +kernel
theorem dX5_tick_35 : decode cX5_tick 35 = .ok (.goto (-16), 3) := by decide +kernel
theorem dX5_tick_38 : decode cX5_tick 38 = .ok (.iconst 0, 1) := by decide +kernel
theorem dX5_tick_39 : decode cX5_tick 39 = .ok (.istore_n 2, 1) := by decide +kernel
theorem dX5_tick_40 : decode cX5_tick 40 = .ok (.iload_n 2, 1) := by decide +kernel
theorem dX5_tick_41 : decode cX5_tick 41 = .ok (.iload_n 1, 1) := by decide +kernel
theorem dX5_tick_42 : decode cX5_tick 42 = .ok (.if_icmp .ge 21, 3) := by decide +kernel
theorem dX5_tick_45 : decode cX5_tick 45 = .ok (.aload_n 0, 1) := by decide +kernel
theorem dX5_tick_46 : decode cX5_tick 46 = .ok (.getfield 32, 3) := by decide +kernel
theorem dX5_tick_49 : decode cX5_tick 49 = .ok (.aload_n 0, 1) := by decide +kernel
theorem dX5_tick_50 : decode cX5_tick 50 = .ok (.getfield 29, 3) := by decide +kernel
theorem dX5_tick_53 : decode cX5_tick 53 = .ok (.iload_n 2, 1) := by decide +kernel
theorem dX5_tick_54 : decode cX5_tick 54 = .ok (.iaload, 1) := by decide +kernel
theorem dX5_tick_55 : decode cX5_tick 55 = .ok (.iconst 1, 1) := by decide +kernel
theorem dX5_tick_56 : decode cX5_tick 56 = .ok (.bastore, 1) := by decide +kernel
theorem dX5_tick_57 : decode cX5_tick 57 = .ok (.iinc 2 1, 3) := by decide +kernel
theorem dX5_tick_60 : decode cX5_tick 60 = .ok (.goto (-20), 3) := by decide +kernel
theorem dX5_tick_63 : decode cX5_tick 63 = .ok (.iconst 0, 1) := by decide +kernel
theorem dX5_tick_64 : decode cX5_tick 64 = .ok (.istore_n 2, 1) := by decide +kernel
theorem dX5_tick_65 : decode cX5_tick 65 = .ok (.iload_n 2, 1) := by decide +kernel
theorem dX5_tick_66 : decode cX5_tick 66 = .ok (.iload_n 1, 1) := by decide +kernel
theorem dX5_tick_67 : decode cX5_tick 67 = .ok (.if_icmp .ge 19, 3) := by decide +kernel
theorem dX5_tick_70 : decode cX5_tick 70 = .ok (.aload_n 0, 1) := by decide +kernel
theorem dX5_tick_71 : decode cX5_tick 71 = .ok (.aload_n 0, 1) := by decide +kernel
theorem dX5_tick_72 : decode cX5_tick 72 = .ok (.getfield 29, 3) := by decide +kernel
theorem dX5_tick_75 : decode cX5_tick 75 = .ok (.iload_n 2, 1) := by decide +kernel
theorem dX5_tick_76 : decode cX5_tick 76 = .ok (.iaload, 1) := by decide +kernel
theorem dX5_tick_77 : decode cX5_tick 77 = .ok (.invokevirtual 131, 3) := by decide +kernel
theorem dX5_tick_80 : decode cX5_tick 80 = .ok (.iinc 2 1, 3) := by decide +kernel
theorem dX5_tick_83 : decode cX5_tick 83 = .ok (.goto (-18), 3) := by decide +kernel
theorem dX5_tick_86 : decode cX5_tick 86 = .ok (.iconst 0, 1) := by decide +kernel
theorem dX5_tick_87 : decode cX5_tick 87 = .ok (.istore_n 2, 1) := by decide +kernel
theorem dX5_tick_88 : decode cX5_tick 88 = .ok (.iload_n 2, 1) := by decide +kernel
theorem dX5_tick_89 : decode cX5_tick 89 = .ok (.aload_n 0, 1) := by decide +kernel
theorem dX5_tick_90 : decode cX5_tick 90 = .ok (.getfield 7, 3) := by decide +kernel
theorem dX5_tick_93 : decode cX5_tick 93 = .ok (.sipush 162, 3) := by decide +kernel
theorem dX5_tick_96 : decode cX5_tick 96 = .ok (.iaload, 1) := by decide +kernel
theorem dX5_tick_97 : decode cX5_tick 97 = .ok (.if_icmp .ge 133, 3) := by decide +kernel
theorem dX5_tick_100 : decode cX5_tick 100 = .ok (.aload_n 0, 1) := by decide +kernel
theorem dX5_tick_101 : decode cX5_tick 101 = .ok (.getfield 7, 3) := by decide +kernel
theorem dX5_tick_104 : decode cX5_tick 104 = .ok (.iload_n 2, 1) := by decide +kernel
theorem dX5_tick_105 : decode cX5_tick 105 = .ok (.iconst 5, 1) := by decide +kernel
theorem dX5_tick_106 : decode cX5_tick 106 = .ok (.invokestatic 43, 3) := by decide +kernel
theorem dX5_tick_109 : decode cX5_tick 109 = .ok (.aload_n 0, 1) := by decide +kernel
theorem dX5_tick_110 : decode cX5_tick 110 = .ok (.getfield 32, 3) := by decide +kernel
theorem dX5_tick_113 : decode cX5_tick 113 = .ok (.iload_n 2, 1) := by decide +kernel
theorem dX5_tick_114 : decode cX5_tick 114 = .ok (.baload, 1) := by decide +kernel
theorem dX5_tick_115 : decode cX5_tick 115 = .ok (.ifCond .eq 16, 3) := by decide +kernel
theorem dX5_tick_118 : decode cX5_tick 118 = .ok (.aload_n 0, 1) := by decide +kernel
theorem dX5_tick_119 : decode cX5_tick 119 = .ok (.getfield 7, 3) := by decide +kernel
theorem dX5_tick_122 : decode cX5_tick 122 = .ok (.iload_n 2, 1) := by decide +kernel
theorem dX5_tick_123 : decode cX5_tick 123 = .ok (.iconst 5, 1) := by decide +kernel
theorem dX5_tick_124 : decode cX5_tick 124 = .ok (.invokestatic 43, 3) := by decide +kernel
theorem dX5_tick_127 : decode cX5_tick 127 = .ok (.iaload, 1) := by decide +kernel
theorem dX5_tick_128 : decode cX5_tick 128 = .ok (.goto 22, 3) := by decide +kernel
theorem dX5_tick_131 : decode cX5_tick 131 = .ok (.aload_n 0, 1) := by decide +kernel
theorem dX5_tick_132 : decode cX5_tick 132 = .ok (.getfield 7, 3) := by decide +kernel
theorem dX5_tick_135 : decode cX5_tick 135 = .ok (.iload_n 2, 1) := by decide +kernel
theorem dX5_tick_136 : decode cX5_tick 136 = .ok (.iconst 5, 1) := by decide +kernel
theorem dX5_tick_137 : decode cX5_tick 137 = .ok (.invokestatic 43, 3) := by decide +kernel
theorem dX5_tick_140 : decode cX5_tick 140 = .ok (.iaload, 1) := by decide +kernel
theorem dX5_tick_141 : decode cX5_tick 141 = .ok (.iconst 5, 1) := by decide +kernel
theorem dX5_tick_142 : decode cX5_tick 142 = .ok (.isub, 1) := by decide +kernel
theorem dX5_tick_143 : decode cX5_tick 143 = .ok (.iconst 0, 1) := by decide +kernel
theorem dX5_tick_144 : decode cX5_tick 144 = .ok (.sipush 200, 3) := by decide +kernel
theorem dX5_tick_147 : decode cX5_tick 147 = .ok (.invokestatic 117, 3) := by decide +kernel
theorem dX5_tick_150 : decode cX5_tick 150 = .ok (.iastore, 1) := by decide +kernel
theorem dX5_tick_151 : decode cX5_tick 151 = .ok (.aload_n 0, 1) := by decide +kernel
theorem dX5_tick_152 : decode cX5_tick 152 = .ok (.iload_n 2, 1) := by decide +kernel
theorem dX5_tick_153 : decode cX5_tick 153 = .ok (.iconst 4, 1) := by decide +kernel
theorem dX5_tick_154 : decode cX5_tick 154 = .ok (.invokevirtual 67, 3) := by decide +kernel
theorem dX5_tick_157 : decode cX5_tick 157 = .ok (.ifCond .eq 67, 3) := by decide +kernel
theorem dX5_tick_160 : decode cX5_tick 160 = .ok (.aload_n 0, 1) := by decide +kernel
theorem dX5_tick_161 : decode cX5_tick 161 = .ok (.getfield 7, 3) := by decide +kernel
theorem dX5_tick_164 : decode cX5_tick 164 = .ok (.iload_n 2, 1) := by decide +kernel
theorem dX5_tick_165 : decode cX5_tick 165 = .ok (.iconst 4, 1) := by decide +kernel
theorem dX5_tick_166 : decode cX5_tick 166 = .ok (.invokestatic 43, 3) := by decide +kernel
theorem dX5_tick_169 : decode cX5_tick 169 = .ok (.aload_n 0, 1) := by decide +kernel
theorem dX5_tick_170 : decode cX5_tick 170 = .ok (.getfield 7, 3) := by decide +kernel
theorem dX5_tick_173 : decode cX5_tick 173 = .ok (.iload_n 2, 1) := by decide +kernel
theorem dX5_tick_174 : decode cX5_tick 174 = .ok (.iconst 4, 1) := by decide +kernel
theorem dX5_tick_175 : decode cX5_tick 175 = .ok (.invokestatic 43, 3) := by decide +kernel
theorem dX5_tick_178 : decode cX5_tick 178 = .ok (.iaload, 1) := by decide +kernel
theorem dX5_tick_179 : decode cX5_tick 179 = .ok (.aload_n 0, 1) := by decide +kernel
theorem dX5_tick_180 : decode cX5_tick 180 = .ok (.getfield 7, 3) := by decide +kernel
theorem dX5_tick_183 : decode cX5_tick 183 = .ok (.sipush 169, 3) := by decide +kernel
theorem dX5_tick_186 : decode cX5_tick 186 = .ok (.iaload, 1) := by decide +kernel
theorem dX5_tick_187 : decode cX5_tick 187 = .ok (.isub, 1) := by decide +kernel
theorem dX5_tick_188 : decode cX5_tick 188 = .ok (.iconst 0, 1) := by decide +kernel
theorem dX5_tick_189 : decode cX5_tick 189 = .ok (.sipush 300, 3) := by decide +kernel
theorem dX5_tick_192 : decode cX5_tick 192 = .ok (.invokestatic 117, 3) := by decide +kernel
theorem dX5_tick_195 : decode cX5_tick 195 = .ok (.iastore, 1) := by decide +kernel
theorem dX5_tick_196 : decode cX5_tick 196 = .ok (.aload_n 0, 1) := by decide +kernel
theorem dX5_tick_197 : decode cX5_tick 197 = .ok (.getfield 7, 3) := by decide +kernel
theorem dX5_tick_200 : decode cX5_tick 200 = .ok (.iload_n 2, 1) := by decide +kernel
theorem dX5_tick_201 : decode cX5_tick 201 = .ok (.iconst 0, 1) := by decide +kernel
theorem dX5_tick_202 : decode cX5_tick 202 = .ok (.invokestatic 43, 3) := by decide +kernel
theorem dX5_tick_205 : decode cX5_tick 205 = .ok (.aload_n 0, 1) := by decide +kernel
theorem dX5_tick_206 : decode cX5_tick 206 = .ok (.getfield 7, 3) := by decide +kernel
theorem dX5_tick_209 : decode cX5_tick 209 = .ok (.iload_n 2, 1) := by decide +kernel
theorem dX5_tick_210 : decode cX5_tick 210 = .ok (.iconst 4, 1) := by decide +kernel
theorem dX5_tick_211 : decode cX5_tick 211 = .ok (.invokestatic 43, 3) := by decide +kernel
theorem dX5_tick_214 : decode cX5_tick 214 = .ok (.iaload, 1) := by decide +kernel
theorem dX5_tick_215 : decode cX5_tick 215 = .ok (.ifCond .ne 7, 3) := by decide +kernel
theorem dX5_tick_218 : decode cX5_tick 218 = .ok (.iconst 0, 1) := by decide +kernel
theorem dX5_tick_219 : decode cX5_tick 219 = .ok (.goto 4, 3) := by decide +kernel
theorem dX5_tick_222 : decode cX5_tick 222 = .ok (.iconst 4, 1) := by decide +kernel
theorem dX5_tick_223 : decode cX5_tick 223 = .ok (.iastore, 1) := by decide +kernel
theorem dX5_tick_224 : decode cX5_tick 224 = .ok (.iinc 2 1, 3) := by decide +kernel
theorem dX5_tick_227 : decode cX5_tick 227 = .ok (.goto (-139), 3) := by decide +kernel
theorem dX5_tick_230 : decode cX5_tick 230 = .ok (.return_, 1) := by decide +kernel
theorem dX5_runs_0 : decode cX5_runs 0 = .ok (.aload_n 0, 1) := by decide +kernel
theorem dX5_runs_1 : decode cX5_runs 1 = .ok (.getfield 7, 3) := by decide +kernel
theorem dX5_runs_4 : decode cX5_runs 4 = .ok (.sipush 165, 3) := by decide +kernel
theorem dX5_runs_7 : decode cX5_runs 7 = .ok (.iaload, 1) := by decide +kernel
theorem dX5_runs_8 : decode cX5_runs 8 = .ok (.istore_n 2, 1) := by decide +kernel
theorem dX5_runs_9 : decode cX5_runs 9 = .ok (.iconst 0, 1) := by decide +kernel
theorem dX5_runs_10 : decode cX5_runs 10 = .ok (.istore_n 3, 1) := by decide +kernel
theorem dX5_runs_11 : decode cX5_runs 11 = .ok (.iload_n 3, 1) := by decide +kernel
theorem dX5_runs_12 : decode cX5_runs 12 = .ok (.iload_n 1, 1) := by decide +kernel
theorem dX5_runs_13 : decode cX5_runs 13 = .ok (.if_icmp .ge 13, 3) := by decide +kernel
theorem dX5_runs_16 : decode cX5_runs 16 = .ok (.aload_n 0, 1) := by decide +kernel
theorem dX5_runs_17 : decode cX5_runs 17 = .ok (.invokevirtual 135, 3) := by decide +kernel
theorem dX5_runs_20 : decode cX5_runs 20 = .ok (.iinc 3 1, 3) := by decide +kernel
theorem dX5_runs_23 : decode cX5_runs 23 = .ok (.goto (-12), 3) := by decide +kernel
theorem dX5_runs_26 : decode cX5_runs 26 = .ok (.aload_n 0, 1) := by decide +kernel
theorem dX5_runs_27 : decode cX5_runs 27 = .ok (.getfield 7, 3) := by decide +kernel
theorem dX5_runs_30 : decode cX5_runs 30 = .ok (.sipush 165, 3) := by decide +kernel
theorem dX5_runs_33 : decode cX5_runs 33 = .ok (.iaload, 1) := by decide +kernel
theorem dX5_runs_34 : decode cX5_runs 34 = .ok (.iload_n 2, 1) := by decide +kernel
theorem dX5_runs_35 : decode cX5_runs 35 = .ok (.isub, 1) := by decide +kernel
theorem dX5_runs_36 : decode cX5_runs 36 = .ok (.ireturn, 1) := by decide +kernel
theorem dX5_run_0 : decode cX5_run 0 = .ok (.aload_n 0, 1) := by decide +kernel
theorem dX5_run_1 : decode cX5_run 1 = .ok (.iload_n 1, 1) := by decide +kernel
theorem dX5_run_2 : decode cX5_run 2 = .ok (.iconst 1, 1) := by decide +kernel
theorem dX5_run_3 : decode cX5_run 3 = .ok (.bipush 60, 2) := by decide +kernel
theorem dX5_run_5 : decode cX5_run 5 = .ok (.invokestatic 39, 3) := by decide +kernel
theorem dX5_run_8 : decode cX5_run 8 = .ok (.ifCond .eq 7, 3) := by decide +kernel
theorem dX5_run_11 : decode cX5_run 11 = .ok (.iconst 0, 1) := by decide +kernel
theorem dX5_run_12 : decode cX5_run 12 = .ok (.goto 4, 3) := by decide +kernel
theorem dX5_run_15 : decode cX5_run 15 = .ok (.iconst 1, 1) := by decide +kernel
theorem dX5_run_16 : decode cX5_run 16 = .ok (.invokevirtual 50, 3) := by decide +kernel
theorem dX5_run_19 : decode cX5_run 19 = .ok (.ifCond .eq 5, 3) := by decide +kernel
theorem dX5_run_22 : decode cX5_run 22 = .ok (.iconst 0, 1) := by decide +kernel
theorem dX5_run_23 : decode cX5_run 23 = .ok (.ireturn, 1) := by decide +kernel
theorem dX5_run_24 : decode cX5_run 24 = .ok (.aload_n 0, 1) := by decide +kernel
theorem dX5_run_25 : decode cX5_run 25 = .ok (.invokevirtual 54, 3) := by decide +kernel
theorem dX5_run_28 : decode cX5_run 28 = .ok (.aload_n 0, 1) := by decide +kernel
theorem dX5_run_29 : decode cX5_run 29 = .ok (.iload_n 1, 1) := by decide +kernel
theorem dX5_run_30 : decode cX5_run 30 = .ok (.invokevirtual 138, 3) := by decide +kernel
theorem dX5_run_33 : decode cX5_run 33 = .ok (.ireturn, 1) := by decide +kernel
theorem dX5_append_0 : decode cX5_append 0 = .ok (.aload_n 0, 1) := by decide +kernel
theorem dX5_append_1 : decode cX5_append 1 = .ok (.iload_n 1, 1) := by decide +kernel
theorem dX5_append_2 : decode cX5_append 2 = .ok (.bipush 33, 2) := by decide +kernel
theorem dX5_append_4 : decode cX5_append 4 = .ok (.bipush 126, 2) := by decide +kernel
theorem dX5_append_6 : decode cX5_append 6 = .ok (.invokestatic 39, 3) := by decide +kernel
theorem dX5_append_9 : decode cX5_append 9 = .ok (.ifCond .ne 7, 3) := by decide +kernel
theorem dX5_append_12 : decode cX5_append 12 = .ok (.iconst 1, 1) := by decide +kernel
theorem dX5_append_13 : decode cX5_append 13 = .ok (.goto 17, 3) := by decide +kernel
theorem dX5_append_16 : decode cX5_append 16 = .ok (.aload_n 0, 1) := by decide +kernel
theorem dX5_append_17 : decode cX5_append 17 = .ok (.getfield 141, 3) := by decide +kernel
theorem dX5_append_20 : decode cX5_append 20 = .ok (.bipush 60, 2) := by decide +kernel
theorem dX5_append_22 : decode cX5_append 22 = .ok (.if_icmp .ne 7, 3) := by decide +kernel
theorem dX5_append_25 : decode cX5_append 25 = .ok (.iconst 2, 1) := by decide +kernel
theorem dX5_append_26 : decode cX5_append 26 = .ok (.goto 4, 3) := by decide +kernel
theorem dX5_append_29 : decode cX5_append 29 = .ok (.iconst 0, 1) := by decide +kernel
theorem dX5_append_30 : decode cX5_append 30 = .ok (.invokevirtual 50, 3) := by decide +kernel
theorem dX5_append_33 : decode cX5_append 33 = .ok (.ifCond .eq 5, 3) := by decide +kernel
theorem dX5_append_36 : decode cX5_append 36 = .ok (.iconst 0, 1) := by decide +kernel
theorem dX5_append_37 : decode cX5_append 37 = .ok (.ireturn, 1) := by decide +kernel
theorem dX5_append_38 : decode cX5_append 38 = .ok (.aload_n 0, 1) := by decide +kernel
theorem dX5_append_39 : decode cX5_append 39 = .ok (.getfield 26, 3) := by decide +kernel
theorem dX5_append_42 : decode cX5_append 42 = .ok (.aload_n 0, 1) := by decide +kernel
theorem dX5_append_43 : decode cX5_append 43 = .ok (.getfield 141, 3) := by decide +kernel
theorem dX5_append_46 : decode cX5_append 46 = .ok (.iload_n 1, 1) := by decide +kernel
theorem dX5_append_47 : decode cX5_append 47 = .ok (.iastore, 1) := by decide +kernel
theorem dX5_append_48 : decode cX5_append 48 = .ok (.aload_n 0, 1) := by decide +kernel
theorem dX5_append_49 : decode cX5_append 49 = .ok (.dup, 1) := by decide +kernel
theorem dX5_append_50 : decode cX5_append 50 = .ok (.getfield 141, 3) := by decide +kernel
theorem dX5_append_53 : decode cX5_append 53 = .ok (.iconst 1, 1) := by decide +kernel
theorem dX5_append_54 : decode cX5_append 54 = .ok (.iadd, 1) := by decide +kernel
theorem dX5_append_55 : decode cX5_append 55 = .ok (.putfield 141, 3) := by decide +kernel
theorem dX5_append_58 : decode cX5_append 58 = .ok (.aload_n 0, 1) := by decide +kernel
theorem dX5_append_59 : decode cX5_append 59 = .ok (.getfield 141, 3) := by decide +kernel
theorem dX5_append_62 : decode cX5_append 62 = .ok (.ireturn, 1) := by decide +kernel
theorem dX5_clearBuffer_0 : decode cX5_clearBuffer 0 = .ok (.aload_n 0, 1) := by decide +kernel
theorem dX5_clearBuffer_1 : decode cX5_clearBuffer 1 = .ok (.iconst 0, 1) := by decide +kernel
theorem dX5_clearBuffer_2 : decode cX5_clearBuffer 2 = .ok (.putfield 35, 3) := by decide +kernel
theorem dX5_clearBuffer_5 : decode cX5_clearBuffer 5 = .ok (.aload_n 0, 1) := by decide +kernel
theorem dX5_clearBuffer_6 : decode cX5_clearBuffer 6 = .ok (.getfield 141, 3) := by decide +kernel
theorem dX5_clearBuffer_9 : decode cX5_clearBuffer 9 = .ok (.istore_n 1, 1) := by decide +kernel
theorem dX5_clearBuffer_10 : decode cX5_clearBuffer 10 = .ok (.aload_n 0, 1) := by decide +kernel
theorem dX5_clearBuffer_11 : decode cX5_clearBuffer 11 = .ok (.iconst 0, 1) := by decide +kernel
theorem dX5_clearBuffer_12 : decode cX5_clearBuffer 12 = .ok (.putfield 141, 3) := by decide +kernel
theorem dX5_clearBuffer_15 : decode cX5_clearBuffer 15 = .ok (.iload_n 1, 1) := by decide +kernel
theorem dX5_clearBuffer_16 : decode cX5_clearBuffer 16 = .ok (.ireturn, 1) := by decide +kernel
theorem dX5_next_0 : decode cX5_next 0 = .ok (.aload_n 0, 1) := by decide +kernel
theorem dX5_next_1 : decode cX5_next 1 = .ok (.getfield 144, 3) := by decide +kernel
theorem dX5_next_4 : decode cX5_next 4 = .ok (.aload_n 0, 1) := by decide +kernel
theorem dX5_next_5 : decode cX5_next 5 = .ok (.getfield 141, 3) := by decide +kernel
theorem dX5_next_8 : decode cX5_next 8 = .ok (.if_icmp .ge 15, 3) := by decide +kernel
theorem dX5_next_11 : decode cX5_next 11 = .ok (.aload_n 0, 1) := by decide +kernel
theorem dX5_next_12 : decode cX5_next 12 = .ok (.getfield 26, 3) := by decide +kernel
theorem dX5_next_15 : decode cX5_next 15 = .ok (.aload_n 0, 1) := by decide +kernel
theorem dX5_next_16 : decode cX5_next 16 = .ok (.getfield 144, 3) := by decide +kernel
theorem dX5_next_19 : decode cX5_next 19 = .ok (.iaload, 1) := by decide +kernel
theorem dX5_next_20 : decode cX5_next 20 = .ok (.goto 4, 3) := by decide +kernel
theorem dX5_next_23 : decode cX5_next 23 = .ok (.iconst 0, 1) := by decide +kernel
theorem dX5_next_24 : decode cX5_next 24 = .ok (.ireturn, 1) := by decide +kernel
theorem dX5_sign_0 : decode cX5_sign 0 = .ok (.aload_n 0, 1) := by decide +kernel
theorem dX5_sign_1 : decode cX5_sign 1 = .ok (.aload_n 0, 1) := by decide +kernel
theorem dX5_sign_2 : decode cX5_sign 2 = .ok (.getfield 147, 3) := by decide +kernel
theorem dX5_sign_5 : decode cX5_sign 5 = .ok (.ifCond .ne 11, 3) := by decide +kernel
theorem dX5_sign_8 : decode cX5_sign 8 = .ok (.aload_n 0, 1) := by decide +kernel
theorem dX5_sign_9 : decode cX5_sign 9 = .ok (.invokevirtual 151, 3) := by decide +kernel
theorem dX5_sign_12 : decode cX5_sign 12 = .ok (.iload_n 1, 1) := by decide +kernel
theorem dX5_sign_13 : decode cX5_sign 13 = .ok (.if_icmp .eq 7, 3) := by decide +kernel
theorem dX5_sign_16 : decode cX5_sign 16 = .ok (.iconst 1, 1) := by decide +kernel
theorem dX5_sign_17 : decode cX5_sign 17 = .ok (.goto 4, 3) := by decide +kernel
theorem dX5_sign_20 : decode cX5_sign 20 = .ok (.iconst 0, 1) := by decide +kernel
theorem dX5_sign_21 : decode cX5_sign 21 = .ok (.putfield 147, 3) := by decide +kernel
theorem dX5_sign_24 : decode cX5_sign 24 = .ok (.aload_n 0, 1) := by decide +kernel
theorem dX5_sign_25 : decode cX5_sign 25 = .ok (.dup, 1) := by decide +kernel
theorem dX5_sign_26 : decode cX5_sign 26 = .ok (.getfield 144, 3) := by decide +kernel
theorem dX5_sign_29 : decode cX5_sign 29 = .ok (.aload_n 0, 1) := by decide +kernel
theorem dX5_sign_30 : decode cX5_sign 30 = .ok (.getfield 147, 3) := by decide +kernel
theorem dX5_sign_33 : decode cX5_sign 33 = .ok (.ifCond .eq 7, 3) := by decide +kernel
theorem dX5_sign_36 : decode cX5_sign 36 = .ok (.iconst 0, 1) := by decide +kernel
theorem dX5_sign_37 : decode cX5_sign 37 = .ok (.goto 4, 3) := by decide +kernel
theorem dX5_sign_40 : decode cX5_sign 40 = .ok (.iconst 1, 1) := by decide +kernel
theorem dX5_sign_41 : decode cX5_sign 41 = .ok (.iadd, 1) := by decide +kernel
theorem dX5_sign_42 : decode cX5_sign 42 = .ok (.putfield 144, 3) := by decide +kernel
theorem dX5_sign_45 : decode cX5_sign 45 = .ok (.return_, 1) := by decide +kernel
theorem dX5_digit_0 : decode cX5_digit 0 = .ok (.aload_n 0, 1) := by decide +kernel
theorem dX5_digit_1 : decode cX5_digit 1 = .ok (.invokevirtual 151, 3) := by decide +kernel
theorem dX5_digit_4 : decode cX5_digit 4 = .ok (.bipush 48, 2) := by decide +kernel
theorem dX5_digit_6 : decode cX5_digit 6 = .ok (.isub, 1) := by decide +kernel
theorem dX5_digit_7 : decode cX5_digit 7 = .ok (.istore_n 3, 1) := by decide +kernel
theorem dX5_digit_8 : decode cX5_digit 8 = .ok (.aload_n 0, 1) := by decide +kernel
theorem dX5_digit_9 : decode cX5_digit 9 = .ok (.aload_n 0, 1) := by decide +kernel
theorem dX5_digit_10 : decode cX5_digit 10 = .ok (.getfield 147, 3) := by decide +kernel
theorem dX5_digit_13 : decode cX5_digit 13 = .ok (.ifCond .ne 12, 3) := by decide +kernel
theorem dX5_digit_16 : decode cX5_digit 16 = .ok (.iload_n 3, 1) := by decide +kernel
theorem dX5_digit_17 : decode cX5_digit 17 = .ok (.iload_n 1, 1) := by decide +kernel
theorem dX5_digit_18 : decode cX5_digit 18 = .ok (.iload_n 2, 1) := by decide +kernel
theorem dX5_digit_19 : decode cX5_digit 19 = .ok (.invokestatic 39, 3) := by decide +kernel
theorem dX5_digit_22 : decode cX5_digit 22 = .ok (.ifCond .ne 7, 3) := by decide +kernel
theorem dX5_digit_25 : decode cX5_digit 25 = .ok (.iconst 1, 1) := by decide +kernel
theorem dX5_digit_26 : decode cX5_digit 26 = .ok (.goto 4, 3) := by decide +kernel
theorem dX5_digit_29 : decode cX5_digit 29 = .ok (.iconst 0, 1) := by decide +kernel
theorem dX5_digit_30 : decode cX5_digit 30 = .ok (.putfield 147, 3) := by decide +kernel
theorem dX5_digit_33 : decode cX5_digit 33 = .ok (.aload_n 0, 1) := by decide +kernel
theorem dX5_digit_34 : decode cX5_digit 34 = .ok (.dup, 1) := by decide +kernel
theorem dX5_digit_35 : decode cX5_digit 35 = .ok (.getfield 144, 3) := by decide +kernel
theorem dX5_digit_38 : decode cX5_digit 38 = .ok (.aload_n 0, 1) := by decide +kernel
theorem dX5_digit_39 : decode cX5_digit 39 = .ok (.getfield 147, 3) := by decide +kernel
theorem dX5_digit_42 : decode cX5_digit 42 = .ok (.ifCond .eq 7, 3) := by decide +kernel
theorem dX5_digit_45 : decode cX5_digit 45 = .ok (.iconst 0, 1) := by decide +kernel
theorem dX5_digit_46 : decode cX5_digit 46 = .ok (.goto 4, 3) := by decide +kernel
theorem dX5_digit_49 : decode cX5_digit 49 = .ok (.iconst 1, 1) := by decide +kernel
theorem dX5_digit_50 : decode cX5_digit 50 = .ok (.iadd, 1) := by decide +kernel
theorem dX5_digit_51 : decode cX5_digit 51 = .ok (.putfield 144, 3) := by decide +kernel
theorem dX5_digit_54 : decode cX5_digit 54 = .ok (.iload_n 3, 1) := by decide +kernel
theorem dX5_digit_55 : decode cX5_digit 55 = .ok (.ireturn, 1) := by decide +kernel
theorem dX5_number_0 : decode cX5_number 0 = .ok (.aload_n 0, 1) := by decide +kernel
theorem dX5_number_1 : decode cX5_number 1 = .ok (.iconst 1, 1) := by decide +kernel
theorem dX5_number_2 : decode cX5_number 2 = .ok (.bipush 9, 2) := by decide +kernel
theorem dX5_number_4 : decode cX5_number 4 = .ok (.invokevirtual 154, 3) := by decide +kernel
theorem dX5_number_7 : decode cX5_number 7 = .ok (.istore_n 2, 1) := by decide +kernel
theorem dX5_number_8 : decode cX5_number 8 = .ok (.bipush 10, 2) := by decide +kernel
theorem dX5_number_10 : decode cX5_number 10 = .ok (.iload_n 2, 1) := by decide +kernel
theorem dX5_number_11 : decode cX5_number 11 = .ok (.imul, 1) := by decide +kernel
theorem dX5_number_12 : decode cX5_number 12 = .ok (.aload_n 0, 1) := by decide +kernel
theorem dX5_number_13 : decode cX5_number 13 = .ok (.invokevirtual 151, 3) := by decide +kernel
theorem dX5_number_16 : decode cX5_number 16 = .ok (.iadd, 1) := by decide +kernel
theorem dX5_number_17 : decode cX5_number 17 = .ok (.bipush 48, 2) := by decide +kernel
theorem dX5_number_19 : decode cX5_number 19 = .ok (.isub, 1) := by decide +kernel
theorem dX5_number_20 : decode cX5_number 20 = .ok (.istore_n 3, 1) := by decide +kernel
theorem dX5_number_21 : decode cX5_number 21 = .ok (.aload_n 0, 1) := by decide +kernel
theorem dX5_number_22 : decode cX5_number 22 = .ok (.getfield 147, 3) := by decide +kernel
theorem dX5_number_25 : decode cX5_number 25 = .ok (.ifCond .ne 34, 3) := by decide +kernel
theorem dX5_number_28 : decode cX5_number 28 = .ok (.aload_n 0, 1) := by decide +kernel
theorem dX5_number_29 : decode cX5_number 29 = .ok (.invokevirtual 151, 3) := by decide +kernel
theorem dX5_number_32 : decode cX5_number 32 = .ok (.bipush 48, 2) := by decide +kernel
theorem dX5_number_34 : decode cX5_number 34 = .ok (.bipush 57, 2) := by decide +kernel
theorem dX5_number_36 : decode cX5_number 36 = .ok (.invokestatic 39, 3) := by decide +kernel
theorem dX5_number_39 : decode cX5_number 39 = .ok (.ifCond .eq 20, 3) := by decide +kernel
theorem dX5_number_42 : decode cX5_number 42 = .ok (.iload_n 3, 1) := by decide +kernel
theorem dX5_number_43 : decode cX5_number 43 = .ok (.iload_n 1, 1) := by decide +kernel
theorem dX5_number_44 : decode cX5_number 44 = .ok (.if_icmp .gt 15, 3) := by decide +kernel
theorem dX5_number_47 : decode cX5_number 47 = .ok (.aload_n 0, 1) := by decide +kernel
theorem dX5_number_48 : decode cX5_number 48 = .ok (.dup, 1) := by decide +kernel
theorem dX5_number_49 : decode cX5_number 49 = .ok (.getfield 144, 3) := by decide +kernel
theorem dX5_number_52 : decode cX5_number 52 = .ok (.iconst 1, 1) := by decide +kernel
theorem dX5_number_53 : decode cX5_number 53 = .ok (.iadd, 1) := by decide +kernel
theorem dX5_number_54 : decode cX5_number 54 = .ok (.putfield 144, 3) := by decide +kernel
theorem dX5_number_57 : decode cX5_number 57 = .ok (.iload_n 3, 1) := by decide +kernel
theorem dX5_number_58 : decode cX5_number 58 = .ok (.ireturn, 1) := by decide +kernel
theorem dX5_number_59 : decode cX5_number 59 = .ok (.iload_n 2, 1) := by decide +kernel
theorem dX5_number_60 : decode cX5_number 60 = .ok (.ireturn, 1) := by decide +kernel
theorem dX5_order_0 : decode cX5_order 0 = .ok (.aload_n 0, 1) := by decide +kernel
theorem dX5_order_1 : decode cX5_order 1 = .ok (.aload_n 0, 1) := by decide +kernel
theorem dX5_order_2 : decode cX5_order 2 = .ok (.getfield 147, 3) := by decide +kernel
theorem dX5_order_5 : decode cX5_order 5 = .ok (.ifCond .eq 7, 3) := by decide +kernel
theorem dX5_order_8 : decode cX5_order 8 = .ok (.iconst 0, 1) := by decide +kernel
theorem dX5_order_9 : decode cX5_order 9 = .ok (.goto 7, 3) := by decide +kernel
theorem dX5_order_12 : decode cX5_order 12 = .ok (.aload_n 0, 1) := by decide +kernel
theorem dX5_order_13 : decode cX5_order 13 = .ok (.invokevirtual 151, 3) := by decide +kernel
theorem dX5_order_16 : decode cX5_order 16 = .ok (.putfield 157, 3) := by decide +kernel
theorem dX5_order_19 : decode cX5_order 19 = .ok (.aload_n 0, 1) := by decide +kernel
theorem dX5_order_20 : decode cX5_order 20 = .ok (.aload_n 0, 1) := by decide +kernel
theorem dX5_order_21 : decode cX5_order 21 = .ok (.getfield 147, 3) := by decide +kernel
theorem dX5_order_24 : decode cX5_order 24 = .ok (.ifCond .ne 57, 3) := by decide +kernel
theorem dX5_order_27 : decode cX5_order 27 = .ok (.aload_n 0, 1) := by decide +kernel
theorem dX5_order_28 : decode cX5_order 28 = .ok (.getfield 157, 3) := by decide +kernel
theorem dX5_order_31 : decode cX5_order 31 = .ok (.bipush 110, 2) := by decide +kernel
theorem dX5_order_33 : decode cX5_order 33 = .ok (.if_icmp .eq 52, 3) := by decide +kernel
theorem dX5_order_36 : decode cX5_order 36 = .ok (.aload_n 0, 1) := by decide +kernel
theorem dX5_order_37 : decode cX5_order 37 = .ok (.getfield 157, 3) := by decide +kernel
theorem dX5_order_40 : decode cX5_order 40 = .ok (.bipush 108, 2) := by decide +kernel
theorem dX5_order_42 : decode cX5_order 42 = .ok (.if_icmp .eq 43, 3) := by decide +kernel
theorem dX5_order_45 : decode cX5_order 45 = .ok (.aload_n 0, 1) := by decide +kernel
theorem dX5_order_46 : decode cX5_order 46 = .ok (.getfield 157, 3) := by decide +kernel
theorem dX5_order_49 : decode cX5_order 49 = .ok (.bipush 114, 2) := by decide +kernel
theorem dX5_order_51 : decode cX5_order 51 = .ok (.if_icmp .eq 34, 3) := by decide +kernel
theorem dX5_order_54 : decode cX5_order 54 = .ok (.aload_n 0, 1) := by decide +kernel
theorem dX5_order_55 : decode cX5_order 55 = .ok (.getfield 157, 3) := by decide +kernel
theorem dX5_order_58 : decode cX5_order 58 = .ok (.bipush 98, 2) := by decide +kernel
theorem dX5_order_60 : decode cX5_order 60 = .ok (.if_icmp .eq 25, 3) := by decide +kernel
theorem dX5_order_63 : decode cX5_order 63 = .ok (.aload_n 0, 1) := by decide +kernel
theorem dX5_order_64 : decode cX5_order 64 = .ok (.getfield 157, 3) := by decide +kernel
theorem dX5_order_67 : decode cX5_order 67 = .ok (.bipush 109, 2) := by decide +kernel
theorem dX5_order_69 : decode cX5_order 69 = .ok (.if_icmp .eq 16, 3) := by decide +kernel
theorem dX5_order_72 : decode cX5_order 72 = .ok (.aload_n 0, 1) := by decide +kernel
theorem dX5_order_73 : decode cX5_order 73 = .ok (.getfield 157, 3) := by decide +kernel
theorem dX5_order_76 : decode cX5_order 76 = .ok (.bipush 116, 2) := by decide +kernel
theorem dX5_order_78 : decode cX5_order 78 = .ok (.if_icmp .eq 7, 3) := by decide +kernel
theorem dX5_order_81 : decode cX5_order 81 = .ok (.iconst 1, 1) := by decide +kernel
theorem dX5_order_82 : decode cX5_order 82 = .ok (.goto 4, 3) := by decide +kernel
theorem dX5_order_85 : decode cX5_order 85 = .ok (.iconst 0, 1) := by decide +kernel
theorem dX5_order_86 : decode cX5_order 86 = .ok (.putfield 147, 3) := by decide +kernel
theorem dX5_order_89 : decode cX5_order 89 = .ok (.aload_n 0, 1) := by decide +kernel
theorem dX5_order_90 : decode cX5_order 90 = .ok (.dup, 1) := by decide +kernel
theorem dX5_order_91 : decode cX5_order 91 = .ok (.getfield 144, 3) := by decide +kernel
theorem dX5_order_94 : decode cX5_order 94 = .ok (.aload_n 0, 1) := by decide +kernel
theorem dX5_order_95 : decode cX5_order 95 = .ok (.getfield 147, 3) := by decide +kernel
theorem dX5_order_98 : decode cX5_order 98 = .ok (.ifCond .eq 7, 3) := by decide +kernel
theorem dX5_order_101 : decode cX5_order 101 = .ok (.iconst 0, 1) := by decide +kernel
theorem dX5_order_102 : decode cX5_order 102 = .ok (.goto 4, 3) := by decide +kernel
theorem dX5_order_105 : decode cX5_order 105 = .ok (.iconst 1, 1) := by decide +kernel
theorem dX5_order_106 : decode cX5_order 106 = .ok (.iadd, 1) := by decide +kernel
theorem dX5_order_107 : decode cX5_order 107 = .ok (.putfield 144, 3) := by decide +kernel
theorem dX5_order_110 : decode cX5_order 110 = .ok (.aload_n 0, 1) := by decide +kernel
theorem dX5_order_111 : decode cX5_order 111 = .ok (.getfield 147, 3) := by decide +kernel
theorem dX5_order_114 : decode cX5_order 114 = .ok (.ifCond .ne 12, 3) := by decide +kernel
theorem dX5_order_117 : decode cX5_order 117 = .ok (.aload_n 0, 1) := by decide +kernel
theorem dX5_order_118 : decode cX5_order 118 = .ok (.getfield 157, 3) := by decide +kernel
theorem dX5_order_121 : decode cX5_order 121 = .ok (.bipush 110, 2) := by decide +kernel
theorem dX5_order_123 : decode cX5_order 123 = .ok (.if_icmp .ne 4, 3) := by decide +kernel
theorem dX5_order_126 : decode cX5_order 126 = .ok (.return_, 1) := by decide +kernel
theorem dX5_order_127 : decode cX5_order 127 = .ok (.aload_n 0, 1) := by decide +kernel
theorem dX5_order_128 : decode cX5_order 128 = .ok (.aload_n 0, 1) := by decide +kernel
theorem dX5_order_129 : decode cX5_order 129 = .ok (.getfield 157, 3) := by decide +kernel
theorem dX5_order_132 : decode cX5_order 132 = .ok (.bipush 116, 2) := by decide +kernel
theorem dX5_order_134 : decode cX5_order 134 = .ok (.if_icmp .ne 12, 3) := by decide +kernel
theorem dX5_order_137 : decode cX5_order 137 = .ok (.aload_n 0, 1) := by decide +kernel
theorem dX5_order_138 : decode cX5_order 138 = .ok (.bipush 60, 2) := by decide +kernel
theorem dX5_order_140 : decode cX5_order 140 = .ok (.invokevirtual 160, 3) := by decide +kernel
theorem dX5_order_143 : decode cX5_order 143 = .ok (.goto 10, 3) := by decide +kernel
theorem dX5_order_146 : decode cX5_order 146 = .ok (.aload_n 0, 1) := by decide +kernel
theorem dX5_order_147 : decode cX5_order 147 = .ok (.iconst 0, 1) := by decide +kernel
theorem dX5_order_148 : decode cX5_order 148 = .ok (.bipush 7, 2) := by decide +kernel
theorem dX5_order_150 : decode cX5_order 150 = .ok (.invokevirtual 154, 3) := by decide +kernel
theorem dX5_order_153 : decode cX5_order 153 = .ok (.putfield 163, 3) := by decide +kernel
theorem dX5_order_156 : decode cX5_order 156 = .ok (.aload_n 0, 1) := by decide +kernel
theorem dX5_order_157 : decode cX5_order 157 = .ok (.getfield 157, 3) := by decide +kernel
theorem dX5_order_160 : decode cX5_order 160 = .ok (.bipush 108, 2) := by decide +kernel
theorem dX5_order_162 : decode cX5_order 162 = .ok (.if_icmp .ne 22, 3) := by decide +kernel
theorem dX5_order_165 : decode cX5_order 165 = .ok (.aload_n 0, 1) := by decide +kernel
theorem dX5_order_166 : decode cX5_order 166 = .ok (.bipush 43, 2) := by decide +kernel
theorem dX5_order_168 : decode cX5_order 168 = .ok (.invokevirtual 166, 3) := by decide +kernel
theorem dX5_order_171 : decode cX5_order 171 = .ok (.aload_n 0, 1) := by decide +kernel
theorem dX5_order_172 : decode cX5_order 172 = .ok (.aload_n 0, 1) := by decide +kernel
theorem dX5_order_173 : decode cX5_order 173 = .ok (.bipush 20, 2) := by decide +kernel
theorem dX5_order_175 : decode cX5_order 175 = .ok (.invokevirtual 160, 3) := by decide +kernel
theorem dX5_order_178 : decode cX5_order 178 = .ok (.putfield 169, 3) := by decide +kernel
theorem dX5_order_181 : decode cX5_order 181 = .ok (.goto 38, 3) := by decide +kernel
theorem dX5_order_184 : decode cX5_order 184 = .ok (.aload_n 0, 1) := by decide +kernel
theorem dX5_order_185 : decode cX5_order 185 = .ok (.getfield 157, 3) := by decide +kernel
theorem dX5_order_188 : decode cX5_order 188 = .ok (.bipush 114, 2) := by decide +kernel
theorem dX5_order_190 : decode cX5_order 190 = .ok (.if_icmp .eq 12, 3) := by decide +kernel
theorem dX5_order_193 : decode cX5_order 193 = .ok (.aload_n 0, 1) := by decide +kernel
theorem dX5_order_194 : decode cX5_order 194 = .ok (.getfield 157, 3) := by decide +kernel
theorem dX5_order_197 : decode cX5_order 197 = .ok (.bipush 98, 2) := by decide +kernel
theorem dX5_order_199 : decode cX5_order 199 = .ok (.if_icmp .ne 20, 3) := by decide +kernel
theorem dX5_order_202 : decode cX5_order 202 = .ok (.aload_n 0, 1) := by decide +kernel
theorem dX5_order_203 : decode cX5_order 203 = .ok (.bipush 47, 2) := by decide +kernel
theorem dX5_order_205 : decode cX5_order 205 = .ok (.invokevirtual 166, 3) := by decide +kernel
theorem dX5_order_208 : decode cX5_order 208 = .ok (.aload_n 0, 1) := by decide +kernel
theorem dX5_order_209 : decode cX5_order 209 = .ok (.aload_n 0, 1) := by decide +kernel
theorem dX5_order_210 : decode cX5_order 210 = .ok (.iconst 0, 1) := by decide +kernel
theorem dX5_order_211 : decode cX5_order 211 = .ok (.bipush 9, 2) := by decide +kernel
theorem dX5_order_213 : decode cX5_order 213 = .ok (.invokevirtual 154, 3) := by decide +kernel
theorem dX5_order_216 : decode cX5_order 216 = .ok (.putfield 169, 3) := by decide +kernel
theorem dX5_order_219 : decode cX5_order 219 = .ok (.return_, 1) := by decide +kernel
theorem dX5_isWhole_0 : decode cX5_isWhole 0 = .ok (.aload_n 0, 1) := by decide +kernel
theorem dX5_isWhole_1 : decode cX5_isWhole 1 = .ok (.iconst 0, 1) := by decide +kernel
theorem dX5_isWhole_2 : decode cX5_isWhole 2 = .ok (.putfield 144, 3) := by decide +kernel
theorem dX5_isWhole_5 : decode cX5_isWhole 5 = .ok (.aload_n 0, 1) := by decide +kernel
theorem dX5_isWhole_6 : decode cX5_isWhole 6 = .ok (.iconst 0, 1) := by decide +kernel
theorem dX5_isWhole_7 : decode cX5_isWhole 7 = .ok (.putfield 147, 3) := by decide +kernel
theorem dX5_isWhole_10 : decode cX5_isWhole 10 = .ok (.iconst 1, 1) := by decide +kernel
theorem dX5_isWhole_11 : decode cX5_isWhole 11 = .ok (.istore_n 1, 1) := by decide +kernel
theorem dX5_isWhole_12 : decode cX5_isWhole 12 = .ok (.iload_n 1, 1) := by decide +kernel
theorem dX5_isWhole_13 : decode cX5_isWhole 13 = .ok (.ifCond .eq 57, 3) := by decide +kernel
theorem dX5_isWhole_16 : decode cX5_isWhole 16 = .ok (.aload_n 0, 1) := by decide +kernel
theorem dX5_isWhole_17 : decode cX5_isWhole 17 = .ok (.invokevirtual 172, 3) := by decide +kernel
theorem dX5_isWhole_20 : decode cX5_isWhole 20 = .ok (.aload_n 0, 1) := by decide +kernel
theorem dX5_isWhole_21 : decode cX5_isWhole 21 = .ok (.getfield 147, 3) := by decide +kernel
theorem dX5_isWhole_24 : decode cX5_isWhole 24 = .ok (.ifCond .ne 18, 3) := by decide +kernel
theorem dX5_isWhole_27 : decode cX5_isWhole 27 = .ok (.aload_n 0, 1) := by decide +kernel
theorem dX5_isWhole_28 : decode cX5_isWhole 28 = .ok (.getfield 144, 3) := by decide +kernel
theorem dX5_isWhole_31 : decode cX5_isWhole 31 = .ok (.aload_n 0, 1) := by decide +kernel
theorem dX5_isWhole_32 : decode cX5_isWhole 32 = .ok (.getfield 141, 3) := by decide +kernel
theorem dX5_isWhole_35 : decode cX5_isWhole 35 = .ok (.if_icmp .ge 7, 3) := by decide +kernel
theorem dX5_isWhole_38 : decode cX5_isWhole 38 = .ok (.iconst 1, 1) := by decide +kernel
theorem dX5_isWhole_39 : decode cX5_isWhole 39 = .ok (.goto 4, 3) := by decide +kernel
theorem dX5_isWhole_42 : decode cX5_isWhole 42 = .ok (.iconst 0, 1) := by decide +kernel
theorem dX5_isWhole_43 : decode cX5_isWhole 43 = .ok (.istore_n 1, 1) := by decide +kernel
theorem dX5_isWhole_44 : decode cX5_isWhole 44 = .ok (.iload_n 1, 1) := by decide +kernel
theorem dX5_isWhole_45 : decode cX5_isWhole 45 = .ok (.ifCond .eq (-33), 3) := by decide +kernel
theorem dX5_isWhole_48 : decode cX5_isWhole 48 = .ok (.aload_n 0, 1) := by decide +kernel
theorem dX5_isWhole_49 : decode cX5_isWhole 49 = .ok (.bipush 59, 2) := by decide +kernel
theorem dX5_isWhole_51 : decode cX5_isWhole 51 = .ok (.invokevirtual 166, 3) := by decide +kernel
theorem dX5_isWhole_54 : decode cX5_isWhole 54 = .ok (.aload_n 0, 1) := by decide +kernel
theorem dX5_isWhole_55 : decode cX5_isWhole 55 = .ok (.getfield 147, 3) := by decide +kernel
theorem dX5_isWhole_58 : decode cX5_isWhole 58 = .ok (.ifCond .ne 7, 3) := by decide +kernel
theorem dX5_isWhole_61 : decode cX5_isWhole 61 = .ok (.iconst 1, 1) := by decide +kernel
theorem dX5_isWhole_62 : decode cX5_isWhole 62 = .ok (.goto 4, 3) := by decide +kernel
theorem dX5_isWhole_65 : decode cX5_isWhole 65 = .ok (.iconst 0, 1) := by decide +kernel
theorem dX5_isWhole_66 : decode cX5_isWhole 66 = .ok (.istore_n 1, 1) := by decide +kernel
theorem dX5_isWhole_67 : decode cX5_isWhole 67 = .ok (.goto (-55), 3) := by decide +kernel
theorem dX5_isWhole_70 : decode cX5_isWhole 70 = .ok (.aload_n 0, 1) := by decide +kernel
theorem dX5_isWhole_71 : decode cX5_isWhole 71 = .ok (.getfield 147, 3) := by decide +kernel
theorem dX5_isWhole_74 : decode cX5_isWhole 74 = .ok (.ifCond .ne 7, 3) := by decide +kernel
theorem dX5_isWhole_77 : decode cX5_isWhole 77 = .ok (.iconst 1, 1) := by decide +kernel
theorem dX5_isWhole_78 : decode cX5_isWhole 78 = .ok (.goto 4, 3) := by decide +kernel
theorem dX5_isWhole_81 : decode cX5_isWhole 81 = .ok (.iconst 0, 1) := by decide +kernel
theorem dX5_isWhole_82 : decode cX5_isWhole 82 = .ok (.ireturn, 1) := by decide +kernel
theorem dX5_firstError_0 : decode cX5_firstError 0 = .ok (.aload_n 0, 1) := by decide +kernel
theorem dX5_firstError_1 : decode cX5_firstError 1 = .ok (.iconst 0, 1) := by decide +kernel
theorem dX5_firstError_2 : decode cX5_firstError 2 = .ok (.putfield 35, 3) := by decide +kernel
theorem dX5_firstError_5 : decode cX5_firstError 5 = .ok (.aload_n 0, 1) := by decide +kernel
theorem dX5_firstError_6 : decode cX5_firstError 6 = .ok (.invokevirtual 175, 3) := by decide +kernel
theorem dX5_firstError_9 : decode cX5_firstError 9 = .ok (.ifCond .eq 10, 3) := by decide +kernel
theorem dX5_firstError_12 : decode cX5_firstError 12 = .ok (.aload_n 0, 1) := by decide +kernel
theorem dX5_firstError_13 : decode cX5_firstError 13 = .ok (.getfield 141, 3) := by decide +kernel
theorem dX5_firstError_16 : decode cX5_firstError 16 = .ok (.goto 7, 3) := by decide +kernel
theorem dX5_firstError_19 : decode cX5_firstError 19 = .ok (.aload_n 0, 1) := by decide +kernel
theorem dX5_firstError_20 : decode cX5_firstError 20 = .ok (.getfield 144, 3) := by decide +kernel
theorem dX5_firstError_23 : decode cX5_firstError 23 = .ok (.ireturn, 1) := by decide +kernel
theorem dX5_does_0 : decode cX5_does 0 = .ok (.aload_n 0, 1) := by decide +kernel
theorem dX5_does_1 : decode cX5_does 1 = .ok (.getfield 157, 3) := by decide +kernel
theorem dX5_does_4 : decode cX5_does 4 = .ok (.lookupswitch 239 #[(98, 163), (108, 86), (109, 211), (110, 52), (114, 131)], 52) := by decide +kernel
theorem dX5_does_56 : decode cX5_does 56 = .ok (.aload_n 0, 1) := by decide +kernel
theorem dX5_does_57 : decode cX5_does 57 = .ok (.getfield 7, 3) := by decide +kernel
theorem dX5_does_60 : decode cX5_does 60 = .ok (.sipush 162, 3) := by decide +kernel
theorem dX5_does_63 : decode cX5_does 63 = .ok (.iaload, 1) := by decide +kernel
theorem dX5_does_64 : decode cX5_does 64 = .ok (.bipush 8, 2) := by decide +kernel
theorem dX5_does_66 : decode cX5_does 66 = .ok (.if_icmp .ge 7, 3) := by decide +kernel
theorem dX5_does_69 : decode cX5_does 69 = .ok (.iconst 1, 1) := by decide +kernel
theorem dX5_does_70 : decode cX5_does 70 = .ok (.goto 4, 3) := by decide +kernel
theorem dX5_does_73 : decode cX5_does 73 = .ok (.iconst 0, 1) := by decide +kernel
theorem dX5_does_74 : decode cX5_does 74 = .ok (.istore_n 1, 1) := by decide +kernel
theorem dX5_does_75 : decode cX5_does 75 = .ok (.iload_n 1, 1) := by decide +kernel
theorem dX5_does_76 : decode cX5_does 76 = .ok (.ifCond .eq 10, 3) := by decide +kernel
theorem dX5_does_79 : decode cX5_does 79 = .ok (.aload_n 0, 1) := by decide +kernel
theorem dX5_does_80 : decode cX5_does 80 = .ok (.invokevirtual 61, 3) := by decide +kernel
theorem dX5_does_83 : decode cX5_does 83 = .ok (.goto 4, 3) := by decide +kernel
theorem dX5_does_86 : decode cX5_does 86 = .ok (.iconst (-1), 1) := by decide +kernel
theorem dX5_does_87 : decode cX5_does 87 = .ok (.istore_n 2, 1) := by decide +kernel
theorem dX5_does_88 : decode cX5_does 88 = .ok (.iload_n 1, 1) := by decide +kernel
theorem dX5_does_89 : decode cX5_does 89 = .ok (.ireturn, 1) := by decide +kernel
theorem dX5_does_90 : decode cX5_does 90 = .ok (.aload_n 0, 1) := by decide +kernel
theorem dX5_does_91 : decode cX5_does 91 = .ok (.aload_n 0, 1) := by decide +kernel
theorem dX5_does_92 : decode cX5_does 92 = .ok (.getfield 163, 3) := by decide +kernel
theorem dX5_does_95 : decode cX5_does 95 = .ok (.aload_n 0, 1) := by decide +kernel
theorem dX5_does_96 : decode cX5_does 96 = .ok (.getfield 169, 3) := by decide +kernel
theorem dX5_does_99 : decode cX5_does 99 = .ok (.invokevirtual 71, 3) := by decide +kernel
theorem dX5_does_102 : decode cX5_does 102 = .ok (.ifCond .ne 7, 3) := by decide +kernel
theorem dX5_does_105 : decode cX5_does 105 = .ok (.iconst 1, 1) := by decide +kernel
theorem dX5_does_106 : decode cX5_does 106 = .ok (.goto 4, 3) := by decide +kernel
theorem dX5_does_109 : decode cX5_does 109 = .ok (.iconst 0, 1) := by decide +kernel
theorem dX5_does_110 : decode cX5_does 110 = .ok (.istore_n 3, 1) := by decide +kernel
theorem dX5_does_111 : decode cX5_does 111 = .ok (.iload_n 3, 1) := by decide +kernel
theorem dX5_does_112 : decode cX5_does 112 = .ok (.ifCond .eq 18, 3) := by decide +kernel
theorem dX5_does_115 : decode cX5_does 115 = .ok (.aload_n 0, 1) := by decide +kernel
theorem dX5_does_116 : decode cX5_does 116 = .ok (.aload_n 0, 1) := by decide +kernel
theorem dX5_does_117 : decode cX5_does 117 = .ok (.getfield 163, 3) := by decide +kernel
theorem dX5_does_120 : decode cX5_does 120 = .ok (.aload_n 0, 1) := by decide +kernel
theorem dX5_does_121 : decode cX5_does 121 = .ok (.getfield 169, 3) := by decide +kernel
theorem dX5_does_124 : decode cX5_does 124 = .ok (.invokevirtual 74, 3) := by decide +kernel
theorem dX5_does_127 : decode cX5_does 127 = .ok (.goto 4, 3) := by decide +kernel
theorem dX5_does_130 : decode cX5_does 130 = .ok (.iconst (-1), 1) := by decide +kernel
theorem dX5_does_131 : decode cX5_does 131 = .ok (.istore 4, 2) := by decide +kernel
theorem dX5_does_133 : decode cX5_does 133 = .ok (.iload_n 3, 1) := by decide +kernel
theorem dX5_does_134 : decode cX5_does 134 = .ok (.ireturn, 1) := by decide +kernel
theorem dX5_does_135 : decode cX5_does 135 = .ok (.aload_n 0, 1) := by decide +kernel
theorem dX5_does_136 : decode cX5_does 136 = .ok (.aload_n 0, 1) := by decide +kernel
theorem dX5_does_137 : decode cX5_does 137 = .ok (.getfield 163, 3) := by decide +kernel
theorem dX5_does_140 : decode cX5_does 140 = .ok (.invokevirtual 64, 3) := by decide +kernel
theorem dX5_does_143 : decode cX5_does 143 = .ok (.ifCond .eq 22, 3) := by decide +kernel
theorem dX5_does_146 : decode cX5_does 146 = .ok (.aload_n 0, 1) := by decide +kernel
theorem dX5_does_147 : decode cX5_does 147 = .ok (.aload_n 0, 1) := by decide +kernel
theorem dX5_does_148 : decode cX5_does 148 = .ok (.getfield 163, 3) := by decide +kernel
theorem dX5_does_151 : decode cX5_does 151 = .ok (.aload_n 0, 1) := by decide +kernel
theorem dX5_does_152 : decode cX5_does 152 = .ok (.getfield 169, 3) := by decide +kernel
theorem dX5_does_155 : decode cX5_does 155 = .ok (.invokevirtual 93, 3) := by decide +kernel
theorem dX5_does_158 : decode cX5_does 158 = .ok (.ifCond .ne 7, 3) := by decide +kernel
theorem dX5_does_161 : decode cX5_does 161 = .ok (.iconst 1, 1) := by decide +kernel
theorem dX5_does_162 : decode cX5_does 162 = .ok (.goto 4, 3) := by decide +kernel
theorem dX5_does_165 : decode cX5_does 165 = .ok (.iconst 0, 1) := by decide +kernel
theorem dX5_does_166 : decode cX5_does 166 = .ok (.ireturn, 1) := by decide +kernel
theorem dX5_does_167 : decode cX5_does 167 = .ok (.aload_n 0, 1) := by decide +kernel
theorem dX5_does_168 : decode cX5_does 168 = .ok (.aload_n 0, 1) := by decide +kernel
theorem dX5_does_169 : decode cX5_does 169 = .ok (.getfield 163, 3) := by decide +kernel
theorem dX5_does_172 : decode cX5_does 172 = .ok (.aload_n 0, 1) := by decide +kernel
theorem dX5_does_173 : decode cX5_does 173 = .ok (.getfield 169, 3) := by decide +kernel
theorem dX5_does_176 : decode cX5_does 176 = .ok (.invokevirtual 96, 3) := by decide +kernel
theorem dX5_does_179 : decode cX5_does 179 = .ok (.ifCond .ne 7, 3) := by decide +kernel
theorem dX5_does_182 : decode cX5_does 182 = .ok (.iconst 1, 1) := by decide +kernel
theorem dX5_does_183 : decode cX5_does 183 = .ok (.goto 4, 3) := by decide +kernel
theorem dX5_does_186 : decode cX5_does 186 = .ok (.iconst 0, 1) := by decide +kernel
theorem dX5_does_187 : decode cX5_does 187 = .ok (.istore 5, 2) := by decide +kernel
theorem dX5_does_189 : decode cX5_does 189 = .ok (.iload 5, 2) := by decide +kernel
theorem dX5_does_191 : decode cX5_does 191 = .ok (.ifCond .eq 18, 3) := by decide +kernel
theorem dX5_does_194 : decode cX5_does 194 = .ok (.aload_n 0, 1) := by decide +kernel
theorem dX5_does_195 : decode cX5_does 195 = .ok (.aload_n 0, 1) := by decide +kernel
theorem dX5_does_196 : decode cX5_does 196 = .ok (.getfield 163, 3) := by decide +kernel
theorem dX5_does_199 : decode cX5_does 199 = .ok (.aload_n 0, 1) := by decide +kernel
theorem dX5_does_200 : decode cX5_does 200 = .ok (.getfield 169, 3) := by decide +kernel
theorem dX5_does_203 : decode cX5_does 203 = .ok (.invokevirtual 99, 3) := by decide +kernel
theorem dX5_does_206 : decode cX5_does 206 = .ok (.goto 4, 3) := by decide +kernel
theorem dX5_does_209 : decode cX5_does 209 = .ok (.iconst (-1), 1) := by decide +kernel
theorem dX5_does_210 : decode cX5_does 210 = .ok (.istore 6, 2) := by decide +kernel
theorem dX5_does_212 : decode cX5_does 212 = .ok (.iload 5, 2) := by decide +kernel
theorem dX5_does_214 : decode cX5_does 214 = .ok (.ireturn, 1) := by decide +kernel
theorem dX5_does_215 : decode cX5_does 215 = .ok (.aload_n 0, 1) := by decide +kernel
theorem dX5_does_216 : decode cX5_does 216 = .ok (.aload_n 0, 1) := by decide +kernel
theorem dX5_does_217 : decode cX5_does 217 = .ok (.getfield 163, 3) := by decide +kernel
theorem dX5_does_220 : decode cX5_does 220 = .ok (.invokevirtual 64, 3) := by decide +kernel
theorem dX5_does_223 : decode cX5_does 223 = .ok (.ifCond .eq 18, 3) := by decide +kernel
theorem dX5_does_226 : decode cX5_does 226 = .ok (.aload_n 0, 1) := by decide +kernel
theorem dX5_does_227 : decode cX5_does 227 = .ok (.aload_n 0, 1) := by decide +kernel
theorem dX5_does_228 : decode cX5_does 228 = .ok (.getfield 163, 3) := by decide +kernel
theorem dX5_does_231 : decode cX5_does 231 = .ok (.invokevirtual 102, 3) := by decide +kernel
theorem dX5_does_234 : decode cX5_does 234 = .ok (.ifCond .ne 7, 3) := by decide +kernel
theorem dX5_does_237 : decode cX5_does 237 = .ok (.iconst 1, 1) := by decide +kernel
theorem dX5_does_238 : decode cX5_does 238 = .ok (.goto 4, 3) := by decide +kernel
theorem dX5_does_241 : decode cX5_does 241 = .ok (.iconst 0, 1) := by decide +kernel
theorem dX5_does_242 : decode cX5_does 242 = .ok (.ireturn, 1) := by decide +kernel
theorem dX5_does_243 : decode cX5_does 243 = .ok (.aload_n 0, 1) := by decide +kernel
theorem dX5_does_244 : decode cX5_does 244 = .ok (.aload_n 0, 1) := by decide +kernel
theorem dX5_does_245 : decode cX5_does 245 = .ok (.getfield 163, 3) := by decide +kernel
theorem dX5_does_248 : decode cX5_does 248 = .ok (.invokevirtual 138, 3) := by decide +kernel
theorem dX5_does_251 : decode cX5_does 251 = .ok (.istore 7, 2) := by decide +kernel
theorem dX5_does_253 : decode cX5_does 253 = .ok (.iconst 1, 1) := by decide +kernel
theorem dX5_does_254 : decode cX5_does 254 = .ok (.ireturn, 1) := by decide +kernel
theorem dX5_execute_0 : decode cX5_execute 0 = .ok (.aload_n 0, 1) := by decide +kernel
theorem dX5_execute_1 : decode cX5_execute 1 = .ok (.aload_n 0, 1) := by decide +kernel
theorem dX5_execute_2 : decode cX5_execute 2 = .ok (.invokevirtual 175, 3) := by decide +kernel
theorem dX5_execute_5 : decode cX5_execute 5 = .ok (.ifCond .eq 7, 3) := by decide +kernel
theorem dX5_execute_8 : decode cX5_execute 8 = .ok (.iconst 0, 1) := by decide +kernel
theorem dX5_execute_9 : decode cX5_execute 9 = .ok (.goto 4, 3) := by decide +kernel
theorem dX5_execute_12 : decode cX5_execute 12 = .ok (.iconst 1, 1) := by decide +kernel
theorem dX5_execute_13 : decode cX5_execute 13 = .ok (.invokevirtual 50, 3) := by decide +kernel
theorem dX5_execute_16 : decode cX5_execute 16 = .ok (.ifCond .eq 5, 3) := by decide +kernel
theorem dX5_execute_19 : decode cX5_execute 19 = .ok (.iconst 0, 1) := by decide +kernel
theorem dX5_execute_20 : decode cX5_execute 20 = .ok (.ireturn, 1) := by decide +kernel
theorem dX5_execute_21 : decode cX5_execute 21 = .ok (.aload_n 0, 1) := by decide +kernel
theorem dX5_execute_22 : decode cX5_execute 22 = .ok (.invokevirtual 54, 3) := by decide +kernel
theorem dX5_execute_25 : decode cX5_execute 25 = .ok (.iconst 0, 1) := by decide +kernel
theorem dX5_execute_26 : decode cX5_execute 26 = .ok (.istore_n 1, 1) := by decide +kernel
theorem dX5_execute_27 : decode cX5_execute 27 = .ok (.aload_n 0, 1) := by decide +kernel
theorem dX5_execute_28 : decode cX5_execute 28 = .ok (.iconst 0, 1) := by decide +kernel
theorem dX5_execute_29 : decode cX5_execute 29 = .ok (.putfield 144, 3) := by decide +kernel
theorem dX5_execute_32 : decode cX5_execute 32 = .ok (.iconst 1, 1) := by decide +kernel
theorem dX5_execute_33 : decode cX5_execute 33 = .ok (.istore_n 2, 1) := by decide +kernel
theorem dX5_execute_34 : decode cX5_execute 34 = .ok (.iload_n 2, 1) := by decide +kernel
theorem dX5_execute_35 : decode cX5_execute 35 = .ok (.ifCond .eq 48, 3) := by decide +kernel
theorem dX5_execute_38 : decode cX5_execute 38 = .ok (.aload_n 0, 1) := by decide +kernel
theorem dX5_execute_39 : decode cX5_execute 39 = .ok (.getfield 144, 3) := by decide +kernel
theorem dX5_execute_42 : decode cX5_execute 42 = .ok (.aload_n 0, 1) := by decide +kernel
theorem dX5_execute_43 : decode cX5_execute 43 = .ok (.getfield 141, 3) := by decide +kernel
theorem dX5_execute_46 : decode cX5_execute 46 = .ok (.if_icmp .ge 37, 3) := by decide +kernel
theorem dX5_execute_49 : decode cX5_execute 49 = .ok (.aload_n 0, 1) := by decide +kernel
theorem dX5_execute_50 : decode cX5_execute 50 = .ok (.invokevirtual 172, 3) := by decide +kernel
theorem dX5_execute_53 : decode cX5_execute 53 = .ok (.aload_n 0, 1) := by decide +kernel
theorem dX5_execute_54 : decode cX5_execute 54 = .ok (.dup, 1) := by decide +kernel
theorem dX5_execute_55 : decode cX5_execute 55 = .ok (.getfield 144, 3) := by decide +kernel
theorem dX5_execute_58 : decode cX5_execute 58 = .ok (.iconst 1, 1) := by decide +kernel
theorem dX5_execute_59 : decode cX5_execute 59 = .ok (.iadd, 1) := by decide +kernel
theorem dX5_execute_60 : decode cX5_execute 60 = .ok (.putfield 144, 3) := by decide +kernel
theorem dX5_execute_63 : decode cX5_execute 63 = .ok (.aload_n 0, 1) := by decide +kernel
theorem dX5_execute_64 : decode cX5_execute 64 = .ok (.invokevirtual 179, 3) := by decide +kernel
theorem dX5_execute_67 : decode cX5_execute 67 = .ok (.istore_n 2, 1) := by decide +kernel
theorem dX5_execute_68 : decode cX5_execute 68 = .ok (.iload_n 1, 1) := by decide +kernel
theorem dX5_execute_69 : decode cX5_execute 69 = .ok (.iload_n 2, 1) := by decide +kernel
theorem dX5_execute_70 : decode cX5_execute 70 = .ok (.ifCond .eq 7, 3) := by decide +kernel
theorem dX5_execute_73 : decode cX5_execute 73 = .ok (.iconst 1, 1) := by decide +kernel
theorem dX5_execute_74 : decode cX5_execute 74 = .ok (.goto 4, 3) := by decide +kernel
theorem dX5_execute_77 : decode cX5_execute 77 = .ok (.iconst 0, 1) := by decide +kernel
theorem dX5_execute_78 : decode cX5_execute 78 = .ok (.iadd, 1) := by decide +kernel
theorem dX5_execute_79 : decode cX5_execute 79 = .ok (.istore_n 1, 1) := by decide +kernel
theorem dX5_execute_80 : decode cX5_execute 80 = .ok (.goto (-46), 3) := by decide +kernel
theorem dX5_execute_83 : decode cX5_execute 83 = .ok (.aload_n 0, 1) := by decide +kernel
theorem dX5_execute_84 : decode cX5_execute 84 = .ok (.iconst 0, 1) := by decide +kernel
theorem dX5_execute_85 : decode cX5_execute 85 = .ok (.putfield 141, 3) := by decide +kernel
theorem dX5_execute_88 : decode cX5_execute 88 = .ok (.iload_n 1, 1) := by decide +kernel
theorem dX5_execute_89 : decode cX5_execute 89 = .ok (.ireturn, 1) := by decide +kernel
theorem dX5_undo_0 : decode cX5_undo 0 = .ok (.aload_n 0, 1) := by decide +kernel
theorem dX5_undo_1 : decode cX5_undo 1 = .ok (.aload_n 0, 1) := by decide +kernel
theorem dX5_undo_2 : decode cX5_undo 2 = .ok (.getfield 47, 3) := by decide +kernel
theorem dX5_undo_5 : decode cX5_undo 5 = .ok (.ifCond .ne 7, 3) := by decide +kernel
theorem dX5_undo_8 : decode cX5_undo 8 = .ok (.iconst 1, 1) := by decide +kernel
theorem dX5_undo_9 : decode cX5_undo 9 = .ok (.goto 4, 3) := by decide +kernel
theorem dX5_undo_12 : decode cX5_undo 12 = .ok (.iconst 0, 1) := by decide +kernel
theorem dX5_undo_13 : decode cX5_undo 13 = .ok (.invokevirtual 50, 3) := by decide +kernel
theorem dX5_undo_16 : decode cX5_undo 16 = .ok (.ifCond .eq 5, 3) := by decide +kernel
theorem dX5_undo_19 : decode cX5_undo 19 = .ok (.iconst 0, 1) := by decide +kernel
theorem dX5_undo_20 : decode cX5_undo 20 = .ok (.ireturn, 1) := by decide +kernel
theorem dX5_undo_21 : decode cX5_undo 21 = .ok (.aload_n 0, 1) := by decide +kernel
theorem dX5_undo_22 : decode cX5_undo 22 = .ok (.dup, 1) := by decide +kernel
theorem dX5_undo_23 : decode cX5_undo 23 = .ok (.getfield 47, 3) := by decide +kernel
theorem dX5_undo_26 : decode cX5_undo 26 = .ok (.iconst 1, 1) := by decide +kernel
theorem dX5_undo_27 : decode cX5_undo 27 = .ok (.isub, 1) := by decide +kernel
theorem dX5_undo_28 : decode cX5_undo 28 = .ok (.putfield 47, 3) := by decide +kernel
theorem dX5_undo_31 : decode cX5_undo 31 = .ok (.iconst 0, 1) := by decide +kernel
theorem dX5_undo_32 : decode cX5_undo 32 = .ok (.istore_n 1, 1) := by decide +kernel
theorem dX5_undo_33 : decode cX5_undo 33 = .ok (.iload_n 1, 1) := by decide +kernel
theorem dX5_undo_34 : decode cX5_undo 34 = .ok (.sipush 171, 3) := by decide +kernel
theorem dX5_undo_37 : decode cX5_undo 37 = .ok (.if_icmp .ge 30, 3) := by decide +kernel
theorem dX5_undo_40 : decode cX5_undo 40 = .ok (.aload_n 0, 1) := by decide +kernel
theorem dX5_undo_41 : decode cX5_undo 41 = .ok (.getfield 7, 3) := by decide +kernel
theorem dX5_undo_44 : decode cX5_undo 44 = .ok (.iload_n 1, 1) := by decide +kernel
theorem dX5_undo_45 : decode cX5_undo 45 = .ok (.aload_n 0, 1) := by decide +kernel
theorem dX5_undo_46 : decode cX5_undo 46 = .ok (.getfield 16, 3) := by decide +kernel
theorem dX5_undo_49 : decode cX5_undo 49 = .ok (.sipush 171, 3) := by decide +kernel
theorem dX5_undo_52 : decode cX5_undo 52 = .ok (.aload_n 0, 1) := by decide +kernel
theorem dX5_undo_53 : decode cX5_undo 53 = .ok (.getfield 47, 3) := by decide +kernel
theorem dX5_undo_56 : decode cX5_undo 56 = .ok (.imul, 1) := by decide +kernel
theorem dX5_undo_57 : decode cX5_undo 57 = .ok (.iload_n 1, 1) := by decide +kernel
theorem dX5_undo_58 : decode cX5_undo 58 = .ok (.iadd, 1) := by decide +kernel
theorem dX5_undo_59 : decode cX5_undo 59 = .ok (.iaload, 1) := by decide +kernel
theorem dX5_undo_60 : decode cX5_undo 60 = .ok (.iastore, 1) := by decide +kernel
theorem dX5_undo_61 : decode cX5_undo 61 = .ok (.iinc 1 1, 3) := by decide +kernel
theorem dX5_undo_64 : decode cX5_undo 64 = .ok (.goto (-31), 3) := by decide +kernel
theorem dX5_undo_67 : decode cX5_undo 67 = .ok (.aload_n 0, 1) := by decide +kernel
theorem dX5_undo_68 : decode cX5_undo 68 = .ok (.getfield 47, 3) := by decide +kernel
theorem dX5_undo_71 : decode cX5_undo 71 = .ok (.ireturn, 1) := by decide +kernel
theorem dX5_keep_0 : decode cX5_keep 0 = .ok (.aload_n 0, 1) := by decide +kernel
theorem dX5_keep_1 : decode cX5_keep 1 = .ok (.iload_n 1, 1) := by decide +kernel
theorem dX5_keep_2 : decode cX5_keep 2 = .ok (.iconst 0, 1) := by decide +kernel
theorem dX5_keep_3 : decode cX5_keep 3 = .ok (.iconst 1, 1) := by decide +kernel
theorem dX5_keep_4 : decode cX5_keep 4 = .ok (.invokestatic 39, 3) := by decide +kernel
theorem dX5_keep_7 : decode cX5_keep 7 = .ok (.ifCond .eq 7, 3) := by decide +kernel
theorem dX5_keep_10 : decode cX5_keep 10 = .ok (.iconst 0, 1) := by decide +kernel
theorem dX5_keep_11 : decode cX5_keep 11 = .ok (.goto 4, 3) := by decide +kernel
theorem dX5_keep_14 : decode cX5_keep 14 = .ok (.iconst 1, 1) := by decide +kernel
theorem dX5_keep_15 : decode cX5_keep 15 = .ok (.invokevirtual 50, 3) := by decide +kernel
theorem dX5_keep_18 : decode cX5_keep 18 = .ok (.ifCond .eq 5, 3) := by decide +kernel
theorem dX5_keep_21 : decode cX5_keep 21 = .ok (.iconst 0, 1) := by decide +kernel
theorem dX5_keep_22 : decode cX5_keep 22 = .ok (.ireturn, 1) := by decide +kernel
theorem dX5_keep_23 : decode cX5_keep 23 = .ok (.iconst 0, 1) := by decide +kernel
theorem dX5_keep_24 : decode cX5_keep 24 = .ok (.istore_n 2, 1) := by decide +kernel
theorem dX5_keep_25 : decode cX5_keep 25 = .ok (.iload_n 2, 1) := by decide +kernel
theorem dX5_keep_26 : decode cX5_keep 26 = .ok (.sipush 171, 3) := by decide +kernel
theorem dX5_keep_29 : decode cX5_keep 29 = .ok (.if_icmp .ge 27, 3) := by decide +kernel
theorem dX5_keep_32 : decode cX5_keep 32 = .ok (.aload_n 0, 1) := by decide +kernel
