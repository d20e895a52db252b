theorem dX5_keep_33 : decode cX5_keep 33 = .ok (.getfield 19, 3) := by decide +kernel
theorem dX5_keep_36 : decode cX5_keep 36 = .ok (.sipush 171, 3) := by decide +kernel
theorem dX5_keep_39 : decode cX5_keep 39 = .ok (.iload_n 1, 1) := by decide +kernel
theorem dX5_keep_40 : decode cX5_keep 40 = .ok (.imul, 1) := by decide +kernel
theorem dX5_keep_41 : decode cX5_keep 41 = .ok (.iload_n 2, 1) := by decide +kernel
theorem dX5_keep_42 : decode cX5_keep 42 = .ok (.iadd, 1) := by decide +kernel
theorem dX5_keep_43 : decode cX5_keep 43 = .ok (.aload_n 0, 1) := by decide +kernel
theorem dX5_keep_44 : decode cX5_keep 44 = .ok (.getfield 7, 3) := by decide +kernel
theorem dX5_keep_47 : decode cX5_keep 47 = .ok (.iload_n 2, 1) := by decide +kernel
theorem dX5_keep_48 : decode cX5_keep 48 = .ok (.iaload, 1) := by decide +kernel
theorem dX5_keep_49 : decode cX5_keep 49 = .ok (.iastore, 1) := by decide +kernel
theorem dX5_keep_50 : decode cX5_keep 50 = .ok (.iinc 2 1, 3) := by decide +kernel
theorem dX5_keep_53 : decode cX5_keep 53 = .ok (.goto (-28), 3) := by decide +kernel
theorem dX5_keep_56 : decode cX5_keep 56 = .ok (.aload_n 0, 1) := by decide +kernel
theorem dX5_keep_57 : decode cX5_keep 57 = .ok (.getfield 22, 3) := by decide +kernel
theorem dX5_keep_60 : decode cX5_keep 60 = .ok (.iload_n 1, 1) := by decide +kernel
theorem dX5_keep_61 : decode cX5_keep 61 = .ok (.iconst 1, 1) := by decide +kernel
theorem dX5_keep_62 : decode cX5_keep 62 = .ok (.bastore, 1) := by decide +kernel
theorem dX5_keep_63 : decode cX5_keep 63 = .ok (.aload_n 0, 1) := by decide +kernel
theorem dX5_keep_64 : decode cX5_keep 64 = .ok (.getfield 7, 3) := by decide +kernel
theorem dX5_keep_67 : decode cX5_keep 67 = .ok (.sipush 163, 3) := by decide +kernel
theorem dX5_keep_70 : decode cX5_keep 70 = .ok (.iaload, 1) := by decide +kernel
theorem dX5_keep_71 : decode cX5_keep 71 = .ok (.ireturn, 1) := by decide +kernel
theorem dX5_goBack_0 : decode cX5_goBack 0 = .ok (.aload_n 0, 1) := by decide +kernel
theorem dX5_goBack_1 : decode cX5_goBack 1 = .ok (.iload_n 1, 1) := by decide +kernel
theorem dX5_goBack_2 : decode cX5_goBack 2 = .ok (.iconst 0, 1) := by decide +kernel
theorem dX5_goBack_3 : decode cX5_goBack 3 = .ok (.iconst 1, 1) := by decide +kernel
theorem dX5_goBack_4 : decode cX5_goBack 4 = .ok (.invokestatic 39, 3) := by decide +kernel
theorem dX5_goBack_7 : decode cX5_goBack 7 = .ok (.ifCond .ne 7, 3) := by decide +kernel
theorem dX5_goBack_10 : decode cX5_goBack 10 = .ok (.iconst 1, 1) := by decide +kernel
theorem dX5_goBack_11 : decode cX5_goBack 11 = .ok (.goto 17, 3) := by decide +kernel
theorem dX5_goBack_14 : decode cX5_goBack 14 = .ok (.aload_n 0, 1) := by decide +kernel
theorem dX5_goBack_15 : decode cX5_goBack 15 = .ok (.getfield 22, 3) := by decide +kernel
theorem dX5_goBack_18 : decode cX5_goBack 18 = .ok (.iload_n 1, 1) := by decide +kernel
theorem dX5_goBack_19 : decode cX5_goBack 19 = .ok (.baload, 1) := by decide +kernel
theorem dX5_goBack_20 : decode cX5_goBack 20 = .ok (.ifCond .eq 7, 3) := by decide +kernel
theorem dX5_goBack_23 : decode cX5_goBack 23 = .ok (.iconst 0, 1) := by decide +kernel
theorem dX5_goBack_24 : decode cX5_goBack 24 = .ok (.goto 4, 3) := by decide +kernel
theorem dX5_goBack_27 : decode cX5_goBack 27 = .ok (.iconst 2, 1) := by decide +kernel
theorem dX5_goBack_28 : decode cX5_goBack 28 = .ok (.invokevirtual 50, 3) := by decide +kernel
theorem dX5_goBack_31 : decode cX5_goBack 31 = .ok (.ifCond .eq 5, 3) := by decide +kernel
theorem dX5_goBack_34 : decode cX5_goBack 34 = .ok (.iconst 0, 1) := by decide +kernel
theorem dX5_goBack_35 : decode cX5_goBack 35 = .ok (.ireturn, 1) := by decide +kernel
theorem dX5_goBack_36 : decode cX5_goBack 36 = .ok (.aload_n 0, 1) := by decide +kernel
theorem dX5_goBack_37 : decode cX5_goBack 37 = .ok (.invokevirtual 54, 3) := by decide +kernel
theorem dX5_goBack_40 : decode cX5_goBack 40 = .ok (.iconst 0, 1) := by decide +kernel
theorem dX5_goBack_41 : decode cX5_goBack 41 = .ok (.istore_n 2, 1) := by decide +kernel
theorem dX5_goBack_42 : decode cX5_goBack 42 = .ok (.iload_n 2, 1) := by decide +kernel
theorem dX5_goBack_43 : decode cX5_goBack 43 = .ok (.sipush 171, 3) := by decide +kernel
theorem dX5_goBack_46 : decode cX5_goBack 46 = .ok (.if_icmp .ge 27, 3) := by decide +kernel
theorem dX5_goBack_49 : decode cX5_goBack 49 = .ok (.aload_n 0, 1) := by decide +kernel
theorem dX5_goBack_50 : decode cX5_goBack 50 = .ok (.getfield 7, 3) := by decide +kernel
theorem dX5_goBack_53 : decode cX5_goBack 53 = .ok (.iload_n 2, 1) := by decide +kernel
theorem dX5_goBack_54 : decode cX5_goBack 54 = .ok (.aload_n 0, 1) := by decide +kernel
theorem dX5_goBack_55 : decode cX5_goBack 55 = .ok (.getfield 19, 3) := by decide +kernel
theorem dX5_goBack_58 : decode cX5_goBack 58 = .ok (.sipush 171, 3) := by decide +kernel
theorem dX5_goBack_61 : decode cX5_goBack 61 = .ok (.iload_n 1, 1) := by decide +kernel
theorem dX5_goBack_62 : decode cX5_goBack 62 = .ok (.imul, 1) := by decide +kernel
theorem dX5_goBack_63 : decode cX5_goBack 63 = .ok (.iload_n 2, 1) := by decide +kernel
theorem dX5_goBack_64 : decode cX5_goBack 64 = .ok (.iadd, 1) := by decide +kernel
theorem dX5_goBack_65 : decode cX5_goBack 65 = .ok (.iaload, 1) := by decide +kernel
theorem dX5_goBack_66 : decode cX5_goBack 66 = .ok (.iastore, 1) := by decide +kernel
theorem dX5_goBack_67 : decode cX5_goBack 67 = .ok (.iinc 2 1, 3) := by decide +kernel
theorem dX5_goBack_70 : decode cX5_goBack 70 = .ok (.goto (-28), 3) := by decide +kernel
theorem dX5_goBack_73 : decode cX5_goBack 73 = .ok (.aload_n 0, 1) := by decide +kernel
theorem dX5_goBack_74 : decode cX5_goBack 74 = .ok (.getfield 7, 3) := by decide +kernel
theorem dX5_goBack_77 : decode cX5_goBack 77 = .ok (.sipush 163, 3) := by decide +kernel
theorem dX5_goBack_80 : decode cX5_goBack 80 = .ok (.iaload, 1) := by decide +kernel
theorem dX5_goBack_81 : decode cX5_goBack 81 = .ok (.ireturn, 1) := by decide +kernel
theorem dX5_carsAt_0 : decode cX5_carsAt 0 = .ok (.iconst 0, 1) := by decide +kernel
theorem dX5_carsAt_1 : decode cX5_carsAt 1 = .ok (.istore_n 3, 1) := by decide +kernel
theorem dX5_carsAt_2 : decode cX5_carsAt 2 = .ok (.iconst 0, 1) := by decide +kernel
theorem dX5_carsAt_3 : decode cX5_carsAt 3 = .ok (.istore 4, 2) := by decide +kernel
theorem dX5_carsAt_5 : decode cX5_carsAt 5 = .ok (.iload 4, 2) := by decide +kernel
theorem dX5_carsAt_7 : decode cX5_carsAt 7 = .ok (.aload_n 0, 1) := by decide +kernel
theorem dX5_carsAt_8 : decode cX5_carsAt 8 = .ok (.getfield 7, 3) := by decide +kernel
theorem dX5_carsAt_11 : decode cX5_carsAt 11 = .ok (.sipush 162, 3) := by decide +kernel
theorem dX5_carsAt_14 : decode cX5_carsAt 14 = .ok (.iaload, 1) := by decide +kernel
theorem dX5_carsAt_15 : decode cX5_carsAt 15 = .ok (.if_icmp .ge 64, 3) := by decide +kernel
theorem dX5_carsAt_18 : decode cX5_carsAt 18 = .ok (.aload_n 0, 1) := by decide +kernel
theorem dX5_carsAt_19 : decode cX5_carsAt 19 = .ok (.iload 4, 2) := by decide +kernel
theorem dX5_carsAt_21 : decode cX5_carsAt 21 = .ok (.iload_n 1, 1) := by decide +kernel
theorem dX5_carsAt_22 : decode cX5_carsAt 22 = .ok (.invokevirtual 67, 3) := by decide +kernel
theorem dX5_carsAt_25 : decode cX5_carsAt 25 = .ok (.ifCond .eq 29, 3) := by decide +kernel
theorem dX5_carsAt_28 : decode cX5_carsAt 28 = .ok (.iload_n 2, 1) := by decide +kernel
theorem dX5_carsAt_29 : decode cX5_carsAt 29 = .ok (.ifCond .lt 21, 3) := by decide +kernel
theorem dX5_carsAt_32 : decode cX5_carsAt 32 = .ok (.aload_n 0, 1) := by decide +kernel
theorem dX5_carsAt_33 : decode cX5_carsAt 33 = .ok (.getfield 7, 3) := by decide +kernel
theorem dX5_carsAt_36 : decode cX5_carsAt 36 = .ok (.iload 4, 2) := by decide +kernel
theorem dX5_carsAt_38 : decode cX5_carsAt 38 = .ok (.iconst 4, 1) := by decide +kernel
theorem dX5_carsAt_39 : decode cX5_carsAt 39 = .ok (.invokestatic 43, 3) := by decide +kernel
theorem dX5_carsAt_42 : decode cX5_carsAt 42 = .ok (.iaload, 1) := by decide +kernel
theorem dX5_carsAt_43 : decode cX5_carsAt 43 = .ok (.bipush 10, 2) := by decide +kernel
theorem dX5_carsAt_45 : decode cX5_carsAt 45 = .ok (.idiv, 1) := by decide +kernel
theorem dX5_carsAt_46 : decode cX5_carsAt 46 = .ok (.iload_n 2, 1) := by decide +kernel
theorem dX5_carsAt_47 : decode cX5_carsAt 47 = .ok (.if_icmp .ne 7, 3) := by decide +kernel
theorem dX5_carsAt_50 : decode cX5_carsAt 50 = .ok (.iconst 1, 1) := by decide +kernel
theorem dX5_carsAt_51 : decode cX5_carsAt 51 = .ok (.goto 4, 3) := by decide +kernel
theorem dX5_carsAt_54 : decode cX5_carsAt 54 = .ok (.iconst 0, 1) := by decide +kernel
theorem dX5_carsAt_55 : decode cX5_carsAt 55 = .ok (.istore 5, 2) := by decide +kernel
theorem dX5_carsAt_57 : decode cX5_carsAt 57 = .ok (.iload_n 3, 1) := by decide +kernel
theorem dX5_carsAt_58 : decode cX5_carsAt 58 = .ok (.iload 5, 2) := by decide +kernel
theorem dX5_carsAt_60 : decode cX5_carsAt 60 = .ok (.ifCond .eq 10, 3) := by decide +kernel
theorem dX5_carsAt_63 : decode cX5_carsAt 63 = .ok (.iconst 1, 1) := by decide +kernel
theorem dX5_carsAt_64 : decode cX5_carsAt 64 = .ok (.iload 4, 2) := by decide +kernel
theorem dX5_carsAt_66 : decode cX5_carsAt 66 = .ok (.ishl, 1) := by decide +kernel
theorem dX5_carsAt_67 : decode cX5_carsAt 67 = .ok (.goto 4, 3) := by decide +kernel
theorem dX5_carsAt_70 : decode cX5_carsAt 70 = .ok (.iconst 0, 1) := by decide +kernel
theorem dX5_carsAt_71 : decode cX5_carsAt 71 = .ok (.ior, 1) := by decide +kernel
theorem dX5_carsAt_72 : decode cX5_carsAt 72 = .ok (.istore_n 3, 1) := by decide +kernel
theorem dX5_carsAt_73 : decode cX5_carsAt 73 = .ok (.iinc 4 1, 3) := by decide +kernel
theorem dX5_carsAt_76 : decode cX5_carsAt 76 = .ok (.goto (-71), 3) := by decide +kernel
theorem dX5_carsAt_79 : decode cX5_carsAt 79 = .ok (.iload_n 3, 1) := by decide +kernel
theorem dX5_carsAt_80 : decode cX5_carsAt 80 = .ok (.ireturn, 1) := by decide +kernel
theorem dX5_section_0 : decode cX5_section 0 = .ok (.aload_n 0, 1) := by decide +kernel
theorem dX5_section_1 : decode cX5_section 1 = .ok (.iload_n 1, 1) := by decide +kernel
theorem dX5_section_2 : decode cX5_section 2 = .ok (.iconst 0, 1) := by decide +kernel
theorem dX5_section_3 : decode cX5_section 3 = .ok (.bipush 29, 2) := by decide +kernel
theorem dX5_section_5 : decode cX5_section 5 = .ok (.invokestatic 39, 3) := by decide +kernel
theorem dX5_section_8 : decode cX5_section 8 = .ok (.ifCond .ne 7, 3) := by decide +kernel
theorem dX5_section_11 : decode cX5_section 11 = .ok (.iconst 1, 1) := by decide +kernel
theorem dX5_section_12 : decode cX5_section 12 = .ok (.goto 17, 3) := by decide +kernel
theorem dX5_section_15 : decode cX5_section 15 = .ok (.iload_n 2, 1) := by decide +kernel
theorem dX5_section_16 : decode cX5_section 16 = .ok (.iconst 0, 1) := by decide +kernel
theorem dX5_section_17 : decode cX5_section 17 = .ok (.iconst 4, 1) := by decide +kernel
theorem dX5_section_18 : decode cX5_section 18 = .ok (.invokestatic 39, 3) := by decide +kernel
theorem dX5_section_21 : decode cX5_section 21 = .ok (.ifCond .eq 7, 3) := by decide +kernel
theorem dX5_section_24 : decode cX5_section 24 = .ok (.iconst 0, 1) := by decide +kernel
theorem dX5_section_25 : decode cX5_section 25 = .ok (.goto 4, 3) := by decide +kernel
theorem dX5_section_28 : decode cX5_section 28 = .ok (.iconst 2, 1) := by decide +kernel
theorem dX5_section_29 : decode cX5_section 29 = .ok (.invokevirtual 50, 3) := by decide +kernel
theorem dX5_section_32 : decode cX5_section 32 = .ok (.ifCond .eq 5, 3) := by decide +kernel
theorem dX5_section_35 : decode cX5_section 35 = .ok (.iconst 0, 1) := by decide +kernel
theorem dX5_section_36 : decode cX5_section 36 = .ok (.ireturn, 1) := by decide +kernel
theorem dX5_section_37 : decode cX5_section 37 = .ok (.iload_n 2, 1) := by decide +kernel
theorem dX5_section_38 : decode cX5_section 38 = .ok (.tableswitch 63 0 3 #[30, 39, 49, 56], 30) := by decide +kernel
theorem dX5_section_68 : decode cX5_section 68 = .ok (.aload_n 0, 1) := by decide +kernel
theorem dX5_section_69 : decode cX5_section 69 = .ok (.getfield 7, 3) := by decide +kernel
theorem dX5_section_72 : decode cX5_section 72 = .ok (.iconst 0, 1) := by decide +kernel
theorem dX5_section_73 : decode cX5_section 73 = .ok (.iload_n 1, 1) := by decide +kernel
theorem dX5_section_74 : decode cX5_section 74 = .ok (.iadd, 1) := by decide +kernel
theorem dX5_section_75 : decode cX5_section 75 = .ok (.iaload, 1) := by decide +kernel
theorem dX5_section_76 : decode cX5_section 76 = .ok (.ireturn, 1) := by decide +kernel
theorem dX5_section_77 : decode cX5_section 77 = .ok (.aload_n 0, 1) := by decide +kernel
theorem dX5_section_78 : decode cX5_section 78 = .ok (.getfield 7, 3) := by decide +kernel
theorem dX5_section_81 : decode cX5_section 81 = .ok (.bipush 30, 2) := by decide +kernel
theorem dX5_section_83 : decode cX5_section 83 = .ok (.iload_n 1, 1) := by decide +kernel
theorem dX5_section_84 : decode cX5_section 84 = .ok (.iadd, 1) := by decide +kernel
theorem dX5_section_85 : decode cX5_section 85 = .ok (.iaload, 1) := by decide +kernel
theorem dX5_section_86 : decode cX5_section 86 = .ok (.ireturn, 1) := by decide +kernel
theorem dX5_section_87 : decode cX5_section 87 = .ok (.aload_n 0, 1) := by decide +kernel
theorem dX5_section_88 : decode cX5_section 88 = .ok (.iconst 1, 1) := by decide +kernel
theorem dX5_section_89 : decode cX5_section 89 = .ok (.iload_n 1, 1) := by decide +kernel
theorem dX5_section_90 : decode cX5_section 90 = .ok (.invokevirtual 182, 3) := by decide +kernel
theorem dX5_section_93 : decode cX5_section 93 = .ok (.ireturn, 1) := by decide +kernel
theorem dX5_section_94 : decode cX5_section 94 = .ok (.aload_n 0, 1) := by decide +kernel
theorem dX5_section_95 : decode cX5_section 95 = .ok (.iconst 3, 1) := by decide +kernel
theorem dX5_section_96 : decode cX5_section 96 = .ok (.iload_n 1, 1) := by decide +kernel
theorem dX5_section_97 : decode cX5_section 97 = .ok (.invokevirtual 182, 3) := by decide +kernel
theorem dX5_section_100 : decode cX5_section 100 = .ok (.ireturn, 1) := by decide +kernel
theorem dX5_section_101 : decode cX5_section 101 = .ok (.aload_n 0, 1) := by decide +kernel
theorem dX5_section_102 : decode cX5_section 102 = .ok (.getfield 7, 3) := by decide +kernel
theorem dX5_section_105 : decode cX5_section 105 = .ok (.bipush 60, 2) := by decide +kernel
theorem dX5_section_107 : decode cX5_section 107 = .ok (.iload_n 1, 1) := by decide +kernel
theorem dX5_section_108 : decode cX5_section 108 = .ok (.iadd, 1) := by decide +kernel
theorem dX5_section_109 : decode cX5_section 109 = .ok (.iaload, 1) := by decide +kernel
theorem dX5_section_110 : decode cX5_section 110 = .ok (.ireturn, 1) := by decide +kernel
theorem dX5_carOf_0 : decode cX5_carOf 0 = .ok (.aload_n 0, 1) := by decide +kernel
theorem dX5_carOf_1 : decode cX5_carOf 1 = .ok (.aload_n 0, 1) := by decide +kernel
theorem dX5_carOf_2 : decode cX5_carOf 2 = .ok (.iload_n 1, 1) := by decide +kernel
theorem dX5_carOf_3 : decode cX5_carOf 3 = .ok (.invokevirtual 64, 3) := by decide +kernel
theorem dX5_carOf_6 : decode cX5_carOf 6 = .ok (.ifCond .ne 7, 3) := by decide +kernel
theorem dX5_carOf_9 : decode cX5_carOf 9 = .ok (.iconst 1, 1) := by decide +kernel
theorem dX5_carOf_10 : decode cX5_carOf 10 = .ok (.goto 18, 3) := by decide +kernel
theorem dX5_carOf_13 : decode cX5_carOf 13 = .ok (.iload_n 2, 1) := by decide +kernel
theorem dX5_carOf_14 : decode cX5_carOf 14 = .ok (.iconst 0, 1) := by decide +kernel
theorem dX5_carOf_15 : decode cX5_carOf 15 = .ok (.bipush 9, 2) := by decide +kernel
theorem dX5_carOf_17 : decode cX5_carOf 17 = .ok (.invokestatic 39, 3) := by decide +kernel
theorem dX5_carOf_20 : decode cX5_carOf 20 = .ok (.ifCond .eq 7, 3) := by decide +kernel
theorem dX5_carOf_23 : decode cX5_carOf 23 = .ok (.iconst 0, 1) := by decide +kernel
theorem dX5_carOf_24 : decode cX5_carOf 24 = .ok (.goto 4, 3) := by decide +kernel
theorem dX5_carOf_27 : decode cX5_carOf 27 = .ok (.iconst 2, 1) := by decide +kernel
theorem dX5_carOf_28 : decode cX5_carOf 28 = .ok (.invokevirtual 50, 3) := by decide +kernel
theorem dX5_carOf_31 : decode cX5_carOf 31 = .ok (.ifCond .eq 5, 3) := by decide +kernel
theorem dX5_carOf_34 : decode cX5_carOf 34 = .ok (.iconst 0, 1) := by decide +kernel
theorem dX5_carOf_35 : decode cX5_carOf 35 = .ok (.ireturn, 1) := by decide +kernel
theorem dX5_carOf_36 : decode cX5_carOf 36 = .ok (.iload_n 2, 1) := by decide +kernel
theorem dX5_carOf_37 : decode cX5_carOf 37 = .ok (.bipush 6, 2) := by decide +kernel
theorem dX5_carOf_39 : decode cX5_carOf 39 = .ok (.if_icmp .ge 16, 3) := by decide +kernel
theorem dX5_carOf_42 : decode cX5_carOf 42 = .ok (.aload_n 0, 1) := by decide +kernel
theorem dX5_carOf_43 : decode cX5_carOf 43 = .ok (.getfield 7, 3) := by decide +kernel
theorem dX5_carOf_46 : decode cX5_carOf 46 = .ok (.iload_n 1, 1) := by decide +kernel
theorem dX5_carOf_47 : decode cX5_carOf 47 = .ok (.iload_n 2, 1) := by decide +kernel
theorem dX5_carOf_48 : decode cX5_carOf 48 = .ok (.invokestatic 43, 3) := by decide +kernel
theorem dX5_carOf_51 : decode cX5_carOf 51 = .ok (.iaload, 1) := by decide +kernel
theorem dX5_carOf_52 : decode cX5_carOf 52 = .ok (.goto 29, 3) := by decide +kernel
theorem dX5_carOf_55 : decode cX5_carOf 55 = .ok (.iload_n 2, 1) := by decide +kernel
theorem dX5_carOf_56 : decode cX5_carOf 56 = .ok (.bipush 6, 2) := by decide +kernel
theorem dX5_carOf_58 : decode cX5_carOf 58 = .ok (.if_icmp .ne 11, 3) := by decide +kernel
theorem dX5_carOf_61 : decode cX5_carOf 61 = .ok (.aload_n 0, 1) := by decide +kernel
theorem dX5_carOf_62 : decode cX5_carOf 62 = .ok (.iload_n 1, 1) := by decide +kernel
theorem dX5_carOf_63 : decode cX5_carOf 63 = .ok (.invokevirtual 114, 3) := by decide +kernel
theorem dX5_carOf_66 : decode cX5_carOf 66 = .ok (.goto 15, 3) := by decide +kernel
theorem dX5_carOf_69 : decode cX5_carOf 69 = .ok (.aload_n 0, 1) := by decide +kernel
theorem dX5_carOf_70 : decode cX5_carOf 70 = .ok (.getfield 7, 3) := by decide +kernel
theorem dX5_carOf_73 : decode cX5_carOf 73 = .ok (.iload_n 1, 1) := by decide +kernel
theorem dX5_carOf_74 : decode cX5_carOf 74 = .ok (.iload_n 2, 1) := by decide +kernel
theorem dX5_carOf_75 : decode cX5_carOf 75 = .ok (.iconst 1, 1) := by decide +kernel
theorem dX5_carOf_76 : decode cX5_carOf 76 = .ok (.isub, 1) := by decide +kernel
theorem dX5_carOf_77 : decode cX5_carOf 77 = .ok (.invokestatic 43, 3) := by decide +kernel
theorem dX5_carOf_80 : decode cX5_carOf 80 = .ok (.iaload, 1) := by decide +kernel
theorem dX5_carOf_81 : decode cX5_carOf 81 = .ok (.ireturn, 1) := by decide +kernel
theorem dX5_cars_0 : decode cX5_cars 0 = .ok (.aload_n 0, 1) := by decide +kernel
theorem dX5_cars_1 : decode cX5_cars 1 = .ok (.iload_n 1, 1) := by decide +kernel
theorem dX5_cars_2 : decode cX5_cars 2 = .ok (.iconst 0, 1) := by decide +kernel
theorem dX5_cars_3 : decode cX5_cars 3 = .ok (.iconst 4, 1) := by decide +kernel
theorem dX5_cars_4 : decode cX5_cars 4 = .ok (.invokestatic 39, 3) := by decide +kernel
theorem dX5_cars_7 : decode cX5_cars 7 = .ok (.ifCond .eq 7, 3) := by decide +kernel
theorem dX5_cars_10 : decode cX5_cars 10 = .ok (.iconst 0, 1) := by decide +kernel
theorem dX5_cars_11 : decode cX5_cars 11 = .ok (.goto 4, 3) := by decide +kernel
theorem dX5_cars_14 : decode cX5_cars 14 = .ok (.iconst 1, 1) := by decide +kernel
theorem dX5_cars_15 : decode cX5_cars 15 = .ok (.invokevirtual 50, 3) := by decide +kernel
theorem dX5_cars_18 : decode cX5_cars 18 = .ok (.ifCond .eq 5, 3) := by decide +kernel
theorem dX5_cars_21 : decode cX5_cars 21 = .ok (.iconst 0, 1) := by decide +kernel
theorem dX5_cars_22 : decode cX5_cars 22 = .ok (.ireturn, 1) := by decide +kernel
theorem dX5_cars_23 : decode cX5_cars 23 = .ok (.aload_n 0, 1) := by decide +kernel
theorem dX5_cars_24 : decode cX5_cars 24 = .ok (.iload_n 1, 1) := by decide +kernel
theorem dX5_cars_25 : decode cX5_cars 25 = .ok (.iconst (-1), 1) := by decide +kernel
theorem dX5_cars_26 : decode cX5_cars 26 = .ok (.invokevirtual 182, 3) := by decide +kernel
theorem dX5_cars_29 : decode cX5_cars 29 = .ok (.ireturn, 1) := by decide +kernel
theorem dX5_rolling_0 : decode cX5_rolling 0 = .ok (.aload_n 0, 1) := by decide +kernel
theorem dX5_rolling_1 : decode cX5_rolling 1 = .ok (.iload_n 1, 1) := by decide +kernel
theorem dX5_rolling_2 : decode cX5_rolling 2 = .ok (.ifCond .ge 7, 3) := by decide +kernel
theorem dX5_rolling_5 : decode cX5_rolling 5 = .ok (.iconst 1, 1) := by decide +kernel
theorem dX5_rolling_6 : decode cX5_rolling 6 = .ok (.goto 4, 3) := by decide +kernel
theorem dX5_rolling_9 : decode cX5_rolling 9 = .ok (.iconst 0, 1) := by decide +kernel
theorem dX5_rolling_10 : decode cX5_rolling 10 = .ok (.invokevirtual 50, 3) := by decide +kernel
theorem dX5_rolling_13 : decode cX5_rolling 13 = .ok (.ifCond .eq 5, 3) := by decide +kernel
theorem dX5_rolling_16 : decode cX5_rolling 16 = .ok (.iconst 0, 1) := by decide +kernel
theorem dX5_rolling_17 : decode cX5_rolling 17 = .ok (.ireturn, 1) := by decide +kernel
theorem dX5_rolling_18 : decode cX5_rolling 18 = .ok (.aload_n 0, 1) := by decide +kernel
theorem dX5_rolling_19 : decode cX5_rolling 19 = .ok (.invokevirtual 128, 3) := by decide +kernel
theorem dX5_rolling_22 : decode cX5_rolling 22 = .ok (.istore_n 2, 1) := by decide +kernel
theorem dX5_rolling_23 : decode cX5_rolling 23 = .ok (.iload_n 1, 1) := by decide +kernel
theorem dX5_rolling_24 : decode cX5_rolling 24 = .ok (.iload_n 2, 1) := by decide +kernel
theorem dX5_rolling_25 : decode cX5_rolling 25 = .ok (.if_icmp .ge 12, 3) := by decide +kernel
theorem dX5_rolling_28 : decode cX5_rolling 28 = .ok (.aload_n 0, 1) := by decide +kernel
theorem dX5_rolling_29 : decode cX5_rolling 29 = .ok (.getfield 29, 3) := by decide +kernel
theorem dX5_rolling_32 : decode cX5_rolling 32 = .ok (.iload_n 1, 1) := by decide +kernel
theorem dX5_rolling_33 : decode cX5_rolling 33 = .ok (.iaload, 1) := by decide +kernel
theorem dX5_rolling_34 : decode cX5_rolling 34 = .ok (.goto 4, 3) := by decide +kernel
theorem dX5_rolling_37 : decode cX5_rolling 37 = .ok (.iconst (-1), 1) := by decide +kernel
theorem dX5_rolling_38 : decode cX5_rolling 38 = .ok (.ireturn, 1) := by decide +kernel
theorem dX5_inCars_0 : decode cX5_inCars 0 = .ok (.iconst 0, 1) := by decide +kernel
theorem dX5_inCars_1 : decode cX5_inCars 1 = .ok (.istore_n 1, 1) := by decide +kernel
theorem dX5_inCars_2 : decode cX5_inCars 2 = .ok (.iconst 0, 1) := by decide +kernel
theorem dX5_inCars_3 : decode cX5_inCars 3 = .ok (.istore_n 2, 1) := by decide +kernel
theorem dX5_inCars_4 : decode cX5_inCars 4 = .ok (.iload_n 2, 1) := by decide +kernel
theorem dX5_inCars_5 : decode cX5_inCars 5 = .ok (.aload_n 0, 1) := by decide +kernel
theorem dX5_inCars_6 : decode cX5_inCars 6 = .ok (.getfield 7, 3) := by decide +kernel
theorem dX5_inCars_9 : decode cX5_inCars 9 = .ok (.sipush 162, 3) := by decide +kernel
theorem dX5_inCars_12 : decode cX5_inCars 12 = .ok (.iaload, 1) := by decide +kernel
theorem dX5_inCars_13 : decode cX5_inCars 13 = .ok (.if_icmp .ge 22, 3) := by decide +kernel
theorem dX5_inCars_16 : decode cX5_inCars 16 = .ok (.iload_n 1, 1) := by decide +kernel
theorem dX5_inCars_17 : decode cX5_inCars 17 = .ok (.aload_n 0, 1) := by decide +kernel
theorem dX5_inCars_18 : decode cX5_inCars 18 = .ok (.getfield 7, 3) := by decide +kernel
theorem dX5_inCars_21 : decode cX5_inCars 21 = .ok (.iload_n 2, 1) := by decide +kernel
theorem dX5_inCars_22 : decode cX5_inCars 22 = .ok (.iconst 1, 1) := by decide +kernel
theorem dX5_inCars_23 : decode cX5_inCars 23 = .ok (.invokestatic 43, 3) := by decide +kernel
theorem dX5_inCars_26 : decode cX5_inCars 26 = .ok (.iaload, 1) := by decide +kernel
theorem dX5_inCars_27 : decode cX5_inCars 27 = .ok (.iadd, 1) := by decide +kernel
theorem dX5_inCars_28 : decode cX5_inCars 28 = .ok (.istore_n 1, 1) := by decide +kernel
theorem dX5_inCars_29 : decode cX5_inCars 29 = .ok (.iinc 2 1, 3) := by decide +kernel
theorem dX5_inCars_32 : decode cX5_inCars 32 = .ok (.goto (-28), 3) := by decide +kernel
theorem dX5_inCars_35 : decode cX5_inCars 35 = .ok (.iload_n 1, 1) := by decide +kernel
theorem dX5_inCars_36 : decode cX5_inCars 36 = .ok (.ireturn, 1) := by decide +kernel
theorem dX5_count_0 : decode cX5_count 0 = .ok (.aload_n 0, 1) := by decide +kernel
theorem dX5_count_1 : decode cX5_count 1 = .ok (.iload_n 1, 1) := by decide +kernel
theorem dX5_count_2 : decode cX5_count 2 = .ok (.iconst 0, 1) := by decide +kernel
theorem dX5_count_3 : decode cX5_count 3 = .ok (.bipush 13, 2) := by decide +kernel
theorem dX5_count_5 : decode cX5_count 5 = .ok (.invokestatic 39, 3) := by decide +kernel
theorem dX5_count_8 : decode cX5_count 8 = .ok (.ifCond .eq 7, 3) := by decide +kernel
theorem dX5_count_11 : decode cX5_count 11 = .ok (.iconst 0, 1) := by decide +kernel
theorem dX5_count_12 : decode cX5_count 12 = .ok (.goto 4, 3) := by decide +kernel
theorem dX5_count_15 : decode cX5_count 15 = .ok (.iconst 1, 1) := by decide +kernel
theorem dX5_count_16 : decode cX5_count 16 = .ok (.invokevirtual 50, 3) := by decide +kernel
theorem dX5_count_19 : decode cX5_count 19 = .ok (.ifCond .eq 5, 3) := by decide +kernel
theorem dX5_count_22 : decode cX5_count 22 = .ok (.iconst 0, 1) := by decide +kernel
theorem dX5_count_23 : decode cX5_count 23 = .ok (.ireturn, 1) := by decide +kernel
theorem dX5_count_24 : decode cX5_count 24 = .ok (.iload_n 1, 1) := by decide +kernel
theorem dX5_count_25 : decode cX5_count 25 = .ok (.tableswitch 138 0 10 #[59, 68, 77, 82, 91, 100, 109, 114, 119, 128, 133], 59) := by decide +kernel
theorem dX5_count_84 : decode cX5_count 84 = .ok (.aload_n 0, 1) := by decide +kernel
theorem dX5_count_85 : decode cX5_count 85 = .ok (.getfield 7, 3) := by decide +kernel
theorem dX5_count_88 : decode cX5_count 88 = .ok (.sipush 163, 3) := by decide +kernel
theorem dX5_count_91 : decode cX5_count 91 = .ok (.iaload, 1) := by decide +kernel
theorem dX5_count_92 : decode cX5_count 92 = .ok (.ireturn, 1) := by decide +kernel
theorem dX5_count_93 : decode cX5_count 93 = .ok (.aload_n 0, 1) := by decide +kernel
theorem dX5_count_94 : decode cX5_count 94 = .ok (.getfield 7, 3) := by decide +kernel
theorem dX5_count_97 : decode cX5_count 97 = .ok (.sipush 162, 3) := by decide +kernel
theorem dX5_count_100 : decode cX5_count 100 = .ok (.iaload, 1) := by decide +kernel
theorem dX5_count_101 : decode cX5_count 101 = .ok (.ireturn, 1) := by decide +kernel
theorem dX5_count_102 : decode cX5_count 102 = .ok (.aload_n 0, 1) := by decide +kernel
theorem dX5_count_103 : decode cX5_count 103 = .ok (.invokevirtual 57, 3) := by decide +kernel
theorem dX5_count_106 : decode cX5_count 106 = .ok (.ireturn, 1) := by decide +kernel
theorem dX5_count_107 : decode cX5_count 107 = .ok (.aload_n 0, 1) := by decide +kernel
theorem dX5_count_108 : decode cX5_count 108 = .ok (.getfield 7, 3) := by decide +kernel
theorem dX5_count_111 : decode cX5_count 111 = .ok (.sipush 164, 3) := by decide +kernel
theorem dX5_count_114 : decode cX5_count 114 = .ok (.iaload, 1) := by decide +kernel
theorem dX5_count_115 : decode cX5_count 115 = .ok (.ireturn, 1) := by decide +kernel
theorem dX5_count_116 : decode cX5_count 116 = .ok (.aload_n 0, 1) := by decide +kernel
theorem dX5_count_117 : decode cX5_count 117 = .ok (.getfield 7, 3) := by decide +kernel
theorem dX5_count_120 : decode cX5_count 120 = .ok (.sipush 165, 3) := by decide +kernel
theorem dX5_count_123 : decode cX5_count 123 = .ok (.iaload, 1) := by decide +kernel
theorem dX5_count_124 : decode cX5_count 124 = .ok (.ireturn, 1) := by decide +kernel
theorem dX5_count_125 : decode cX5_count 125 = .ok (.aload_n 0, 1) := by decide +kernel
theorem dX5_count_126 : decode cX5_count 126 = .ok (.getfield 7, 3) := by decide +kernel
theorem dX5_count_129 : decode cX5_count 129 = .ok (.sipush 166, 3) := by decide +kernel
theorem dX5_count_132 : decode cX5_count 132 = .ok (.iaload, 1) := by decide +kernel
theorem dX5_count_133 : decode cX5_count 133 = .ok (.ireturn, 1) := by decide +kernel
theorem dX5_count_134 : decode cX5_count 134 = .ok (.aload_n 0, 1) := by decide +kernel
theorem dX5_count_135 : decode cX5_count 135 = .ok (.invokevirtual 185, 3) := by decide +kernel
theorem dX5_count_138 : decode cX5_count 138 = .ok (.ireturn, 1) := by decide +kernel
theorem dX5_count_139 : decode cX5_count 139 = .ok (.aload_n 0, 1) := by decide +kernel
theorem dX5_count_140 : decode cX5_count 140 = .ok (.invokevirtual 80, 3) := by decide +kernel
theorem dX5_count_143 : decode cX5_count 143 = .ok (.ireturn, 1) := by decide +kernel
theorem dX5_count_144 : decode cX5_count 144 = .ok (.aload_n 0, 1) := by decide +kernel
theorem dX5_count_145 : decode cX5_count 145 = .ok (.getfield 7, 3) := by decide +kernel
theorem dX5_count_148 : decode cX5_count 148 = .ok (.sipush 167, 3) := by decide +kernel
theorem dX5_count_151 : decode cX5_count 151 = .ok (.iaload, 1) := by decide +kernel
theorem dX5_count_152 : decode cX5_count 152 = .ok (.ireturn, 1) := by decide +kernel
theorem dX5_count_153 : decode cX5_count 153 = .ok (.aload_n 0, 1) := by decide +kernel
theorem dX5_count_154 : decode cX5_count 154 = .ok (.getfield 47, 3) := by decide +kernel
theorem dX5_count_157 : decode cX5_count 157 = .ok (.ireturn, 1) := by decide +kernel
theorem dX5_count_158 : decode cX5_count 158 = .ok (.aload_n 0, 1) := by decide +kernel
theorem dX5_count_159 : decode cX5_count 159 = .ok (.getfield 141, 3) := by decide +kernel
theorem dX5_count_162 : decode cX5_count 162 = .ok (.ireturn, 1) := by decide +kernel
theorem dX5_count_163 : decode cX5_count 163 = .ok (.aload_n 0, 1) := by decide +kernel
theorem dX5_count_164 : decode cX5_count 164 = .ok (.getfield 7, 3) := by decide +kernel
theorem dX5_count_167 : decode cX5_count 167 = .ok (.sipush 168, 3) := by decide +kernel
theorem dX5_count_170 : decode cX5_count 170 = .ok (.iload_n 1, 1) := by decide +kernel
theorem dX5_count_171 : decode cX5_count 171 = .ok (.iadd, 1) := by decide +kernel
theorem dX5_count_172 : decode cX5_count 172 = .ok (.bipush 11, 2) := by decide +kernel
theorem dX5_count_174 : decode cX5_count 174 = .ok (.isub, 1) := by decide +kernel
theorem dX5_count_175 : decode cX5_count 175 = .ok (.iaload, 1) := by decide +kernel
theorem dX5_count_176 : decode cX5_count 176 = .ok (.ireturn, 1) := by decide +kernel
theorem dX5_refusal_0 : decode cX5_refusal 0 = .ok (.aload_n 0, 1) := by decide +kernel
theorem dX5_refusal_1 : decode cX5_refusal 1 = .ok (.aload_n 0, 1) := by decide +kernel
theorem dX5_refusal_2 : decode cX5_refusal 2 = .ok (.iload_n 1, 1) := by decide +kernel
theorem dX5_refusal_3 : decode cX5_refusal 3 = .ok (.invokevirtual 64, 3) := by decide +kernel
theorem dX5_refusal_6 : decode cX5_refusal 6 = .ok (.ifCond .eq 7, 3) := by decide +kernel
theorem dX5_refusal_9 : decode cX5_refusal 9 = .ok (.iconst 0, 1) := by decide +kernel
theorem dX5_refusal_10 : decode cX5_refusal 10 = .ok (.goto 4, 3) := by decide +kernel
theorem dX5_refusal_13 : decode cX5_refusal 13 = .ok (.iconst 1, 1) := by decide +kernel
theorem dX5_refusal_14 : decode cX5_refusal 14 = .ok (.invokevirtual 50, 3) := by decide +kernel
theorem dX5_refusal_17 : decode cX5_refusal 17 = .ok (.ifCond .eq 5, 3) := by decide +kernel
theorem dX5_refusal_20 : decode cX5_refusal 20 = .ok (.iconst 0, 1) := by decide +kernel
theorem dX5_refusal_21 : decode cX5_refusal 21 = .ok (.ireturn, 1) := by decide +kernel
theorem dX5_refusal_22 : decode cX5_refusal 22 = .ok (.iload_n 2, 1) := by decide +kernel
theorem dX5_refusal_23 : decode cX5_refusal 23 = .ok (.ifCond .eq 11, 3) := by decide +kernel
theorem dX5_refusal_26 : decode cX5_refusal 26 = .ok (.aload_n 0, 1) := by decide +kernel
theorem dX5_refusal_27 : decode cX5_refusal 27 = .ok (.iload_n 1, 1) := by decide +kernel
theorem dX5_refusal_28 : decode cX5_refusal 28 = .ok (.invokevirtual 83, 3) := by decide +kernel
theorem dX5_refusal_31 : decode cX5_refusal 31 = .ok (.goto 8, 3) := by decide +kernel
theorem dX5_refusal_34 : decode cX5_refusal 34 = .ok (.aload_n 0, 1) := by decide +kernel
theorem dX5_refusal_35 : decode cX5_refusal 35 = .ok (.iload_n 1, 1) := by decide +kernel
theorem dX5_refusal_36 : decode cX5_refusal 36 = .ok (.invokevirtual 87, 3) := by decide +kernel
theorem dX5_refusal_39 : decode cX5_refusal 39 = .ok (.ireturn, 1) := by decide +kernel
theorem dX5_alone_0 : decode cX5_alone 0 = .ok (.aload_n 0, 1) := by decide +kernel
theorem dX5_alone_1 : decode cX5_alone 1 = .ok (.invokevirtual 188, 3) := by decide +kernel
theorem dX5_alone_4 : decode cX5_alone 4 = .ok (.aload_n 0, 1) := by decide +kernel
theorem dX5_alone_5 : decode cX5_alone 5 = .ok (.getfield 7, 3) := by decide +kernel
theorem dX5_alone_8 : decode cX5_alone 8 = .ok (.sipush 162, 3) := by decide +kernel
theorem dX5_alone_11 : decode cX5_alone 11 = .ok (.iconst 0, 1) := by decide +kernel
theorem dX5_alone_12 : decode cX5_alone 12 = .ok (.iastore, 1) := by decide +kernel
theorem dX5_alone_13 : decode cX5_alone 13 = .ok (.aload_n 0, 1) := by decide +kernel
theorem dX5_alone_14 : decode cX5_alone 14 = .ok (.invokevirtual 61, 3) := by decide +kernel
theorem dX5_alone_17 : decode cX5_alone 17 = .ok (.istore 4, 2) := by decide +kernel
theorem dX5_alone_19 : decode cX5_alone 19 = .ok (.aload_n 0, 1) := by decide +kernel
theorem dX5_alone_20 : decode cX5_alone 20 = .ok (.getfield 7, 3) := by decide +kernel
theorem dX5_alone_23 : decode cX5_alone 23 = .ok (.iload 4, 2) := by decide +kernel
theorem dX5_alone_25 : decode cX5_alone 25 = .ok (.iconst 1, 1) := by decide +kernel
theorem dX5_alone_26 : decode cX5_alone 26 = .ok (.invokestatic 43, 3) := by decide +kernel
theorem dX5_alone_29 : decode cX5_alone 29 = .ok (.iload_n 1, 1) := by decide +kernel
theorem dX5_alone_30 : decode cX5_alone 30 = .ok (.iastore, 1) := by decide +kernel
theorem dX5_alone_31 : decode cX5_alone 31 = .ok (.aload_n 0, 1) := by decide +kernel
theorem dX5_alone_32 : decode cX5_alone 32 = .ok (.getfield 7, 3) := by decide +kernel
theorem dX5_alone_35 : decode cX5_alone 35 = .ok (.iload 4, 2) := by decide +kernel
theorem dX5_alone_37 : decode cX5_alone 37 = .ok (.iconst 0, 1) := by decide +kernel
theorem dX5_alone_38 : decode cX5_alone 38 = .ok (.invokestatic 43, 3) := by decide +kernel
theorem dX5_alone_41 : decode cX5_alone 41 = .ok (.iconst 1, 1) := by decide +kernel
theorem dX5_alone_42 : decode cX5_alone 42 = .ok (.iastore, 1) := by decide +kernel
theorem dX5_alone_43 : decode cX5_alone 43 = .ok (.aload_n 0, 1) := by decide +kernel
theorem dX5_alone_44 : decode cX5_alone 44 = .ok (.getfield 7, 3) := by decide +kernel
theorem dX5_alone_47 : decode cX5_alone 47 = .ok (.iload 4, 2) := by decide +kernel
theorem dX5_alone_49 : decode cX5_alone 49 = .ok (.iconst 2, 1) := by decide +kernel
theorem dX5_alone_50 : decode cX5_alone 50 = .ok (.invokestatic 43, 3) := by decide +kernel
theorem dX5_alone_53 : decode cX5_alone 53 = .ok (.iload_n 2, 1) := by decide +kernel
theorem dX5_alone_54 : decode cX5_alone 54 = .ok (.iastore, 1) := by decide +kernel
theorem dX5_alone_55 : decode cX5_alone 55 = .ok (.iconst 0, 1) := by decide +kernel
theorem dX5_alone_56 : decode cX5_alone 56 = .ok (.istore 5, 2) := by decide +kernel
theorem dX5_alone_58 : decode cX5_alone 58 = .ok (.iload 5, 2) := by decide +kernel
theorem dX5_alone_60 : decode cX5_alone 60 = .ok (.sipush 200, 3) := by decide +kernel
theorem dX5_alone_63 : decode cX5_alone 63 = .ok (.if_icmp .ge 23, 3) := by decide +kernel
theorem dX5_alone_66 : decode cX5_alone 66 = .ok (.aload_n 0, 1) := by decide +kernel
theorem dX5_alone_67 : decode cX5_alone 67 = .ok (.iload 4, 2) := by decide +kernel
theorem dX5_alone_69 : decode cX5_alone 69 = .ok (.iconst 1, 1) := by decide +kernel
theorem dX5_alone_70 : decode cX5_alone 70 = .ok (.invokevirtual 67, 3) := by decide +kernel
theorem dX5_alone_73 : decode cX5_alone 73 = .ok (.ifCond .eq 13, 3) := by decide +kernel
theorem dX5_alone_76 : decode cX5_alone 76 = .ok (.aload_n 0, 1) := by decide +kernel
theorem dX5_alone_77 : decode cX5_alone 77 = .ok (.invokevirtual 135, 3) := by decide +kernel
theorem dX5_alone_80 : decode cX5_alone 80 = .ok (.iinc 5 1, 3) := by decide +kernel
theorem dX5_alone_83 : decode cX5_alone 83 = .ok (.goto (-25), 3) := by decide +kernel
theorem dX5_alone_86 : decode cX5_alone 86 = .ok (.iload_n 3, 1) := by decide +kernel
theorem dX5_alone_87 : decode cX5_alone 87 = .ok (.ifCond .ne 17, 3) := by decide +kernel
theorem dX5_alone_90 : decode cX5_alone 90 = .ok (.aload_n 0, 1) := by decide +kernel
theorem dX5_alone_91 : decode cX5_alone 91 = .ok (.getfield 7, 3) := by decide +kernel
theorem dX5_alone_94 : decode cX5_alone 94 = .ok (.iload 4, 2) := by decide +kernel
theorem dX5_alone_96 : decode cX5_alone 96 = .ok (.iconst 0, 1) := by decide +kernel
theorem dX5_alone_97 : decode cX5_alone 97 = .ok (.invokestatic 43, 3) := by decide +kernel
theorem dX5_alone_100 : decode cX5_alone 100 = .ok (.iaload, 1) := by decide +kernel
theorem dX5_alone_101 : decode cX5_alone 101 = .ok (.goto 64, 3) := by decide +kernel
theorem dX5_alone_104 : decode cX5_alone 104 = .ok (.iload_n 3, 1) := by decide +kernel
theorem dX5_alone_105 : decode cX5_alone 105 = .ok (.iconst 1, 1) := by decide +kernel
theorem dX5_alone_106 : decode cX5_alone 106 = .ok (.if_icmp .ne 8, 3) := by decide +kernel
theorem dX5_alone_109 : decode cX5_alone 109 = .ok (.iload 5, 2) := by decide +kernel
theorem dX5_alone_111 : decode cX5_alone 111 = .ok (.goto 54, 3) := by decide +kernel
theorem dX5_alone_114 : decode cX5_alone 114 = .ok (.iload_n 3, 1) := by decide +kernel
theorem dX5_alone_115 : decode cX5_alone 115 = .ok (.iconst 2, 1) := by decide +kernel
theorem dX5_alone_116 : decode cX5_alone 116 = .ok (.if_icmp .ne 18, 3) := by decide +kernel
theorem dX5_alone_119 : decode cX5_alone 119 = .ok (.aload_n 0, 1) := by decide +kernel
theorem dX5_alone_120 : decode cX5_alone 120 = .ok (.getfield 7, 3) := by decide +kernel
theorem dX5_alone_123 : decode cX5_alone 123 = .ok (.iload 4, 2) := by decide +kernel
theorem dX5_alone_125 : decode cX5_alone 125 = .ok (.bipush 6, 2) := by decide +kernel
theorem dX5_alone_127 : decode cX5_alone 127 = .ok (.invokestatic 43, 3) := by decide +kernel
theorem dX5_alone_130 : decode cX5_alone 130 = .ok (.iaload, 1) := by decide +kernel
theorem dX5_alone_131 : decode cX5_alone 131 = .ok (.goto 34, 3) := by decide +kernel
theorem dX5_alone_134 : decode cX5_alone 134 = .ok (.iload_n 3, 1) := by decide +kernel
theorem dX5_alone_135 : decode cX5_alone 135 = .ok (.iconst 3, 1) := by decide +kernel
theorem dX5_alone_136 : decode cX5_alone 136 = .ok (.if_icmp .ne 17, 3) := by decide +kernel
theorem dX5_alone_139 : decode cX5_alone 139 = .ok (.aload_n 0, 1) := by decide +kernel
theorem dX5_alone_140 : decode cX5_alone 140 = .ok (.getfield 7, 3) := by decide +kernel
theorem dX5_alone_143 : decode cX5_alone 143 = .ok (.iload 4, 2) := by decide +kernel
theorem dX5_alone_145 : decode cX5_alone 145 = .ok (.iconst 4, 1) := by decide +kernel
theorem dX5_alone_146 : decode cX5_alone 146 = .ok (.invokestatic 43, 3) := by decide +kernel
theorem dX5_alone_149 : decode cX5_alone 149 = .ok (.iaload, 1) := by decide +kernel
theorem dX5_alone_150 : decode cX5_alone 150 = .ok (.goto 15, 3) := by decide +kernel
theorem dX5_alone_153 : decode cX5_alone 153 = .ok (.aload_n 0, 1) := by decide +kernel
theorem dX5_alone_154 : decode cX5_alone 154 = .ok (.getfield 7, 3) := by decide +kernel
theorem dX5_alone_157 : decode cX5_alone 157 = .ok (.iload 4, 2) := by decide +kernel
theorem dX5_alone_159 : decode cX5_alone 159 = .ok (.bipush 8, 2) := by decide +kernel
theorem dX5_alone_161 : decode cX5_alone 161 = .ok (.invokestatic 43, 3) := by decide +kernel
theorem dX5_alone_164 : decode cX5_alone 164 = .ok (.iaload, 1) := by decide +kernel
theorem dX5_alone_165 : decode cX5_alone 165 = .ok (.istore 6, 2) := by decide +kernel
theorem dX5_alone_167 : decode cX5_alone 167 = .ok (.aload_n 0, 1) := by decide +kernel
theorem dX5_alone_168 : decode cX5_alone 168 = .ok (.invokevirtual 191, 3) := by decide +kernel
theorem dX5_alone_171 : decode cX5_alone 171 = .ok (.iload 6, 2) := by decide +kernel
theorem dX5_alone_173 : decode cX5_alone 173 = .ok (.ireturn, 1) := by decide +kernel
theorem dX5_ifAlone_0 : decode cX5_ifAlone 0 = .ok (.aload_n 0, 1) := by decide +kernel
theorem dX5_ifAlone_1 : decode cX5_ifAlone 1 = .ok (.iload_n 1, 1) := by decide +kernel
theorem dX5_ifAlone_2 : decode cX5_ifAlone 2 = .ok (.iconst 0, 1) := by decide +kernel
theorem dX5_ifAlone_3 : decode cX5_ifAlone 3 = .ok (.bipush 20, 2) := by decide +kernel
theorem dX5_ifAlone_5 : decode cX5_ifAlone 5 = .ok (.invokestatic 39, 3) := by decide +kernel
theorem dX5_ifAlone_8 : decode cX5_ifAlone 8 = .ok (.ifCond .eq 23, 3) := by decide +kernel
theorem dX5_ifAlone_11 : decode cX5_ifAlone 11 = .ok (.iload_n 2, 1) := by decide +kernel
theorem dX5_ifAlone_12 : decode cX5_ifAlone 12 = .ok (.invokestatic 90, 3) := by decide +kernel
theorem dX5_ifAlone_15 : decode cX5_ifAlone 15 = .ok (.ifCond .eq 16, 3) := by decide +kernel
theorem dX5_ifAlone_18 : decode cX5_ifAlone 18 = .ok (.iload_n 3, 1) := by decide +kernel
theorem dX5_ifAlone_19 : decode cX5_ifAlone 19 = .ok (.iconst 0, 1) := by decide +kernel
theorem dX5_ifAlone_20 : decode cX5_ifAlone 20 = .ok (.iconst 4, 1) := by decide +kernel
theorem dX5_ifAlone_21 : decode cX5_ifAlone 21 = .ok (.invokestatic 39, 3) := by decide +kernel
theorem dX5_ifAlone_24 : decode cX5_ifAlone 24 = .ok (.ifCond .eq 7, 3) := by decide +kernel
theorem dX5_ifAlone_27 : decode cX5_ifAlone 27 = .ok (.iconst 0, 1) := by decide +kernel
theorem dX5_ifAlone_28 : decode cX5_ifAlone 28 = .ok (.goto 4, 3) := by decide +kernel
theorem dX5_ifAlone_31 : decode cX5_ifAlone 31 = .ok (.iconst 1, 1) := by decide +kernel
theorem dX5_ifAlone_32 : decode cX5_ifAlone 32 = .ok (.invokevirtual 50, 3) := by decide +kernel
theorem dX5_ifAlone_35 : decode cX5_ifAlone 35 = .ok (.ifCond .eq 5, 3) := by decide +kernel
theorem dX5_ifAlone_38 : decode cX5_ifAlone 38 = .ok (.iconst 0, 1) := by decide +kernel
theorem dX5_ifAlone_39 : decode cX5_ifAlone 39 = .ok (.ireturn, 1) := by decide +kernel
theorem dX5_ifAlone_40 : decode cX5_ifAlone 40 = .ok (.aload_n 0, 1) := by decide +kernel
theorem dX5_ifAlone_41 : decode cX5_ifAlone 41 = .ok (.iload_n 1, 1) := by decide +kernel
theorem dX5_ifAlone_42 : decode cX5_ifAlone 42 = .ok (.iload_n 2, 1) := by decide +kernel
theorem dX5_ifAlone_43 : decode cX5_ifAlone 43 = .ok (.iload_n 3, 1) := by decide +kernel
theorem dX5_ifAlone_44 : decode cX5_ifAlone 44 = .ok (.invokevirtual 194, 3) := by decide +kernel
theorem dX5_ifAlone_47 : decode cX5_ifAlone 47 = .ok (.ireturn, 1) := by decide +kernel
theorem dX5_leastBrake_0 : decode cX5_leastBrake 0 = .ok (.aload_n 0, 1) := by decide +kernel
theorem dX5_leastBrake_1 : decode cX5_leastBrake 1 = .ok (.iload_n 1, 1) := by decide +kernel
theorem dX5_leastBrake_2 : decode cX5_leastBrake 2 = .ok (.iconst 0, 1) := by decide +kernel
theorem dX5_leastBrake_3 : decode cX5_leastBrake 3 = .ok (.bipush 20, 2) := by decide +kernel
theorem dX5_leastBrake_5 : decode cX5_leastBrake 5 = .ok (.invokestatic 39, 3) := by decide +kernel
theorem dX5_leastBrake_8 : decode cX5_leastBrake 8 = .ok (.ifCond .eq 7, 3) := by decide +kernel
theorem dX5_leastBrake_11 : decode cX5_leastBrake 11 = .ok (.iconst 0, 1) := by decide +kernel
theorem dX5_leastBrake_12 : decode cX5_leastBrake 12 = .ok (.goto 4, 3) := by decide +kernel
theorem dX5_leastBrake_15 : decode cX5_leastBrake 15 = .ok (.iconst 1, 1) := by decide +kernel
theorem dX5_leastBrake_16 : decode cX5_leastBrake 16 = .ok (.invokevirtual 50, 3) := by decide +kernel
theorem dX5_leastBrake_19 : decode cX5_leastBrake 19 = .ok (.ifCond .eq 5, 3) := by decide +kernel
theorem dX5_leastBrake_22 : decode cX5_leastBrake 22 = .ok (.iconst 0, 1) := by decide +kernel
theorem dX5_leastBrake_23 : decode cX5_leastBrake 23 = .ok (.ireturn, 1) := by decide +kernel
theorem dX5_leastBrake_24 : decode cX5_leastBrake 24 = .ok (.iconst (-1), 1) := by decide +kernel
theorem dX5_leastBrake_25 : decode cX5_leastBrake 25 = .ok (.istore_n 2, 1) := by decide +kernel
theorem dX5_leastBrake_26 : decode cX5_leastBrake 26 = .ok (.bipush 9, 2) := by decide +kernel
theorem dX5_leastBrake_28 : decode cX5_leastBrake 28 = .ok (.istore_n 3, 1) := by decide +kernel
theorem dX5_leastBrake_29 : decode cX5_leastBrake 29 = .ok (.iload_n 3, 1) := by decide +kernel
theorem dX5_leastBrake_30 : decode cX5_leastBrake 30 = .ok (.ifCond .lt 37, 3) := by decide +kernel
theorem dX5_leastBrake_33 : decode cX5_leastBrake 33 = .ok (.aload_n 0, 1) := by decide +kernel
theorem dX5_leastBrake_34 : decode cX5_leastBrake 34 = .ok (.iload_n 1, 1) := by decide +kernel
theorem dX5_leastBrake_35 : decode cX5_leastBrake 35 = .ok (.iload_n 3, 1) := by decide +kernel
theorem dX5_leastBrake_36 : decode cX5_leastBrake 36 = .ok (.iconst 0, 1) := by decide +kernel
theorem dX5_leastBrake_37 : decode cX5_leastBrake 37 = .ok (.invokevirtual 194, 3) := by decide +kernel
theorem dX5_leastBrake_40 : decode cX5_leastBrake 40 = .ok (.iconst 2, 1) := by decide +kernel
theorem dX5_leastBrake_41 : decode cX5_leastBrake 41 = .ok (.if_icmp .ne 18, 3) := by decide +kernel
theorem dX5_leastBrake_44 : decode cX5_leastBrake 44 = .ok (.aload_n 0, 1) := by decide +kernel
theorem dX5_leastBrake_45 : decode cX5_leastBrake 45 = .ok (.iload_n 1, 1) := by decide +kernel
theorem dX5_leastBrake_46 : decode cX5_leastBrake 46 = .ok (.iload_n 3, 1) := by decide +kernel
theorem dX5_leastBrake_47 : decode cX5_leastBrake 47 = .ok (.iconst 2, 1) := by decide +kernel
theorem dX5_leastBrake_48 : decode cX5_leastBrake 48 = .ok (.invokevirtual 194, 3) := by decide +kernel
theorem dX5_leastBrake_51 : decode cX5_leastBrake 51 = .ok (.iload_n 1, 1) := by decide +kernel
theorem dX5_leastBrake_52 : decode cX5_leastBrake 52 = .ok (.if_icmp .ne 7, 3) := by decide +kernel
theorem dX5_leastBrake_55 : decode cX5_leastBrake 55 = .ok (.iload_n 3, 1) := by decide +kernel
theorem dX5_leastBrake_56 : decode cX5_leastBrake 56 = .ok (.goto 4, 3) := by decide +kernel
theorem dX5_leastBrake_59 : decode cX5_leastBrake 59 = .ok (.iload_n 2, 1) := by decide +kernel
theorem dX5_leastBrake_60 : decode cX5_leastBrake 60 = .ok (.istore_n 2, 1) := by decide +kernel
theorem dX5_leastBrake_61 : decode cX5_leastBrake 61 = .ok (.iinc 3 (-1), 3) := by decide +kernel
theorem dX5_leastBrake_64 : decode cX5_leastBrake 64 = .ok (.goto (-35), 3) := by decide +kernel
theorem dX5_leastBrake_67 : decode cX5_leastBrake 67 = .ok (.iload_n 2, 1) := by decide +kernel
theorem dX5_leastBrake_68 : decode cX5_leastBrake 68 = .ok (.ireturn, 1) := by decide +kernel
theorem dX5_allBumps_0 : decode cX5_allBumps 0 = .ok (.iconst 0, 1) := by decide +kernel
theorem dX5_allBumps_1 : decode cX5_allBumps 1 = .ok (.istore_n 1, 1) := by decide +kernel
theorem dX5_allBumps_2 : decode cX5_allBumps 2 = .ok (.iconst 0, 1) := by decide +kernel
theorem dX5_allBumps_3 : decode cX5_allBumps 3 = .ok (.istore_n 2, 1) := by decide +kernel
theorem dX5_allBumps_4 : decode cX5_allBumps 4 = .ok (.iload_n 2, 1) := by decide +kernel
theorem dX5_allBumps_5 : decode cX5_allBumps 5 = .ok (.aload_n 0, 1) := by decide +kernel
theorem dX5_allBumps_6 : decode cX5_allBumps 6 = .ok (.getfield 7, 3) := by decide +kernel
theorem dX5_allBumps_9 : decode cX5_allBumps 9 = .ok (.sipush 162, 3) := by decide +kernel
theorem dX5_allBumps_12 : decode cX5_allBumps 12 = .ok (.iaload, 1) := by decide +kernel
theorem dX5_allBumps_13 : decode cX5_allBumps 13 = .ok (.if_icmp .ge 23, 3) := by decide +kernel
theorem dX5_allBumps_16 : decode cX5_allBumps 16 = .ok (.iload_n 1, 1) := by decide +kernel
theorem dX5_allBumps_17 : decode cX5_allBumps 17 = .ok (.aload_n 0, 1) := by decide +kernel
theorem dX5_allBumps_18 : decode cX5_allBumps 18 = .ok (.getfield 7, 3) := by decide +kernel
theorem dX5_allBumps_21 : decode cX5_allBumps 21 = .ok (.iload_n 2, 1) := by decide +kernel
theorem dX5_allBumps_22 : decode cX5_allBumps 22 = .ok (.bipush 7, 2) := by decide +kernel
theorem dX5_allBumps_24 : decode cX5_allBumps 24 = .ok (.invokestatic 43, 3) := by decide +kernel
theorem dX5_allBumps_27 : decode cX5_allBumps 27 = .ok (.iaload, 1) := by decide +kernel
theorem dX5_allBumps_28 : decode cX5_allBumps 28 = .ok (.iadd, 1) := by decide +kernel
theorem dX5_allBumps_29 : decode cX5_allBumps 29 = .ok (.istore_n 1, 1) := by decide +kernel
theorem dX5_allBumps_30 : decode cX5_allBumps 30 = .ok (.iinc 2 1, 3) := by decide +kernel
theorem dX5_allBumps_33 : decode cX5_allBumps 33 = .ok (.goto (-29), 3) := by decide +kernel
theorem dX5_allBumps_36 : decode cX5_allBumps 36 = .ok (.iload_n 1, 1) := by decide +kernel
theorem dX5_allBumps_37 : decode cX5_allBumps 37 = .ok (.ireturn, 1) := by decide +kernel
theorem dX5_ifRun_0 : decode cX5_ifRun 0 = .ok (.aload_n 0, 1) := by decide +kernel
theorem dX5_ifRun_1 : decode cX5_ifRun 1 = .ok (.iload_n 1, 1) := by decide +kernel
theorem dX5_ifRun_2 : decode cX5_ifRun 2 = .ok (.iconst 1, 1) := by decide +kernel
theorem dX5_ifRun_3 : decode cX5_ifRun 3 = .ok (.sipush 200, 3) := by decide +kernel
theorem dX5_ifRun_6 : decode cX5_ifRun 6 = .ok (.invokestatic 39, 3) := by decide +kernel
theorem dX5_ifRun_9 : decode cX5_ifRun 9 = .ok (.ifCond .eq 16, 3) := by decide +kernel
theorem dX5_ifRun_12 : decode cX5_ifRun 12 = .ok (.iload_n 2, 1) := by decide +kernel
theorem dX5_ifRun_13 : decode cX5_ifRun 13 = .ok (.iconst 0, 1) := by decide +kernel
theorem dX5_ifRun_14 : decode cX5_ifRun 14 = .ok (.iconst 4, 1) := by decide +kernel
theorem dX5_ifRun_15 : decode cX5_ifRun 15 = .ok (.invokestatic 39, 3) := by decide +kernel
theorem dX5_ifRun_18 : decode cX5_ifRun 18 = .ok (.ifCond .eq 7, 3) := by decide +kernel
theorem dX5_ifRun_21 : decode cX5_ifRun 21 = .ok (.iconst 0, 1) := by decide +kernel
theorem dX5_ifRun_22 : decode cX5_ifRun 22 = .ok (.goto 4, 3) := by decide +kernel
theorem dX5_ifRun_25 : decode cX5_ifRun 25 = .ok (.iconst 1, 1) := by decide +kernel
theorem dX5_ifRun_26 : decode cX5_ifRun 26 = .ok (.invokevirtual 50, 3) := by decide +kernel
theorem dX5_ifRun_29 : decode cX5_ifRun 29 = .ok (.ifCond .eq 5, 3) := by decide +kernel
theorem dX5_ifRun_32 : decode cX5_ifRun 32 = .ok (.iconst 0, 1) := by decide +kernel
theorem dX5_ifRun_33 : decode cX5_ifRun 33 = .ok (.ireturn, 1) := by decide +kernel
theorem dX5_ifRun_34 : decode cX5_ifRun 34 = .ok (.aload_n 0, 1) := by decide +kernel
theorem dX5_ifRun_35 : decode cX5_ifRun 35 = .ok (.invokevirtual 188, 3) := by decide +kernel
theorem dX5_ifRun_38 : decode cX5_ifRun 38 = .ok (.aload_n 0, 1) := by decide +kernel
theorem dX5_ifRun_39 : decode cX5_ifRun 39 = .ok (.getfield 7, 3) := by decide +kernel
theorem dX5_ifRun_42 : decode cX5_ifRun 42 = .ok (.sipush 166, 3) := by decide +kernel
theorem dX5_ifRun_45 : decode cX5_ifRun 45 = .ok (.iaload, 1) := by decide +kernel
theorem dX5_ifRun_46 : decode cX5_ifRun 46 = .ok (.istore_n 3, 1) := by decide +kernel
theorem dX5_ifRun_47 : decode cX5_ifRun 47 = .ok (.aload_n 0, 1) := by decide +kernel
theorem dX5_ifRun_48 : decode cX5_ifRun 48 = .ok (.invokevirtual 197, 3) := by decide +kernel
theorem dX5_ifRun_51 : decode cX5_ifRun 51 = .ok (.istore 4, 2) := by decide +kernel
theorem dX5_ifRun_53 : decode cX5_ifRun 53 = .ok (.aload_n 0, 1) := by decide +kernel
theorem dX5_ifRun_54 : decode cX5_ifRun 54 = .ok (.iload_n 1, 1) := by decide +kernel
theorem dX5_ifRun_55 : decode cX5_ifRun 55 = .ok (.invokevirtual 138, 3) := by decide +kernel
theorem dX5_ifRun_58 : decode cX5_ifRun 58 = .ok (.istore 5, 2) := by decide +kernel
theorem dX5_ifRun_60 : decode cX5_ifRun 60 = .ok (.iload_n 2, 1) := by decide +kernel
theorem dX5_ifRun_61 : decode cX5_ifRun 61 = .ok (.ifCond .ne 8, 3) := by decide +kernel
theorem dX5_ifRun_64 : decode cX5_ifRun 64 = .ok (.iload 5, 2) := by decide +kernel
theorem dX5_ifRun_66 : decode cX5_ifRun 66 = .ok (.goto 56, 3) := by decide +kernel
theorem dX5_ifRun_69 : decode cX5_ifRun 69 = .ok (.iload_n 2, 1) := by decide +kernel
theorem dX5_ifRun_70 : decode cX5_ifRun 70 = .ok (.iconst 1, 1) := by decide +kernel
theorem dX5_ifRun_71 : decode cX5_ifRun 71 = .ok (.if_icmp .ne 16, 3) := by decide +kernel
theorem dX5_ifRun_74 : decode cX5_ifRun 74 = .ok (.aload_n 0, 1) := by decide +kernel
theorem dX5_ifRun_75 : decode cX5_ifRun 75 = .ok (.getfield 7, 3) := by decide +kernel
theorem dX5_ifRun_78 : decode cX5_ifRun 78 = .ok (.sipush 166, 3) := by decide +kernel
theorem dX5_ifRun_81 : decode cX5_ifRun 81 = .ok (.iaload, 1) := by decide +kernel
theorem dX5_ifRun_82 : decode cX5_ifRun 82 = .ok (.iload_n 3, 1) := by decide +kernel
theorem dX5_ifRun_83 : decode cX5_ifRun 83 = .ok (.isub, 1) := by decide +kernel
theorem dX5_ifRun_84 : decode cX5_ifRun 84 = .ok (.goto 38, 3) := by decide +kernel
theorem dX5_ifRun_87 : decode cX5_ifRun 87 = .ok (.iload_n 2, 1) := by decide +kernel
theorem dX5_ifRun_88 : decode cX5_ifRun 88 = .ok (.iconst 2, 1) := by decide +kernel
theorem dX5_ifRun_89 : decode cX5_ifRun 89 = .ok (.if_icmp .ne 12, 3) := by decide +kernel
theorem dX5_ifRun_92 : decode cX5_ifRun 92 = .ok (.aload_n 0, 1) := by decide +kernel
theorem dX5_ifRun_93 : decode cX5_ifRun 93 = .ok (.iconst 3, 1) := by decide +kernel
theorem dX5_ifRun_94 : decode cX5_ifRun 94 = .ok (.iconst (-1), 1) := by decide +kernel
theorem dX5_ifRun_95 : decode cX5_ifRun 95 = .ok (.invokevirtual 182, 3) := by decide +kernel
theorem dX5_ifRun_98 : decode cX5_ifRun 98 = .ok (.goto 24, 3) := by decide +kernel
theorem dX5_ifRun_101 : decode cX5_ifRun 101 = .ok (.iload_n 2, 1) := by decide +kernel
theorem dX5_ifRun_102 : decode cX5_ifRun 102 = .ok (.iconst 3, 1) := by decide +kernel
theorem dX5_ifRun_103 : decode cX5_ifRun 103 = .ok (.if_icmp .ne 13, 3) := by decide +kernel
theorem dX5_ifRun_106 : decode cX5_ifRun 106 = .ok (.aload_n 0, 1) := by decide +kernel
theorem dX5_ifRun_107 : decode cX5_ifRun 107 = .ok (.invokevirtual 197, 3) := by decide +kernel
theorem dX5_ifRun_110 : decode cX5_ifRun 110 = .ok (.iload 4, 2) := by decide +kernel
theorem dX5_ifRun_112 : decode cX5_ifRun 112 = .ok (.isub, 1) := by decide +kernel
theorem dX5_ifRun_113 : decode cX5_ifRun 113 = .ok (.goto 9, 3) := by decide +kernel
theorem dX5_ifRun_116 : decode cX5_ifRun 116 = .ok (.aload_n 0, 1) := by decide +kernel
theorem dX5_ifRun_117 : decode cX5_ifRun 117 = .ok (.iconst 1, 1) := by decide +kernel
theorem dX5_ifRun_118 : decode cX5_ifRun 118 = .ok (.iconst (-1), 1) := by decide +kernel
theorem dX5_ifRun_119 : decode cX5_ifRun 119 = .ok (.invokevirtual 182, 3) := by decide +kernel
theorem dX5_ifRun_122 : decode cX5_ifRun 122 = .ok (.istore 6, 2) := by decide +kernel
theorem dX5_ifRun_124 : decode cX5_ifRun 124 = .ok (.aload_n 0, 1) := by decide +kernel
theorem dX5_ifRun_125 : decode cX5_ifRun 125 = .ok (.invokevirtual 191, 3) := by decide +kernel
theorem dX5_ifRun_128 : decode cX5_ifRun 128 = .ok (.iload 6, 2) := by decide +kernel
theorem dX5_ifRun_130 : decode cX5_ifRun 130 = .ok (.ireturn, 1) := by decide +kernel
theorem dX5_meanSpeed_0 : decode cX5_meanSpeed 0 = .ok (.aload_n 0, 1) := by decide +kernel
theorem dX5_meanSpeed_1 : decode cX5_meanSpeed 1 = .ok (.iconst 0, 1) := by decide +kernel
theorem dX5_meanSpeed_2 : decode cX5_meanSpeed 2 = .ok (.putfield 35, 3) := by decide +kernel
theorem dX5_meanSpeed_5 : decode cX5_meanSpeed 5 = .ok (.iconst 0, 1) := by decide +kernel
theorem dX5_meanSpeed_6 : decode cX5_meanSpeed 6 = .ok (.istore_n 1, 1) := by decide +kernel
theorem dX5_meanSpeed_7 : decode cX5_meanSpeed 7 = .ok (.iconst 0, 1) := by decide +kernel
theorem dX5_meanSpeed_8 : decode cX5_meanSpeed 8 = .ok (.istore_n 2, 1) := by decide +kernel
theorem dX5_meanSpeed_9 : decode cX5_meanSpeed 9 = .ok (.iconst 0, 1) := by decide +kernel
theorem dX5_meanSpeed_10 : decode cX5_meanSpeed 10 = .ok (.istore_n 3, 1) := by decide +kernel
theorem dX5_meanSpeed_11 : decode cX5_meanSpeed 11 = .ok (.iload_n 3, 1) := by decide +kernel
theorem dX5_meanSpeed_12 : decode cX5_meanSpeed 12 = .ok (.aload_n 0, 1) := by decide +kernel
theorem dX5_meanSpeed_13 : decode cX5_meanSpeed 13 = .ok (.getfield 7, 3) := by decide +kernel
theorem dX5_meanSpeed_16 : decode cX5_meanSpeed 16 = .ok (.sipush 162, 3) := by decide +kernel
theorem dX5_meanSpeed_19 : decode cX5_meanSpeed 19 = .ok (.iaload, 1) := by decide +kernel
theorem dX5_meanSpeed_20 : decode cX5_meanSpeed 20 = .ok (.if_icmp .ge 52, 3) := by decide +kernel
theorem dX5_meanSpeed_23 : decode cX5_meanSpeed 23 = .ok (.iload_n 1, 1) := by decide +kernel
theorem dX5_meanSpeed_24 : decode cX5_meanSpeed 24 = .ok (.aload_n 0, 1) := by decide +kernel
theorem dX5_meanSpeed_25 : decode cX5_meanSpeed 25 = .ok (.iload_n 3, 1) := by decide +kernel
theorem dX5_meanSpeed_26 : decode cX5_meanSpeed 26 = .ok (.iconst 1, 1) := by decide +kernel
theorem dX5_meanSpeed_27 : decode cX5_meanSpeed 27 = .ok (.invokevirtual 67, 3) := by decide +kernel
theorem dX5_meanSpeed_30 : decode cX5_meanSpeed 30 = .ok (.ifCond .eq 16, 3) := by decide +kernel
theorem dX5_meanSpeed_33 : decode cX5_meanSpeed 33 = .ok (.aload_n 0, 1) := by decide +kernel
theorem dX5_meanSpeed_34 : decode cX5_meanSpeed 34 = .ok (.getfield 7, 3) := by decide +kernel
theorem dX5_meanSpeed_37 : decode cX5_meanSpeed 37 = .ok (.iload_n 3, 1) := by decide +kernel
theorem dX5_meanSpeed_38 : decode cX5_meanSpeed 38 = .ok (.iconst 3, 1) := by decide +kernel
theorem dX5_meanSpeed_39 : decode cX5_meanSpeed 39 = .ok (.invokestatic 43, 3) := by decide +kernel
theorem dX5_meanSpeed_42 : decode cX5_meanSpeed 42 = .ok (.iaload, 1) := by decide +kernel
theorem dX5_meanSpeed_43 : decode cX5_meanSpeed 43 = .ok (.goto 4, 3) := by decide +kernel
theorem dX5_meanSpeed_46 : decode cX5_meanSpeed 46 = .ok (.iconst 0, 1) := by decide +kernel
theorem dX5_meanSpeed_47 : decode cX5_meanSpeed 47 = .ok (.iadd, 1) := by decide +kernel
theorem dX5_meanSpeed_48 : decode cX5_meanSpeed 48 = .ok (.istore_n 1, 1) := by decide +kernel
theorem dX5_meanSpeed_49 : decode cX5_meanSpeed 49 = .ok (.iload_n 2, 1) := by decide +kernel
theorem dX5_meanSpeed_50 : decode cX5_meanSpeed 50 = .ok (.aload_n 0, 1) := by decide +kernel
theorem dX5_meanSpeed_51 : decode cX5_meanSpeed 51 = .ok (.iload_n 3, 1) := by decide +kernel
theorem dX5_meanSpeed_52 : decode cX5_meanSpeed 52 = .ok (.iconst 1, 1) := by decide +kernel
theorem dX5_meanSpeed_53 : decode cX5_meanSpeed 53 = .ok (.invokevirtual 67, 3) := by decide +kernel
theorem dX5_meanSpeed_56 : decode cX5_meanSpeed 56 = .ok (.ifCond .eq 7, 3) := by decide +kernel
theorem dX5_meanSpeed_59 : decode cX5_meanSpeed 59 = .ok (.iconst 1, 1) := by decide +kernel
theorem dX5_meanSpeed_60 : decode cX5_meanSpeed 60 = .ok (.goto 4, 3) := by decide +kernel
theorem dX5_meanSpeed_63 : decode cX5_meanSpeed 63 = .ok (.iconst 0, 1) := by decide +kernel
theorem dX5_meanSpeed_64 : decode cX5_meanSpeed 64 = .ok (.iadd, 1) := by decide +kernel
theorem dX5_meanSpeed_65 : decode cX5_meanSpeed 65 = .ok (.istore_n 2, 1) := by decide +kernel
theorem dX5_meanSpeed_66 : decode cX5_meanSpeed 66 = .ok (.iinc 3 1, 3) := by decide +kernel
theorem dX5_meanSpeed_69 : decode cX5_meanSpeed 69 = .ok (.goto (-58), 3) := by decide +kernel
theorem dX5_meanSpeed_72 : decode cX5_meanSpeed 72 = .ok (.iload_n 2, 1) := by decide +kernel
theorem dX5_meanSpeed_73 : decode cX5_meanSpeed 73 = .ok (.ifCond .ne 7, 3) := by decide +kernel
theorem dX5_meanSpeed_76 : decode cX5_meanSpeed 76 = .ok (.fconst 0, 1) := by decide +kernel
theorem dX5_meanSpeed_77 : decode cX5_meanSpeed 77 = .ok (.goto 8, 3) := by decide +kernel
theorem dX5_meanSpeed_80 : decode cX5_meanSpeed 80 = .ok (.iload_n 1, 1) := by decide +kernel
theorem dX5_meanSpeed_81 : decode cX5_meanSpeed 81 = .ok (.i2f, 1) := by decide +kernel
theorem dX5_meanSpeed_82 : decode cX5_meanSpeed 82 = .ok (.iload_n 2, 1) := by decide +kernel
theorem dX5_meanSpeed_83 : decode cX5_meanSpeed 83 = .ok (.i2f, 1) := by decide +kernel
theorem dX5_meanSpeed_84 : decode cX5_meanSpeed 84 = .ok (.fdiv, 1) := by decide +kernel
theorem dX5_meanSpeed_85 : decode cX5_meanSpeed 85 = .ok (.freturn, 1) := by decide +kernel
theorem dJ6_bitCount_0f7a4_0 : decode cJ6_bitCount_0f7a4 0 = .ok (.iload_n 0, 1) := by decide +kernel
theorem dJ6_bitCount_0f7a4_1 : decode cJ6_bitCount_0f7a4 1 = .ok (.iload_n 0, 1) := by decide +kernel
theorem dJ6_bitCount_0f7a4_2 : decode cJ6_bitCount_0f7a4 2 = .ok (.iconst 1, 1) := by decide +kernel
theorem dJ6_bitCount_0f7a4_3 : decode cJ6_bitCount_0f7a4 3 = .ok (.iushr, 1) := by decide +kernel
theorem dJ6_bitCount_0f7a4_4 : decode cJ6_bitCount_0f7a4 4 = .ok (.ldc_w 265, 3) := by decide +kernel
theorem dJ6_bitCount_0f7a4_7 : decode cJ6_bitCount_0f7a4 7 = .ok (.iand, 1) := by decide +kernel
theorem dJ6_bitCount_0f7a4_8 : decode cJ6_bitCount_0f7a4 8 = .ok (.isub, 1) := by decide +kernel
theorem dJ6_bitCount_0f7a4_9 : decode cJ6_bitCount_0f7a4 9 = .ok (.istore_n 0, 1) := by decide +kernel
theorem dJ6_bitCount_0f7a4_10 : decode cJ6_bitCount_0f7a4 10 = .ok (.iload_n 0, 1) := by decide +kernel
theorem dJ6_bitCount_0f7a4_11 : decode cJ6_bitCount_0f7a4 11 = .ok (.ldc_w 266, 3) := by decide +kernel
theorem dJ6_bitCount_0f7a4_14 : decode cJ6_bitCount_0f7a4 14 = .ok (.iand, 1) := by decide +kernel
theorem dJ6_bitCount_0f7a4_15 : decode cJ6_bitCount_0f7a4 15 = .ok (.iload_n 0, 1) := by decide +kernel
theorem dJ6_bitCount_0f7a4_16 : decode cJ6_bitCount_0f7a4 16 = .ok (.iconst 2, 1) := by decide +kernel
theorem dJ6_bitCount_0f7a4_17 : decode cJ6_bitCount_0f7a4 17 = .ok (.iushr, 1) := by decide +kernel
theorem dJ6_bitCount_0f7a4_18 : decode cJ6_bitCount_0f7a4 18 = .ok (.ldc_w 266, 3) := by decide +kernel
theorem dJ6_bitCount_0f7a4_21 : decode cJ6_bitCount_0f7a4 21 = .ok (.iand, 1) := by decide +kernel
theorem dJ6_bitCount_0f7a4_22 : decode cJ6_bitCount_0f7a4 22 = .ok (.iadd, 1) := by decide +kernel
theorem dJ6_bitCount_0f7a4_23 : decode cJ6_bitCount_0f7a4 23 = .ok (.istore_n 0, 1) := by decide +kernel
theorem dJ6_bitCount_0f7a4_24 : decode cJ6_bitCount_0f7a4 24 = .ok (.iload_n 0, 1) := by decide +kernel
theorem dJ6_bitCount_0f7a4_25 : decode cJ6_bitCount_0f7a4 25 = .ok (.iload_n 0, 1) := by decide +kernel
theorem dJ6_bitCount_0f7a4_26 : decode cJ6_bitCount_0f7a4 26 = .ok (.iconst 4, 1) := by decide +kernel
theorem dJ6_bitCount_0f7a4_27 : decode cJ6_bitCount_0f7a4 27 = .ok (.iushr, 1) := by decide +kernel
theorem dJ6_bitCount_0f7a4_28 : decode cJ6_bitCount_0f7a4 28 = .ok (.iadd, 1) := by decide +kernel
theorem dJ6_bitCount_0f7a4_29 : decode cJ6_bitCount_0f7a4 29 = .ok (.ldc_w 267, 3) := by decide +kernel
theorem dJ6_bitCount_0f7a4_32 : decode cJ6_bitCount_0f7a4 32 = .ok (.iand, 1) := by decide +kernel
theorem dJ6_bitCount_0f7a4_33 : decode cJ6_bitCount_0f7a4 33 = .ok (.istore_n 0, 1) := by decide +kernel
theorem dJ6_bitCount_0f7a4_34 : decode cJ6_bitCount_0f7a4 34 = .ok (.iload_n 0, 1) := by decide +kernel
theorem dJ6_bitCount_0f7a4_35 : decode cJ6_bitCount_0f7a4 35 = .ok (.iload_n 0, 1) := by decide +kernel
theorem dJ6_bitCount_0f7a4_36 : decode cJ6_bitCount_0f7a4 36 = .ok (.bipush 8, 2) := by decide +kernel
theorem dJ6_bitCount_0f7a4_38 : decode cJ6_bitCount_0f7a4 38 = .ok (.iushr, 1) := by decide +kernel
theorem dJ6_bitCount_0f7a4_39 : decode cJ6_bitCount_0f7a4 39 = .ok (.iadd, 1) := by decide +kernel
theorem dJ6_bitCount_0f7a4_40 : decode cJ6_bitCount_0f7a4 40 = .ok (.istore_n 0, 1) := by decide +kernel
theorem dJ6_bitCount_0f7a4_41 : decode cJ6_bitCount_0f7a4 41 = .ok (.iload_n 0, 1) := by decide +kernel
theorem dJ6_bitCount_0f7a4_42 : decode cJ6_bitCount_0f7a4 42 = .ok (.iload_n 0, 1) := by decide +kernel
theorem dJ6_bitCount_0f7a4_43 : decode cJ6_bitCount_0f7a4 43 = .ok (.bipush 16, 2) := by decide +kernel
theorem dJ6_bitCount_0f7a4_45 : decode cJ6_bitCount_0f7a4 45 = .ok (.iushr, 1) := by decide +kernel
theorem dJ6_bitCount_0f7a4_46 : decode cJ6_bitCount_0f7a4 46 = .ok (.iadd, 1) := by decide +kernel
theorem dJ6_bitCount_0f7a4_47 : decode cJ6_bitCount_0f7a4 47 = .ok (.istore_n 0, 1) := by decide +kernel
theorem dJ6_bitCount_0f7a4_48 : decode cJ6_bitCount_0f7a4 48 = .ok (.iload_n 0, 1) := by decide +kernel
theorem dJ6_bitCount_0f7a4_49 : decode cJ6_bitCount_0f7a4 49 = .ok (.bipush 63, 2) := by decide +kernel
theorem dJ6_bitCount_0f7a4_51 : decode cJ6_bitCount_0f7a4 51 = .ok (.iand, 1) := by decide +kernel
theorem dJ6_bitCount_0f7a4_52 : decode cJ6_bitCount_0f7a4 52 = .ok (.ireturn, 1) := by decide +kernel
theorem dJ9_max_7cf53_0 : decode cJ9_max_7cf53 0 = .ok (.iload_n 0, 1) := by decide +kernel
theorem dJ9_max_7cf53_1 : decode cJ9_max_7cf53 1 = .ok (.iload_n 1, 1) := by decide +kernel
theorem dJ9_max_7cf53_2 : decode cJ9_max_7cf53 2 = .ok (.if_icmp .lt 7, 3) := by decide +kernel
theorem dJ9_max_7cf53_5 : decode cJ9_max_7cf53 5 = .ok (.iload_n 0, 1) := by decide +kernel
theorem dJ9_max_7cf53_6 : decode cJ9_max_7cf53 6 = .ok (.goto 4, 3) := by decide +kernel
theorem dJ9_max_7cf53_9 : decode cJ9_max_7cf53 9 = .ok (.iload_n 1, 1) := by decide +kernel
theorem dJ9_max_7cf53_10 : decode cJ9_max_7cf53 10 = .ok (.ireturn, 1) := by decide +kernel
theorem dJ9_min_7cf53_0 : decode cJ9_min_7cf53 0 = .ok (.iload_n 0, 1) := by decide +kernel
theorem dJ9_min_7cf53_1 : decode cJ9_min_7cf53 1 = .ok (.iload_n 1, 1) := by decide +kernel
theorem dJ9_min_7cf53_2 : decode cJ9_min_7cf53 2 = .ok (.if_icmp .gt 7, 3) := by decide +kernel
theorem dJ9_min_7cf53_5 : decode cJ9_min_7cf53 5 = .ok (.iload_n 0, 1) := by decide +kernel
theorem dJ9_min_7cf53_6 : decode cJ9_min_7cf53 6 = .ok (.goto 4, 3) := by decide +kernel
theorem dJ9_min_7cf53_9 : decode cJ9_min_7cf53 9 = .ok (.iload_n 1, 1) := by decide +kernel
theorem dJ9_min_7cf53_10 : decode cJ9_min_7cf53 10 = .ok (.ireturn, 1) := by decide +kernel
theorem dL_grade_0 : decode cL_grade 0 = .ok (.aload_n 3, 1) := by decide +kernel
theorem dL_grade_1 : decode cL_grade 1 = .ok (.iconst 0, 1) := by decide +kernel
theorem dL_grade_2 : decode cL_grade 2 = .ok (.aload_n 0, 1) := by decide +kernel
theorem dL_grade_3 : decode cL_grade 3 = .ok (.iload_n 1, 1) := by decide +kernel
theorem dL_grade_4 : decode cL_grade 4 = .ok (.iload_n 2, 1) := by decide +kernel
theorem dL_grade_5 : decode cL_grade 5 = .ok (.invokevirtual 7, 3) := by decide +kernel
theorem dL_grade_8 : decode cL_grade 8 = .ok (.i2l, 1) := by decide +kernel
theorem dL_grade_9 : decode cL_grade 9 = .ok (.lastore, 1) := by decide +kernel
theorem dL_grade_10 : decode cL_grade 10 = .ok (.goto 11, 3) := by decide +kernel
theorem dL_grade_13 : decode cL_grade 13 = .ok (.astore 4, 2) := by decide +kernel
theorem dL_grade_15 : decode cL_grade 15 = .ok (.iconst 1, 1) := by decide +kernel
theorem dL_grade_16 : decode cL_grade 16 = .ok (.ireturn, 1) := by decide +kernel
theorem dL_grade_17 : decode cL_grade 17 = .ok (.astore 4, 2) := by decide +kernel
theorem dL_grade_19 : decode cL_grade 19 = .ok (.iconst 2, 1) := by decide +kernel
theorem dL_grade_20 : decode cL_grade 20 = .ok (.ireturn, 1) := by decide +kernel
theorem dL_grade_21 : decode cL_grade 21 = .ok (.iconst 0, 1) := by decide +kernel
theorem dL_grade_22 : decode cL_grade 22 = .ok (.ireturn, 1) := by decide +kernel
theorem dL_spring_0 : decode cL_spring 0 = .ok (.aload_n 3, 1) := by decide +kernel
theorem dL_spring_1 : decode cL_spring 1 = .ok (.iconst 0, 1) := by decide +kernel
theorem dL_spring_2 : decode cL_spring 2 = .ok (.aload_n 0, 1) := by decide +kernel
theorem dL_spring_3 : decode cL_spring 3 = .ok (.iload_n 1, 1) := by decide +kernel
theorem dL_spring_4 : decode cL_spring 4 = .ok (.iload_n 2, 1) := by decide +kernel
theorem dL_spring_5 : decode cL_spring 5 = .ok (.invokevirtual 17, 3) := by decide +kernel
theorem dL_spring_8 : decode cL_spring 8 = .ok (.i2l, 1) := by decide +kernel
theorem dL_spring_9 : decode cL_spring 9 = .ok (.lastore, 1) := by decide +kernel
theorem dL_spring_10 : decode cL_spring 10 = .ok (.goto 15, 3) := by decide +kernel
theorem dL_spring_13 : decode cL_spring 13 = .ok (.astore 4, 2) := by decide +kernel
theorem dL_spring_15 : decode cL_spring 15 = .ok (.iconst 1, 1) := by decide +kernel
theorem dL_spring_16 : decode cL_spring 16 = .ok (.ireturn, 1) := by decide +kernel
theorem dL_spring_17 : decode cL_spring 17 = .ok (.astore 4, 2) := by decide +kernel
theorem dL_spring_19 : decode cL_spring 19 = .ok (.iconst 2, 1) := by decide +kernel
theorem dL_spring_20 : decode cL_spring 20 = .ok (.ireturn, 1) := by decide +kernel
theorem dL_spring_21 : decode cL_spring 21 = .ok (.astore 4, 2) := by decide +kernel
theorem dL_spring_23 : decode cL_spring 23 = .ok (.iconst 3, 1) := by decide +kernel
theorem dL_spring_24 : decode cL_spring 24 = .ok (.ireturn, 1) := by decide +kernel
theorem dL_spring_25 : decode cL_spring 25 = .ok (.iconst 0, 1) := by decide +kernel
theorem dL_spring_26 : decode cL_spring 26 = .ok (.ireturn, 1) := by decide +kernel
theorem dL_car_0 : decode cL_car 0 = .ok (.aload_n 1, 1) := by decide +kernel
theorem dL_car_1 : decode cL_car 1 = .ok (.iconst 0, 1) := by decide +kernel
theorem dL_car_2 : decode cL_car 2 = .ok (.aload_n 0, 1) := by decide +kernel
theorem dL_car_3 : decode cL_car 3 = .ok (.invokevirtual 22, 3) := by decide +kernel
theorem dL_car_6 : decode cL_car 6 = .ok (.i2l, 1) := by decide +kernel
theorem dL_car_7 : decode cL_car 7 = .ok (.lastore, 1) := by decide +kernel
theorem dL_car_8 : decode cL_car 8 = .ok (.goto 6, 3) := by decide +kernel
theorem dL_car_11 : decode cL_car 11 = .ok (.astore_n 2, 1) := by decide +kernel
theorem dL_car_12 : decode cL_car 12 = .ok (.iconst 1, 1) := by decide +kernel
theorem dL_car_13 : decode cL_car 13 = .ok (.ireturn, 1) := by decide +kernel
theorem dL_car_14 : decode cL_car 14 = .ok (.iconst 0, 1) := by decide +kernel
theorem dL_car_15 : decode cL_car 15 = .ok (.ireturn, 1) := by decide +kernel
theorem dL_load_0 : decode cL_load 0 = .ok (.aload_n 3, 1) := by decide +kernel
theorem dL_load_1 : decode cL_load 1 = .ok (.iconst 0, 1) := by decide +kernel
theorem dL_load_2 : decode cL_load 2 = .ok (.aload_n 0, 1) := by decide +kernel
theorem dL_load_3 : decode cL_load 3 = .ok (.iload_n 1, 1) := by decide +kernel
theorem dL_load_4 : decode cL_load 4 = .ok (.iload_n 2, 1) := by decide +kernel
theorem dL_load_5 : decode cL_load 5 = .ok (.invokevirtual 26, 3) := by decide +kernel
theorem dL_load_8 : decode cL_load 8 = .ok (.i2l, 1) := by decide +kernel
theorem dL_load_9 : decode cL_load 9 = .ok (.lastore, 1) := by decide +kernel
theorem dL_load_10 : decode cL_load 10 = .ok (.goto 15, 3) := by decide +kernel
theorem dL_load_13 : decode cL_load 13 = .ok (.astore 4, 2) := by decide +kernel
theorem dL_load_15 : decode cL_load 15 = .ok (.iconst 1, 1) := by decide +kernel
theorem dL_load_16 : decode cL_load 16 = .ok (.ireturn, 1) := by decide +kernel
theorem dL_load_17 : decode cL_load 17 = .ok (.astore 4, 2) := by decide +kernel
theorem dL_load_19 : decode cL_load 19 = .ok (.iconst 2, 1) := by decide +kernel
theorem dL_load_20 : decode cL_load 20 = .ok (.ireturn, 1) := by decide +kernel
theorem dL_load_21 : decode cL_load 21 = .ok (.astore 4, 2) := by decide +kernel
theorem dL_load_23 : decode cL_load 23 = .ok (.iconst 3, 1) := by decide +kernel
theorem dL_load_24 : decode cL_load 24 = .ok (.ireturn, 1) := by decide +kernel
theorem dL_load_25 : decode cL_load 25 = .ok (.iconst 0, 1) := by decide +kernel
theorem dL_load_26 : decode cL_load 26 = .ok (.ireturn, 1) := by decide +kernel
theorem dL_release_0 : decode cL_release 0 = .ok (.aload_n 3, 1) := by decide +kernel
theorem dL_release_1 : decode cL_release 1 = .ok (.iconst 0, 1) := by decide +kernel
theorem dL_release_2 : decode cL_release 2 = .ok (.aload_n 0, 1) := by decide +kernel
theorem dL_release_3 : decode cL_release 3 = .ok (.iload_n 1, 1) := by decide +kernel
theorem dL_release_4 : decode cL_release 4 = .ok (.iload_n 2, 1) := by decide +kernel
theorem dL_release_5 : decode cL_release 5 = .ok (.invokevirtual 29, 3) := by decide +kernel
theorem dL_release_8 : decode cL_release 8 = .ok (.i2l, 1) := by decide +kernel
theorem dL_release_9 : decode cL_release 9 = .ok (.lastore, 1) := by decide +kernel
theorem dL_release_10 : decode cL_release 10 = .ok (.goto 11, 3) := by decide +kernel
theorem dL_release_13 : decode cL_release 13 = .ok (.astore 4, 2) := by decide +kernel
theorem dL_release_15 : decode cL_release 15 = .ok (.iconst 1, 1) := by decide +kernel
theorem dL_release_16 : decode cL_release 16 = .ok (.ireturn, 1) := by decide +kernel
theorem dL_release_17 : decode cL_release 17 = .ok (.astore 4, 2) := by decide +kernel
theorem dL_release_19 : decode cL_release 19 = .ok (.iconst 2, 1) := by decide +kernel
theorem dL_release_20 : decode cL_release 20 = .ok (.ireturn, 1) := by decide +kernel
theorem dL_release_21 : decode cL_release 21 = .ok (.iconst 0, 1) := by decide +kernel
theorem dL_release_22 : decode cL_release 22 = .ok (.ireturn, 1) := by decide +kernel
theorem dL_brake_0 : decode cL_brake 0 = .ok (.aload_n 3, 1) := by decide +kernel
theorem dL_brake_1 : decode cL_brake 1 = .ok (.iconst 0, 1) := by decide +kernel
theorem dL_brake_2 : decode cL_brake 2 = .ok (.aload_n 0, 1) := by decide +kernel
theorem dL_brake_3 : decode cL_brake 3 = .ok (.iload_n 1, 1) := by decide +kernel
theorem dL_brake_4 : decode cL_brake 4 = .ok (.iload_n 2, 1) := by decide +kernel
theorem dL_brake_5 : decode cL_brake 5 = .ok (.invokevirtual 32, 3) := by decide +kernel
theorem dL_brake_8 : decode cL_brake 8 = .ok (.i2l, 1) := by decide +kernel
theorem dL_brake_9 : decode cL_brake 9 = .ok (.lastore, 1) := by decide +kernel
theorem dL_brake_10 : decode cL_brake 10 = .ok (.goto 15, 3) := by decide +kernel
theorem dL_brake_13 : decode cL_brake 13 = .ok (.astore 4, 2) := by decide +kernel
theorem dL_brake_15 : decode cL_brake 15 = .ok (.iconst 1, 1) := by decide +kernel
theorem dL_brake_16 : decode cL_brake 16 = .ok (.ireturn, 1) := by decide +kernel
theorem dL_brake_17 : decode cL_brake 17 = .ok (.astore 4, 2) := by decide +kernel
theorem dL_brake_19 : decode cL_brake 19 = .ok (.iconst 2, 1) := by decide +kernel
theorem dL_brake_20 : decode cL_brake 20 = .ok (.ireturn, 1) := by decide +kernel
theorem dL_brake_21 : decode cL_brake 21 = .ok (.astore 4, 2) := by decide +kernel
theorem dL_brake_23 : decode cL_brake 23 = .ok (.iconst 3, 1) := by decide +kernel
theorem dL_brake_24 : decode cL_brake 24 = .ok (.ireturn, 1) := by decide +kernel
theorem dL_brake_25 : decode cL_brake 25 = .ok (.iconst 0, 1) := by decide +kernel
theorem dL_brake_26 : decode cL_brake 26 = .ok (.ireturn, 1) := by decide +kernel
theorem dL_pull_0 : decode cL_pull 0 = .ok (.aload_n 2, 1) := by decide +kernel
theorem dL_pull_1 : decode cL_pull 1 = .ok (.iconst 0, 1) := by decide +kernel
theorem dL_pull_2 : decode cL_pull 2 = .ok (.aload_n 0, 1) := by decide +kernel
theorem dL_pull_3 : decode cL_pull 3 = .ok (.iload_n 1, 1) := by decide +kernel
theorem dL_pull_4 : decode cL_pull 4 = .ok (.invokevirtual 35, 3) := by decide +kernel
theorem dL_pull_7 : decode cL_pull 7 = .ok (.i2l, 1) := by decide +kernel
theorem dL_pull_8 : decode cL_pull 8 = .ok (.lastore, 1) := by decide +kernel
theorem dL_pull_9 : decode cL_pull 9 = .ok (.goto 6, 3) := by decide +kernel
theorem dL_pull_12 : decode cL_pull 12 = .ok (.astore_n 3, 1) := by decide +kernel
theorem dL_pull_13 : decode cL_pull 13 = .ok (.iconst 1, 1) := by decide +kernel
theorem dL_pull_14 : decode cL_pull 14 = .ok (.ireturn, 1) := by decide +kernel
theorem dL_pull_15 : decode cL_pull 15 = .ok (.iconst 0, 1) := by decide +kernel
theorem dL_pull_16 : decode cL_pull 16 = .ok (.ireturn, 1) := by decide +kernel
theorem dL_set_0 : decode cL_set 0 = .ok (.aload_n 3, 1) := by decide +kernel
theorem dL_set_1 : decode cL_set 1 = .ok (.iconst 0, 1) := by decide +kernel
theorem dL_set_2 : decode cL_set 2 = .ok (.aload_n 0, 1) := by decide +kernel
theorem dL_set_3 : decode cL_set 3 = .ok (.iload_n 1, 1) := by decide +kernel
theorem dL_set_4 : decode cL_set 4 = .ok (.iload_n 2, 1) := by decide +kernel
theorem dL_set_5 : decode cL_set 5 = .ok (.invokevirtual 39, 3) := by decide +kernel
theorem dL_set_8 : decode cL_set 8 = .ok (.i2l, 1) := by decide +kernel
theorem dL_set_9 : decode cL_set 9 = .ok (.lastore, 1) := by decide +kernel
theorem dL_set_10 : decode cL_set 10 = .ok (.goto 11, 3) := by decide +kernel
theorem dL_set_13 : decode cL_set 13 = .ok (.astore 4, 2) := by decide +kernel
theorem dL_set_15 : decode cL_set 15 = .ok (.iconst 1, 1) := by decide +kernel
theorem dL_set_16 : decode cL_set 16 = .ok (.ireturn, 1) := by decide +kernel
theorem dL_set_17 : decode cL_set 17 = .ok (.astore 4, 2) := by decide +kernel
theorem dL_set_19 : decode cL_set 19 = .ok (.iconst 2, 1) := by decide +kernel
theorem dL_set_20 : decode cL_set 20 = .ok (.ireturn, 1) := by decide +kernel
theorem dL_set_21 : decode cL_set 21 = .ok (.iconst 0, 1) := by decide +kernel
theorem dL_set_22 : decode cL_set 22 = .ok (.ireturn, 1) := by decide +kernel
theorem dL_run_0 : decode cL_run 0 = .ok (.aload_n 2, 1) := by decide +kernel
theorem dL_run_1 : decode cL_run 1 = .ok (.iconst 0, 1) := by decide +kernel
theorem dL_run_2 : decode cL_run 2 = .ok (.aload_n 0, 1) := by decide +kernel
theorem dL_run_3 : decode cL_run 3 = .ok (.iload_n 1, 1) := by decide +kernel
theorem dL_run_4 : decode cL_run 4 = .ok (.invokevirtual 42, 3) := by decide +kernel
theorem dL_run_7 : decode cL_run 7 = .ok (.i2l, 1) := by decide +kernel
theorem dL_run_8 : decode cL_run 8 = .ok (.lastore, 1) := by decide +kernel
theorem dL_run_9 : decode cL_run 9 = .ok (.goto 6, 3) := by decide +kernel
theorem dL_run_12 : decode cL_run 12 = .ok (.astore_n 3, 1) := by decide +kernel
theorem dL_run_13 : decode cL_run 13 = .ok (.iconst 1, 1) := by decide +kernel
theorem dL_run_14 : decode cL_run 14 = .ok (.ireturn, 1) := by decide +kernel
theorem dL_run_15 : decode cL_run 15 = .ok (.iconst 0, 1) := by decide +kernel
theorem dL_run_16 : decode cL_run 16 = .ok (.ireturn, 1) := by decide +kernel
theorem dL_append_0 : decode cL_append 0 = .ok (.aload_n 2, 1) := by decide +kernel
theorem dL_append_1 : decode cL_append 1 = .ok (.iconst 0, 1) := by decide +kernel
theorem dL_append_2 : decode cL_append 2 = .ok (.aload_n 0, 1) := by decide +kernel
theorem dL_append_3 : decode cL_append 3 = .ok (.iload_n 1, 1) := by decide +kernel
theorem dL_append_4 : decode cL_append 4 = .ok (.invokevirtual 45, 3) := by decide +kernel
theorem dL_append_7 : decode cL_append 7 = .ok (.i2l, 1) := by decide +kernel
theorem dL_append_8 : decode cL_append 8 = .ok (.lastore, 1) := by decide +kernel
theorem dL_append_9 : decode cL_append 9 = .ok (.goto 9, 3) := by decide +kernel
theorem dL_append_12 : decode cL_append 12 = .ok (.astore_n 3, 1) := by decide +kernel
theorem dL_append_13 : decode cL_append 13 = .ok (.iconst 1, 1) := by decide +kernel
theorem dL_append_14 : decode cL_append 14 = .ok (.ireturn, 1) := by decide +kernel
theorem dL_append_15 : decode cL_append 15 = .ok (.astore_n 3, 1) := by decide +kernel
theorem dL_append_16 : decode cL_append 16 = .ok (.iconst 2, 1) := by decide +kernel
theorem dL_append_17 : decode cL_append 17 = .ok (.ireturn, 1) := by decide +kernel
theorem dL_append_18 : decode cL_append 18 = .ok (.iconst 0, 1) := by decide +kernel
theorem dL_append_19 : decode cL_append 19 = .ok (.ireturn, 1) := by decide +kernel
theorem dL_execute_0 : decode cL_execute 0 = .ok (.aload_n 1, 1) := by decide +kernel
theorem dL_execute_1 : decode cL_execute 1 = .ok (.iconst 0, 1) := by decide +kernel
theorem dL_execute_2 : decode cL_execute 2 = .ok (.aload_n 0, 1) := by decide +kernel
theorem dL_execute_3 : decode cL_execute 3 = .ok (.invokevirtual 48, 3) := by decide +kernel
theorem dL_execute_6 : decode cL_execute 6 = .ok (.i2l, 1) := by decide +kernel
theorem dL_execute_7 : decode cL_execute 7 = .ok (.lastore, 1) := by decide +kernel
theorem dL_execute_8 : decode cL_execute 8 = .ok (.goto 6, 3) := by decide +kernel
theorem dL_execute_11 : decode cL_execute 11 = .ok (.astore_n 2, 1) := by decide +kernel
theorem dL_execute_12 : decode cL_execute 12 = .ok (.iconst 1, 1) := by decide +kernel
theorem dL_execute_13 : decode cL_execute 13 = .ok (.ireturn, 1) := by decide +kernel
theorem dL_execute_14 : decode cL_execute 14 = .ok (.iconst 0, 1) := by decide +kernel
theorem dL_execute_15 : decode cL_execute 15 = .ok (.ireturn, 1) := by decide +kernel
theorem dL_undo_0 : decode cL_undo 0 = .ok (.aload_n 1, 1) := by decide +kernel
theorem dL_undo_1 : decode cL_undo 1 = .ok (.iconst 0, 1) := by decide +kernel
theorem dL_undo_2 : decode cL_undo 2 = .ok (.aload_n 0, 1) := by decide +kernel
theorem dL_undo_3 : decode cL_undo 3 = .ok (.invokevirtual 51, 3) := by decide +kernel
theorem dL_undo_6 : decode cL_undo 6 = .ok (.i2l, 1) := by decide +kernel
theorem dL_undo_7 : decode cL_undo 7 = .ok (.lastore, 1) := by decide +kernel
theorem dL_undo_8 : decode cL_undo 8 = .ok (.goto 6, 3) := by decide +kernel
theorem dL_undo_11 : decode cL_undo 11 = .ok (.astore_n 2, 1) := by decide +kernel
theorem dL_undo_12 : decode cL_undo 12 = .ok (.iconst 1, 1) := by decide +kernel
theorem dL_undo_13 : decode cL_undo 13 = .ok (.ireturn, 1) := by decide +kernel
theorem dL_undo_14 : decode cL_undo 14 = .ok (.iconst 0, 1) := by decide +kernel
theorem dL_undo_15 : decode cL_undo 15 = .ok (.ireturn, 1) := by decide +kernel
theorem dL_keep_0 : decode cL_keep 0 = .ok (.aload_n 2, 1) := by decide +kernel
theorem dL_keep_1 : decode cL_keep 1 = .ok (.iconst 0, 1) := by decide +kernel
theorem dL_keep_2 : decode cL_keep 2 = .ok (.aload_n 0, 1) := by decide +kernel
theorem dL_keep_3 : decode cL_keep 3 = .ok (.iload_n 1, 1) := by decide +kernel
theorem dL_keep_4 : decode cL_keep 4 = .ok (.invokevirtual 54, 3) := by decide +kernel
theorem dL_keep_7 : decode cL_keep 7 = .ok (.i2l, 1) := by decide +kernel
theorem dL_keep_8 : decode cL_keep 8 = .ok (.lastore, 1) := by decide +kernel
theorem dL_keep_9 : decode cL_keep 9 = .ok (.goto 6, 3) := by decide +kernel
theorem dL_keep_12 : decode cL_keep 12 = .ok (.astore_n 3, 1) := by decide +kernel
theorem dL_keep_13 : decode cL_keep 13 = .ok (.iconst 1, 1) := by decide +kernel
theorem dL_keep_14 : decode cL_keep 14 = .ok (.ireturn, 1) := by decide +kernel
theorem dL_keep_15 : decode cL_keep 15 = .ok (.iconst 0, 1) := by decide +kernel
theorem dL_keep_16 : decode cL_keep 16 = .ok (.ireturn, 1) := by decide +kernel
theorem dL_goBack_0 : decode cL_goBack 0 = .ok (.aload_n 2, 1) := by decide +kernel
theorem dL_goBack_1 : decode cL_goBack 1 = .ok (.iconst 0, 1) := by decide +kernel
theorem dL_goBack_2 : decode cL_goBack 2 = .ok (.aload_n 0, 1) := by decide +kernel
theorem dL_goBack_3 : decode cL_goBack 3 = .ok (.iload_n 1, 1) := by decide +kernel
theorem dL_goBack_4 : decode cL_goBack 4 = .ok (.invokevirtual 57, 3) := by decide +kernel
theorem dL_goBack_7 : decode cL_goBack 7 = .ok (.i2l, 1) := by decide +kernel
theorem dL_goBack_8 : decode cL_goBack 8 = .ok (.lastore, 1) := by decide +kernel
theorem dL_goBack_9 : decode cL_goBack 9 = .ok (.goto 9, 3) := by decide +kernel
theorem dL_goBack_12 : decode cL_goBack 12 = .ok (.astore_n 3, 1) := by decide +kernel
theorem dL_goBack_13 : decode cL_goBack 13 = .ok (.iconst 1, 1) := by decide +kernel
theorem dL_goBack_14 : decode cL_goBack 14 = .ok (.ireturn, 1) := by decide +kernel
theorem dL_goBack_15 : decode cL_goBack 15 = .ok (.astore_n 3, 1) := by decide +kernel
theorem dL_goBack_16 : decode cL_goBack 16 = .ok (.iconst 2, 1) := by decide +kernel
theorem dL_goBack_17 : decode cL_goBack 17 = .ok (.ireturn, 1) := by decide +kernel
theorem dL_goBack_18 : decode cL_goBack 18 = .ok (.iconst 0, 1) := by decide +kernel
theorem dL_goBack_19 : decode cL_goBack 19 = .ok (.ireturn, 1) := by decide +kernel
theorem dL_section_0 : decode cL_section 0 = .ok (.aload_n 3, 1) := by decide +kernel
theorem dL_section_1 : decode cL_section 1 = .ok (.iconst 0, 1) := by decide +kernel
theorem dL_section_2 : decode cL_section 2 = .ok (.aload_n 0, 1) := by decide +kernel
theorem dL_section_3 : decode cL_section 3 = .ok (.iload_n 1, 1) := by decide +kernel
theorem dL_section_4 : decode cL_section 4 = .ok (.iload_n 2, 1) := by decide +kernel
theorem dL_section_5 : decode cL_section 5 = .ok (.invokevirtual 60, 3) := by decide +kernel
theorem dL_section_8 : decode cL_section 8 = .ok (.i2l, 1) := by decide +kernel
theorem dL_section_9 : decode cL_section 9 = .ok (.lastore, 1) := by decide +kernel
theorem dL_section_10 : decode cL_section 10 = .ok (.goto 11, 3) := by decide +kernel
theorem dL_section_13 : decode cL_section 13 = .ok (.astore 4, 2) := by decide +kernel
theorem dL_section_15 : decode cL_section 15 = .ok (.iconst 1, 1) := by decide +kernel
theorem dL_section_16 : decode cL_section 16 = .ok (.ireturn, 1) := by decide +kernel
theorem dL_section_17 : decode cL_section 17 = .ok (.astore 4, 2) := by decide +kernel
theorem dL_section_19 : decode cL_section 19 = .ok (.iconst 2, 1) := by decide +kernel
theorem dL_section_20 : decode cL_section 20 = .ok (.ireturn, 1) := by decide +kernel
theorem dL_section_21 : decode cL_section 21 = .ok (.iconst 0, 1) := by decide +kernel
theorem dL_section_22 : decode cL_section 22 = .ok (.ireturn, 1) := by decide +kernel
theorem dL_carOf_0 : decode cL_carOf 0 = .ok (.aload_n 3, 1) := by decide +kernel
theorem dL_carOf_1 : decode cL_carOf 1 = .ok (.iconst 0, 1) := by decide +kernel
theorem dL_carOf_2 : decode cL_carOf 2 = .ok (.aload_n 0, 1) := by decide +kernel
theorem dL_carOf_3 : decode cL_carOf 3 = .ok (.iload_n 1, 1) := by decide +kernel
theorem dL_carOf_4 : decode cL_carOf 4 = .ok (.iload_n 2, 1) := by decide +kernel
theorem dL_carOf_5 : decode cL_carOf 5 = .ok (.invokevirtual 63, 3) := by decide +kernel
theorem dL_carOf_8 : decode cL_carOf 8 = .ok (.i2l, 1) := by decide +kernel
theorem dL_carOf_9 : decode cL_carOf 9 = .ok (.lastore, 1) := by decide +kernel
theorem dL_carOf_10 : decode cL_carOf 10 = .ok (.goto 11, 3) := by decide +kernel
theorem dL_carOf_13 : decode cL_carOf 13 = .ok (.astore 4, 2) := by decide +kernel
theorem dL_carOf_15 : decode cL_carOf 15 = .ok (.iconst 1, 1) := by decide +kernel
theorem dL_carOf_16 : decode cL_carOf 16 = .ok (.ireturn, 1) := by decide +kernel
theorem dL_carOf_17 : decode cL_carOf 17 = .ok (.astore 4, 2) := by decide +kernel
theorem dL_carOf_19 : decode cL_carOf 19 = .ok (.iconst 2, 1) := by decide +kernel
theorem dL_carOf_20 : decode cL_carOf 20 = .ok (.ireturn, 1) := by decide +kernel
theorem dL_carOf_21 : decode cL_carOf 21 = .ok (.iconst 0, 1) := by decide +kernel
theorem dL_carOf_22 : decode cL_carOf 22 = .ok (.ireturn, 1) := by decide +kernel
theorem dL_cars_0 : decode cL_cars 0 = .ok (.aload_n 2, 1) := by decide +kernel
theorem dL_cars_1 : decode cL_cars 1 = .ok (.iconst 0, 1) := by decide +kernel
theorem dL_cars_2 : decode cL_cars 2 = .ok (.aload_n 0, 1) := by decide +kernel
theorem dL_cars_3 : decode cL_cars 3 = .ok (.iload_n 1, 1) := by decide +kernel
theorem dL_cars_4 : decode cL_cars 4 = .ok (.invokevirtual 66, 3) := by decide +kernel
theorem dL_cars_7 : decode cL_cars 7 = .ok (.i2l, 1) := by decide +kernel
theorem dL_cars_8 : decode cL_cars 8 = .ok (.lastore, 1) := by decide +kernel
theorem dL_cars_9 : decode cL_cars 9 = .ok (.goto 6, 3) := by decide +kernel
theorem dL_cars_12 : decode cL_cars 12 = .ok (.astore_n 3, 1) := by decide +kernel
theorem dL_cars_13 : decode cL_cars 13 = .ok (.iconst 1, 1) := by decide +kernel
theorem dL_cars_14 : decode cL_cars 14 = .ok (.ireturn, 1) := by decide +kernel
theorem dL_cars_15 : decode cL_cars 15 = .ok (.iconst 0, 1) := by decide +kernel
theorem dL_cars_16 : decode cL_cars 16 = .ok (.ireturn, 1) := by decide +kernel
theorem dL_rolling_0 : decode cL_rolling 0 = .ok (.aload_n 2, 1) := by decide +kernel
theorem dL_rolling_1 : decode cL_rolling 1 = .ok (.iconst 0, 1) := by decide +kernel
theorem dL_rolling_2 : decode cL_rolling 2 = .ok (.aload_n 0, 1) := by decide +kernel
theorem dL_rolling_3 : decode cL_rolling 3 = .ok (.iload_n 1, 1) := by decide +kernel
theorem dL_rolling_4 : decode cL_rolling 4 = .ok (.invokevirtual 69, 3) := by decide +kernel
theorem dL_rolling_7 : decode cL_rolling 7 = .ok (.i2l, 1) := by decide +kernel
theorem dL_rolling_8 : decode cL_rolling 8 = .ok (.lastore, 1) := by decide +kernel
theorem dL_rolling_9 : decode cL_rolling 9 = .ok (.goto 6, 3) := by decide +kernel
theorem dL_rolling_12 : decode cL_rolling 12 = .ok (.astore_n 3, 1) := by decide +kernel
theorem dL_rolling_13 : decode cL_rolling 13 = .ok (.iconst 1, 1) := by decide +kernel
theorem dL_rolling_14 : decode cL_rolling 14 = .ok (.ireturn, 1) := by decide +kernel
theorem dL_rolling_15 : decode cL_rolling 15 = .ok (.iconst 0, 1) := by decide +kernel
theorem dL_rolling_16 : decode cL_rolling 16 = .ok (.ireturn, 1) := by decide +kernel
theorem dL_count_0 : decode cL_count 0 = .ok (.aload_n 2, 1) := by decide +kernel
theorem dL_count_1 : decode cL_count 1 = .ok (.iconst 0, 1) := by decide +kernel
theorem dL_count_2 : decode cL_count 2 = .ok (.aload_n 0, 1) := by decide +kernel
theorem dL_count_3 : decode cL_count 3 = .ok (.iload_n 1, 1) := by decide +kernel
theorem dL_count_4 : decode cL_count 4 = .ok (.invokevirtual 72, 3) := by decide +kernel
theorem dL_count_7 : decode cL_count 7 = .ok (.i2l, 1) := by decide +kernel
theorem dL_count_8 : decode cL_count 8 = .ok (.lastore, 1) := by decide +kernel
theorem dL_count_9 : decode cL_count 9 = .ok (.goto 6, 3) := by decide +kernel
theorem dL_count_12 : decode cL_count 12 = .ok (.astore_n 3, 1) := by decide +kernel
theorem dL_count_13 : decode cL_count 13 = .ok (.iconst 1, 1) := by decide +kernel
theorem dL_count_14 : decode cL_count 14 = .ok (.ireturn, 1) := by decide +kernel
theorem dL_count_15 : decode cL_count 15 = .ok (.iconst 0, 1) := by decide +kernel
theorem dL_count_16 : decode cL_count 16 = .ok (.ireturn, 1) := by decide +kernel
theorem dL_refusal_0 : decode cL_refusal 0 = .ok (.aload_n 3, 1) := by decide +kernel
theorem dL_refusal_1 : decode cL_refusal 1 = .ok (.iconst 0, 1) := by decide +kernel
theorem dL_refusal_2 : decode cL_refusal 2 = .ok (.aload_n 0, 1) := by decide +kernel
theorem dL_refusal_3 : decode cL_refusal 3 = .ok (.iload_n 1, 1) := by decide +kernel
theorem dL_refusal_4 : decode cL_refusal 4 = .ok (.iload_n 2, 1) := by decide +kernel
theorem dL_refusal_5 : decode cL_refusal 5 = .ok (.invokevirtual 75, 3) := by decide +kernel
theorem dL_refusal_8 : decode cL_refusal 8 = .ok (.i2l, 1) := by decide +kernel
theorem dL_refusal_9 : decode cL_refusal 9 = .ok (.lastore, 1) := by decide +kernel
theorem dL_refusal_10 : decode cL_refusal 10 = .ok (.goto 7, 3) := by decide +kernel
theorem dL_refusal_13 : decode cL_refusal 13 = .ok (.astore 4, 2) := by decide +kernel
theorem dL_refusal_15 : decode cL_refusal 15 = .ok (.iconst 1, 1) := by decide +kernel
theorem dL_refusal_16 : decode cL_refusal 16 = .ok (.ireturn, 1) := by decide +kernel
theorem dL_refusal_17 : decode cL_refusal 17 = .ok (.iconst 0, 1) := by decide +kernel
theorem dL_refusal_18 : decode cL_refusal 18 = .ok (.ireturn, 1) := by decide +kernel
theorem dL_ifAlone_0 : decode cL_ifAlone 0 = .ok (.aload 4, 2) := by decide +kernel
theorem dL_ifAlone_2 : decode cL_ifAlone 2 = .ok (.iconst 0, 1) := by decide +kernel
theorem dL_ifAlone_3 : decode cL_ifAlone 3 = .ok (.aload_n 0, 1) := by decide +kernel
theorem dL_ifAlone_4 : decode cL_ifAlone 4 = .ok (.iload_n 1, 1) := by decide +kernel
theorem dL_ifAlone_5 : decode cL_ifAlone 5 = .ok (.iload_n 2, 1) := by decide +kernel
theorem dL_ifAlone_6 : decode cL_ifAlone 6 = .ok (.iload_n 3, 1) := by decide +kernel
theorem dL_ifAlone_7 : decode cL_ifAlone 7 = .ok (.invokevirtual 79, 3) := by decide +kernel
theorem dL_ifAlone_10 : decode cL_ifAlone 10 = .ok (.i2l, 1) := by decide +kernel
theorem dL_ifAlone_11 : decode cL_ifAlone 11 = .ok (.lastore, 1) := by decide +kernel
theorem dL_ifAlone_12 : decode cL_ifAlone 12 = .ok (.goto 7, 3) := by decide +kernel
theorem dL_ifAlone_15 : decode cL_ifAlone 15 = .ok (.astore 5, 2) := by decide +kernel
theorem dL_ifAlone_17 : decode cL_ifAlone 17 = .ok (.iconst 1, 1) := by decide +kernel
theorem dL_ifAlone_18 : decode cL_ifAlone 18 = .ok (.ireturn, 1) := by decide +kernel
theorem dL_ifAlone_19 : decode cL_ifAlone 19 = .ok (.iconst 0, 1) := by decide +kernel
theorem dL_ifAlone_20 : decode cL_ifAlone 20 = .ok (.ireturn, 1) := by decide +kernel
theorem dL_leastBrake_0 : decode cL_leastBrake 0 = .ok (.aload_n 2, 1) := by decide +kernel
theorem dL_leastBrake_1 : decode cL_leastBrake 1 = .ok (.iconst 0, 1) := by decide +kernel
theorem dL_leastBrake_2 : decode cL_leastBrake 2 = .ok (.aload_n 0, 1) := by decide +kernel
theorem dL_leastBrake_3 : decode cL_leastBrake 3 = .ok (.iload_n 1, 1) := by decide +kernel
theorem dL_leastBrake_4 : decode cL_leastBrake 4 = .ok (.invokevirtual 83, 3) := by decide +kernel
theorem dL_leastBrake_7 : decode cL_leastBrake 7 = .ok (.i2l, 1) := by decide +kernel
theorem dL_leastBrake_8 : decode cL_leastBrake 8 = .ok (.lastore, 1) := by decide +kernel
theorem dL_leastBrake_9 : decode cL_leastBrake 9 = .ok (.goto 6, 3) := by decide +kernel
theorem dL_leastBrake_12 : decode cL_leastBrake 12 = .ok (.astore_n 3, 1) := by decide +kernel
theorem dL_leastBrake_13 : decode cL_leastBrake 13 = .ok (.iconst 1, 1) := by decide +kernel
theorem dL_leastBrake_14 : decode cL_leastBrake 14 = .ok (.ireturn, 1) := by decide +kernel
theorem dL_leastBrake_15 : decode cL_leastBrake 15 = .ok (.iconst 0, 1) := by decide +kernel
theorem dL_leastBrake_16 : decode cL_leastBrake 16 = .ok (.ireturn, 1) := by decide +kernel
theorem dL_ifRun_0 : decode cL_ifRun 0 = .ok (.aload_n 3, 1) := by decide +kernel
theorem dL_ifRun_1 : decode cL_ifRun 1 = .ok (.iconst 0, 1) := by decide +kernel
theorem dL_ifRun_2 : decode cL_ifRun 2 = .ok (.aload_n 0, 1) := by decide +kernel
theorem dL_ifRun_3 : decode cL_ifRun 3 = .ok (.iload_n 1, 1) := by decide +kernel
theorem dL_ifRun_4 : decode cL_ifRun 4 = .ok (.iload_n 2, 1) := by decide +kernel
theorem dL_ifRun_5 : decode cL_ifRun 5 = .ok (.invokevirtual 86, 3) := by decide +kernel
theorem dL_ifRun_8 : decode cL_ifRun 8 = .ok (.i2l, 1) := by decide +kernel
theorem dL_ifRun_9 : decode cL_ifRun 9 = .ok (.lastore, 1) := by decide +kernel
theorem dL_ifRun_10 : decode cL_ifRun 10 = .ok (.goto 7, 3) := by decide +kernel
theorem dL_ifRun_13 : decode cL_ifRun 13 = .ok (.astore 4, 2) := by decide +kernel
theorem dL_ifRun_15 : decode cL_ifRun 15 = .ok (.iconst 1, 1) := by decide +kernel
theorem dL_ifRun_16 : decode cL_ifRun 16 = .ok (.ireturn, 1) := by decide +kernel
theorem dL_ifRun_17 : decode cL_ifRun 17 = .ok (.iconst 0, 1) := by decide +kernel
theorem dL_ifRun_18 : decode cL_ifRun 18 = .ok (.ireturn, 1) := by decide +kernel
theorem dL_law_0 : decode cL_law 0 = .ok (.new 8, 3) := by decide +kernel
theorem dL_law_3 : decode cL_law 3 = .ok (.dup, 1) := by decide +kernel
theorem dL_law_4 : decode cL_law 4 = .ok (.invokespecial 89, 3) := by decide +kernel
theorem dL_law_7 : decode cL_law 7 = .ok (.astore_n 1, 1) := by decide +kernel
theorem dL_law_8 : decode cL_law 8 = .ok (.new 90, 3) := by decide +kernel
theorem dL_law_11 : decode cL_law 11 = .ok (.dup, 1) := by decide +kernel
theorem dL_law_12 : decode cL_law 12 = .ok (.invokespecial 92, 3) := by decide +kernel
theorem dL_law_15 : decode cL_law 15 = .ok (.astore_n 2, 1) := by decide +kernel
theorem dL_law_16 : decode cL_law 16 = .ok (.iconst 1, 1) := by decide +kernel
theorem dL_law_17 : decode cL_law 17 = .ok (.newarray .long, 2) := by decide +kernel
theorem dL_law_19 : decode cL_law 19 = .ok (.astore_n 3, 1) := by decide +kernel
theorem dL_law_20 : decode cL_law 20 = .ok (.iconst 0, 1) := by decide +kernel
theorem dL_law_21 : decode cL_law 21 = .ok (.istore 4, 2) := by decide +kernel
theorem dL_law_23 : decode cL_law 23 = .ok (.iload 4, 2) := by decide +kernel
theorem dL_law_25 : decode cL_law 25 = .ok (.aload_n 0, 1) := by decide +kernel
theorem dL_law_26 : decode cL_law 26 = .ok (.arraylength, 1) := by decide +kernel
theorem dL_law_27 : decode cL_law 27 = .ok (.iconst 4, 1) := by decide +kernel
theorem dL_law_28 : decode cL_law 28 = .ok (.isub, 1) := by decide +kernel
theorem dL_law_29 : decode cL_law 29 = .ok (.if_icmp .gt 1614, 3) := by decide +kernel
theorem dL_law_32 : decode cL_law 32 = .ok (.aload_n 0, 1) := by decide +kernel
theorem dL_law_33 : decode cL_law 33 = .ok (.iload 4, 2) := by decide +kernel
theorem dL_law_35 : decode cL_law 35 = .ok (.iaload, 1) := by decide +kernel
theorem dL_law_36 : decode cL_law 36 = .ok (.bipush 31, 2) := by decide +kernel
theorem dL_law_38 : decode cL_law 38 = .ok (.iand, 1) := by decide +kernel
theorem dL_law_39 : decode cL_law 39 = .ok (.tableswitch 1598 0 25 #[117, 185, 253, 297, 365, 433, 501, 557, 625, 681, 737, 750, 763, 807, 851, 907, 963, 1031, 1099, 1155, 1211, 1267, 1351, 1431, 1487, 1555], 117) := by decide +kernel
theorem dL_law_156 : decode cL_law 156 = .ok (.aload_n 1, 1) := by decide +kernel
theorem dL_law_157 : decode cL_law 157 = .ok (.aload_n 0, 1) := by decide +kernel
theorem dL_law_158 : decode cL_law 158 = .ok (.iload 4, 2) := by decide +kernel
theorem dL_law_160 : decode cL_law 160 = .ok (.iconst 1, 1) := by decide +kernel
theorem dL_law_161 : decode cL_law 161 = .ok (.iadd, 1) := by decide +kernel
theorem dL_law_162 : decode cL_law 162 = .ok (.iaload, 1) := by decide +kernel
theorem dL_law_163 : decode cL_law 163 = .ok (.aload_n 0, 1) := by decide +kernel
theorem dL_law_164 : decode cL_law 164 = .ok (.iload 4, 2) := by decide +kernel
theorem dL_law_166 : decode cL_law 166 = .ok (.iconst 2, 1) := by decide +kernel
theorem dL_law_167 : decode cL_law 167 = .ok (.iadd, 1) := by decide +kernel
theorem dL_law_168 : decode cL_law 168 = .ok (.iaload, 1) := by decide +kernel
theorem dL_law_169 : decode cL_law 169 = .ok (.aload_n 3, 1) := by decide +kernel
theorem dL_law_170 : decode cL_law 170 = .ok (.invokestatic 93, 3) := by decide +kernel
theorem dL_law_173 : decode cL_law 173 = .ok (.istore 5, 2) := by decide +kernel
theorem dL_law_175 : decode cL_law 175 = .ok (.aload_n 2, 1) := by decide +kernel
theorem dL_law_176 : decode cL_law 176 = .ok (.aload_n 0, 1) := by decide +kernel
theorem dL_law_177 : decode cL_law 177 = .ok (.iload 4, 2) := by decide +kernel
theorem dL_law_179 : decode cL_law 179 = .ok (.iconst 1, 1) := by decide +kernel
theorem dL_law_180 : decode cL_law 180 = .ok (.iadd, 1) := by decide +kernel
theorem dL_law_181 : decode cL_law 181 = .ok (.iaload, 1) := by decide +kernel
theorem dL_law_182 : decode cL_law 182 = .ok (.aload_n 0, 1) := by decide +kernel
theorem dL_law_183 : decode cL_law 183 = .ok (.iload 4, 2) := by decide +kernel
theorem dL_law_185 : decode cL_law 185 = .ok (.iconst 2, 1) := by decide +kernel
theorem dL_law_186 : decode cL_law 186 = .ok (.iadd, 1) := by decide +kernel
theorem dL_law_187 : decode cL_law 187 = .ok (.iaload, 1) := by decide +kernel
theorem dL_law_188 : decode cL_law 188 = .ok (.invokevirtual 98, 3) := by decide +kernel
theorem dL_law_191 : decode cL_law 191 = .ok (.istore 6, 2) := by decide +kernel
theorem dL_law_193 : decode cL_law 193 = .ok (.aload_n 2, 1) := by decide +kernel
theorem dL_law_194 : decode cL_law 194 = .ok (.invokevirtual 99, 3) := by decide +kernel
theorem dL_law_197 : decode cL_law 197 = .ok (.iload 5, 2) := by decide +kernel
theorem dL_law_199 : decode cL_law 199 = .ok (.if_icmp .eq 5, 3) := by decide +kernel
theorem dL_law_202 : decode cL_law 202 = .ok (.iconst 0, 1) := by decide +kernel
theorem dL_law_203 : decode cL_law 203 = .ok (.ireturn, 1) := by decide +kernel
theorem dL_law_204 : decode cL_law 204 = .ok (.iload 5, 2) := by decide +kernel
theorem dL_law_206 : decode cL_law 206 = .ok (.ifCond .ne 15, 3) := by decide +kernel
theorem dL_law_209 : decode cL_law 209 = .ok (.aload_n 3, 1) := by decide +kernel
theorem dL_law_210 : decode cL_law 210 = .ok (.iconst 0, 1) := by decide +kernel
theorem dL_law_211 : decode cL_law 211 = .ok (.laload, 1) := by decide +kernel
theorem dL_law_212 : decode cL_law 212 = .ok (.iload 6, 2) := by decide +kernel
theorem dL_law_214 : decode cL_law 214 = .ok (.i2l, 1) := by decide +kernel
theorem dL_law_215 : decode cL_law 215 = .ok (.lcmp, 1) := by decide +kernel
theorem dL_law_216 : decode cL_law 216 = .ok (.ifCond .eq 5, 3) := by decide +kernel
theorem dL_law_219 : decode cL_law 219 = .ok (.iconst 0, 1) := by decide +kernel
theorem dL_law_220 : decode cL_law 220 = .ok (.ireturn, 1) := by decide +kernel
theorem dL_law_221 : decode cL_law 221 = .ok (.goto 1416, 3) := by decide +kernel
theorem dL_law_224 : decode cL_law 224 = .ok (.aload_n 1, 1) := by decide +kernel
theorem dL_law_225 : decode cL_law 225 = .ok (.aload_n 0, 1) := by decide +kernel
theorem dL_law_226 : decode cL_law 226 = .ok (.iload 4, 2) := by decide +kernel
theorem dL_law_228 : decode cL_law 228 = .ok (.iconst 1, 1) := by decide +kernel
theorem dL_law_229 : decode cL_law 229 = .ok (.iadd, 1) := by decide +kernel
theorem dL_law_230 : decode cL_law 230 = .ok (.iaload, 1) := by decide +kernel
theorem dL_law_231 : decode cL_law 231 = .ok (.aload_n 0, 1) := by decide +kernel
theorem dL_law_232 : decode cL_law 232 = .ok (.iload 4, 2) := by decide +kernel
theorem dL_law_234 : decode cL_law 234 = .ok (.iconst 2, 1) := by decide +kernel
theorem dL_law_235 : decode cL_law 235 = .ok (.iadd, 1) := by decide +kernel
theorem dL_law_236 : decode cL_law 236 = .ok (.iaload, 1) := by decide +kernel
theorem dL_law_237 : decode cL_law 237 = .ok (.aload_n 3, 1) := by decide +kernel
theorem dL_law_238 : decode cL_law 238 = .ok (.invokestatic 102, 3) := by decide +kernel
theorem dL_law_241 : decode cL_law 241 = .ok (.istore 5, 2) := by decide +kernel
theorem dL_law_243 : decode cL_law 243 = .ok (.aload_n 2, 1) := by decide +kernel
theorem dL_law_244 : decode cL_law 244 = .ok (.aload_n 0, 1) := by decide +kernel
theorem dL_law_245 : decode cL_law 245 = .ok (.iload 4, 2) := by decide +kernel
theorem dL_law_247 : decode cL_law 247 = .ok (.iconst 1, 1) := by decide +kernel
theorem dL_law_248 : decode cL_law 248 = .ok (.iadd, 1) := by decide +kernel
theorem dL_law_249 : decode cL_law 249 = .ok (.iaload, 1) := by decide +kernel
theorem dL_law_250 : decode cL_law 250 = .ok (.aload_n 0, 1) := by decide +kernel
theorem dL_law_251 : decode cL_law 251 = .ok (.iload 4, 2) := by decide +kernel
theorem dL_law_253 : decode cL_law 253 = .ok (.iconst 2, 1) := by decide +kernel
theorem dL_law_254 : decode cL_law 254 = .ok (.iadd, 1) := by decide +kernel
theorem dL_law_255 : decode cL_law 255 = .ok (.iaload, 1) := by decide +kernel
theorem dL_law_256 : decode cL_law 256 = .ok (.invokevirtual 104, 3) := by decide +kernel
theorem dL_law_259 : decode cL_law 259 = .ok (.istore 6, 2) := by decide +kernel
theorem dL_law_261 : decode cL_law 261 = .ok (.aload_n 2, 1) := by decide +kernel
theorem dL_law_262 : decode cL_law 262 = .ok (.invokevirtual 99, 3) := by decide +kernel
theorem dL_law_265 : decode cL_law 265 = .ok (.iload 5, 2) := by decide +kernel
theorem dL_law_267 : decode cL_law 267 = .ok (.if_icmp .eq 5, 3) := by decide +kernel
theorem dL_law_270 : decode cL_law 270 = .ok (.iconst 0, 1) := by decide +kernel
theorem dL_law_271 : decode cL_law 271 = .ok (.ireturn, 1) := by decide +kernel
theorem dL_law_272 : decode cL_law 272 = .ok (.iload 5, 2) := by decide +kernel
theorem dL_law_274 : decode cL_law 274 = .ok (.ifCond .ne 15, 3) := by decide +kernel
theorem dL_law_277 : decode cL_law 277 = .ok (.aload_n 3, 1) := by decide +kernel
theorem dL_law_278 : decode cL_law 278 = .ok (.iconst 0, 1) := by decide +kernel
theorem dL_law_279 : decode cL_law 279 = .ok (.laload, 1) := by decide +kernel
theorem dL_law_280 : decode cL_law 280 = .ok (.iload 6, 2) := by decide +kernel
theorem dL_law_282 : decode cL_law 282 = .ok (.i2l, 1) := by decide +kernel
theorem dL_law_283 : decode cL_law 283 = .ok (.lcmp, 1) := by decide +kernel
theorem dL_law_284 : decode cL_law 284 = .ok (.ifCond .eq 5, 3) := by decide +kernel
theorem dL_law_287 : decode cL_law 287 = .ok (.iconst 0, 1) := by decide +kernel
theorem dL_law_288 : decode cL_law 288 = .ok (.ireturn, 1) := by decide +kernel
theorem dL_law_289 : decode cL_law 289 = .ok (.goto 1348, 3) := by decide +kernel
theorem dL_law_292 : decode cL_law 292 = .ok (.aload_n 1, 1) := by decide +kernel
theorem dL_law_293 : decode cL_law 293 = .ok (.aload_n 3, 1) := by decide +kernel
theorem dL_law_294 : decode cL_law 294 = .ok (.invokestatic 105, 3) := by decide +kernel
theorem dL_law_297 : decode cL_law 297 = .ok (.istore 5, 2) := by decide +kernel
theorem dL_law_299 : decode cL_law 299 = .ok (.aload_n 2, 1) := by decide +kernel
theorem dL_law_300 : decode cL_law 300 = .ok (.invokevirtual 108, 3) := by decide +kernel
theorem dL_law_303 : decode cL_law 303 = .ok (.istore 6, 2) := by decide +kernel
theorem dL_law_305 : decode cL_law 305 = .ok (.aload_n 2, 1) := by decide +kernel
theorem dL_law_306 : decode cL_law 306 = .ok (.invokevirtual 99, 3) := by decide +kernel
theorem dL_law_309 : decode cL_law 309 = .ok (.iload 5, 2) := by decide +kernel
theorem dL_law_311 : decode cL_law 311 = .ok (.if_icmp .eq 5, 3) := by decide +kernel
theorem dL_law_314 : decode cL_law 314 = .ok (.iconst 0, 1) := by decide +kernel
theorem dL_law_315 : decode cL_law 315 = .ok (.ireturn, 1) := by decide +kernel
theorem dL_law_316 : decode cL_law 316 = .ok (.iload 5, 2) := by decide +kernel
theorem dL_law_318 : decode cL_law 318 = .ok (.ifCond .ne 15, 3) := by decide +kernel
theorem dL_law_321 : decode cL_law 321 = .ok (.aload_n 3, 1) := by decide +kernel
theorem dL_law_322 : decode cL_law 322 = .ok (.iconst 0, 1) := by decide +kernel
theorem dL_law_323 : decode cL_law 323 = .ok (.laload, 1) := by decide +kernel
theorem dL_law_324 : decode cL_law 324 = .ok (.iload 6, 2) := by decide +kernel
theorem dL_law_326 : decode cL_law 326 = .ok (.i2l, 1) := by decide +kernel
theorem dL_law_327 : decode cL_law 327 = .ok (.lcmp, 1) := by decide +kernel
theorem dL_law_328 : decode cL_law 328 = .ok (.ifCond .eq 5, 3) := by decide +kernel
theorem dL_law_331 : decode cL_law 331 = .ok (.iconst 0, 1) := by decide +kernel
theorem dL_law_332 : decode cL_law 332 = .ok (.ireturn, 1) := by decide +kernel
theorem dL_law_333 : decode cL_law 333 = .ok (.goto 1304, 3) := by decide +kernel
theorem dL_law_336 : decode cL_law 336 = .ok (.aload_n 1, 1) := by decide +kernel
theorem dL_law_337 : decode cL_law 337 = .ok (.aload_n 0, 1) := by decide +kernel
theorem dL_law_338 : decode cL_law 338 = .ok (.iload 4, 2) := by decide +kernel
theorem dL_law_340 : decode cL_law 340 = .ok (.iconst 1, 1) := by decide +kernel
theorem dL_law_341 : decode cL_law 341 = .ok (.iadd, 1) := by decide +kernel
theorem dL_law_342 : decode cL_law 342 = .ok (.iaload, 1) := by decide +kernel
theorem dL_law_343 : decode cL_law 343 = .ok (.aload_n 0, 1) := by decide +kernel
theorem dL_law_344 : decode cL_law 344 = .ok (.iload 4, 2) := by decide +kernel
theorem dL_law_346 : decode cL_law 346 = .ok (.iconst 2, 1) := by decide +kernel
theorem dL_law_347 : decode cL_law 347 = .ok (.iadd, 1) := by decide +kernel
theorem dL_law_348 : decode cL_law 348 = .ok (.iaload, 1) := by decide +kernel
theorem dL_law_349 : decode cL_law 349 = .ok (.aload_n 3, 1) := by decide +kernel
theorem dL_law_350 : decode cL_law 350 = .ok (.invokestatic 109, 3) := by decide +kernel
theorem dL_law_353 : decode cL_law 353 = .ok (.istore 5, 2) := by decide +kernel
theorem dL_law_355 : decode cL_law 355 = .ok (.aload_n 2, 1) := by decide +kernel
theorem dL_law_356 : decode cL_law 356 = .ok (.aload_n 0, 1) := by decide +kernel
theorem dL_law_357 : decode cL_law 357 = .ok (.iload 4, 2) := by decide +kernel
theorem dL_law_359 : decode cL_law 359 = .ok (.iconst 1, 1) := by decide +kernel
theorem dL_law_360 : decode cL_law 360 = .ok (.iadd, 1) := by decide +kernel
theorem dL_law_361 : decode cL_law 361 = .ok (.iaload, 1) := by decide +kernel
theorem dL_law_362 : decode cL_law 362 = .ok (.aload_n 0, 1) := by decide +kernel
theorem dL_law_363 : decode cL_law 363 = .ok (.iload 4, 2) := by decide +kernel
theorem dL_law_365 : decode cL_law 365 = .ok (.iconst 2, 1) := by decide +kernel
theorem dL_law_366 : decode cL_law 366 = .ok (.iadd, 1) := by decide +kernel
theorem dL_law_367 : decode cL_law 367 = .ok (.iaload, 1) := by decide +kernel
theorem dL_law_368 : decode cL_law 368 = .ok (.invokevirtual 111, 3) := by decide +kernel
theorem dL_law_371 : decode cL_law 371 = .ok (.istore 6, 2) := by decide +kernel
theorem dL_law_373 : decode cL_law 373 = .ok (.aload_n 2, 1) := by decide +kernel
theorem dL_law_374 : decode cL_law 374 = .ok (.invokevirtual 99, 3) := by decide +kernel
theorem dL_law_377 : decode cL_law 377 = .ok (.iload 5, 2) := by decide +kernel
theorem dL_law_379 : decode cL_law 379 = .ok (.if_icmp .eq 5, 3) := by decide +kernel
theorem dL_law_382 : decode cL_law 382 = .ok (.iconst 0, 1) := by decide +kernel
theorem dL_law_383 : decode cL_law 383 = .ok (.ireturn, 1) := by decide +kernel
theorem dL_law_384 : decode cL_law 384 = .ok (.iload 5, 2) := by decide +kernel
theorem dL_law_386 : decode cL_law 386 = .ok (.ifCond .ne 15, 3) := by decide +kernel
theorem dL_law_389 : decode cL_law 389 = .ok (.aload_n 3, 1) := by decide +kernel
theorem dL_law_390 : decode cL_law 390 = .ok (.iconst 0, 1) := by decide +kernel
theorem dL_law_391 : decode cL_law 391 = .ok (.laload, 1) := by decide +kernel
theorem dL_law_392 : decode cL_law 392 = .ok (.iload 6, 2) := by decide +kernel
theorem dL_law_394 : decode cL_law 394 = .ok (.i2l, 1) := by decide +kernel
theorem dL_law_395 : decode cL_law 395 = .ok (.lcmp, 1) := by decide +kernel
theorem dL_law_396 : decode cL_law 396 = .ok (.ifCond .eq 5, 3) := by decide +kernel
theorem dL_law_399 : decode cL_law 399 = .ok (.iconst 0, 1) := by decide +kernel
theorem dL_law_400 : decode cL_law 400 = .ok (.ireturn, 1) := by decide +kernel
theorem dL_law_401 : decode cL_law 401 = .ok (.goto 1236, 3) := by decide +kernel
theorem dL_law_404 : decode cL_law 404 = .ok (.aload_n 1, 1) := by decide +kernel
theorem dL_law_405 : decode cL_law 405 = .ok (.aload_n 0, 1) := by decide +kernel
theorem dL_law_406 : decode cL_law 406 = .ok (.iload 4, 2) := by decide +kernel
theorem dL_law_408 : decode cL_law 408 = .ok (.iconst 1, 1) := by decide +kernel
theorem dL_law_409 : decode cL_law 409 = .ok (.iadd, 1) := by decide +kernel
theorem dL_law_410 : decode cL_law 410 = .ok (.iaload, 1) := by decide +kernel
theorem dL_law_411 : decode cL_law 411 = .ok (.aload_n 0, 1) := by decide +kernel
theorem dL_law_412 : decode cL_law 412 = .ok (.iload 4, 2) := by decide +kernel
theorem dL_law_414 : decode cL_law 414 = .ok (.iconst 2, 1) := by decide +kernel
theorem dL_law_415 : decode cL_law 415 = .ok (.iadd, 1) := by decide +kernel
theorem dL_law_416 : decode cL_law 416 = .ok (.iaload, 1) := by decide +kernel
theorem dL_law_417 : decode cL_law 417 = .ok (.aload_n 3, 1) := by decide +kernel
theorem dL_law_418 : decode cL_law 418 = .ok (.invokestatic 112, 3) := by decide +kernel
theorem dL_law_421 : decode cL_law 421 = .ok (.istore 5, 2) := by decide +kernel
theorem dL_law_423 : decode cL_law 423 = .ok (.aload_n 2, 1) := by decide +kernel
theorem dL_law_424 : decode cL_law 424 = .ok (.aload_n 0, 1) := by decide +kernel
theorem dL_law_425 : decode cL_law 425 = .ok (.iload 4, 2) := by decide +kernel
theorem dL_law_427 : decode cL_law 427 = .ok (.iconst 1, 1) := by decide +kernel
theorem dL_law_428 : decode cL_law 428 = .ok (.iadd, 1) := by decide +kernel
theorem dL_law_429 : decode cL_law 429 = .ok (.iaload, 1) := by decide +kernel
theorem dL_law_430 : decode cL_law 430 = .ok (.aload_n 0, 1) := by decide +kernel
theorem dL_law_431 : decode cL_law 431 = .ok (.iload 4, 2) := by decide +kernel
theorem dL_law_433 : decode cL_law 433 = .ok (.iconst 2, 1) := by decide +kernel
theorem dL_law_434 : decode cL_law 434 = .ok (.iadd, 1) := by decide +kernel
theorem dL_law_435 : decode cL_law 435 = .ok (.iaload, 1) := by decide +kernel
theorem dL_law_436 : decode cL_law 436 = .ok (.invokevirtual 114, 3) := by decide +kernel
theorem dL_law_439 : decode cL_law 439 = .ok (.istore 6, 2) := by decide +kernel
theorem dL_law_441 : decode cL_law 441 = .ok (.aload_n 2, 1) := by decide +kernel
theorem dL_law_442 : decode cL_law 442 = .ok (.invokevirtual 99, 3) := by decide +kernel
theorem dL_law_445 : decode cL_law 445 = .ok (.iload 5, 2) := by decide +kernel
theorem dL_law_447 : decode cL_law 447 = .ok (.if_icmp .eq 5, 3) := by decide +kernel
theorem dL_law_450 : decode cL_law 450 = .ok (.iconst 0, 1) := by decide +kernel
theorem dL_law_451 : decode cL_law 451 = .ok (.ireturn, 1) := by decide +kernel
theorem dL_law_452 : decode cL_law 452 = .ok (.iload 5, 2) := by decide +kernel
theorem dL_law_454 : decode cL_law 454 = .ok (.ifCond .ne 15, 3) := by decide +kernel
theorem dL_law_457 : decode cL_law 457 = .ok (.aload_n 3, 1) := by decide +kernel
theorem dL_law_458 : decode cL_law 458 = .ok (.iconst 0, 1) := by decide +kernel
theorem dL_law_459 : decode cL_law 459 = .ok (.laload, 1) := by decide +kernel
theorem dL_law_460 : decode cL_law 460 = .ok (.iload 6, 2) := by decide +kernel
theorem dL_law_462 : decode cL_law 462 = .ok (.i2l, 1) := by decide +kernel
theorem dL_law_463 : decode cL_law 463 = .ok (.lcmp, 1) := by decide +kernel
theorem dL_law_464 : decode cL_law 464 = .ok (.ifCond .eq 5, 3) := by decide +kernel
theorem dL_law_467 : decode cL_law 467 = .ok (.iconst 0, 1) := by decide +kernel
theorem dL_law_468 : decode cL_law 468 = .ok (.ireturn, 1) := by decide +kernel
theorem dL_law_469 : decode cL_law 469 = .ok (.goto 1168, 3) := by decide +kernel
theorem dL_law_472 : decode cL_law 472 = .ok (.aload_n 1, 1) := by decide +kernel
theorem dL_law_473 : decode cL_law 473 = .ok (.aload_n 0, 1) := by decide +kernel
theorem dL_law_474 : decode cL_law 474 = .ok (.iload 4, 2) := by decide +kernel
theorem dL_law_476 : decode cL_law 476 = .ok (.iconst 1, 1) := by decide +kernel
theorem dL_law_477 : decode cL_law 477 = .ok (.iadd, 1) := by decide +kernel
theorem dL_law_478 : decode cL_law 478 = .ok (.iaload, 1) := by decide +kernel
theorem dL_law_479 : decode cL_law 479 = .ok (.aload_n 0, 1) := by decide +kernel
theorem dL_law_480 : decode cL_law 480 = .ok (.iload 4, 2) := by decide +kernel
theorem dL_law_482 : decode cL_law 482 = .ok (.iconst 2, 1) := by decide +kernel
theorem dL_law_483 : decode cL_law 483 = .ok (.iadd, 1) := by decide +kernel
theorem dL_law_484 : decode cL_law 484 = .ok (.iaload, 1) := by decide +kernel
theorem dL_law_485 : decode cL_law 485 = .ok (.aload_n 3, 1) := by decide +kernel
theorem dL_law_486 : decode cL_law 486 = .ok (.invokestatic 115, 3) := by decide +kernel
theorem dL_law_489 : decode cL_law 489 = .ok (.istore 5, 2) := by decide +kernel
theorem dL_law_491 : decode cL_law 491 = .ok (.aload_n 2, 1) := by decide +kernel
theorem dL_law_492 : decode cL_law 492 = .ok (.aload_n 0, 1) := by decide +kernel
theorem dL_law_493 : decode cL_law 493 = .ok (.iload 4, 2) := by decide +kernel
theorem dL_law_495 : decode cL_law 495 = .ok (.iconst 1, 1) := by decide +kernel
theorem dL_law_496 : decode cL_law 496 = .ok (.iadd, 1) := by decide +kernel
theorem dL_law_497 : decode cL_law 497 = .ok (.iaload, 1) := by decide +kernel
theorem dL_law_498 : decode cL_law 498 = .ok (.aload_n 0, 1) := by decide +kernel
theorem dL_law_499 : decode cL_law 499 = .ok (.iload 4, 2) := by decide +kernel
theorem dL_law_501 : decode cL_law 501 = .ok (.iconst 2, 1) := by decide +kernel
theorem dL_law_502 : decode cL_law 502 = .ok (.iadd, 1) := by decide +kernel
theorem dL_law_503 : decode cL_law 503 = .ok (.iaload, 1) := by decide +kernel
theorem dL_law_504 : decode cL_law 504 = .ok (.invokevirtual 117, 3) := by decide +kernel
theorem dL_law_507 : decode cL_law 507 = .ok (.istore 6, 2) := by decide +kernel
theorem dL_law_509 : decode cL_law 509 = .ok (.aload_n 2, 1) := by decide +kernel
theorem dL_law_510 : decode cL_law 510 = .ok (.invokevirtual 99, 3) := by decide +kernel
theorem dL_law_513 : decode cL_law 513 = .ok (.iload 5, 2) := by decide +kernel
theorem dL_law_515 : decode cL_law 515 = .ok (.if_icmp .eq 5, 3) := by decide +kernel
theorem dL_law_518 : decode cL_law 518 = .ok (.iconst 0, 1) := by decide +kernel
theorem dL_law_519 : decode cL_law 519 = .ok (.ireturn, 1) := by decide +kernel
theorem dL_law_520 : decode cL_law 520 = .ok (.iload 5, 2) := by decide +kernel
theorem dL_law_522 : decode cL_law 522 = .ok (.ifCond .ne 15, 3) := by decide +kernel
theorem dL_law_525 : decode cL_law 525 = .ok (.aload_n 3, 1) := by decide +kernel
theorem dL_law_526 : decode cL_law 526 = .ok (.iconst 0, 1) := by decide +kernel
theorem dL_law_527 : decode cL_law 527 = .ok (.laload, 1) := by decide +kernel
theorem dL_law_528 : decode cL_law 528 = .ok (.iload 6, 2) := by decide +kernel
theorem dL_law_530 : decode cL_law 530 = .ok (.i2l, 1) := by decide +kernel
theorem dL_law_531 : decode cL_law 531 = .ok (.lcmp, 1) := by decide +kernel
theorem dL_law_532 : decode cL_law 532 = .ok (.ifCond .eq 5, 3) := by decide +kernel
theorem dL_law_535 : decode cL_law 535 = .ok (.iconst 0, 1) := by decide +kernel
theorem dL_law_536 : decode cL_law 536 = .ok (.ireturn, 1) := by decide +kernel
theorem dL_law_537 : decode cL_law 537 = .ok (.goto 1100, 3) := by decide +kernel
theorem dL_law_540 : decode cL_law 540 = .ok (.aload_n 1, 1) := by decide +kernel
theorem dL_law_541 : decode cL_law 541 = .ok (.aload_n 0, 1) := by decide +kernel
theorem dL_law_542 : decode cL_law 542 = .ok (.iload 4, 2) := by decide +kernel
theorem dL_law_544 : decode cL_law 544 = .ok (.iconst 1, 1) := by decide +kernel
theorem dL_law_545 : decode cL_law 545 = .ok (.iadd, 1) := by decide +kernel
theorem dL_law_546 : decode cL_law 546 = .ok (.iaload, 1) := by decide +kernel
theorem dL_law_547 : decode cL_law 547 = .ok (.aload_n 3, 1) := by decide +kernel
theorem dL_law_548 : decode cL_law 548 = .ok (.invokestatic 118, 3) := by decide +kernel
theorem dL_law_551 : decode cL_law 551 = .ok (.istore 5, 2) := by decide +kernel
theorem dL_law_553 : decode cL_law 553 = .ok (.aload_n 2, 1) := by decide +kernel
theorem dL_law_554 : decode cL_law 554 = .ok (.aload_n 0, 1) := by decide +kernel
theorem dL_law_555 : decode cL_law 555 = .ok (.iload 4, 2) := by decide +kernel
theorem dL_law_557 : decode cL_law 557 = .ok (.iconst 1, 1) := by decide +kernel
theorem dL_law_558 : decode cL_law 558 = .ok (.iadd, 1) := by decide +kernel
theorem dL_law_559 : decode cL_law 559 = .ok (.iaload, 1) := by decide +kernel
theorem dL_law_560 : decode cL_law 560 = .ok (.invokevirtual 121, 3) := by decide +kernel
theorem dL_law_563 : decode cL_law 563 = .ok (.istore 6, 2) := by decide +kernel
theorem dL_law_565 : decode cL_law 565 = .ok (.aload_n 2, 1) := by decide +kernel
theorem dL_law_566 : decode cL_law 566 = .ok (.invokevirtual 99, 3) := by decide +kernel
theorem dL_law_569 : decode cL_law 569 = .ok (.iload 5, 2) := by decide +kernel
theorem dL_law_571 : decode cL_law 571 = .ok (.if_icmp .eq 5, 3) := by decide +kernel
theorem dL_law_574 : decode cL_law 574 = .ok (.iconst 0, 1) := by decide +kernel
theorem dL_law_575 : decode cL_law 575 = .ok (.ireturn, 1) := by decide +kernel
theorem dL_law_576 : decode cL_law 576 = .ok (.iload 5, 2) := by decide +kernel
theorem dL_law_578 : decode cL_law 578 = .ok (.ifCond .ne 15, 3) := by decide +kernel
theorem dL_law_581 : decode cL_law 581 = .ok (.aload_n 3, 1) := by decide +kernel
theorem dL_law_582 : decode cL_law 582 = .ok (.iconst 0, 1) := by decide +kernel
theorem dL_law_583 : decode cL_law 583 = .ok (.laload, 1) := by decide +kernel
theorem dL_law_584 : decode cL_law 584 = .ok (.iload 6, 2) := by decide +kernel
theorem dL_law_586 : decode cL_law 586 = .ok (.i2l, 1) := by decide +kernel
theorem dL_law_587 : decode cL_law 587 = .ok (.lcmp, 1) := by decide +kernel
theorem dL_law_588 : decode cL_law 588 = .ok (.ifCond .eq 5, 3) := by decide +kernel
theorem dL_law_591 : decode cL_law 591 = .ok (.iconst 0, 1) := by decide +kernel
theorem dL_law_592 : decode cL_law 592 = .ok (.ireturn, 1) := by decide +kernel
theorem dL_law_593 : decode cL_law 593 = .ok (.goto 1044, 3) := by decide +kernel
theorem dL_law_596 : decode cL_law 596 = .ok (.aload_n 1, 1) := by decide +kernel
theorem dL_law_597 : decode cL_law 597 = .ok (.aload_n 0, 1) := by decide +kernel
theorem dL_law_598 : decode cL_law 598 = .ok (.iload 4, 2) := by decide +kernel
theorem dL_law_600 : decode cL_law 600 = .ok (.iconst 1, 1) := by decide +kernel
theorem dL_law_601 : decode cL_law 601 = .ok (.iadd, 1) := by decide +kernel
theorem dL_law_602 : decode cL_law 602 = .ok (.iaload, 1) := by decide +kernel
theorem dL_law_603 : decode cL_law 603 = .ok (.aload_n 0, 1) := by decide +kernel
theorem dL_law_604 : decode cL_law 604 = .ok (.iload 4, 2) := by decide +kernel
theorem dL_law_606 : decode cL_law 606 = .ok (.iconst 2, 1) := by decide +kernel
theorem dL_law_607 : decode cL_law 607 = .ok (.iadd, 1) := by decide +kernel
theorem dL_law_608 : decode cL_law 608 = .ok (.iaload, 1) := by decide +kernel
theorem dL_law_609 : decode cL_law 609 = .ok (.aload_n 3, 1) := by decide +kernel
theorem dL_law_610 : decode cL_law 610 = .ok (.invokestatic 122, 3) := by decide +kernel
theorem dL_law_613 : decode cL_law 613 = .ok (.istore 5, 2) := by decide +kernel
theorem dL_law_615 : decode cL_law 615 = .ok (.aload_n 2, 1) := by decide +kernel
theorem dL_law_616 : decode cL_law 616 = .ok (.aload_n 0, 1) := by decide +kernel
theorem dL_law_617 : decode cL_law 617 = .ok (.iload 4, 2) := by decide +kernel
theorem dL_law_619 : decode cL_law 619 = .ok (.iconst 1, 1) := by decide +kernel
theorem dL_law_620 : decode cL_law 620 = .ok (.iadd, 1) := by decide +kernel
theorem dL_law_621 : decode cL_law 621 = .ok (.iaload, 1) := by decide +kernel
theorem dL_law_622 : decode cL_law 622 = .ok (.aload_n 0, 1) := by decide +kernel
theorem dL_law_623 : decode cL_law 623 = .ok (.iload 4, 2) := by decide +kernel
theorem dL_law_625 : decode cL_law 625 = .ok (.iconst 2, 1) := by decide +kernel
theorem dL_law_626 : decode cL_law 626 = .ok (.iadd, 1) := by decide +kernel
theorem dL_law_627 : decode cL_law 627 = .ok (.iaload, 1) := by decide +kernel
theorem dL_law_628 : decode cL_law 628 = .ok (.invokevirtual 124, 3) := by decide +kernel
theorem dL_law_631 : decode cL_law 631 = .ok (.istore 6, 2) := by decide +kernel
theorem dL_law_633 : decode cL_law 633 = .ok (.aload_n 2, 1) := by decide +kernel
theorem dL_law_634 : decode cL_law 634 = .ok (.invokevirtual 99, 3) := by decide +kernel
theorem dL_law_637 : decode cL_law 637 = .ok (.iload 5, 2) := by decide +kernel
theorem dL_law_639 : decode cL_law 639 = .ok (.if_icmp .eq 5, 3) := by decide +kernel
theorem dL_law_642 : decode cL_law 642 = .ok (.iconst 0, 1) := by decide +kernel
theorem dL_law_643 : decode cL_law 643 = .ok (.ireturn, 1) := by decide +kernel
theorem dL_law_644 : decode cL_law 644 = .ok (.iload 5, 2) := by decide +kernel
theorem dL_law_646 : decode cL_law 646 = .ok (.ifCond .ne 15, 3) := by decide +kernel
theorem dL_law_649 : decode cL_law 649 = .ok (.aload_n 3, 1) := by decide +kernel
theorem dL_law_650 : decode cL_law 650 = .ok (.iconst 0, 1) := by decide +kernel
theorem dL_law_651 : decode cL_law 651 = .ok (.laload, 1) := by decide +kernel
theorem dL_law_652 : decode cL_law 652 = .ok (.iload 6, 2) := by decide +kernel
theorem dL_law_654 : decode cL_law 654 = .ok (.i2l, 1) := by decide +kernel
theorem dL_law_655 : decode cL_law 655 = .ok (.lcmp, 1) := by decide +kernel
theorem dL_law_656 : decode cL_law 656 = .ok (.ifCond .eq 5, 3) := by decide +kernel
theorem dL_law_659 : decode cL_law 659 = .ok (.iconst 0, 1) := by decide +kernel
theorem dL_law_660 : decode cL_law 660 = .ok (.ireturn, 1) := by decide +kernel
theorem dL_law_661 : decode cL_law 661 = .ok (.goto 976, 3) := by decide +kernel
theorem dL_law_664 : decode cL_law 664 = .ok (.aload_n 1, 1) := by decide +kernel
theorem dL_law_665 : decode cL_law 665 = .ok (.aload_n 0, 1) := by decide +kernel
theorem dL_law_666 : decode cL_law 666 = .ok (.iload 4, 2) := by decide +kernel
theorem dL_law_668 : decode cL_law 668 = .ok (.iconst 1, 1) := by decide +kernel
theorem dL_law_669 : decode cL_law 669 = .ok (.iadd, 1) := by decide +kernel
theorem dL_law_670 : decode cL_law 670 = .ok (.iaload, 1) := by decide +kernel
theorem dL_law_671 : decode cL_law 671 = .ok (.aload_n 3, 1) := by decide +kernel
theorem dL_law_672 : decode cL_law 672 = .ok (.invokestatic 125, 3) := by decide +kernel
theorem dL_law_675 : decode cL_law 675 = .ok (.istore 5, 2) := by decide +kernel
theorem dL_law_677 : decode cL_law 677 = .ok (.aload_n 2, 1) := by decide +kernel
theorem dL_law_678 : decode cL_law 678 = .ok (.aload_n 0, 1) := by decide +kernel
theorem dL_law_679 : decode cL_law 679 = .ok (.iload 4, 2) := by decide +kernel
theorem dL_law_681 : decode cL_law 681 = .ok (.iconst 1, 1) := by decide +kernel
theorem dL_law_682 : decode cL_law 682 = .ok (.iadd, 1) := by decide +kernel
theorem dL_law_683 : decode cL_law 683 = .ok (.iaload, 1) := by decide +kernel
theorem dL_law_684 : decode cL_law 684 = .ok (.invokevirtual 127, 3) := by decide +kernel
theorem dL_law_687 : decode cL_law 687 = .ok (.istore 6, 2) := by decide +kernel
theorem dL_law_689 : decode cL_law 689 = .ok (.aload_n 2, 1) := by decide +kernel
theorem dL_law_690 : decode cL_law 690 = .ok (.invokevirtual 99, 3) := by decide +kernel
theorem dL_law_693 : decode cL_law 693 = .ok (.iload 5, 2) := by decide +kernel
theorem dL_law_695 : decode cL_law 695 = .ok (.if_icmp .eq 5, 3) := by decide +kernel
theorem dL_law_698 : decode cL_law 698 = .ok (.iconst 0, 1) := by decide +kernel
theorem dL_law_699 : decode cL_law 699 = .ok (.ireturn, 1) := by decide +kernel
theorem dL_law_700 : decode cL_law 700 = .ok (.iload 5, 2) := by decide +kernel
theorem dL_law_702 : decode cL_law 702 = .ok (.ifCond .ne 15, 3) := by decide +kernel
theorem dL_law_705 : decode cL_law 705 = .ok (.aload_n 3, 1) := by decide +kernel
theorem dL_law_706 : decode cL_law 706 = .ok (.iconst 0, 1) := by decide +kernel
theorem dL_law_707 : decode cL_law 707 = .ok (.laload, 1) := by decide +kernel
theorem dL_law_708 : decode cL_law 708 = .ok (.iload 6, 2) := by decide +kernel
theorem dL_law_710 : decode cL_law 710 = .ok (.i2l, 1) := by decide +kernel
theorem dL_law_711 : decode cL_law 711 = .ok (.lcmp, 1) := by decide +kernel
theorem dL_law_712 : decode cL_law 712 = .ok (.ifCond .eq 5, 3) := by decide +kernel
theorem dL_law_715 : decode cL_law 715 = .ok (.iconst 0, 1) := by decide +kernel
theorem dL_law_716 : decode cL_law 716 = .ok (.ireturn, 1) := by decide +kernel
theorem dL_law_717 : decode cL_law 717 = .ok (.goto 920, 3) := by decide +kernel
theorem dL_law_720 : decode cL_law 720 = .ok (.aload_n 1, 1) := by decide +kernel
theorem dL_law_721 : decode cL_law 721 = .ok (.aload_n 0, 1) := by decide +kernel
theorem dL_law_722 : decode cL_law 722 = .ok (.iload 4, 2) := by decide +kernel
theorem dL_law_724 : decode cL_law 724 = .ok (.iconst 1, 1) := by decide +kernel
theorem dL_law_725 : decode cL_law 725 = .ok (.iadd, 1) := by decide +kernel
theorem dL_law_726 : decode cL_law 726 = .ok (.iaload, 1) := by decide +kernel
theorem dL_law_727 : decode cL_law 727 = .ok (.aload_n 3, 1) := by decide +kernel
theorem dL_law_728 : decode cL_law 728 = .ok (.invokestatic 128, 3) := by decide +kernel
theorem dL_law_731 : decode cL_law 731 = .ok (.istore 5, 2) := by decide +kernel
theorem dL_law_733 : decode cL_law 733 = .ok (.aload_n 2, 1) := by decide +kernel
theorem dL_law_734 : decode cL_law 734 = .ok (.aload_n 0, 1) := by decide +kernel
theorem dL_law_735 : decode cL_law 735 = .ok (.iload 4, 2) := by decide +kernel
theorem dL_law_737 : decode cL_law 737 = .ok (.iconst 1, 1) := by decide +kernel
theorem dL_law_738 : decode cL_law 738 = .ok (.iadd, 1) := by decide +kernel
theorem dL_law_739 : decode cL_law 739 = .ok (.iaload, 1) := by decide +kernel
theorem dL_law_740 : decode cL_law 740 = .ok (.invokevirtual 130, 3) := by decide +kernel
theorem dL_law_743 : decode cL_law 743 = .ok (.istore 6, 2) := by decide +kernel
theorem dL_law_745 : decode cL_law 745 = .ok (.aload_n 2, 1) := by decide +kernel
theorem dL_law_746 : decode cL_law 746 = .ok (.invokevirtual 99, 3) := by decide +kernel
theorem dL_law_749 : decode cL_law 749 = .ok (.iload 5, 2) := by decide +kernel
theorem dL_law_751 : decode cL_law 751 = .ok (.if_icmp .eq 5, 3) := by decide +kernel
theorem dL_law_754 : decode cL_law 754 = .ok (.iconst 0, 1) := by decide +kernel
theorem dL_law_755 : decode cL_law 755 = .ok (.ireturn, 1) := by decide +kernel
theorem dL_law_756 : decode cL_law 756 = .ok (.iload 5, 2) := by decide +kernel
theorem dL_law_758 : decode cL_law 758 = .ok (.ifCond .ne 15, 3) := by decide +kernel
theorem dL_law_761 : decode cL_law 761 = .ok (.aload_n 3, 1) := by decide +kernel
theorem dL_law_762 : decode cL_law 762 = .ok (.iconst 0, 1) := by decide +kernel
theorem dL_law_763 : decode cL_law 763 = .ok (.laload, 1) := by decide +kernel
theorem dL_law_764 : decode cL_law 764 = .ok (.iload 6, 2) := by decide +kernel
theorem dL_law_766 : decode cL_law 766 = .ok (.i2l, 1) := by decide +kernel
theorem dL_law_767 : decode cL_law 767 = .ok (.lcmp, 1) := by decide +kernel
theorem dL_law_768 : decode cL_law 768 = .ok (.ifCond .eq 5, 3) := by decide +kernel
theorem dL_law_771 : decode cL_law 771 = .ok (.iconst 0, 1) := by decide +kernel
theorem dL_law_772 : decode cL_law 772 = .ok (.ireturn, 1) := by decide +kernel
theorem dL_law_773 : decode cL_law 773 = .ok (.goto 864, 3) := by decide +kernel
theorem dL_law_776 : decode cL_law 776 = .ok (.aload_n 1, 1) := by decide +kernel
theorem dL_law_777 : decode cL_law 777 = .ok (.invokevirtual 131, 3) := by decide +kernel
theorem dL_law_780 : decode cL_law 780 = .ok (.aload_n 2, 1) := by decide +kernel
theorem dL_law_781 : decode cL_law 781 = .ok (.invokevirtual 134, 3) := by decide +kernel
theorem dL_law_784 : decode cL_law 784 = .ok (.if_icmp .eq 853, 3) := by decide +kernel
theorem dL_law_787 : decode cL_law 787 = .ok (.iconst 0, 1) := by decide +kernel
theorem dL_law_788 : decode cL_law 788 = .ok (.ireturn, 1) := by decide +kernel
theorem dL_law_789 : decode cL_law 789 = .ok (.aload_n 1, 1) := by decide +kernel
theorem dL_law_790 : decode cL_law 790 = .ok (.invokevirtual 135, 3) := by decide +kernel
theorem dL_law_793 : decode cL_law 793 = .ok (.aload_n 2, 1) := by decide +kernel
theorem dL_law_794 : decode cL_law 794 = .ok (.invokevirtual 138, 3) := by decide +kernel
theorem dL_law_797 : decode cL_law 797 = .ok (.if_icmp .eq 840, 3) := by decide +kernel
theorem dL_law_800 : decode cL_law 800 = .ok (.iconst 0, 1) := by decide +kernel
theorem dL_law_801 : decode cL_law 801 = .ok (.ireturn, 1) := by decide +kernel
theorem dL_law_802 : decode cL_law 802 = .ok (.aload_n 1, 1) := by decide +kernel
theorem dL_law_803 : decode cL_law 803 = .ok (.aload_n 3, 1) := by decide +kernel
theorem dL_law_804 : decode cL_law 804 = .ok (.invokestatic 139, 3) := by decide +kernel
theorem dL_law_807 : decode cL_law 807 = .ok (.istore 5, 2) := by decide +kernel
theorem dL_law_809 : decode cL_law 809 = .ok (.aload_n 2, 1) := by decide +kernel
theorem dL_law_810 : decode cL_law 810 = .ok (.invokevirtual 141, 3) := by decide +kernel
theorem dL_law_813 : decode cL_law 813 = .ok (.istore 6, 2) := by decide +kernel
theorem dL_law_815 : decode cL_law 815 = .ok (.aload_n 2, 1) := by decide +kernel
theorem dL_law_816 : decode cL_law 816 = .ok (.invokevirtual 99, 3) := by decide +kernel
theorem dL_law_819 : decode cL_law 819 = .ok (.iload 5, 2) := by decide +kernel
theorem dL_law_821 : decode cL_law 821 = .ok (.if_icmp .eq 5, 3) := by decide +kernel
theorem dL_law_824 : decode cL_law 824 = .ok (.iconst 0, 1) := by decide +kernel
theorem dL_law_825 : decode cL_law 825 = .ok (.ireturn, 1) := by decide +kernel
theorem dL_law_826 : decode cL_law 826 = .ok (.iload 5, 2) := by decide +kernel
theorem dL_law_828 : decode cL_law 828 = .ok (.ifCond .ne 15, 3) := by decide +kernel
theorem dL_law_831 : decode cL_law 831 = .ok (.aload_n 3, 1) := by decide +kernel
theorem dL_law_832 : decode cL_law 832 = .ok (.iconst 0, 1) := by decide +kernel
theorem dL_law_833 : decode cL_law 833 = .ok (.laload, 1) := by decide +kernel
theorem dL_law_834 : decode cL_law 834 = .ok (.iload 6, 2) := by decide +kernel
theorem dL_law_836 : decode cL_law 836 = .ok (.i2l, 1) := by decide +kernel
theorem dL_law_837 : decode cL_law 837 = .ok (.lcmp, 1) := by decide +kernel
theorem dL_law_838 : decode cL_law 838 = .ok (.ifCond .eq 5, 3) := by decide +kernel
theorem dL_law_841 : decode cL_law 841 = .ok (.iconst 0, 1) := by decide +kernel
theorem dL_law_842 : decode cL_law 842 = .ok (.ireturn, 1) := by decide +kernel
theorem dL_law_843 : decode cL_law 843 = .ok (.goto 794, 3) := by decide +kernel
theorem dL_law_846 : decode cL_law 846 = .ok (.aload_n 1, 1) := by decide +kernel
theorem dL_law_847 : decode cL_law 847 = .ok (.aload_n 3, 1) := by decide +kernel
theorem dL_law_848 : decode cL_law 848 = .ok (.invokestatic 142, 3) := by decide +kernel
theorem dL_law_851 : decode cL_law 851 = .ok (.istore 5, 2) := by decide +kernel
theorem dL_law_853 : decode cL_law 853 = .ok (.aload_n 2, 1) := by decide +kernel
theorem dL_law_854 : decode cL_law 854 = .ok (.invokevirtual 144, 3) := by decide +kernel
theorem dL_law_857 : decode cL_law 857 = .ok (.istore 6, 2) := by decide +kernel
theorem dL_law_859 : decode cL_law 859 = .ok (.aload_n 2, 1) := by decide +kernel
theorem dL_law_860 : decode cL_law 860 = .ok (.invokevirtual 99, 3) := by decide +kernel
theorem dL_law_863 : decode cL_law 863 = .ok (.iload 5, 2) := by decide +kernel
theorem dL_law_865 : decode cL_law 865 = .ok (.if_icmp .eq 5, 3) := by decide +kernel
theorem dL_law_868 : decode cL_law 868 = .ok (.iconst 0, 1) := by decide +kernel
theorem dL_law_869 : decode cL_law 869 = .ok (.ireturn, 1) := by decide +kernel
theorem dL_law_870 : decode cL_law 870 = .ok (.iload 5, 2) := by decide +kernel
theorem dL_law_872 : decode cL_law 872 = .ok (.ifCond .ne 15, 3) := by decide +kernel
theorem dL_law_875 : decode cL_law 875 = .ok (.aload_n 3, 1) := by decide +kernel
theorem dL_law_876 : decode cL_law 876 = .ok (.iconst 0, 1) := by decide +kernel
theorem dL_law_877 : decode cL_law 877 = .ok (.laload, 1) := by decide +kernel
theorem dL_law_878 : decode cL_law 878 = .ok (.iload 6, 2) := by decide +kernel
theorem dL_law_880 : decode cL_law 880 = .ok (.i2l, 1) := by decide +kernel
theorem dL_law_881 : decode cL_law 881 = .ok (.lcmp, 1) := by decide +kernel
theorem dL_law_882 : decode cL_law 882 = .ok (.ifCond .eq 5, 3) := by decide +kernel
theorem dL_law_885 : decode cL_law 885 = .ok (.iconst 0, 1) := by decide +kernel
theorem dL_law_886 : decode cL_law 886 = .ok (.ireturn, 1) := by decide +kernel
theorem dL_law_887 : decode cL_law 887 = .ok (.goto 750, 3) := by decide +kernel
theorem dL_law_890 : decode cL_law 890 = .ok (.aload_n 1, 1) := by decide +kernel
theorem dL_law_891 : decode cL_law 891 = .ok (.aload_n 0, 1) := by decide +kernel
theorem dL_law_892 : decode cL_law 892 = .ok (.iload 4, 2) := by decide +kernel
theorem dL_law_894 : decode cL_law 894 = .ok (.iconst 1, 1) := by decide +kernel
theorem dL_law_895 : decode cL_law 895 = .ok (.iadd, 1) := by decide +kernel
theorem dL_law_896 : decode cL_law 896 = .ok (.iaload, 1) := by decide +kernel
theorem dL_law_897 : decode cL_law 897 = .ok (.aload_n 3, 1) := by decide +kernel
theorem dL_law_898 : decode cL_law 898 = .ok (.invokestatic 145, 3) := by decide +kernel
theorem dL_law_901 : decode cL_law 901 = .ok (.istore 5, 2) := by decide +kernel
theorem dL_law_903 : decode cL_law 903 = .ok (.aload_n 2, 1) := by decide +kernel
theorem dL_law_904 : decode cL_law 904 = .ok (.aload_n 0, 1) := by decide +kernel
theorem dL_law_905 : decode cL_law 905 = .ok (.iload 4, 2) := by decide +kernel
theorem dL_law_907 : decode cL_law 907 = .ok (.iconst 1, 1) := by decide +kernel
theorem dL_law_908 : decode cL_law 908 = .ok (.iadd, 1) := by decide +kernel
theorem dL_law_909 : decode cL_law 909 = .ok (.iaload, 1) := by decide +kernel
theorem dL_law_910 : decode cL_law 910 = .ok (.invokevirtual 147, 3) := by decide +kernel
theorem dL_law_913 : decode cL_law 913 = .ok (.istore 6, 2) := by decide +kernel
theorem dL_law_915 : decode cL_law 915 = .ok (.aload_n 2, 1) := by decide +kernel
theorem dL_law_916 : decode cL_law 916 = .ok (.invokevirtual 99, 3) := by decide +kernel
theorem dL_law_919 : decode cL_law 919 = .ok (.iload 5, 2) := by decide +kernel
theorem dL_law_921 : decode cL_law 921 = .ok (.if_icmp .eq 5, 3) := by decide +kernel
theorem dL_law_924 : decode cL_law 924 = .ok (.iconst 0, 1) := by decide +kernel
theorem dL_law_925 : decode cL_law 925 = .ok (.ireturn, 1) := by decide +kernel
theorem dL_law_926 : decode cL_law 926 = .ok (.iload 5, 2) := by decide +kernel
theorem dL_law_928 : decode cL_law 928 = .ok (.ifCond .ne 15, 3) := by decide +kernel
theorem dL_law_931 : decode cL_law 931 = .ok (.aload_n 3, 1) := by decide +kernel
theorem dL_law_932 : decode cL_law 932 = .ok (.iconst 0, 1) := by decide +kernel
theorem dL_law_933 : decode cL_law 933 = .ok (.laload, 1) := by decide +kernel
theorem dL_law_934 : decode cL_law 934 = .ok (.iload 6, 2) := by decide +kernel
theorem dL_law_936 : decode cL_law 936 = .ok (.i2l, 1) := by decide +kernel
theorem dL_law_937 : decode cL_law 937 = .ok (.lcmp, 1) := by decide +kernel
theorem dL_law_938 : decode cL_law 938 = .ok (.ifCond .eq 5, 3) := by decide +kernel
theorem dL_law_941 : decode cL_law 941 = .ok (.iconst 0, 1) := by decide +kernel
theorem dL_law_942 : decode cL_law 942 = .ok (.ireturn, 1) := by decide +kernel
theorem dL_law_943 : decode cL_law 943 = .ok (.goto 694, 3) := by decide +kernel
theorem dL_law_946 : decode cL_law 946 = .ok (.aload_n 1, 1) := by decide +kernel
theorem dL_law_947 : decode cL_law 947 = .ok (.aload_n 0, 1) := by decide +kernel
theorem dL_law_948 : decode cL_law 948 = .ok (.iload 4, 2) := by decide +kernel
theorem dL_law_950 : decode cL_law 950 = .ok (.iconst 1, 1) := by decide +kernel
theorem dL_law_951 : decode cL_law 951 = .ok (.iadd, 1) := by decide +kernel
theorem dL_law_952 : decode cL_law 952 = .ok (.iaload, 1) := by decide +kernel
theorem dL_law_953 : decode cL_law 953 = .ok (.aload_n 3, 1) := by decide +kernel
theorem dL_law_954 : decode cL_law 954 = .ok (.invokestatic 148, 3) := by decide +kernel
theorem dL_law_957 : decode cL_law 957 = .ok (.istore 5, 2) := by decide +kernel
theorem dL_law_959 : decode cL_law 959 = .ok (.aload_n 2, 1) := by decide +kernel
theorem dL_law_960 : decode cL_law 960 = .ok (.aload_n 0, 1) := by decide +kernel
theorem dL_law_961 : decode cL_law 961 = .ok (.iload 4, 2) := by decide +kernel
theorem dL_law_963 : decode cL_law 963 = .ok (.iconst 1, 1) := by decide +kernel
theorem dL_law_964 : decode cL_law 964 = .ok (.iadd, 1) := by decide +kernel
theorem dL_law_965 : decode cL_law 965 = .ok (.iaload, 1) := by decide +kernel
theorem dL_law_966 : decode cL_law 966 = .ok (.invokevirtual 150, 3) := by decide +kernel
theorem dL_law_969 : decode cL_law 969 = .ok (.istore 6, 2) := by decide +kernel
theorem dL_law_971 : decode cL_law 971 = .ok (.aload_n 2, 1) := by decide +kernel
theorem dL_law_972 : decode cL_law 972 = .ok (.invokevirtual 99, 3) := by decide +kernel
theorem dL_law_975 : decode cL_law 975 = .ok (.iload 5, 2) := by decide +kernel
theorem dL_law_977 : decode cL_law 977 = .ok (.if_icmp .eq 5, 3) := by decide +kernel
theorem dL_law_980 : decode cL_law 980 = .ok (.iconst 0, 1) := by decide +kernel
theorem dL_law_981 : decode cL_law 981 = .ok (.ireturn, 1) := by decide +kernel
theorem dL_law_982 : decode cL_law 982 = .ok (.iload 5, 2) := by decide +kernel
theorem dL_law_984 : decode cL_law 984 = .ok (.ifCond .ne 15, 3) := by decide +kernel
theorem dL_law_987 : decode cL_law 987 = .ok (.aload_n 3, 1) := by decide +kernel
theorem dL_law_988 : decode cL_law 988 = .ok (.iconst 0, 1) := by decide +kernel
theorem dL_law_989 : decode cL_law 989 = .ok (.laload, 1) := by decide +kernel
theorem dL_law_990 : decode cL_law 990 = .ok (.iload 6, 2) := by decide +kernel
theorem dL_law_992 : decode cL_law 992 = .ok (.i2l, 1) := by decide +kernel
theorem dL_law_993 : decode cL_law 993 = .ok (.lcmp, 1) := by decide +kernel
theorem dL_law_994 : decode cL_law 994 = .ok (.ifCond .eq 5, 3) := by decide +kernel
theorem dL_law_997 : decode cL_law 997 = .ok (.iconst 0, 1) := by decide +kernel
theorem dL_law_998 : decode cL_law 998 = .ok (.ireturn, 1) := by decide +kernel
theorem dL_law_999 : decode cL_law 999 = .ok (.goto 638, 3) := by decide +kernel
theorem dL_law_1002 : decode cL_law 1002 = .ok (.aload_n 1, 1) := by decide +kernel
theorem dL_law_1003 : decode cL_law 1003 = .ok (.aload_n 0, 1) := by decide +kernel
theorem dL_law_1004 : decode cL_law 1004 = .ok (.iload 4, 2) := by decide +kernel
theorem dL_law_1006 : decode cL_law 1006 = .ok (.iconst 1, 1) := by decide +kernel
theorem dL_law_1007 : decode cL_law 1007 = .ok (.iadd, 1) := by decide +kernel
theorem dL_law_1008 : decode cL_law 1008 = .ok (.iaload, 1) := by decide +kernel
theorem dL_law_1009 : decode cL_law 1009 = .ok (.aload_n 0, 1) := by decide +kernel
theorem dL_law_1010 : decode cL_law 1010 = .ok (.iload 4, 2) := by decide +kernel
theorem dL_law_1012 : decode cL_law 1012 = .ok (.iconst 2, 1) := by decide +kernel
theorem dL_law_1013 : decode cL_law 1013 = .ok (.iadd, 1) := by decide +kernel
theorem dL_law_1014 : decode cL_law 1014 = .ok (.iaload, 1) := by decide +kernel
theorem dL_law_1015 : decode cL_law 1015 = .ok (.aload_n 3, 1) := by decide +kernel
theorem dL_law_1016 : decode cL_law 1016 = .ok (.invokestatic 151, 3) := by decide +kernel
theorem dL_law_1019 : decode cL_law 1019 = .ok (.istore 5, 2) := by decide +kernel
theorem dL_law_1021 : decode cL_law 1021 = .ok (.aload_n 2, 1) := by decide +kernel
theorem dL_law_1022 : decode cL_law 1022 = .ok (.aload_n 0, 1) := by decide +kernel
theorem dL_law_1023 : decode cL_law 1023 = .ok (.iload 4, 2) := by decide +kernel
theorem dL_law_1025 : decode cL_law 1025 = .ok (.iconst 1, 1) := by decide +kernel
theorem dL_law_1026 : decode cL_law 1026 = .ok (.iadd, 1) := by decide +kernel
theorem dL_law_1027 : decode cL_law 1027 = .ok (.iaload, 1) := by decide +kernel
theorem dL_law_1028 : decode cL_law 1028 = .ok (.aload_n 0, 1) := by decide +kernel
theorem dL_law_1029 : decode cL_law 1029 = .ok (.iload 4, 2) := by decide +kernel
theorem dL_law_1031 : decode cL_law 1031 = .ok (.iconst 2, 1) := by decide +kernel
theorem dL_law_1032 : decode cL_law 1032 = .ok (.iadd, 1) := by decide +kernel
theorem dL_law_1033 : decode cL_law 1033 = .ok (.iaload, 1) := by decide +kernel
theorem dL_law_1034 : decode cL_law 1034 = .ok (.invokevirtual 153, 3) := by decide +kernel
theorem dL_law_1037 : decode cL_law 1037 = .ok (.istore 6, 2) := by decide +kernel
theorem dL_law_1039 : decode cL_law 1039 = .ok (.aload_n 2, 1) := by decide +kernel
theorem dL_law_1040 : decode cL_law 1040 = .ok (.invokevirtual 99, 3) := by decide +kernel
theorem dL_law_1043 : decode cL_law 1043 = .ok (.iload 5, 2) := by decide +kernel
theorem dL_law_1045 : decode cL_law 1045 = .ok (.if_icmp .eq 5, 3) := by decide +kernel
theorem dL_law_1048 : decode cL_law 1048 = .ok (.iconst 0, 1) := by decide +kernel
theorem dL_law_1049 : decode cL_law 1049 = .ok (.ireturn, 1) := by decide +kernel
theorem dL_law_1050 : decode cL_law 1050 = .ok (.iload 5, 2) := by decide +kernel
theorem dL_law_1052 : decode cL_law 1052 = .ok (.ifCond .ne 15, 3) := by decide +kernel
theorem dL_law_1055 : decode cL_law 1055 = .ok (.aload_n 3, 1) := by decide +kernel
theorem dL_law_1056 : decode cL_law 1056 = .ok (.iconst 0, 1) := by decide +kernel
theorem dL_law_1057 : decode cL_law 1057 = .ok (.laload, 1) := by decide +kernel
theorem dL_law_1058 : decode cL_law 1058 = .ok (.iload 6, 2) := by decide +kernel
theorem dL_law_1060 : decode cL_law 1060 = .ok (.i2l, 1) := by decide +kernel
theorem dL_law_1061 : decode cL_law 1061 = .ok (.lcmp, 1) := by decide +kernel
theorem dL_law_1062 : decode cL_law 1062 = .ok (.ifCond .eq 5, 3) := by decide +kernel
theorem dL_law_1065 : decode cL_law 1065 = .ok (.iconst 0, 1) := by decide +kernel
theorem dL_law_1066 : decode cL_law 1066 = .ok (.ireturn, 1) := by decide +kernel
theorem dL_law_1067 : decode cL_law 1067 = .ok (.goto 570, 3) := by decide +kernel
theorem dL_law_1070 : decode cL_law 1070 = .ok (.aload_n 1, 1) := by decide +kernel
theorem dL_law_1071 : decode cL_law 1071 = .ok (.aload_n 0, 1) := by decide +kernel
theorem dL_law_1072 : decode cL_law 1072 = .ok (.iload 4, 2) := by decide +kernel
theorem dL_law_1074 : decode cL_law 1074 = .ok (.iconst 1, 1) := by decide +kernel
theorem dL_law_1075 : decode cL_law 1075 = .ok (.iadd, 1) := by decide +kernel
theorem dL_law_1076 : decode cL_law 1076 = .ok (.iaload, 1) := by decide +kernel
theorem dL_law_1077 : decode cL_law 1077 = .ok (.aload_n 0, 1) := by decide +kernel
theorem dL_law_1078 : decode cL_law 1078 = .ok (.iload 4, 2) := by decide +kernel
theorem dL_law_1080 : decode cL_law 1080 = .ok (.iconst 2, 1) := by decide +kernel
theorem dL_law_1081 : decode cL_law 1081 = .ok (.iadd, 1) := by decide +kernel
theorem dL_law_1082 : decode cL_law 1082 = .ok (.iaload, 1) := by decide +kernel
theorem dL_law_1083 : decode cL_law 1083 = .ok (.aload_n 3, 1) := by decide +kernel
theorem dL_law_1084 : decode cL_law 1084 = .ok (.invokestatic 154, 3) := by decide +kernel
theorem dL_law_1087 : decode cL_law 1087 = .ok (.istore 5, 2) := by decide +kernel
theorem dL_law_1089 : decode cL_law 1089 = .ok (.aload_n 2, 1) := by decide +kernel
theorem dL_law_1090 : decode cL_law 1090 = .ok (.aload_n 0, 1) := by decide +kernel
theorem dL_law_1091 : decode cL_law 1091 = .ok (.iload 4, 2) := by decide +kernel
theorem dL_law_1093 : decode cL_law 1093 = .ok (.iconst 1, 1) := by decide +kernel
theorem dL_law_1094 : decode cL_law 1094 = .ok (.iadd, 1) := by decide +kernel
theorem dL_law_1095 : decode cL_law 1095 = .ok (.iaload, 1) := by decide +kernel
theorem dL_law_1096 : decode cL_law 1096 = .ok (.aload_n 0, 1) := by decide +kernel
theorem dL_law_1097 : decode cL_law 1097 = .ok (.iload 4, 2) := by decide +kernel
theorem dL_law_1099 : decode cL_law 1099 = .ok (.iconst 2, 1) := by decide +kernel
theorem dL_law_1100 : decode cL_law 1100 = .ok (.iadd, 1) := by decide +kernel
theorem dL_law_1101 : decode cL_law 1101 = .ok (.iaload, 1) := by decide +kernel
theorem dL_law_1102 : decode cL_law 1102 = .ok (.invokevirtual 156, 3) := by decide +kernel
theorem dL_law_1105 : decode cL_law 1105 = .ok (.istore 6, 2) := by decide +kernel
theorem dL_law_1107 : decode cL_law 1107 = .ok (.aload_n 2, 1) := by decide +kernel
theorem dL_law_1108 : decode cL_law 1108 = .ok (.invokevirtual 99, 3) := by decide +kernel
theorem dL_law_1111 : decode cL_law 1111 = .ok (.iload 5, 2) := by decide +kernel
theorem dL_law_1113 : decode cL_law 1113 = .ok (.if_icmp .eq 5, 3) := by decide +kernel
theorem dL_law_1116 : decode cL_law 1116 = .ok (.iconst 0, 1) := by decide +kernel
theorem dL_law_1117 : decode cL_law 1117 = .ok (.ireturn, 1) := by decide +kernel
theorem dL_law_1118 : decode cL_law 1118 = .ok (.iload 5, 2) := by decide +kernel
theorem dL_law_1120 : decode cL_law 1120 = .ok (.ifCond .ne 15, 3) := by decide +kernel
theorem dL_law_1123 : decode cL_law 1123 = .ok (.aload_n 3, 1) := by decide +kernel
theorem dL_law_1124 : decode cL_law 1124 = .ok (.iconst 0, 1) := by decide +kernel
theorem dL_law_1125 : decode cL_law 1125 = .ok (.laload, 1) := by decide +kernel
theorem dL_law_1126 : decode cL_law 1126 = .ok (.iload 6, 2) := by decide +kernel
theorem dL_law_1128 : decode cL_law 1128 = .ok (.i2l, 1) := by decide +kernel
theorem dL_law_1129 : decode cL_law 1129 = .ok (.lcmp, 1) := by decide +kernel
theorem dL_law_1130 : decode cL_law 1130 = .ok (.ifCond .eq 5, 3) := by decide +kernel
theorem dL_law_1133 : decode cL_law 1133 = .ok (.iconst 0, 1) := by decide +kernel
theorem dL_law_1134 : decode cL_law 1134 = .ok (.ireturn, 1) := by decide +kernel
theorem dL_law_1135 : decode cL_law 1135 = .ok (.goto 502, 3) := by decide +kernel
theorem dL_law_1138 : decode cL_law 1138 = .ok (.aload_n 1, 1) := by decide +kernel
theorem dL_law_1139 : decode cL_law 1139 = .ok (.aload_n 0, 1) := by decide +kernel
theorem dL_law_1140 : decode cL_law 1140 = .ok (.iload 4, 2) := by decide +kernel
theorem dL_law_1142 : decode cL_law 1142 = .ok (.iconst 1, 1) := by decide +kernel
theorem dL_law_1143 : decode cL_law 1143 = .ok (.iadd, 1) := by decide +kernel
theorem dL_law_1144 : decode cL_law 1144 = .ok (.iaload, 1) := by decide +kernel
theorem dL_law_1145 : decode cL_law 1145 = .ok (.aload_n 3, 1) := by decide +kernel
theorem dL_law_1146 : decode cL_law 1146 = .ok (.invokestatic 157, 3) := by decide +kernel
theorem dL_law_1149 : decode cL_law 1149 = .ok (.istore 5, 2) := by decide +kernel
theorem dL_law_1151 : decode cL_law 1151 = .ok (.aload_n 2, 1) := by decide +kernel
theorem dL_law_1152 : decode cL_law 1152 = .ok (.aload_n 0, 1) := by decide +kernel
theorem dL_law_1153 : decode cL_law 1153 = .ok (.iload 4, 2) := by decide +kernel
theorem dL_law_1155 : decode cL_law 1155 = .ok (.iconst 1, 1) := by decide +kernel
theorem dL_law_1156 : decode cL_law 1156 = .ok (.iadd, 1) := by decide +kernel
theorem dL_law_1157 : decode cL_law 1157 = .ok (.iaload, 1) := by decide +kernel
theorem dL_law_1158 : decode cL_law 1158 = .ok (.invokevirtual 159, 3) := by decide +kernel
theorem dL_law_1161 : decode cL_law 1161 = .ok (.istore 6, 2) := by decide +kernel
theorem dL_law_1163 : decode cL_law 1163 = .ok (.aload_n 2, 1) := by decide +kernel
theorem dL_law_1164 : decode cL_law 1164 = .ok (.invokevirtual 99, 3) := by decide +kernel
theorem dL_law_1167 : decode cL_law 1167 = .ok (.iload 5, 2) := by decide +kernel
theorem dL_law_1169 : decode cL_law 1169 = .ok (.if_icmp .eq 5, 3) := by decide +kernel
theorem dL_law_1172 : decode cL_law 1172 = .ok (.iconst 0, 1) := by decide +kernel
theorem dL_law_1173 : decode cL_law 1173 = .ok (.ireturn, 1) := by decide +kernel
theorem dL_law_1174 : decode cL_law 1174 = .ok (.iload 5, 2) := by decide +kernel
theorem dL_law_1176 : decode cL_law 1176 = .ok (.ifCond .ne 15, 3) := by decide +kernel
theorem dL_law_1179 : decode cL_law 1179 = .ok (.aload_n 3, 1) := by decide +kernel
theorem dL_law_1180 : decode cL_law 1180 = .ok (.iconst 0, 1) := by decide +kernel
theorem dL_law_1181 : decode cL_law 1181 = .ok (.laload, 1) := by decide +kernel
theorem dL_law_1182 : decode cL_law 1182 = .ok (.iload 6, 2) := by decide +kernel
theorem dL_law_1184 : decode cL_law 1184 = .ok (.i2l, 1) := by decide +kernel
theorem dL_law_1185 : decode cL_law 1185 = .ok (.lcmp, 1) := by decide +kernel
theorem dL_law_1186 : decode cL_law 1186 = .ok (.ifCond .eq 5, 3) := by decide +kernel
theorem dL_law_1189 : decode cL_law 1189 = .ok (.iconst 0, 1) := by decide +kernel
theorem dL_law_1190 : decode cL_law 1190 = .ok (.ireturn, 1) := by decide +kernel
theorem dL_law_1191 : decode cL_law 1191 = .ok (.goto 446, 3) := by decide +kernel
theorem dL_law_1194 : decode cL_law 1194 = .ok (.aload_n 1, 1) := by decide +kernel
theorem dL_law_1195 : decode cL_law 1195 = .ok (.aload_n 0, 1) := by decide +kernel
theorem dL_law_1196 : decode cL_law 1196 = .ok (.iload 4, 2) := by decide +kernel
theorem dL_law_1198 : decode cL_law 1198 = .ok (.iconst 1, 1) := by decide +kernel
theorem dL_law_1199 : decode cL_law 1199 = .ok (.iadd, 1) := by decide +kernel
theorem dL_law_1200 : decode cL_law 1200 = .ok (.iaload, 1) := by decide +kernel
theorem dL_law_1201 : decode cL_law 1201 = .ok (.aload_n 3, 1) := by decide +kernel
theorem dL_law_1202 : decode cL_law 1202 = .ok (.invokestatic 160, 3) := by decide +kernel
theorem dL_law_1205 : decode cL_law 1205 = .ok (.istore 5, 2) := by decide +kernel
theorem dL_law_1207 : decode cL_law 1207 = .ok (.aload_n 2, 1) := by decide +kernel
theorem dL_law_1208 : decode cL_law 1208 = .ok (.aload_n 0, 1) := by decide +kernel
theorem dL_law_1209 : decode cL_law 1209 = .ok (.iload 4, 2) := by decide +kernel
theorem dL_law_1211 : decode cL_law 1211 = .ok (.iconst 1, 1) := by decide +kernel
theorem dL_law_1212 : decode cL_law 1212 = .ok (.iadd, 1) := by decide +kernel
theorem dL_law_1213 : decode cL_law 1213 = .ok (.iaload, 1) := by decide +kernel
theorem dL_law_1214 : decode cL_law 1214 = .ok (.invokevirtual 162, 3) := by decide +kernel
theorem dL_law_1217 : decode cL_law 1217 = .ok (.istore 6, 2) := by decide +kernel
theorem dL_law_1219 : decode cL_law 1219 = .ok (.aload_n 2, 1) := by decide +kernel
theorem dL_law_1220 : decode cL_law 1220 = .ok (.invokevirtual 99, 3) := by decide +kernel
theorem dL_law_1223 : decode cL_law 1223 = .ok (.iload 5, 2) := by decide +kernel
theorem dL_law_1225 : decode cL_law 1225 = .ok (.if_icmp .eq 5, 3) := by decide +kernel
theorem dL_law_1228 : decode cL_law 1228 = .ok (.iconst 0, 1) := by decide +kernel
theorem dL_law_1229 : decode cL_law 1229 = .ok (.ireturn, 1) := by decide +kernel
theorem dL_law_1230 : decode cL_law 1230 = .ok (.iload 5, 2) := by decide +kernel
theorem dL_law_1232 : decode cL_law 1232 = .ok (.ifCond .ne 15, 3) := by decide +kernel
theorem dL_law_1235 : decode cL_law 1235 = .ok (.aload_n 3, 1) := by decide +kernel
theorem dL_law_1236 : decode cL_law 1236 = .ok (.iconst 0, 1) := by decide +kernel
theorem dL_law_1237 : decode cL_law 1237 = .ok (.laload, 1) := by decide +kernel
theorem dL_law_1238 : decode cL_law 1238 = .ok (.iload 6, 2) := by decide +kernel
theorem dL_law_1240 : decode cL_law 1240 = .ok (.i2l, 1) := by decide +kernel
theorem dL_law_1241 : decode cL_law 1241 = .ok (.lcmp, 1) := by decide +kernel
theorem dL_law_1242 : decode cL_law 1242 = .ok (.ifCond .eq 5, 3) := by decide +kernel
theorem dL_law_1245 : decode cL_law 1245 = .ok (.iconst 0, 1) := by decide +kernel
theorem dL_law_1246 : decode cL_law 1246 = .ok (.ireturn, 1) := by decide +kernel
theorem dL_law_1247 : decode cL_law 1247 = .ok (.goto 390, 3) := by decide +kernel
theorem dL_law_1250 : decode cL_law 1250 = .ok (.aload_n 1, 1) := by decide +kernel
theorem dL_law_1251 : decode cL_law 1251 = .ok (.aload_n 0, 1) := by decide +kernel
theorem dL_law_1252 : decode cL_law 1252 = .ok (.iload 4, 2) := by decide +kernel
theorem dL_law_1254 : decode cL_law 1254 = .ok (.iconst 1, 1) := by decide +kernel
theorem dL_law_1255 : decode cL_law 1255 = .ok (.iadd, 1) := by decide +kernel
theorem dL_law_1256 : decode cL_law 1256 = .ok (.iaload, 1) := by decide +kernel
theorem dL_law_1257 : decode cL_law 1257 = .ok (.aload_n 3, 1) := by decide +kernel
theorem dL_law_1258 : decode cL_law 1258 = .ok (.invokestatic 163, 3) := by decide +kernel
theorem dL_law_1261 : decode cL_law 1261 = .ok (.istore 5, 2) := by decide +kernel
theorem dL_law_1263 : decode cL_law 1263 = .ok (.aload_n 2, 1) := by decide +kernel
theorem dL_law_1264 : decode cL_law 1264 = .ok (.aload_n 0, 1) := by decide +kernel
theorem dL_law_1265 : decode cL_law 1265 = .ok (.iload 4, 2) := by decide +kernel
theorem dL_law_1267 : decode cL_law 1267 = .ok (.iconst 1, 1) := by decide +kernel
theorem dL_law_1268 : decode cL_law 1268 = .ok (.iadd, 1) := by decide +kernel
theorem dL_law_1269 : decode cL_law 1269 = .ok (.iaload, 1) := by decide +kernel
theorem dL_law_1270 : decode cL_law 1270 = .ok (.invokevirtual 165, 3) := by decide +kernel
theorem dL_law_1273 : decode cL_law 1273 = .ok (.istore 6, 2) := by decide +kernel
theorem dL_law_1275 : decode cL_law 1275 = .ok (.aload_n 2, 1) := by decide +kernel
theorem dL_law_1276 : decode cL_law 1276 = .ok (.invokevirtual 99, 3) := by decide +kernel
theorem dL_law_1279 : decode cL_law 1279 = .ok (.iload 5, 2) := by decide +kernel
theorem dL_law_1281 : decode cL_law 1281 = .ok (.if_icmp .eq 5, 3) := by decide +kernel
theorem dL_law_1284 : decode cL_law 1284 = .ok (.iconst 0, 1) := by decide +kernel
theorem dL_law_1285 : decode cL_law 1285 = .ok (.ireturn, 1) := by decide +kernel
theorem dL_law_1286 : decode cL_law 1286 = .ok (.iload 5, 2) := by decide +kernel
theorem dL_law_1288 : decode cL_law 1288 = .ok (.ifCond .ne 15, 3) := by decide +kernel
theorem dL_law_1291 : decode cL_law 1291 = .ok (.aload_n 3, 1) := by decide +kernel
theorem dL_law_1292 : decode cL_law 1292 = .ok (.iconst 0, 1) := by decide +kernel
theorem dL_law_1293 : decode cL_law 1293 = .ok (.laload, 1) := by decide +kernel
theorem dL_law_1294 : decode cL_law 1294 = .ok (.iload 6, 2) := by decide +kernel
theorem dL_law_1296 : decode cL_law 1296 = .ok (.i2l, 1) := by decide +kernel
theorem dL_law_1297 : decode cL_law 1297 = .ok (.lcmp, 1) := by decide +kernel
theorem dL_law_1298 : decode cL_law 1298 = .ok (.ifCond .eq 5, 3) := by decide +kernel
theorem dL_law_1301 : decode cL_law 1301 = .ok (.iconst 0, 1) := by decide +kernel
theorem dL_law_1302 : decode cL_law 1302 = .ok (.ireturn, 1) := by decide +kernel
theorem dL_law_1303 : decode cL_law 1303 = .ok (.goto 334, 3) := by decide +kernel
theorem dL_law_1306 : decode cL_law 1306 = .ok (.aload_n 1, 1) := by decide +kernel
theorem dL_law_1307 : decode cL_law 1307 = .ok (.aload_n 0, 1) := by decide +kernel
theorem dL_law_1308 : decode cL_law 1308 = .ok (.iload 4, 2) := by decide +kernel
theorem dL_law_1310 : decode cL_law 1310 = .ok (.iconst 1, 1) := by decide +kernel
theorem dL_law_1311 : decode cL_law 1311 = .ok (.iadd, 1) := by decide +kernel
theorem dL_law_1312 : decode cL_law 1312 = .ok (.iaload, 1) := by decide +kernel
theorem dL_law_1313 : decode cL_law 1313 = .ok (.aload_n 0, 1) := by decide +kernel
theorem dL_law_1314 : decode cL_law 1314 = .ok (.iload 4, 2) := by decide +kernel
theorem dL_law_1316 : decode cL_law 1316 = .ok (.iconst 2, 1) := by decide +kernel
theorem dL_law_1317 : decode cL_law 1317 = .ok (.iadd, 1) := by decide +kernel
theorem dL_law_1318 : decode cL_law 1318 = .ok (.iaload, 1) := by decide +kernel
theorem dL_law_1319 : decode cL_law 1319 = .ok (.ifCond .eq 7, 3) := by decide +kernel
theorem dL_law_1322 : decode cL_law 1322 = .ok (.iconst 1, 1) := by decide +kernel
theorem dL_law_1323 : decode cL_law 1323 = .ok (.goto 4, 3) := by decide +kernel
theorem dL_law_1326 : decode cL_law 1326 = .ok (.iconst 0, 1) := by decide +kernel
theorem dL_law_1327 : decode cL_law 1327 = .ok (.aload_n 3, 1) := by decide +kernel
theorem dL_law_1328 : decode cL_law 1328 = .ok (.invokestatic 166, 3) := by decide +kernel
theorem dL_law_1331 : decode cL_law 1331 = .ok (.istore 5, 2) := by decide +kernel
theorem dL_law_1333 : decode cL_law 1333 = .ok (.aload_n 2, 1) := by decide +kernel
theorem dL_law_1334 : decode cL_law 1334 = .ok (.aload_n 0, 1) := by decide +kernel
theorem dL_law_1335 : decode cL_law 1335 = .ok (.iload 4, 2) := by decide +kernel
theorem dL_law_1337 : decode cL_law 1337 = .ok (.iconst 1, 1) := by decide +kernel
theorem dL_law_1338 : decode cL_law 1338 = .ok (.iadd, 1) := by decide +kernel
theorem dL_law_1339 : decode cL_law 1339 = .ok (.iaload, 1) := by decide +kernel
theorem dL_law_1340 : decode cL_law 1340 = .ok (.aload_n 0, 1) := by decide +kernel
theorem dL_law_1341 : decode cL_law 1341 = .ok (.iload 4, 2) := by decide +kernel
theorem dL_law_1343 : decode cL_law 1343 = .ok (.iconst 2, 1) := by decide +kernel
theorem dL_law_1344 : decode cL_law 1344 = .ok (.iadd, 1) := by decide +kernel
theorem dL_law_1345 : decode cL_law 1345 = .ok (.iaload, 1) := by decide +kernel
theorem dL_law_1346 : decode cL_law 1346 = .ok (.ifCond .eq 7, 3) := by decide +kernel
theorem dL_law_1349 : decode cL_law 1349 = .ok (.iconst 1, 1) := by decide +kernel
theorem dL_law_1350 : decode cL_law 1350 = .ok (.goto 4, 3) := by decide +kernel
theorem dL_law_1353 : decode cL_law 1353 = .ok (.iconst 0, 1) := by decide +kernel
theorem dL_law_1354 : decode cL_law 1354 = .ok (.invokevirtual 169, 3) := by decide +kernel
theorem dL_law_1357 : decode cL_law 1357 = .ok (.istore 6, 2) := by decide +kernel
theorem dL_law_1359 : decode cL_law 1359 = .ok (.aload_n 2, 1) := by decide +kernel
theorem dL_law_1360 : decode cL_law 1360 = .ok (.invokevirtual 99, 3) := by decide +kernel
theorem dL_law_1363 : decode cL_law 1363 = .ok (.iload 5, 2) := by decide +kernel
theorem dL_law_1365 : decode cL_law 1365 = .ok (.if_icmp .eq 5, 3) := by decide +kernel
theorem dL_law_1368 : decode cL_law 1368 = .ok (.iconst 0, 1) := by decide +kernel
theorem dL_law_1369 : decode cL_law 1369 = .ok (.ireturn, 1) := by decide +kernel
theorem dL_law_1370 : decode cL_law 1370 = .ok (.iload 5, 2) := by decide +kernel
theorem dL_law_1372 : decode cL_law 1372 = .ok (.ifCond .ne 15, 3) := by decide +kernel
theorem dL_law_1375 : decode cL_law 1375 = .ok (.aload_n 3, 1) := by decide +kernel
theorem dL_law_1376 : decode cL_law 1376 = .ok (.iconst 0, 1) := by decide +kernel
theorem dL_law_1377 : decode cL_law 1377 = .ok (.laload, 1) := by decide +kernel
theorem dL_law_1378 : decode cL_law 1378 = .ok (.iload 6, 2) := by decide +kernel
theorem dL_law_1380 : decode cL_law 1380 = .ok (.i2l, 1) := by decide +kernel
theorem dL_law_1381 : decode cL_law 1381 = .ok (.lcmp, 1) := by decide +kernel
theorem dL_law_1382 : decode cL_law 1382 = .ok (.ifCond .eq 5, 3) := by decide +kernel
theorem dL_law_1385 : decode cL_law 1385 = .ok (.iconst 0, 1) := by decide +kernel
theorem dL_law_1386 : decode cL_law 1386 = .ok (.ireturn, 1) := by decide +kernel
theorem dL_law_1387 : decode cL_law 1387 = .ok (.goto 250, 3) := by decide +kernel
theorem dL_law_1390 : decode cL_law 1390 = .ok (.aload_n 1, 1) := by decide +kernel
theorem dL_law_1391 : decode cL_law 1391 = .ok (.aload_n 0, 1) := by decide +kernel
theorem dL_law_1392 : decode cL_law 1392 = .ok (.iload 4, 2) := by decide +kernel
theorem dL_law_1394 : decode cL_law 1394 = .ok (.iconst 1, 1) := by decide +kernel
theorem dL_law_1395 : decode cL_law 1395 = .ok (.iadd, 1) := by decide +kernel
theorem dL_law_1396 : decode cL_law 1396 = .ok (.iaload, 1) := by decide +kernel
theorem dL_law_1397 : decode cL_law 1397 = .ok (.aload_n 0, 1) := by decide +kernel
theorem dL_law_1398 : decode cL_law 1398 = .ok (.iload 4, 2) := by decide +kernel
theorem dL_law_1400 : decode cL_law 1400 = .ok (.iconst 2, 1) := by decide +kernel
theorem dL_law_1401 : decode cL_law 1401 = .ok (.iadd, 1) := by decide +kernel
theorem dL_law_1402 : decode cL_law 1402 = .ok (.iaload, 1) := by decide +kernel
theorem dL_law_1403 : decode cL_law 1403 = .ok (.aload_n 0, 1) := by decide +kernel
theorem dL_law_1404 : decode cL_law 1404 = .ok (.iload 4, 2) := by decide +kernel
theorem dL_law_1406 : decode cL_law 1406 = .ok (.iconst 3, 1) := by decide +kernel
theorem dL_law_1407 : decode cL_law 1407 = .ok (.iadd, 1) := by decide +kernel
theorem dL_law_1408 : decode cL_law 1408 = .ok (.iaload, 1) := by decide +kernel
theorem dL_law_1409 : decode cL_law 1409 = .ok (.aload_n 3, 1) := by decide +kernel
theorem dL_law_1410 : decode cL_law 1410 = .ok (.invokestatic 170, 3) := by decide +kernel
theorem dL_law_1413 : decode cL_law 1413 = .ok (.istore 5, 2) := by decide +kernel
theorem dL_law_1415 : decode cL_law 1415 = .ok (.aload_n 2, 1) := by decide +kernel
theorem dL_law_1416 : decode cL_law 1416 = .ok (.aload_n 0, 1) := by decide +kernel
theorem dL_law_1417 : decode cL_law 1417 = .ok (.iload 4, 2) := by decide +kernel
theorem dL_law_1419 : decode cL_law 1419 = .ok (.iconst 1, 1) := by decide +kernel
theorem dL_law_1420 : decode cL_law 1420 = .ok (.iadd, 1) := by decide +kernel
theorem dL_law_1421 : decode cL_law 1421 = .ok (.iaload, 1) := by decide +kernel
theorem dL_law_1422 : decode cL_law 1422 = .ok (.aload_n 0, 1) := by decide +kernel
theorem dL_law_1423 : decode cL_law 1423 = .ok (.iload 4, 2) := by decide +kernel
theorem dL_law_1425 : decode cL_law 1425 = .ok (.iconst 2, 1) := by decide +kernel
theorem dL_law_1426 : decode cL_law 1426 = .ok (.iadd, 1) := by decide +kernel
theorem dL_law_1427 : decode cL_law 1427 = .ok (.iaload, 1) := by decide +kernel
theorem dL_law_1428 : decode cL_law 1428 = .ok (.aload_n 0, 1) := by decide +kernel
theorem dL_law_1429 : decode cL_law 1429 = .ok (.iload 4, 2) := by decide +kernel
theorem dL_law_1431 : decode cL_law 1431 = .ok (.iconst 3, 1) := by decide +kernel
theorem dL_law_1432 : decode cL_law 1432 = .ok (.iadd, 1) := by decide +kernel
theorem dL_law_1433 : decode cL_law 1433 = .ok (.iaload, 1) := by decide +kernel
theorem dL_law_1434 : decode cL_law 1434 = .ok (.invokevirtual 173, 3) := by decide +kernel
theorem dL_law_1437 : decode cL_law 1437 = .ok (.istore 6, 2) := by decide +kernel
theorem dL_law_1439 : decode cL_law 1439 = .ok (.aload_n 2, 1) := by decide +kernel
theorem dL_law_1440 : decode cL_law 1440 = .ok (.invokevirtual 99, 3) := by decide +kernel
theorem dL_law_1443 : decode cL_law 1443 = .ok (.iload 5, 2) := by decide +kernel
theorem dL_law_1445 : decode cL_law 1445 = .ok (.if_icmp .eq 5, 3) := by decide +kernel
theorem dL_law_1448 : decode cL_law 1448 = .ok (.iconst 0, 1) := by decide +kernel
theorem dL_law_1449 : decode cL_law 1449 = .ok (.ireturn, 1) := by decide +kernel
theorem dL_law_1450 : decode cL_law 1450 = .ok (.iload 5, 2) := by decide +kernel
theorem dL_law_1452 : decode cL_law 1452 = .ok (.ifCond .ne 15, 3) := by decide +kernel
theorem dL_law_1455 : decode cL_law 1455 = .ok (.aload_n 3, 1) := by decide +kernel
theorem dL_law_1456 : decode cL_law 1456 = .ok (.iconst 0, 1) := by decide +kernel
theorem dL_law_1457 : decode cL_law 1457 = .ok (.laload, 1) := by decide +kernel
theorem dL_law_1458 : decode cL_law 1458 = .ok (.iload 6, 2) := by decide +kernel
theorem dL_law_1460 : decode cL_law 1460 = .ok (.i2l, 1) := by decide +kernel
theorem dL_law_1461 : decode cL_law 1461 = .ok (.lcmp, 1) := by decide +kernel
theorem dL_law_1462 : decode cL_law 1462 = .ok (.ifCond .eq 5, 3) := by decide +kernel
theorem dL_law_1465 : decode cL_law 1465 = .ok (.iconst 0, 1) := by decide +kernel
theorem dL_law_1466 : decode cL_law 1466 = .ok (.ireturn, 1) := by decide +kernel
theorem dL_law_1467 : decode cL_law 1467 = .ok (.goto 170, 3) := by decide +kernel
theorem dL_law_1470 : decode cL_law 1470 = .ok (.aload_n 1, 1) := by decide +kernel
theorem dL_law_1471 : decode cL_law 1471 = .ok (.aload_n 0, 1) := by decide +kernel
theorem dL_law_1472 : decode cL_law 1472 = .ok (.iload 4, 2) := by decide +kernel
theorem dL_law_1474 : decode cL_law 1474 = .ok (.iconst 1, 1) := by decide +kernel
theorem dL_law_1475 : decode cL_law 1475 = .ok (.iadd, 1) := by decide +kernel
theorem dL_law_1476 : decode cL_law 1476 = .ok (.iaload, 1) := by decide +kernel
theorem dL_law_1477 : decode cL_law 1477 = .ok (.aload_n 3, 1) := by decide +kernel
theorem dL_law_1478 : decode cL_law 1478 = .ok (.invokestatic 174, 3) := by decide +kernel
theorem dL_law_1481 : decode cL_law 1481 = .ok (.istore 5, 2) := by decide +kernel
theorem dL_law_1483 : decode cL_law 1483 = .ok (.aload_n 2, 1) := by decide +kernel
theorem dL_law_1484 : decode cL_law 1484 = .ok (.aload_n 0, 1) := by decide +kernel
theorem dL_law_1485 : decode cL_law 1485 = .ok (.iload 4, 2) := by decide +kernel
theorem dL_law_1487 : decode cL_law 1487 = .ok (.iconst 1, 1) := by decide +kernel
theorem dL_law_1488 : decode cL_law 1488 = .ok (.iadd, 1) := by decide +kernel
theorem dL_law_1489 : decode cL_law 1489 = .ok (.iaload, 1) := by decide +kernel
theorem dL_law_1490 : decode cL_law 1490 = .ok (.invokevirtual 176, 3) := by decide +kernel
theorem dL_law_1493 : decode cL_law 1493 = .ok (.istore 6, 2) := by decide +kernel
theorem dL_law_1495 : decode cL_law 1495 = .ok (.aload_n 2, 1) := by decide +kernel
theorem dL_law_1496 : decode cL_law 1496 = .ok (.invokevirtual 99, 3) := by decide +kernel
theorem dL_law_1499 : decode cL_law 1499 = .ok (.iload 5, 2) := by decide +kernel
theorem dL_law_1501 : decode cL_law 1501 = .ok (.if_icmp .eq 5, 3) := by decide +kernel
theorem dL_law_1504 : decode cL_law 1504 = .ok (.iconst 0, 1) := by decide +kernel
theorem dL_law_1505 : decode cL_law 1505 = .ok (.ireturn, 1) := by decide +kernel
theorem dL_law_1506 : decode cL_law 1506 = .ok (.iload 5, 2) := by decide +kernel
theorem dL_law_1508 : decode cL_law 1508 = .ok (.ifCond .ne 15, 3) := by decide +kernel
theorem dL_law_1511 : decode cL_law 1511 = .ok (.aload_n 3, 1) := by decide +kernel
theorem dL_law_1512 : decode cL_law 1512 = .ok (.iconst 0, 1) := by decide +kernel
theorem dL_law_1513 : decode cL_law 1513 = .ok (.laload, 1) := by decide +kernel
theorem dL_law_1514 : decode cL_law 1514 = .ok (.iload 6, 2) := by decide +kernel
theorem dL_law_1516 : decode cL_law 1516 = .ok (.i2l, 1) := by decide +kernel
theorem dL_law_1517 : decode cL_law 1517 = .ok (.lcmp, 1) := by decide +kernel
theorem dL_law_1518 : decode cL_law 1518 = .ok (.ifCond .eq 5, 3) := by decide +kernel
theorem dL_law_1521 : decode cL_law 1521 = .ok (.iconst 0, 1) := by decide +kernel
theorem dL_law_1522 : decode cL_law 1522 = .ok (.ireturn, 1) := by decide +kernel
theorem dL_law_1523 : decode cL_law 1523 = .ok (.goto 114, 3) := by decide +kernel
theorem dL_law_1526 : decode cL_law 1526 = .ok (.aload_n 1, 1) := by decide +kernel
theorem dL_law_1527 : decode cL_law 1527 = .ok (.aload_n 0, 1) := by decide +kernel
theorem dL_law_1528 : decode cL_law 1528 = .ok (.iload 4, 2) := by decide +kernel
theorem dL_law_1530 : decode cL_law 1530 = .ok (.iconst 1, 1) := by decide +kernel
theorem dL_law_1531 : decode cL_law 1531 = .ok (.iadd, 1) := by decide +kernel
theorem dL_law_1532 : decode cL_law 1532 = .ok (.iaload, 1) := by decide +kernel
theorem dL_law_1533 : decode cL_law 1533 = .ok (.aload_n 0, 1) := by decide +kernel
theorem dL_law_1534 : decode cL_law 1534 = .ok (.iload 4, 2) := by decide +kernel
theorem dL_law_1536 : decode cL_law 1536 = .ok (.iconst 2, 1) := by decide +kernel
theorem dL_law_1537 : decode cL_law 1537 = .ok (.iadd, 1) := by decide +kernel
theorem dL_law_1538 : decode cL_law 1538 = .ok (.iaload, 1) := by decide +kernel
theorem dL_law_1539 : decode cL_law 1539 = .ok (.aload_n 3, 1) := by decide +kernel
theorem dL_law_1540 : decode cL_law 1540 = .ok (.invokestatic 177, 3) := by decide +kernel
theorem dL_law_1543 : decode cL_law 1543 = .ok (.istore 5, 2) := by decide +kernel
theorem dL_law_1545 : decode cL_law 1545 = .ok (.aload_n 2, 1) := by decide +kernel
theorem dL_law_1546 : decode cL_law 1546 = .ok (.aload_n 0, 1) := by decide +kernel
theorem dL_law_1547 : decode cL_law 1547 = .ok (.iload 4, 2) := by decide +kernel
theorem dL_law_1549 : decode cL_law 1549 = .ok (.iconst 1, 1) := by decide +kernel
theorem dL_law_1550 : decode cL_law 1550 = .ok (.iadd, 1) := by decide +kernel
theorem dL_law_1551 : decode cL_law 1551 = .ok (.iaload, 1) := by decide +kernel
theorem dL_law_1552 : decode cL_law 1552 = .ok (.aload_n 0, 1) := by decide +kernel
theorem dL_law_1553 : decode cL_law 1553 = .ok (.iload 4, 2) := by decide +kernel
theorem dL_law_1555 : decode cL_law 1555 = .ok (.iconst 2, 1) := by decide +kernel
theorem dL_law_1556 : decode cL_law 1556 = .ok (.iadd, 1) := by decide +kernel
theorem dL_law_1557 : decode cL_law 1557 = .ok (.iaload, 1) := by decide +kernel
theorem dL_law_1558 : decode cL_law 1558 = .ok (.invokevirtual 179, 3) := by decide +kernel
theorem dL_law_1561 : decode cL_law 1561 = .ok (.istore 6, 2) := by decide +kernel
theorem dL_law_1563 : decode cL_law 1563 = .ok (.aload_n 2, 1) := by decide +kernel
theorem dL_law_1564 : decode cL_law 1564 = .ok (.invokevirtual 99, 3) := by decide +kernel
theorem dL_law_1567 : decode cL_law 1567 = .ok (.iload 5, 2) := by decide +kernel
theorem dL_law_1569 : decode cL_law 1569 = .ok (.if_icmp .eq 5, 3) := by decide +kernel
theorem dL_law_1572 : decode cL_law 1572 = .ok (.iconst 0, 1) := by decide +kernel
theorem dL_law_1573 : decode cL_law 1573 = .ok (.ireturn, 1) := by decide +kernel
theorem dL_law_1574 : decode cL_law 1574 = .ok (.iload 5, 2) := by decide +kernel
theorem dL_law_1576 : decode cL_law 1576 = .ok (.ifCond .ne 15, 3) := by decide +kernel
theorem dL_law_1579 : decode cL_law 1579 = .ok (.aload_n 3, 1) := by decide +kernel
theorem dL_law_1580 : decode cL_law 1580 = .ok (.iconst 0, 1) := by decide +kernel
theorem dL_law_1581 : decode cL_law 1581 = .ok (.laload, 1) := by decide +kernel
theorem dL_law_1582 : decode cL_law 1582 = .ok (.iload 6, 2) := by decide +kernel
theorem dL_law_1584 : decode cL_law 1584 = .ok (.i2l, 1) := by decide +kernel
theorem dL_law_1585 : decode cL_law 1585 = .ok (.lcmp, 1) := by decide +kernel
theorem dL_law_1586 : decode cL_law 1586 = .ok (.ifCond .eq 5, 3) := by decide +kernel
theorem dL_law_1589 : decode cL_law 1589 = .ok (.iconst 0, 1) := by decide +kernel
theorem dL_law_1590 : decode cL_law 1590 = .ok (.ireturn, 1) := by decide +kernel
theorem dL_law_1591 : decode cL_law 1591 = .ok (.goto 46, 3) := by decide +kernel
theorem dL_law_1594 : decode cL_law 1594 = .ok (.aload_n 1, 1) := by decide +kernel
theorem dL_law_1595 : decode cL_law 1595 = .ok (.invokevirtual 180, 3) := by decide +kernel
theorem dL_law_1598 : decode cL_law 1598 = .ok (.f2d, 1) := by decide +kernel
theorem dL_law_1599 : decode cL_law 1599 = .ok (.dstore 5, 2) := by decide +kernel
theorem dL_law_1601 : decode cL_law 1601 = .ok (.aload_n 2, 1) := by decide +kernel
theorem dL_law_1602 : decode cL_law 1602 = .ok (.invokevirtual 184, 3) := by decide +kernel
theorem dL_law_1605 : decode cL_law 1605 = .ok (.f2d, 1) := by decide +kernel
theorem dL_law_1606 : decode cL_law 1606 = .ok (.dstore 7, 2) := by decide +kernel
theorem dL_law_1608 : decode cL_law 1608 = .ok (.dload 5, 2) := by decide +kernel
theorem dL_law_1610 : decode cL_law 1610 = .ok (.dload 7, 2) := by decide +kernel
theorem dL_law_1612 : decode cL_law 1612 = .ok (.dcmp .l, 1) := by decide +kernel
theorem dL_law_1613 : decode cL_law 1613 = .ok (.ifCond .eq 21, 3) := by decide +kernel
theorem dL_law_1616 : decode cL_law 1616 = .ok (.dload 5, 2) := by decide +kernel
theorem dL_law_1618 : decode cL_law 1618 = .ok (.dload 5, 2) := by decide +kernel
theorem dL_law_1620 : decode cL_law 1620 = .ok (.dcmp .l, 1) := by decide +kernel
theorem dL_law_1621 : decode cL_law 1621 = .ok (.ifCond .eq 11, 3) := by decide +kernel
theorem dL_law_1624 : decode cL_law 1624 = .ok (.dload 7, 2) := by decide +kernel
theorem dL_law_1626 : decode cL_law 1626 = .ok (.dload 7, 2) := by decide +kernel
theorem dL_law_1628 : decode cL_law 1628 = .ok (.dcmp .l, 1) := by decide +kernel
theorem dL_law_1629 : decode cL_law 1629 = .ok (.ifCond .ne 5, 3) := by decide +kernel
theorem dL_law_1632 : decode cL_law 1632 = .ok (.iconst 0, 1) := by decide +kernel
theorem dL_law_1633 : decode cL_law 1633 = .ok (.ireturn, 1) := by decide +kernel
theorem dL_law_1634 : decode cL_law 1634 = .ok (.goto 3, 3) := by decide +kernel
theorem dL_law_1637 : decode cL_law 1637 = .ok (.iinc 4 4, 3) := by decide +kernel
theorem dL_law_1640 : decode cL_law 1640 = .ok (.goto (-1617), 3) := by decide +kernel
theorem dL_law_1643 : decode cL_law 1643 = .ok (.iconst 1, 1) := by decide +kernel
theorem dL_law_1644 : decode cL_law 1644 = .ok (.ireturn, 1) := by decide +kernel
