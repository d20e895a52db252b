theorem dX0_init_0 : decode cX0_init 0 = .ok (.aload_n 0, 1) := by decide +kernel
theorem dX0_init_1 : decode cX0_init 1 = .ok (.invokespecial 3, 3) := by decide +kernel
theorem dX0_init_4 : decode cX0_init 4 = .ok (.return_, 1) := by decide +kernel
theorem dX0_copyFrom_0 : decode cX0_copyFrom 0 = .ok (.aload_n 0, 1) := by decide +kernel
theorem dX0_copyFrom_1 : decode cX0_copyFrom 1 = .ok (.aload_n 1, 1) := by decide +kernel
theorem dX0_copyFrom_2 : decode cX0_copyFrom 2 = .ok (.getfield 9, 3) := by decide +kernel
theorem dX0_copyFrom_5 : decode cX0_copyFrom 5 = .ok (.putfield 9, 3) := by decide +kernel
theorem dX0_copyFrom_8 : decode cX0_copyFrom 8 = .ok (.aload_n 0, 1) := by decide +kernel
theorem dX0_copyFrom_9 : decode cX0_copyFrom 9 = .ok (.aload_n 1, 1) := by decide +kernel
theorem dX0_copyFrom_10 : decode cX0_copyFrom 10 = .ok (.getfield 15, 3) := by decide +kernel
theorem dX0_copyFrom_13 : decode cX0_copyFrom 13 = .ok (.putfield 15, 3) := by decide +kernel
theorem dX0_copyFrom_16 : decode cX0_copyFrom 16 = .ok (.aload_n 0, 1) := by decide +kernel
theorem dX0_copyFrom_17 : decode cX0_copyFrom 17 = .ok (.aload_n 1, 1) := by decide +kernel
theorem dX0_copyFrom_18 : decode cX0_copyFrom 18 = .ok (.getfield 18, 3) := by decide +kernel
theorem dX0_copyFrom_21 : decode cX0_copyFrom 21 = .ok (.putfield 18, 3) := by decide +kernel
theorem dX0_copyFrom_24 : decode cX0_copyFrom 24 = .ok (.aload_n 0, 1) := by decide +kernel
theorem dX0_copyFrom_25 : decode cX0_copyFrom 25 = .ok (.aload_n 1, 1) := by decide +kernel
theorem dX0_copyFrom_26 : decode cX0_copyFrom 26 = .ok (.getfield 21, 3) := by decide +kernel
theorem dX0_copyFrom_29 : decode cX0_copyFrom 29 = .ok (.putfield 21, 3) := by decide +kernel
theorem dX0_copyFrom_32 : decode cX0_copyFrom 32 = .ok (.aload_n 0, 1) := by decide +kernel
theorem dX0_copyFrom_33 : decode cX0_copyFrom 33 = .ok (.aload_n 1, 1) := by decide +kernel
theorem dX0_copyFrom_34 : decode cX0_copyFrom 34 = .ok (.getfield 24, 3) := by decide +kernel
theorem dX0_copyFrom_37 : decode cX0_copyFrom 37 = .ok (.putfield 24, 3) := by decide +kernel
theorem dX0_copyFrom_40 : decode cX0_copyFrom 40 = .ok (.aload_n 0, 1) := by decide +kernel
theorem dX0_copyFrom_41 : decode cX0_copyFrom 41 = .ok (.aload_n 1, 1) := by decide +kernel
theorem dX0_copyFrom_42 : decode cX0_copyFrom 42 = .ok (.getfield 27, 3) := by decide +kernel
theorem dX0_copyFrom_45 : decode cX0_copyFrom 45 = .ok (.putfield 27, 3) := by decide +kernel
theorem dX0_copyFrom_48 : decode cX0_copyFrom 48 = .ok (.aload_n 0, 1) := by decide +kernel
theorem dX0_copyFrom_49 : decode cX0_copyFrom 49 = .ok (.aload_n 1, 1) := by decide +kernel
theorem dX0_copyFrom_50 : decode cX0_copyFrom 50 = .ok (.getfield 30, 3) := by decide +kernel
theorem dX0_copyFrom_53 : decode cX0_copyFrom 53 = .ok (.putfield 30, 3) := by decide +kernel
theorem dX0_copyFrom_56 : decode cX0_copyFrom 56 = .ok (.aload_n 0, 1) := by decide +kernel
theorem dX0_copyFrom_57 : decode cX0_copyFrom 57 = .ok (.aload_n 1, 1) := by decide +kernel
theorem dX0_copyFrom_58 : decode cX0_copyFrom 58 = .ok (.getfield 33, 3) := by decide +kernel
theorem dX0_copyFrom_61 : decode cX0_copyFrom 61 = .ok (.putfield 33, 3) := by decide +kernel
theorem dX0_copyFrom_64 : decode cX0_copyFrom 64 = .ok (.aload_n 0, 1) := by decide +kernel
theorem dX0_copyFrom_65 : decode cX0_copyFrom 65 = .ok (.aload_n 1, 1) := by decide +kernel
theorem dX0_copyFrom_66 : decode cX0_copyFrom 66 = .ok (.getfield 36, 3) := by decide +kernel
theorem dX0_copyFrom_69 : decode cX0_copyFrom 69 = .ok (.putfield 36, 3) := by decide +kernel
theorem dX0_copyFrom_72 : decode cX0_copyFrom 72 = .ok (.return_, 1) := by decide +kernel
theorem dX0_makeNew_0 : decode cX0_makeNew 0 = .ok (.aload_n 0, 1) := by decide +kernel
theorem dX0_makeNew_1 : decode cX0_makeNew 1 = .ok (.iconst 0, 1) := by decide +kernel
theorem dX0_makeNew_2 : decode cX0_makeNew 2 = .ok (.putfield 9, 3) := by decide +kernel
theorem dX0_makeNew_5 : decode cX0_makeNew 5 = .ok (.aload_n 0, 1) := by decide +kernel
theorem dX0_makeNew_6 : decode cX0_makeNew 6 = .ok (.iconst 0, 1) := by decide +kernel
theorem dX0_makeNew_7 : decode cX0_makeNew 7 = .ok (.putfield 15, 3) := by decide +kernel
theorem dX0_makeNew_10 : decode cX0_makeNew 10 = .ok (.aload_n 0, 1) := by decide +kernel
theorem dX0_makeNew_11 : decode cX0_makeNew 11 = .ok (.iconst 0, 1) := by decide +kernel
theorem dX0_makeNew_12 : decode cX0_makeNew 12 = .ok (.putfield 18, 3) := by decide +kernel
theorem dX0_makeNew_15 : decode cX0_makeNew 15 = .ok (.aload_n 0, 1) := by decide +kernel
theorem dX0_makeNew_16 : decode cX0_makeNew 16 = .ok (.iconst 0, 1) := by decide +kernel
theorem dX0_makeNew_17 : decode cX0_makeNew 17 = .ok (.putfield 21, 3) := by decide +kernel
theorem dX0_makeNew_20 : decode cX0_makeNew 20 = .ok (.aload_n 0, 1) := by decide +kernel
theorem dX0_makeNew_21 : decode cX0_makeNew 21 = .ok (.iconst 0, 1) := by decide +kernel
theorem dX0_makeNew_22 : decode cX0_makeNew 22 = .ok (.putfield 24, 3) := by decide +kernel
theorem dX0_makeNew_25 : decode cX0_makeNew 25 = .ok (.aload_n 0, 1) := by decide +kernel
theorem dX0_makeNew_26 : decode cX0_makeNew 26 = .ok (.iconst 0, 1) := by decide +kernel
theorem dX0_makeNew_27 : decode cX0_makeNew 27 = .ok (.putfield 27, 3) := by decide +kernel
theorem dX0_makeNew_30 : decode cX0_makeNew 30 = .ok (.aload_n 0, 1) := by decide +kernel
theorem dX0_makeNew_31 : decode cX0_makeNew 31 = .ok (.iconst 0, 1) := by decide +kernel
theorem dX0_makeNew_32 : decode cX0_makeNew 32 = .ok (.putfield 30, 3) := by decide +kernel
theorem dX0_makeNew_35 : decode cX0_makeNew 35 = .ok (.aload_n 0, 1) := by decide +kernel
theorem dX0_makeNew_36 : decode cX0_makeNew 36 = .ok (.iconst 0, 1) := by decide +kernel
theorem dX0_makeNew_37 : decode cX0_makeNew 37 = .ok (.putfield 33, 3) := by decide +kernel
theorem dX0_makeNew_40 : decode cX0_makeNew 40 = .ok (.aload_n 0, 1) := by decide +kernel
theorem dX0_makeNew_41 : decode cX0_makeNew 41 = .ok (.iconst 0, 1) := by decide +kernel
theorem dX0_makeNew_42 : decode cX0_makeNew 42 = .ok (.putfield 36, 3) := by decide +kernel
theorem dX0_makeNew_45 : decode cX0_makeNew 45 = .ok (.return_, 1) := by decide +kernel
theorem dX0_force_0 : decode cX0_force 0 = .ok (.aload_n 0, 1) := by decide +kernel
theorem dX0_force_1 : decode cX0_force 1 = .ok (.getfield 27, 3) := by decide +kernel
theorem dX0_force_4 : decode cX0_force 4 = .ok (.bipush 100, 2) := by decide +kernel
theorem dX0_force_6 : decode cX0_force 6 = .ok (.if_icmp .gt 10, 3) := by decide +kernel
theorem dX0_force_9 : decode cX0_force 9 = .ok (.aload_n 0, 1) := by decide +kernel
theorem dX0_force_10 : decode cX0_force 10 = .ok (.getfield 18, 3) := by decide +kernel
theorem dX0_force_13 : decode cX0_force 13 = .ok (.goto 9, 3) := by decide +kernel
theorem dX0_force_16 : decode cX0_force 16 = .ok (.aload_n 0, 1) := by decide +kernel
theorem dX0_force_17 : decode cX0_force 17 = .ok (.getfield 18, 3) := by decide +kernel
theorem dX0_force_20 : decode cX0_force 20 = .ok (.iconst 2, 1) := by decide +kernel
theorem dX0_force_21 : decode cX0_force 21 = .ok (.idiv, 1) := by decide +kernel
theorem dX0_force_22 : decode cX0_force 22 = .ok (.ireturn, 1) := by decide +kernel
theorem dX0_changeSpeed_0 : decode cX0_changeSpeed 0 = .ok (.aload_n 0, 1) := by decide +kernel
theorem dX0_changeSpeed_1 : decode cX0_changeSpeed 1 = .ok (.getfield 21, 3) := by decide +kernel
theorem dX0_changeSpeed_4 : decode cX0_changeSpeed 4 = .ok (.iload_n 1, 1) := by decide +kernel
theorem dX0_changeSpeed_5 : decode cX0_changeSpeed 5 = .ok (.iadd, 1) := by decide +kernel
theorem dX0_changeSpeed_6 : decode cX0_changeSpeed 6 = .ok (.aload_n 0, 1) := by decide +kernel
theorem dX0_changeSpeed_7 : decode cX0_changeSpeed 7 = .ok (.getfield 15, 3) := by decide +kernel
theorem dX0_changeSpeed_10 : decode cX0_changeSpeed 10 = .ok (.iconst 5, 1) := by decide +kernel
theorem dX0_changeSpeed_11 : decode cX0_changeSpeed 11 = .ok (.idiv, 1) := by decide +kernel
theorem dX0_changeSpeed_12 : decode cX0_changeSpeed 12 = .ok (.iadd, 1) := by decide +kernel
theorem dX0_changeSpeed_13 : decode cX0_changeSpeed 13 = .ok (.aload_n 0, 1) := by decide +kernel
theorem dX0_changeSpeed_14 : decode cX0_changeSpeed 14 = .ok (.invokevirtual 39, 3) := by decide +kernel
theorem dX0_changeSpeed_17 : decode cX0_changeSpeed 17 = .ok (.isub, 1) := by decide +kernel
theorem dX0_changeSpeed_18 : decode cX0_changeSpeed 18 = .ok (.istore_n 2, 1) := by decide +kernel
theorem dX0_changeSpeed_19 : decode cX0_changeSpeed 19 = .ok (.aload_n 0, 1) := by decide +kernel
theorem dX0_changeSpeed_20 : decode cX0_changeSpeed 20 = .ok (.iconst 0, 1) := by decide +kernel
theorem dX0_changeSpeed_21 : decode cX0_changeSpeed 21 = .ok (.bipush 40, 2) := by decide +kernel
theorem dX0_changeSpeed_23 : decode cX0_changeSpeed 23 = .ok (.iload_n 2, 1) := by decide +kernel
theorem dX0_changeSpeed_24 : decode cX0_changeSpeed 24 = .ok (.invokestatic 43, 3) := by decide +kernel
theorem dX0_changeSpeed_27 : decode cX0_changeSpeed 27 = .ok (.invokestatic 49, 3) := by decide +kernel
theorem dX0_changeSpeed_30 : decode cX0_changeSpeed 30 = .ok (.putfield 21, 3) := by decide +kernel
theorem dX0_changeSpeed_33 : decode cX0_changeSpeed 33 = .ok (.aload_n 0, 1) := by decide +kernel
theorem dX0_changeSpeed_34 : decode cX0_changeSpeed 34 = .ok (.aload_n 0, 1) := by decide +kernel
theorem dX0_changeSpeed_35 : decode cX0_changeSpeed 35 = .ok (.getfield 36, 3) := by decide +kernel
theorem dX0_changeSpeed_38 : decode cX0_changeSpeed 38 = .ok (.aload_n 0, 1) := by decide +kernel
theorem dX0_changeSpeed_39 : decode cX0_changeSpeed 39 = .ok (.getfield 21, 3) := by decide +kernel
theorem dX0_changeSpeed_42 : decode cX0_changeSpeed 42 = .ok (.invokestatic 49, 3) := by decide +kernel
theorem dX0_changeSpeed_45 : decode cX0_changeSpeed 45 = .ok (.putfield 36, 3) := by decide +kernel
theorem dX0_changeSpeed_48 : decode cX0_changeSpeed 48 = .ok (.return_, 1) := by decide +kernel
theorem dX0_changeHeat_0 : decode cX0_changeHeat 0 = .ok (.aload_n 0, 1) := by decide +kernel
theorem dX0_changeHeat_1 : decode cX0_changeHeat 1 = .ok (.getfield 21, 3) := by decide +kernel
theorem dX0_changeHeat_4 : decode cX0_changeHeat 4 = .ok (.ifCond .le 25, 3) := by decide +kernel
theorem dX0_changeHeat_7 : decode cX0_changeHeat 7 = .ok (.aload_n 0, 1) := by decide +kernel
theorem dX0_changeHeat_8 : decode cX0_changeHeat 8 = .ok (.sipush 200, 3) := by decide +kernel
theorem dX0_changeHeat_11 : decode cX0_changeHeat 11 = .ok (.aload_n 0, 1) := by decide +kernel
theorem dX0_changeHeat_12 : decode cX0_changeHeat 12 = .ok (.getfield 27, 3) := by decide +kernel
theorem dX0_changeHeat_15 : decode cX0_changeHeat 15 = .ok (.aload_n 0, 1) := by decide +kernel
theorem dX0_changeHeat_16 : decode cX0_changeHeat 16 = .ok (.getfield 18, 3) := by decide +kernel
theorem dX0_changeHeat_19 : decode cX0_changeHeat 19 = .ok (.iadd, 1) := by decide +kernel
theorem dX0_changeHeat_20 : decode cX0_changeHeat 20 = .ok (.invokestatic 43, 3) := by decide +kernel
theorem dX0_changeHeat_23 : decode cX0_changeHeat 23 = .ok (.putfield 27, 3) := by decide +kernel
theorem dX0_changeHeat_26 : decode cX0_changeHeat 26 = .ok (.goto 7, 3) := by decide +kernel
theorem dX0_changeHeat_29 : decode cX0_changeHeat 29 = .ok (.aload_n 0, 1) := by decide +kernel
theorem dX0_changeHeat_30 : decode cX0_changeHeat 30 = .ok (.invokevirtual 52, 3) := by decide +kernel
theorem dX0_changeHeat_33 : decode cX0_changeHeat 33 = .ok (.return_, 1) := by decide +kernel
theorem dX0_coolDown_0 : decode cX0_coolDown 0 = .ok (.aload_n 0, 1) := by decide +kernel
theorem dX0_coolDown_1 : decode cX0_coolDown 1 = .ok (.aload_n 0, 1) := by decide +kernel
theorem dX0_coolDown_2 : decode cX0_coolDown 2 = .ok (.getfield 27, 3) := by decide +kernel
theorem dX0_coolDown_5 : decode cX0_coolDown 5 = .ok (.iconst 5, 1) := by decide +kernel
theorem dX0_coolDown_6 : decode cX0_coolDown 6 = .ok (.if_icmp .le 12, 3) := by decide +kernel
theorem dX0_coolDown_9 : decode cX0_coolDown 9 = .ok (.aload_n 0, 1) := by decide +kernel
theorem dX0_coolDown_10 : decode cX0_coolDown 10 = .ok (.getfield 27, 3) := by decide +kernel
theorem dX0_coolDown_13 : decode cX0_coolDown 13 = .ok (.iconst 5, 1) := by decide +kernel
theorem dX0_coolDown_14 : decode cX0_coolDown 14 = .ok (.isub, 1) := by decide +kernel
theorem dX0_coolDown_15 : decode cX0_coolDown 15 = .ok (.goto 4, 3) := by decide +kernel
theorem dX0_coolDown_18 : decode cX0_coolDown 18 = .ok (.iconst 0, 1) := by decide +kernel
theorem dX0_coolDown_19 : decode cX0_coolDown 19 = .ok (.putfield 27, 3) := by decide +kernel
theorem dX0_coolDown_22 : decode cX0_coolDown 22 = .ok (.return_, 1) := by decide +kernel
theorem dX0_number_0 : decode cX0_number 0 = .ok (.iload_n 1, 1) := by decide +kernel
theorem dX0_number_1 : decode cX0_number 1 = .ok (.tableswitch 96 0 8 #[51, 56, 61, 66, 71, 76, 81, 86, 91], 51) := by decide +kernel
theorem dX0_number_52 : decode cX0_number 52 = .ok (.aload_n 0, 1) := by decide +kernel
theorem dX0_number_53 : decode cX0_number 53 = .ok (.getfield 9, 3) := by decide +kernel
theorem dX0_number_56 : decode cX0_number 56 = .ok (.ireturn, 1) := by decide +kernel
theorem dX0_number_57 : decode cX0_number 57 = .ok (.aload_n 0, 1) := by decide +kernel
theorem dX0_number_58 : decode cX0_number 58 = .ok (.getfield 15, 3) := by decide +kernel
theorem dX0_number_61 : decode cX0_number 61 = .ok (.ireturn, 1) := by decide +kernel
theorem dX0_number_62 : decode cX0_number 62 = .ok (.aload_n 0, 1) := by decide +kernel
theorem dX0_number_63 : decode cX0_number 63 = .ok (.getfield 18, 3) := by decide +kernel
theorem dX0_number_66 : decode cX0_number 66 = .ok (.ireturn, 1) := by decide +kernel
theorem dX0_number_67 : decode cX0_number 67 = .ok (.aload_n 0, 1) := by decide +kernel
theorem dX0_number_68 : decode cX0_number 68 = .ok (.getfield 21, 3) := by decide +kernel
theorem dX0_number_71 : decode cX0_number 71 = .ok (.ireturn, 1) := by decide +kernel
theorem dX0_number_72 : decode cX0_number 72 = .ok (.aload_n 0, 1) := by decide +kernel
theorem dX0_number_73 : decode cX0_number 73 = .ok (.getfield 24, 3) := by decide +kernel
theorem dX0_number_76 : decode cX0_number 76 = .ok (.ireturn, 1) := by decide +kernel
theorem dX0_number_77 : decode cX0_number 77 = .ok (.aload_n 0, 1) := by decide +kernel
theorem dX0_number_78 : decode cX0_number 78 = .ok (.getfield 27, 3) := by decide +kernel
theorem dX0_number_81 : decode cX0_number 81 = .ok (.ireturn, 1) := by decide +kernel
theorem dX0_number_82 : decode cX0_number 82 = .ok (.aload_n 0, 1) := by decide +kernel
theorem dX0_number_83 : decode cX0_number 83 = .ok (.invokevirtual 39, 3) := by decide +kernel
theorem dX0_number_86 : decode cX0_number 86 = .ok (.ireturn, 1) := by decide +kernel
theorem dX0_number_87 : decode cX0_number 87 = .ok (.aload_n 0, 1) := by decide +kernel
theorem dX0_number_88 : decode cX0_number 88 = .ok (.getfield 30, 3) := by decide +kernel
theorem dX0_number_91 : decode cX0_number 91 = .ok (.ireturn, 1) := by decide +kernel
theorem dX0_number_92 : decode cX0_number 92 = .ok (.aload_n 0, 1) := by decide +kernel
theorem dX0_number_93 : decode cX0_number 93 = .ok (.getfield 33, 3) := by decide +kernel
theorem dX0_number_96 : decode cX0_number 96 = .ok (.ireturn, 1) := by decide +kernel
theorem dX0_number_97 : decode cX0_number 97 = .ok (.aload_n 0, 1) := by decide +kernel
theorem dX0_number_98 : decode cX0_number 98 = .ok (.getfield 36, 3) := by decide +kernel
theorem dX0_number_101 : decode cX0_number 101 = .ok (.ireturn, 1) := by decide +kernel
theorem dX1_init_0 : decode cX1_init 0 = .ok (.aload_n 0, 1) := by decide +kernel
theorem dX1_init_1 : decode cX1_init 1 = .ok (.invokespecial 3, 3) := by decide +kernel
theorem dX1_init_4 : decode cX1_init 4 = .ok (.aload_n 0, 1) := by decide +kernel
theorem dX1_init_5 : decode cX1_init 5 = .ok (.bipush 6, 2) := by decide +kernel
theorem dX1_init_7 : decode cX1_init 7 = .ok (.anewarray 9, 3) := by decide +kernel
theorem dX1_init_10 : decode cX1_init 10 = .ok (.putfield 11, 3) := by decide +kernel
theorem dX1_init_13 : decode cX1_init 13 = .ok (.iconst 0, 1) := by decide +kernel
theorem dX1_init_14 : decode cX1_init 14 = .ok (.istore_n 1, 1) := by decide +kernel
theorem dX1_init_15 : decode cX1_init 15 = .ok (.iload_n 1, 1) := by decide +kernel
theorem dX1_init_16 : decode cX1_init 16 = .ok (.bipush 6, 2) := by decide +kernel
theorem dX1_init_18 : decode cX1_init 18 = .ok (.if_icmp .ge 22, 3) := by decide +kernel
theorem dX1_init_21 : decode cX1_init 21 = .ok (.aload_n 0, 1) := by decide +kernel
theorem dX1_init_22 : decode cX1_init 22 = .ok (.getfield 11, 3) := by decide +kernel
theorem dX1_init_25 : decode cX1_init 25 = .ok (.iload_n 1, 1) := by decide +kernel
theorem dX1_init_26 : decode cX1_init 26 = .ok (.new 9, 3) := by decide +kernel
theorem dX1_init_29 : decode cX1_init 29 = .ok (.dup, 1) := by decide +kernel
theorem dX1_init_30 : decode cX1_init 30 = .ok (.invokespecial 17, 3) := by decide +kernel
theorem dX1_init_33 : decode cX1_init 33 = .ok (.aastore, 1) := by decide +kernel
theorem dX1_init_34 : decode cX1_init 34 = .ok (.iinc 1 1, 3) := by decide +kernel
theorem dX1_init_37 : decode cX1_init 37 = .ok (.goto (-22), 3) := by decide +kernel
theorem dX1_init_40 : decode cX1_init 40 = .ok (.return_, 1) := by decide +kernel
theorem dX1_push_0 : decode cX1_push 0 = .ok (.aload_n 0, 1) := by decide +kernel
theorem dX1_push_1 : decode cX1_push 1 = .ok (.getfield 11, 3) := by decide +kernel
theorem dX1_push_4 : decode cX1_push 4 = .ok (.aload_n 0, 1) := by decide +kernel
theorem dX1_push_5 : decode cX1_push 5 = .ok (.getfield 18, 3) := by decide +kernel
theorem dX1_push_8 : decode cX1_push 8 = .ok (.aaload, 1) := by decide +kernel
theorem dX1_push_9 : decode cX1_push 9 = .ok (.aload_n 1, 1) := by decide +kernel
theorem dX1_push_10 : decode cX1_push 10 = .ok (.invokevirtual 22, 3) := by decide +kernel
theorem dX1_push_13 : decode cX1_push 13 = .ok (.aload_n 0, 1) := by decide +kernel
theorem dX1_push_14 : decode cX1_push 14 = .ok (.aload_n 0, 1) := by decide +kernel
theorem dX1_push_15 : decode cX1_push 15 = .ok (.getfield 18, 3) := by decide +kernel
theorem dX1_push_18 : decode cX1_push 18 = .ok (.iconst 1, 1) := by decide +kernel
theorem dX1_push_19 : decode cX1_push 19 = .ok (.iadd, 1) := by decide +kernel
theorem dX1_push_20 : decode cX1_push 20 = .ok (.bipush 6, 2) := by decide +kernel
theorem dX1_push_22 : decode cX1_push 22 = .ok (.if_icmp .ge 12, 3) := by decide +kernel
theorem dX1_push_25 : decode cX1_push 25 = .ok (.aload_n 0, 1) := by decide +kernel
theorem dX1_push_26 : decode cX1_push 26 = .ok (.getfield 18, 3) := by decide +kernel
theorem dX1_push_29 : decode cX1_push 29 = .ok (.iconst 1, 1) := by decide +kernel
theorem dX1_push_30 : decode cX1_push 30 = .ok (.iadd, 1) := by decide +kernel
theorem dX1_push_31 : decode cX1_push 31 = .ok (.goto 4, 3) := by decide +kernel
theorem dX1_push_34 : decode cX1_push 34 = .ok (.iconst 0, 1) := by decide +kernel
theorem dX1_push_35 : decode cX1_push 35 = .ok (.putfield 18, 3) := by decide +kernel
theorem dX1_push_38 : decode cX1_push 38 = .ok (.aload_n 0, 1) := by decide +kernel
theorem dX1_push_39 : decode cX1_push 39 = .ok (.bipush 6, 2) := by decide +kernel
theorem dX1_push_41 : decode cX1_push 41 = .ok (.aload_n 0, 1) := by decide +kernel
theorem dX1_push_42 : decode cX1_push 42 = .ok (.getfield 26, 3) := by decide +kernel
theorem dX1_push_45 : decode cX1_push 45 = .ok (.iconst 1, 1) := by decide +kernel
theorem dX1_push_46 : decode cX1_push 46 = .ok (.iadd, 1) := by decide +kernel
theorem dX1_push_47 : decode cX1_push 47 = .ok (.invokestatic 29, 3) := by decide +kernel
theorem dX1_push_50 : decode cX1_push 50 = .ok (.putfield 26, 3) := by decide +kernel
theorem dX1_push_53 : decode cX1_push 53 = .ok (.return_, 1) := by decide +kernel
theorem dX1_popInto_0 : decode cX1_popInto 0 = .ok (.aload_n 0, 1) := by decide +kernel
theorem dX1_popInto_1 : decode cX1_popInto 1 = .ok (.aload_n 0, 1) := by decide +kernel
theorem dX1_popInto_2 : decode cX1_popInto 2 = .ok (.getfield 18, 3) := by decide +kernel
theorem dX1_popInto_5 : decode cX1_popInto 5 = .ok (.ifCond .le 12, 3) := by decide +kernel
theorem dX1_popInto_8 : decode cX1_popInto 8 = .ok (.aload_n 0, 1) := by decide +kernel
theorem dX1_popInto_9 : decode cX1_popInto 9 = .ok (.getfield 18, 3) := by decide +kernel
theorem dX1_popInto_12 : decode cX1_popInto 12 = .ok (.iconst 1, 1) := by decide +kernel
theorem dX1_popInto_13 : decode cX1_popInto 13 = .ok (.isub, 1) := by decide +kernel
theorem dX1_popInto_14 : decode cX1_popInto 14 = .ok (.goto 4, 3) := by decide +kernel
theorem dX1_popInto_17 : decode cX1_popInto 17 = .ok (.iconst 5, 1) := by decide +kernel
theorem dX1_popInto_18 : decode cX1_popInto 18 = .ok (.putfield 18, 3) := by decide +kernel
theorem dX1_popInto_21 : decode cX1_popInto 21 = .ok (.aload_n 0, 1) := by decide +kernel
theorem dX1_popInto_22 : decode cX1_popInto 22 = .ok (.dup, 1) := by decide +kernel
theorem dX1_popInto_23 : decode cX1_popInto 23 = .ok (.getfield 26, 3) := by decide +kernel
theorem dX1_popInto_26 : decode cX1_popInto 26 = .ok (.iconst 1, 1) := by decide +kernel
theorem dX1_popInto_27 : decode cX1_popInto 27 = .ok (.isub, 1) := by decide +kernel
theorem dX1_popInto_28 : decode cX1_popInto 28 = .ok (.putfield 26, 3) := by decide +kernel
theorem dX1_popInto_31 : decode cX1_popInto 31 = .ok (.aload_n 1, 1) := by decide +kernel
theorem dX1_popInto_32 : decode cX1_popInto 32 = .ok (.aload_n 0, 1) := by decide +kernel
theorem dX1_popInto_33 : decode cX1_popInto 33 = .ok (.getfield 11, 3) := by decide +kernel
theorem dX1_popInto_36 : decode cX1_popInto 36 = .ok (.aload_n 0, 1) := by decide +kernel
theorem dX1_popInto_37 : decode cX1_popInto 37 = .ok (.getfield 18, 3) := by decide +kernel
theorem dX1_popInto_40 : decode cX1_popInto 40 = .ok (.aaload, 1) := by decide +kernel
theorem dX1_popInto_41 : decode cX1_popInto 41 = .ok (.invokevirtual 22, 3) := by decide +kernel
theorem dX1_popInto_44 : decode cX1_popInto 44 = .ok (.return_, 1) := by decide +kernel
theorem dX2_init_0 : decode cX2_init 0 = .ok (.aload_n 0, 1) := by decide +kernel
theorem dX2_init_1 : decode cX2_init 1 = .ok (.invokespecial 3, 3) := by decide +kernel
theorem dX2_init_4 : decode cX2_init 4 = .ok (.aload_n 0, 1) := by decide +kernel
theorem dX2_init_5 : decode cX2_init 5 = .ok (.bipush 60, 2) := by decide +kernel
theorem dX2_init_7 : decode cX2_init 7 = .ok (.newarray .char, 2) := by decide +kernel
theorem dX2_init_9 : decode cX2_init 9 = .ok (.putfield 9, 3) := by decide +kernel
theorem dX2_init_12 : decode cX2_init 12 = .ok (.return_, 1) := by decide +kernel
theorem dX2_addSign_0 : decode cX2_addSign 0 = .ok (.aload_n 0, 1) := by decide +kernel
theorem dX2_addSign_1 : decode cX2_addSign 1 = .ok (.getfield 15, 3) := by decide +kernel
theorem dX2_addSign_4 : decode cX2_addSign 4 = .ok (.ifCond .lt 12, 3) := by decide +kernel
theorem dX2_addSign_7 : decode cX2_addSign 7 = .ok (.aload_n 0, 1) := by decide +kernel
theorem dX2_addSign_8 : decode cX2_addSign 8 = .ok (.getfield 15, 3) := by decide +kernel
theorem dX2_addSign_11 : decode cX2_addSign 11 = .ok (.bipush 60, 2) := by decide +kernel
theorem dX2_addSign_13 : decode cX2_addSign 13 = .ok (.if_icmp .lt 5, 3) := by decide +kernel
theorem dX2_addSign_16 : decode cX2_addSign 16 = .ok (.iconst 0, 1) := by decide +kernel
theorem dX2_addSign_17 : decode cX2_addSign 17 = .ok (.ireturn, 1) := by decide +kernel
theorem dX2_addSign_18 : decode cX2_addSign 18 = .ok (.aload_n 0, 1) := by decide +kernel
theorem dX2_addSign_19 : decode cX2_addSign 19 = .ok (.getfield 9, 3) := by decide +kernel
theorem dX2_addSign_22 : decode cX2_addSign 22 = .ok (.aload_n 0, 1) := by decide +kernel
theorem dX2_addSign_23 : decode cX2_addSign 23 = .ok (.getfield 15, 3) := by decide +kernel
theorem dX2_addSign_26 : decode cX2_addSign 26 = .ok (.iload_n 1, 1) := by decide +kernel
theorem dX2_addSign_27 : decode cX2_addSign 27 = .ok (.castore, 1) := by decide +kernel
theorem dX2_addSign_28 : decode cX2_addSign 28 = .ok (.aload_n 0, 1) := by decide +kernel
theorem dX2_addSign_29 : decode cX2_addSign 29 = .ok (.dup, 1) := by decide +kernel
theorem dX2_addSign_30 : decode cX2_addSign 30 = .ok (.getfield 15, 3) := by decide +kernel
theorem dX2_addSign_33 : decode cX2_addSign 33 = .ok (.iconst 1, 1) := by decide +kernel
theorem dX2_addSign_34 : decode cX2_addSign 34 = .ok (.iadd, 1) := by decide +kernel
theorem dX2_addSign_35 : decode cX2_addSign 35 = .ok (.putfield 15, 3) := by decide +kernel
theorem dX2_addSign_38 : decode cX2_addSign 38 = .ok (.iconst 1, 1) := by decide +kernel
theorem dX2_addSign_39 : decode cX2_addSign 39 = .ok (.ireturn, 1) := by decide +kernel
theorem dX2_signAt_0 : decode cX2_signAt 0 = .ok (.iload_n 1, 1) := by decide +kernel
theorem dX2_signAt_1 : decode cX2_signAt 1 = .ok (.ifCond .lt 26, 3) := by decide +kernel
theorem dX2_signAt_4 : decode cX2_signAt 4 = .ok (.iload_n 1, 1) := by decide +kernel
theorem dX2_signAt_5 : decode cX2_signAt 5 = .ok (.aload_n 0, 1) := by decide +kernel
theorem dX2_signAt_6 : decode cX2_signAt 6 = .ok (.getfield 15, 3) := by decide +kernel
theorem dX2_signAt_9 : decode cX2_signAt 9 = .ok (.if_icmp .ge 18, 3) := by decide +kernel
theorem dX2_signAt_12 : decode cX2_signAt 12 = .ok (.iload_n 1, 1) := by decide +kernel
theorem dX2_signAt_13 : decode cX2_signAt 13 = .ok (.bipush 60, 2) := by decide +kernel
theorem dX2_signAt_15 : decode cX2_signAt 15 = .ok (.if_icmp .ge 12, 3) := by decide +kernel
theorem dX2_signAt_18 : decode cX2_signAt 18 = .ok (.aload_n 0, 1) := by decide +kernel
theorem dX2_signAt_19 : decode cX2_signAt 19 = .ok (.getfield 9, 3) := by decide +kernel
theorem dX2_signAt_22 : decode cX2_signAt 22 = .ok (.iload_n 1, 1) := by decide +kernel
theorem dX2_signAt_23 : decode cX2_signAt 23 = .ok (.caload, 1) := by decide +kernel
theorem dX2_signAt_24 : decode cX2_signAt 24 = .ok (.goto 4, 3) := by decide +kernel
theorem dX2_signAt_27 : decode cX2_signAt 27 = .ok (.iconst 0, 1) := by decide +kernel
theorem dX2_signAt_28 : decode cX2_signAt 28 = .ok (.ireturn, 1) := by decide +kernel
theorem dX2_errorIndex_0 : decode cX2_errorIndex 0 = .ok (.iconst 0, 1) := by decide +kernel
theorem dX2_errorIndex_1 : decode cX2_errorIndex 1 = .ok (.istore_n 1, 1) := by decide +kernel
theorem dX2_errorIndex_2 : decode cX2_errorIndex 2 = .ok (.iconst 0, 1) := by decide +kernel
theorem dX2_errorIndex_3 : decode cX2_errorIndex 3 = .ok (.istore_n 2, 1) := by decide +kernel
theorem dX2_errorIndex_4 : decode cX2_errorIndex 4 = .ok (.iload_n 2, 1) := by decide +kernel
theorem dX2_errorIndex_5 : decode cX2_errorIndex 5 = .ok (.aload_n 0, 1) := by decide +kernel
theorem dX2_errorIndex_6 : decode cX2_errorIndex 6 = .ok (.getfield 15, 3) := by decide +kernel
theorem dX2_errorIndex_9 : decode cX2_errorIndex 9 = .ok (.if_icmp .ge 26, 3) := by decide +kernel
theorem dX2_errorIndex_12 : decode cX2_errorIndex 12 = .ok (.iload_n 1, 1) := by decide +kernel
theorem dX2_errorIndex_13 : decode cX2_errorIndex 13 = .ok (.aload_n 0, 1) := by decide +kernel
theorem dX2_errorIndex_14 : decode cX2_errorIndex 14 = .ok (.iload_n 2, 1) := by decide +kernel
theorem dX2_errorIndex_15 : decode cX2_errorIndex 15 = .ok (.invokevirtual 19, 3) := by decide +kernel
theorem dX2_errorIndex_18 : decode cX2_errorIndex 18 = .ok (.invokestatic 23, 3) := by decide +kernel
theorem dX2_errorIndex_21 : decode cX2_errorIndex 21 = .ok (.istore_n 1, 1) := by decide +kernel
theorem dX2_errorIndex_22 : decode cX2_errorIndex 22 = .ok (.iload_n 1, 1) := by decide +kernel
theorem dX2_errorIndex_23 : decode cX2_errorIndex 23 = .ok (.iconst (-1), 1) := by decide +kernel
theorem dX2_errorIndex_24 : decode cX2_errorIndex 24 = .ok (.if_icmp .ne 5, 3) := by decide +kernel
theorem dX2_errorIndex_27 : decode cX2_errorIndex 27 = .ok (.iload_n 2, 1) := by decide +kernel
theorem dX2_errorIndex_28 : decode cX2_errorIndex 28 = .ok (.ireturn, 1) := by decide +kernel
theorem dX2_errorIndex_29 : decode cX2_errorIndex 29 = .ok (.iinc 2 1, 3) := by decide +kernel
theorem dX2_errorIndex_32 : decode cX2_errorIndex 32 = .ok (.goto (-28), 3) := by decide +kernel
theorem dX2_errorIndex_35 : decode cX2_errorIndex 35 = .ok (.aload_n 0, 1) := by decide +kernel
theorem dX2_errorIndex_36 : decode cX2_errorIndex 36 = .ok (.getfield 15, 3) := by decide +kernel
theorem dX2_errorIndex_39 : decode cX2_errorIndex 39 = .ok (.ireturn, 1) := by decide +kernel
theorem dX2_isComplete_0 : decode cX2_isComplete 0 = .ok (.iconst 0, 1) := by decide +kernel
theorem dX2_isComplete_1 : decode cX2_isComplete 1 = .ok (.istore_n 1, 1) := by decide +kernel
theorem dX2_isComplete_2 : decode cX2_isComplete 2 = .ok (.iconst 0, 1) := by decide +kernel
theorem dX2_isComplete_3 : decode cX2_isComplete 3 = .ok (.istore_n 2, 1) := by decide +kernel
theorem dX2_isComplete_4 : decode cX2_isComplete 4 = .ok (.iload_n 2, 1) := by decide +kernel
theorem dX2_isComplete_5 : decode cX2_isComplete 5 = .ok (.aload_n 0, 1) := by decide +kernel
theorem dX2_isComplete_6 : decode cX2_isComplete 6 = .ok (.getfield 15, 3) := by decide +kernel
theorem dX2_isComplete_9 : decode cX2_isComplete 9 = .ok (.if_icmp .ge 24, 3) := by decide +kernel
theorem dX2_isComplete_12 : decode cX2_isComplete 12 = .ok (.iload_n 1, 1) := by decide +kernel
theorem dX2_isComplete_13 : decode cX2_isComplete 13 = .ok (.iconst (-1), 1) := by decide +kernel
theorem dX2_isComplete_14 : decode cX2_isComplete 14 = .ok (.if_icmp .eq 19, 3) := by decide +kernel
theorem dX2_isComplete_17 : decode cX2_isComplete 17 = .ok (.iload_n 1, 1) := by decide +kernel
theorem dX2_isComplete_18 : decode cX2_isComplete 18 = .ok (.aload_n 0, 1) := by decide +kernel
theorem dX2_isComplete_19 : decode cX2_isComplete 19 = .ok (.iload_n 2, 1) := by decide +kernel
theorem dX2_isComplete_20 : decode cX2_isComplete 20 = .ok (.invokevirtual 19, 3) := by decide +kernel
theorem dX2_isComplete_23 : decode cX2_isComplete 23 = .ok (.invokestatic 23, 3) := by decide +kernel
theorem dX2_isComplete_26 : decode cX2_isComplete 26 = .ok (.istore_n 1, 1) := by decide +kernel
theorem dX2_isComplete_27 : decode cX2_isComplete 27 = .ok (.iinc 2 1, 3) := by decide +kernel
theorem dX2_isComplete_30 : decode cX2_isComplete 30 = .ok (.goto (-26), 3) := by decide +kernel
theorem dX2_isComplete_33 : decode cX2_isComplete 33 = .ok (.iload_n 1, 1) := by decide +kernel
theorem dX2_isComplete_34 : decode cX2_isComplete 34 = .ok (.iconst 1, 1) := by decide +kernel
theorem dX2_isComplete_35 : decode cX2_isComplete 35 = .ok (.if_icmp .eq 15, 3) := by decide +kernel
theorem dX2_isComplete_38 : decode cX2_isComplete 38 = .ok (.iload_n 1, 1) := by decide +kernel
theorem dX2_isComplete_39 : decode cX2_isComplete 39 = .ok (.bipush 10, 2) := by decide +kernel
theorem dX2_isComplete_41 : decode cX2_isComplete 41 = .ok (.if_icmp .eq 9, 3) := by decide +kernel
theorem dX2_isComplete_44 : decode cX2_isComplete 44 = .ok (.iload_n 1, 1) := by decide +kernel
theorem dX2_isComplete_45 : decode cX2_isComplete 45 = .ok (.bipush 11, 2) := by decide +kernel
theorem dX2_isComplete_47 : decode cX2_isComplete 47 = .ok (.if_icmp .ne 7, 3) := by decide +kernel
theorem dX2_isComplete_50 : decode cX2_isComplete 50 = .ok (.iconst 1, 1) := by decide +kernel
theorem dX2_isComplete_51 : decode cX2_isComplete 51 = .ok (.goto 4, 3) := by decide +kernel
theorem dX2_isComplete_54 : decode cX2_isComplete 54 = .ok (.iconst 0, 1) := by decide +kernel
theorem dX2_isComplete_55 : decode cX2_isComplete 55 = .ok (.ireturn, 1) := by decide +kernel
theorem dX2_isOrderEnd_0 : decode cX2_isOrderEnd 0 = .ok (.iload_n 1, 1) := by decide +kernel
theorem dX2_isOrderEnd_1 : decode cX2_isOrderEnd 1 = .ok (.aload_n 0, 1) := by decide +kernel
theorem dX2_isOrderEnd_2 : decode cX2_isOrderEnd 2 = .ok (.getfield 15, 3) := by decide +kernel
theorem dX2_isOrderEnd_5 : decode cX2_isOrderEnd 5 = .ok (.if_icmp .eq 13, 3) := by decide +kernel
theorem dX2_isOrderEnd_8 : decode cX2_isOrderEnd 8 = .ok (.aload_n 0, 1) := by decide +kernel
theorem dX2_isOrderEnd_9 : decode cX2_isOrderEnd 9 = .ok (.iload_n 1, 1) := by decide +kernel
theorem dX2_isOrderEnd_10 : decode cX2_isOrderEnd 10 = .ok (.invokevirtual 19, 3) := by decide +kernel
theorem dX2_isOrderEnd_13 : decode cX2_isOrderEnd 13 = .ok (.bipush 59, 2) := by decide +kernel
theorem dX2_isOrderEnd_15 : decode cX2_isOrderEnd 15 = .ok (.if_icmp .ne 7, 3) := by decide +kernel
theorem dX2_isOrderEnd_18 : decode cX2_isOrderEnd 18 = .ok (.iconst 1, 1) := by decide +kernel
theorem dX2_isOrderEnd_19 : decode cX2_isOrderEnd 19 = .ok (.goto 4, 3) := by decide +kernel
theorem dX2_isOrderEnd_22 : decode cX2_isOrderEnd 22 = .ok (.iconst 0, 1) := by decide +kernel
theorem dX2_isOrderEnd_23 : decode cX2_isOrderEnd 23 = .ok (.ireturn, 1) := by decide +kernel
theorem dX2_numberAt_0 : decode cX2_numberAt 0 = .ok (.iconst 0, 1) := by decide +kernel
theorem dX2_numberAt_1 : decode cX2_numberAt 1 = .ok (.istore_n 3, 1) := by decide +kernel
theorem dX2_numberAt_2 : decode cX2_numberAt 2 = .ok (.iload_n 1, 1) := by decide +kernel
theorem dX2_numberAt_3 : decode cX2_numberAt 3 = .ok (.istore 4, 2) := by decide +kernel
theorem dX2_numberAt_5 : decode cX2_numberAt 5 = .ok (.iload 4, 2) := by decide +kernel
theorem dX2_numberAt_7 : decode cX2_numberAt 7 = .ok (.iload_n 2, 1) := by decide +kernel
theorem dX2_numberAt_8 : decode cX2_numberAt 8 = .ok (.if_icmp .ge 24, 3) := by decide +kernel
theorem dX2_numberAt_11 : decode cX2_numberAt 11 = .ok (.iload_n 3, 1) := by decide +kernel
theorem dX2_numberAt_12 : decode cX2_numberAt 12 = .ok (.bipush 10, 2) := by decide +kernel
theorem dX2_numberAt_14 : decode cX2_numberAt 14 = .ok (.imul, 1) := by decide +kernel
theorem dX2_numberAt_15 : decode cX2_numberAt 15 = .ok (.aload_n 0, 1) := by decide +kernel
theorem dX2_numberAt_16 : decode cX2_numberAt 16 = .ok (.iload 4, 2) := by decide +kernel
theorem dX2_numberAt_18 : decode cX2_numberAt 18 = .ok (.invokevirtual 19, 3) := by decide +kernel
theorem dX2_numberAt_21 : decode cX2_numberAt 21 = .ok (.iadd, 1) := by decide +kernel
theorem dX2_numberAt_22 : decode cX2_numberAt 22 = .ok (.bipush 48, 2) := by decide +kernel
theorem dX2_numberAt_24 : decode cX2_numberAt 24 = .ok (.isub, 1) := by decide +kernel
theorem dX2_numberAt_25 : decode cX2_numberAt 25 = .ok (.istore_n 3, 1) := by decide +kernel
theorem dX2_numberAt_26 : decode cX2_numberAt 26 = .ok (.iinc 4 1, 3) := by decide +kernel
theorem dX2_numberAt_29 : decode cX2_numberAt 29 = .ok (.goto (-24), 3) := by decide +kernel
theorem dX2_numberAt_32 : decode cX2_numberAt 32 = .ok (.iload_n 3, 1) := by decide +kernel
theorem dX2_numberAt_33 : decode cX2_numberAt 33 = .ok (.ireturn, 1) := by decide +kernel
theorem dX2_dueAfter_0 : decode cX2_dueAfter 0 = .ok (.iload_n 0, 1) := by decide +kernel
theorem dX2_dueAfter_1 : decode cX2_dueAfter 1 = .ok (.tableswitch 168 0 9 #[55, 168, 60, 77, 89, 96, 114, 127, 144, 161], 55) := by decide +kernel
theorem dX2_dueAfter_56 : decode cX2_dueAfter 56 = .ok (.iload_n 1, 1) := by decide +kernel
theorem dX2_dueAfter_57 : decode cX2_dueAfter 57 = .ok (.invokestatic 27, 3) := by decide +kernel
theorem dX2_dueAfter_60 : decode cX2_dueAfter 60 = .ok (.ireturn, 1) := by decide +kernel
theorem dX2_dueAfter_61 : decode cX2_dueAfter 61 = .ok (.iload_n 1, 1) := by decide +kernel
theorem dX2_dueAfter_62 : decode cX2_dueAfter 62 = .ok (.bipush 48, 2) := by decide +kernel
theorem dX2_dueAfter_64 : decode cX2_dueAfter 64 = .ok (.bipush 55, 2) := by decide +kernel
theorem dX2_dueAfter_66 : decode cX2_dueAfter 66 = .ok (.invokestatic 31, 3) := by decide +kernel
theorem dX2_dueAfter_69 : decode cX2_dueAfter 69 = .ok (.ifCond .eq 7, 3) := by decide +kernel
theorem dX2_dueAfter_72 : decode cX2_dueAfter 72 = .ok (.iconst 3, 1) := by decide +kernel
theorem dX2_dueAfter_73 : decode cX2_dueAfter 73 = .ok (.goto 4, 3) := by decide +kernel
theorem dX2_dueAfter_76 : decode cX2_dueAfter 76 = .ok (.iconst (-1), 1) := by decide +kernel
theorem dX2_dueAfter_77 : decode cX2_dueAfter 77 = .ok (.ireturn, 1) := by decide +kernel
theorem dX2_dueAfter_78 : decode cX2_dueAfter 78 = .ok (.iload_n 1, 1) := by decide +kernel
theorem dX2_dueAfter_79 : decode cX2_dueAfter 79 = .ok (.bipush 43, 2) := by decide +kernel
theorem dX2_dueAfter_81 : decode cX2_dueAfter 81 = .ok (.if_icmp .ne 7, 3) := by decide +kernel
theorem dX2_dueAfter_84 : decode cX2_dueAfter 84 = .ok (.iconst 4, 1) := by decide +kernel
theorem dX2_dueAfter_85 : decode cX2_dueAfter 85 = .ok (.goto 4, 3) := by decide +kernel
theorem dX2_dueAfter_88 : decode cX2_dueAfter 88 = .ok (.iconst (-1), 1) := by decide +kernel
theorem dX2_dueAfter_89 : decode cX2_dueAfter 89 = .ok (.ireturn, 1) := by decide +kernel
theorem dX2_dueAfter_90 : decode cX2_dueAfter 90 = .ok (.iload_n 1, 1) := by decide +kernel
theorem dX2_dueAfter_91 : decode cX2_dueAfter 91 = .ok (.bipush 50, 2) := by decide +kernel
theorem dX2_dueAfter_93 : decode cX2_dueAfter 93 = .ok (.invokestatic 35, 3) := by decide +kernel
theorem dX2_dueAfter_96 : decode cX2_dueAfter 96 = .ok (.ireturn, 1) := by decide +kernel
theorem dX2_dueAfter_97 : decode cX2_dueAfter 97 = .ok (.iload_n 1, 1) := by decide +kernel
theorem dX2_dueAfter_98 : decode cX2_dueAfter 98 = .ok (.bipush 48, 2) := by decide +kernel
theorem dX2_dueAfter_100 : decode cX2_dueAfter 100 = .ok (.bipush 55, 2) := by decide +kernel
theorem dX2_dueAfter_102 : decode cX2_dueAfter 102 = .ok (.invokestatic 31, 3) := by decide +kernel
theorem dX2_dueAfter_105 : decode cX2_dueAfter 105 = .ok (.ifCond .eq 8, 3) := by decide +kernel
theorem dX2_dueAfter_108 : decode cX2_dueAfter 108 = .ok (.bipush 6, 2) := by decide +kernel
theorem dX2_dueAfter_110 : decode cX2_dueAfter 110 = .ok (.goto 4, 3) := by decide +kernel
theorem dX2_dueAfter_113 : decode cX2_dueAfter 113 = .ok (.iconst (-1), 1) := by decide +kernel
theorem dX2_dueAfter_114 : decode cX2_dueAfter 114 = .ok (.ireturn, 1) := by decide +kernel
theorem dX2_dueAfter_115 : decode cX2_dueAfter 115 = .ok (.iload_n 1, 1) := by decide +kernel
theorem dX2_dueAfter_116 : decode cX2_dueAfter 116 = .ok (.bipush 47, 2) := by decide +kernel
theorem dX2_dueAfter_118 : decode cX2_dueAfter 118 = .ok (.if_icmp .ne 8, 3) := by decide +kernel
theorem dX2_dueAfter_121 : decode cX2_dueAfter 121 = .ok (.bipush 7, 2) := by decide +kernel
theorem dX2_dueAfter_123 : decode cX2_dueAfter 123 = .ok (.goto 4, 3) := by decide +kernel
theorem dX2_dueAfter_126 : decode cX2_dueAfter 126 = .ok (.iconst (-1), 1) := by decide +kernel
theorem dX2_dueAfter_127 : decode cX2_dueAfter 127 = .ok (.ireturn, 1) := by decide +kernel
theorem dX2_dueAfter_128 : decode cX2_dueAfter 128 = .ok (.iload_n 1, 1) := by decide +kernel
theorem dX2_dueAfter_129 : decode cX2_dueAfter 129 = .ok (.bipush 48, 2) := by decide +kernel
theorem dX2_dueAfter_131 : decode cX2_dueAfter 131 = .ok (.bipush 57, 2) := by decide +kernel
theorem dX2_dueAfter_133 : decode cX2_dueAfter 133 = .ok (.invokestatic 31, 3) := by decide +kernel
theorem dX2_dueAfter_136 : decode cX2_dueAfter 136 = .ok (.ifCond .eq 7, 3) := by decide +kernel
theorem dX2_dueAfter_139 : decode cX2_dueAfter 139 = .ok (.iconst 1, 1) := by decide +kernel
theorem dX2_dueAfter_140 : decode cX2_dueAfter 140 = .ok (.goto 4, 3) := by decide +kernel
theorem dX2_dueAfter_143 : decode cX2_dueAfter 143 = .ok (.iconst (-1), 1) := by decide +kernel
theorem dX2_dueAfter_144 : decode cX2_dueAfter 144 = .ok (.ireturn, 1) := by decide +kernel
theorem dX2_dueAfter_145 : decode cX2_dueAfter 145 = .ok (.iload_n 1, 1) := by decide +kernel
theorem dX2_dueAfter_146 : decode cX2_dueAfter 146 = .ok (.bipush 48, 2) := by decide +kernel
theorem dX2_dueAfter_148 : decode cX2_dueAfter 148 = .ok (.bipush 55, 2) := by decide +kernel
theorem dX2_dueAfter_150 : decode cX2_dueAfter 150 = .ok (.invokestatic 31, 3) := by decide +kernel
theorem dX2_dueAfter_153 : decode cX2_dueAfter 153 = .ok (.ifCond .eq 7, 3) := by decide +kernel
theorem dX2_dueAfter_156 : decode cX2_dueAfter 156 = .ok (.iconst 1, 1) := by decide +kernel
theorem dX2_dueAfter_157 : decode cX2_dueAfter 157 = .ok (.goto 4, 3) := by decide +kernel
theorem dX2_dueAfter_160 : decode cX2_dueAfter 160 = .ok (.iconst (-1), 1) := by decide +kernel
theorem dX2_dueAfter_161 : decode cX2_dueAfter 161 = .ok (.ireturn, 1) := by decide +kernel
theorem dX2_dueAfter_162 : decode cX2_dueAfter 162 = .ok (.iload_n 1, 1) := by decide +kernel
theorem dX2_dueAfter_163 : decode cX2_dueAfter 163 = .ok (.bipush 54, 2) := by decide +kernel
theorem dX2_dueAfter_165 : decode cX2_dueAfter 165 = .ok (.invokestatic 35, 3) := by decide +kernel
theorem dX2_dueAfter_168 : decode cX2_dueAfter 168 = .ok (.ireturn, 1) := by decide +kernel
theorem dX2_dueAfter_169 : decode cX2_dueAfter 169 = .ok (.iload_n 0, 1) := by decide +kernel
theorem dX2_dueAfter_170 : decode cX2_dueAfter 170 = .ok (.iload_n 1, 1) := by decide +kernel
theorem dX2_dueAfter_171 : decode cX2_dueAfter 171 = .ok (.invokestatic 39, 3) := by decide +kernel
theorem dX2_dueAfter_174 : decode cX2_dueAfter 174 = .ok (.ireturn, 1) := by decide +kernel
theorem dX2_dueAfterLetter_0 : decode cX2_dueAfterLetter 0 = .ok (.iload_n 0, 1) := by decide +kernel
theorem dX2_dueAfterLetter_1 : decode cX2_dueAfterLetter 1 = .ok (.tableswitch 103 98 116 #[95, 103, 103, 103, 103, 103, 103, 103, 103, 103, 93, 97, 91, 103, 103, 103, 95, 103, 100], 91) := by decide +kernel
theorem dX2_dueAfterLetter_92 : decode cX2_dueAfterLetter 92 = .ok (.iconst 1, 1) := by decide +kernel
theorem dX2_dueAfterLetter_93 : decode cX2_dueAfterLetter 93 = .ok (.ireturn, 1) := by decide +kernel
theorem dX2_dueAfterLetter_94 : decode cX2_dueAfterLetter 94 = .ok (.iconst 2, 1) := by decide +kernel
theorem dX2_dueAfterLetter_95 : decode cX2_dueAfterLetter 95 = .ok (.ireturn, 1) := by decide +kernel
theorem dX2_dueAfterLetter_96 : decode cX2_dueAfterLetter 96 = .ok (.iconst 5, 1) := by decide +kernel
theorem dX2_dueAfterLetter_97 : decode cX2_dueAfterLetter 97 = .ok (.ireturn, 1) := by decide +kernel
theorem dX2_dueAfterLetter_98 : decode cX2_dueAfterLetter 98 = .ok (.bipush 8, 2) := by decide +kernel
theorem dX2_dueAfterLetter_100 : decode cX2_dueAfterLetter 100 = .ok (.ireturn, 1) := by decide +kernel
theorem dX2_dueAfterLetter_101 : decode cX2_dueAfterLetter 101 = .ok (.bipush 9, 2) := by decide +kernel
theorem dX2_dueAfterLetter_103 : decode cX2_dueAfterLetter 103 = .ok (.ireturn, 1) := by decide +kernel
theorem dX2_dueAfterLetter_104 : decode cX2_dueAfterLetter 104 = .ok (.iconst (-1), 1) := by decide +kernel
theorem dX2_dueAfterLetter_105 : decode cX2_dueAfterLetter 105 = .ok (.ireturn, 1) := by decide +kernel
theorem dX2_dueAfterFirstDigit_0 : decode cX2_dueAfterFirstDigit 0 = .ok (.iload_n 0, 1) := by decide +kernel
theorem dX2_dueAfterFirstDigit_1 : decode cX2_dueAfterFirstDigit 1 = .ok (.bipush 49, 2) := by decide +kernel
theorem dX2_dueAfterFirstDigit_3 : decode cX2_dueAfterFirstDigit 3 = .ok (.bipush 57, 2) := by decide +kernel
theorem dX2_dueAfterFirstDigit_5 : decode cX2_dueAfterFirstDigit 5 = .ok (.invokestatic 31, 3) := by decide +kernel
theorem dX2_dueAfterFirstDigit_8 : decode cX2_dueAfterFirstDigit 8 = .ok (.ifCond .ne 5, 3) := by decide +kernel
theorem dX2_dueAfterFirstDigit_11 : decode cX2_dueAfterFirstDigit 11 = .ok (.iconst (-1), 1) := by decide +kernel
theorem dX2_dueAfterFirstDigit_12 : decode cX2_dueAfterFirstDigit 12 = .ok (.ireturn, 1) := by decide +kernel
theorem dX2_dueAfterFirstDigit_13 : decode cX2_dueAfterFirstDigit 13 = .ok (.iload_n 0, 1) := by decide +kernel
theorem dX2_dueAfterFirstDigit_14 : decode cX2_dueAfterFirstDigit 14 = .ok (.iload_n 1, 1) := by decide +kernel
theorem dX2_dueAfterFirstDigit_15 : decode cX2_dueAfterFirstDigit 15 = .ok (.if_icmp .ne 6, 3) := by decide +kernel
theorem dX2_dueAfterFirstDigit_18 : decode cX2_dueAfterFirstDigit 18 = .ok (.bipush 11, 2) := by decide +kernel
theorem dX2_dueAfterFirstDigit_20 : decode cX2_dueAfterFirstDigit 20 = .ok (.ireturn, 1) := by decide +kernel
theorem dX2_dueAfterFirstDigit_21 : decode cX2_dueAfterFirstDigit 21 = .ok (.iload_n 0, 1) := by decide +kernel
theorem dX2_dueAfterFirstDigit_22 : decode cX2_dueAfterFirstDigit 22 = .ok (.iload_n 1, 1) := by decide +kernel
theorem dX2_dueAfterFirstDigit_23 : decode cX2_dueAfterFirstDigit 23 = .ok (.if_icmp .ge 8, 3) := by decide +kernel
theorem dX2_dueAfterFirstDigit_26 : decode cX2_dueAfterFirstDigit 26 = .ok (.bipush 10, 2) := by decide +kernel
theorem dX2_dueAfterFirstDigit_28 : decode cX2_dueAfterFirstDigit 28 = .ok (.goto 4, 3) := by decide +kernel
theorem dX2_dueAfterFirstDigit_31 : decode cX2_dueAfterFirstDigit 31 = .ok (.iconst 1, 1) := by decide +kernel
theorem dX2_dueAfterFirstDigit_32 : decode cX2_dueAfterFirstDigit 32 = .ok (.ireturn, 1) := by decide +kernel
theorem dX2_dueAfterEnd_0 : decode cX2_dueAfterEnd 0 = .ok (.iload_n 1, 1) := by decide +kernel
theorem dX2_dueAfterEnd_1 : decode cX2_dueAfterEnd 1 = .ok (.bipush 59, 2) := by decide +kernel
theorem dX2_dueAfterEnd_3 : decode cX2_dueAfterEnd 3 = .ok (.if_icmp .ne 5, 3) := by decide +kernel
theorem dX2_dueAfterEnd_6 : decode cX2_dueAfterEnd 6 = .ok (.iconst 0, 1) := by decide +kernel
theorem dX2_dueAfterEnd_7 : decode cX2_dueAfterEnd 7 = .ok (.ireturn, 1) := by decide +kernel
theorem dX2_dueAfterEnd_8 : decode cX2_dueAfterEnd 8 = .ok (.iload_n 0, 1) := by decide +kernel
theorem dX2_dueAfterEnd_9 : decode cX2_dueAfterEnd 9 = .ok (.bipush 10, 2) := by decide +kernel
theorem dX2_dueAfterEnd_11 : decode cX2_dueAfterEnd 11 = .ok (.if_icmp .ne 14, 3) := by decide +kernel
theorem dX2_dueAfterEnd_14 : decode cX2_dueAfterEnd 14 = .ok (.iload_n 1, 1) := by decide +kernel
theorem dX2_dueAfterEnd_15 : decode cX2_dueAfterEnd 15 = .ok (.bipush 48, 2) := by decide +kernel
theorem dX2_dueAfterEnd_17 : decode cX2_dueAfterEnd 17 = .ok (.bipush 57, 2) := by decide +kernel
theorem dX2_dueAfterEnd_19 : decode cX2_dueAfterEnd 19 = .ok (.invokestatic 31, 3) := by decide +kernel
theorem dX2_dueAfterEnd_22 : decode cX2_dueAfterEnd 22 = .ok (.ifCond .ne 15, 3) := by decide +kernel
theorem dX2_dueAfterEnd_25 : decode cX2_dueAfterEnd 25 = .ok (.iload_n 0, 1) := by decide +kernel
theorem dX2_dueAfterEnd_26 : decode cX2_dueAfterEnd 26 = .ok (.bipush 11, 2) := by decide +kernel
theorem dX2_dueAfterEnd_28 : decode cX2_dueAfterEnd 28 = .ok (.if_icmp .ne 13, 3) := by decide +kernel
theorem dX2_dueAfterEnd_31 : decode cX2_dueAfterEnd 31 = .ok (.iload_n 1, 1) := by decide +kernel
theorem dX2_dueAfterEnd_32 : decode cX2_dueAfterEnd 32 = .ok (.bipush 48, 2) := by decide +kernel
theorem dX2_dueAfterEnd_34 : decode cX2_dueAfterEnd 34 = .ok (.if_icmp .ne 7, 3) := by decide +kernel
theorem dX2_dueAfterEnd_37 : decode cX2_dueAfterEnd 37 = .ok (.iconst 1, 1) := by decide +kernel
theorem dX2_dueAfterEnd_38 : decode cX2_dueAfterEnd 38 = .ok (.goto 4, 3) := by decide +kernel
theorem dX2_dueAfterEnd_41 : decode cX2_dueAfterEnd 41 = .ok (.iconst 0, 1) := by decide +kernel
theorem dX2_dueAfterEnd_42 : decode cX2_dueAfterEnd 42 = .ok (.istore_n 2, 1) := by decide +kernel
theorem dX2_dueAfterEnd_43 : decode cX2_dueAfterEnd 43 = .ok (.iload_n 2, 1) := by decide +kernel
theorem dX2_dueAfterEnd_44 : decode cX2_dueAfterEnd 44 = .ok (.ifCond .eq 7, 3) := by decide +kernel
theorem dX2_dueAfterEnd_47 : decode cX2_dueAfterEnd 47 = .ok (.iconst 1, 1) := by decide +kernel
theorem dX2_dueAfterEnd_48 : decode cX2_dueAfterEnd 48 = .ok (.goto 4, 3) := by decide +kernel
theorem dX2_dueAfterEnd_51 : decode cX2_dueAfterEnd 51 = .ok (.iconst (-1), 1) := by decide +kernel
theorem dX2_dueAfterEnd_52 : decode cX2_dueAfterEnd 52 = .ok (.ireturn, 1) := by decide +kernel
theorem dX2_isDigit_0 : decode cX2_isDigit 0 = .ok (.iload_n 0, 1) := by decide +kernel
theorem dX2_isDigit_1 : decode cX2_isDigit 1 = .ok (.iload_n 1, 1) := by decide +kernel
theorem dX2_isDigit_2 : decode cX2_isDigit 2 = .ok (.if_icmp .lt 12, 3) := by decide +kernel
theorem dX2_isDigit_5 : decode cX2_isDigit 5 = .ok (.iload_n 0, 1) := by decide +kernel
theorem dX2_isDigit_6 : decode cX2_isDigit 6 = .ok (.iload_n 2, 1) := by decide +kernel
theorem dX2_isDigit_7 : decode cX2_isDigit 7 = .ok (.if_icmp .gt 7, 3) := by decide +kernel
theorem dX2_isDigit_10 : decode cX2_isDigit 10 = .ok (.iconst 1, 1) := by decide +kernel
theorem dX2_isDigit_11 : decode cX2_isDigit 11 = .ok (.goto 4, 3) := by decide +kernel
theorem dX2_isDigit_14 : decode cX2_isDigit 14 = .ok (.iconst 0, 1) := by decide +kernel
theorem dX2_isDigit_15 : decode cX2_isDigit 15 = .ok (.ireturn, 1) := by decide +kernel
theorem dX3_init_0 : decode cX3_init 0 = .ok (.aload_n 0, 1) := by decide +kernel
theorem dX3_init_1 : decode cX3_init 1 = .ok (.invokespecial 3, 3) := by decide +kernel
theorem dX3_init_4 : decode cX3_init 4 = .ok (.aload_n 0, 1) := by decide +kernel
theorem dX3_init_5 : decode cX3_init 5 = .ok (.bipush 30, 2) := by decide +kernel
theorem dX3_init_7 : decode cX3_init 7 = .ok (.newarray .int, 2) := by decide +kernel
theorem dX3_init_9 : decode cX3_init 9 = .ok (.putfield 9, 3) := by decide +kernel
theorem dX3_init_12 : decode cX3_init 12 = .ok (.aload_n 0, 1) := by decide +kernel
theorem dX3_init_13 : decode cX3_init 13 = .ok (.bipush 30, 2) := by decide +kernel
theorem dX3_init_15 : decode cX3_init 15 = .ok (.newarray .int, 2) := by decide +kernel
theorem dX3_init_17 : decode cX3_init 17 = .ok (.putfield 15, 3) := by decide +kernel
theorem dX3_init_20 : decode cX3_init 20 = .ok (.aload_n 0, 1) := by decide +kernel
theorem dX3_init_21 : decode cX3_init 21 = .ok (.bipush 30, 2) := by decide +kernel
theorem dX3_init_23 : decode cX3_init 23 = .ok (.newarray .int, 2) := by decide +kernel
theorem dX3_init_25 : decode cX3_init 25 = .ok (.putfield 18, 3) := by decide +kernel
theorem dX3_init_28 : decode cX3_init 28 = .ok (.aload_n 0, 1) := by decide +kernel
theorem dX3_init_29 : decode cX3_init 29 = .ok (.iconst 3, 1) := by decide +kernel
theorem dX3_init_30 : decode cX3_init 30 = .ok (.newarray .int, 2) := by decide +kernel
theorem dX3_init_32 : decode cX3_init 32 = .ok (.putfield 21, 3) := by decide +kernel
theorem dX3_init_35 : decode cX3_init 35 = .ok (.aload_n 0, 1) := by decide +kernel
theorem dX3_init_36 : decode cX3_init 36 = .ok (.bipush 8, 2) := by decide +kernel
theorem dX3_init_38 : decode cX3_init 38 = .ok (.anewarray 24, 3) := by decide +kernel
theorem dX3_init_41 : decode cX3_init 41 = .ok (.putfield 26, 3) := by decide +kernel
theorem dX3_init_44 : decode cX3_init 44 = .ok (.aload_n 0, 1) := by decide +kernel
theorem dX3_init_45 : decode cX3_init 45 = .ok (.bipush 8, 2) := by decide +kernel
theorem dX3_init_47 : decode cX3_init 47 = .ok (.newarray .int, 2) := by decide +kernel
theorem dX3_init_49 : decode cX3_init 49 = .ok (.putfield 30, 3) := by decide +kernel
theorem dX3_init_52 : decode cX3_init 52 = .ok (.iconst 0, 1) := by decide +kernel
theorem dX3_init_53 : decode cX3_init 53 = .ok (.istore_n 1, 1) := by decide +kernel
theorem dX3_init_54 : decode cX3_init 54 = .ok (.iload_n 1, 1) := by decide +kernel
theorem dX3_init_55 : decode cX3_init 55 = .ok (.bipush 30, 2) := by decide +kernel
theorem dX3_init_57 : decode cX3_init 57 = .ok (.if_icmp .ge 16, 3) := by decide +kernel
theorem dX3_init_60 : decode cX3_init 60 = .ok (.aload_n 0, 1) := by decide +kernel
theorem dX3_init_61 : decode cX3_init 61 = .ok (.getfield 9, 3) := by decide +kernel
theorem dX3_init_64 : decode cX3_init 64 = .ok (.iload_n 1, 1) := by decide +kernel
theorem dX3_init_65 : decode cX3_init 65 = .ok (.iconst 3, 1) := by decide +kernel
theorem dX3_init_66 : decode cX3_init 66 = .ok (.iastore, 1) := by decide +kernel
theorem dX3_init_67 : decode cX3_init 67 = .ok (.iinc 1 1, 3) := by decide +kernel
theorem dX3_init_70 : decode cX3_init 70 = .ok (.goto (-16), 3) := by decide +kernel
theorem dX3_init_73 : decode cX3_init 73 = .ok (.iconst 0, 1) := by decide +kernel
theorem dX3_init_74 : decode cX3_init 74 = .ok (.istore_n 1, 1) := by decide +kernel
theorem dX3_init_75 : decode cX3_init 75 = .ok (.iload_n 1, 1) := by decide +kernel
theorem dX3_init_76 : decode cX3_init 76 = .ok (.bipush 8, 2) := by decide +kernel
theorem dX3_init_78 : decode cX3_init 78 = .ok (.if_icmp .ge 22, 3) := by decide +kernel
theorem dX3_init_81 : decode cX3_init 81 = .ok (.aload_n 0, 1) := by decide +kernel
theorem dX3_init_82 : decode cX3_init 82 = .ok (.getfield 26, 3) := by decide +kernel
theorem dX3_init_85 : decode cX3_init 85 = .ok (.iload_n 1, 1) := by decide +kernel
theorem dX3_init_86 : decode cX3_init 86 = .ok (.new 24, 3) := by decide +kernel
theorem dX3_init_89 : decode cX3_init 89 = .ok (.dup, 1) := by decide +kernel
theorem dX3_init_90 : decode cX3_init 90 = .ok (.invokespecial 33, 3) := by decide +kernel
theorem dX3_init_93 : decode cX3_init 93 = .ok (.aastore, 1) := by decide +kernel
theorem dX3_init_94 : decode cX3_init 94 = .ok (.iinc 1 1, 3) := by decide +kernel
theorem dX3_init_97 : decode cX3_init 97 = .ok (.goto (-22), 3) := by decide +kernel
theorem dX3_init_100 : decode cX3_init 100 = .ok (.aload_n 0, 1) := by decide +kernel
theorem dX3_init_101 : decode cX3_init 101 = .ok (.getfield 21, 3) := by decide +kernel
theorem dX3_init_104 : decode cX3_init 104 = .ok (.iconst 0, 1) := by decide +kernel
theorem dX3_init_105 : decode cX3_init 105 = .ok (.iconst 2, 1) := by decide +kernel
theorem dX3_init_106 : decode cX3_init 106 = .ok (.iastore, 1) := by decide +kernel
theorem dX3_init_107 : decode cX3_init 107 = .ok (.aload_n 0, 1) := by decide +kernel
theorem dX3_init_108 : decode cX3_init 108 = .ok (.getfield 21, 3) := by decide +kernel
theorem dX3_init_111 : decode cX3_init 111 = .ok (.iconst 1, 1) := by decide +kernel
theorem dX3_init_112 : decode cX3_init 112 = .ok (.bipush 6, 2) := by decide +kernel
theorem dX3_init_114 : decode cX3_init 114 = .ok (.iastore, 1) := by decide +kernel
theorem dX3_init_115 : decode cX3_init 115 = .ok (.aload_n 0, 1) := by decide +kernel
theorem dX3_init_116 : decode cX3_init 116 = .ok (.getfield 21, 3) := by decide +kernel
theorem dX3_init_119 : decode cX3_init 119 = .ok (.iconst 2, 1) := by decide +kernel
theorem dX3_init_120 : decode cX3_init 120 = .ok (.iconst 1, 1) := by decide +kernel
theorem dX3_init_121 : decode cX3_init 121 = .ok (.iastore, 1) := by decide +kernel
theorem dX3_init_122 : decode cX3_init 122 = .ok (.return_, 1) := by decide +kernel
theorem dX3_copyFrom_0 : decode cX3_copyFrom 0 = .ok (.aload_n 1, 1) := by decide +kernel
theorem dX3_copyFrom_1 : decode cX3_copyFrom 1 = .ok (.getfield 9, 3) := by decide +kernel
theorem dX3_copyFrom_4 : decode cX3_copyFrom 4 = .ok (.iconst 0, 1) := by decide +kernel
theorem dX3_copyFrom_5 : decode cX3_copyFrom 5 = .ok (.aload_n 0, 1) := by decide +kernel
theorem dX3_copyFrom_6 : decode cX3_copyFrom 6 = .ok (.getfield 9, 3) := by decide +kernel
theorem dX3_copyFrom_9 : decode cX3_copyFrom 9 = .ok (.iconst 0, 1) := by decide +kernel
theorem dX3_copyFrom_10 : decode cX3_copyFrom 10 = .ok (.bipush 30, 2) := by decide +kernel
theorem dX3_copyFrom_12 : decode cX3_copyFrom 12 = .ok (.invokestatic 34, 3) := by decide +kernel
theorem dX3_copyFrom_15 : decode cX3_copyFrom 15 = .ok (.aload_n 1, 1) := by decide +kernel
theorem dX3_copyFrom_16 : decode cX3_copyFrom 16 = .ok (.getfield 15, 3) := by decide +kernel
theorem dX3_copyFrom_19 : decode cX3_copyFrom 19 = .ok (.iconst 0, 1) := by decide +kernel
theorem dX3_copyFrom_20 : decode cX3_copyFrom 20 = .ok (.aload_n 0, 1) := by decide +kernel
theorem dX3_copyFrom_21 : decode cX3_copyFrom 21 = .ok (.getfield 15, 3) := by decide +kernel
theorem dX3_copyFrom_24 : decode cX3_copyFrom 24 = .ok (.iconst 0, 1) := by decide +kernel
theorem dX3_copyFrom_25 : decode cX3_copyFrom 25 = .ok (.bipush 30, 2) := by decide +kernel
theorem dX3_copyFrom_27 : decode cX3_copyFrom 27 = .ok (.invokestatic 34, 3) := by decide +kernel
theorem dX3_copyFrom_30 : decode cX3_copyFrom 30 = .ok (.aload_n 1, 1) := by decide +kernel
theorem dX3_copyFrom_31 : decode cX3_copyFrom 31 = .ok (.getfield 18, 3) := by decide +kernel
theorem dX3_copyFrom_34 : decode cX3_copyFrom 34 = .ok (.iconst 0, 1) := by decide +kernel
theorem dX3_copyFrom_35 : decode cX3_copyFrom 35 = .ok (.aload_n 0, 1) := by decide +kernel
theorem dX3_copyFrom_36 : decode cX3_copyFrom 36 = .ok (.getfield 18, 3) := by decide +kernel
theorem dX3_copyFrom_39 : decode cX3_copyFrom 39 = .ok (.iconst 0, 1) := by decide +kernel
theorem dX3_copyFrom_40 : decode cX3_copyFrom 40 = .ok (.bipush 30, 2) := by decide +kernel
theorem dX3_copyFrom_42 : decode cX3_copyFrom 42 = .ok (.invokestatic 34, 3) := by decide +kernel
theorem dX3_copyFrom_45 : decode cX3_copyFrom 45 = .ok (.aload_n 1, 1) := by decide +kernel
theorem dX3_copyFrom_46 : decode cX3_copyFrom 46 = .ok (.getfield 21, 3) := by decide +kernel
theorem dX3_copyFrom_49 : decode cX3_copyFrom 49 = .ok (.iconst 0, 1) := by decide +kernel
theorem dX3_copyFrom_50 : decode cX3_copyFrom 50 = .ok (.aload_n 0, 1) := by decide +kernel
theorem dX3_copyFrom_51 : decode cX3_copyFrom 51 = .ok (.getfield 21, 3) := by decide +kernel
theorem dX3_copyFrom_54 : decode cX3_copyFrom 54 = .ok (.iconst 0, 1) := by decide +kernel
theorem dX3_copyFrom_55 : decode cX3_copyFrom 55 = .ok (.iconst 3, 1) := by decide +kernel
theorem dX3_copyFrom_56 : decode cX3_copyFrom 56 = .ok (.invokestatic 34, 3) := by decide +kernel
theorem dX3_copyFrom_59 : decode cX3_copyFrom 59 = .ok (.iconst 0, 1) := by decide +kernel
theorem dX3_copyFrom_60 : decode cX3_copyFrom 60 = .ok (.istore_n 2, 1) := by decide +kernel
theorem dX3_copyFrom_61 : decode cX3_copyFrom 61 = .ok (.iload_n 2, 1) := by decide +kernel
theorem dX3_copyFrom_62 : decode cX3_copyFrom 62 = .ok (.bipush 8, 2) := by decide +kernel
theorem dX3_copyFrom_64 : decode cX3_copyFrom 64 = .ok (.if_icmp .ge 24, 3) := by decide +kernel
theorem dX3_copyFrom_67 : decode cX3_copyFrom 67 = .ok (.aload_n 0, 1) := by decide +kernel
theorem dX3_copyFrom_68 : decode cX3_copyFrom 68 = .ok (.getfield 26, 3) := by decide +kernel
theorem dX3_copyFrom_71 : decode cX3_copyFrom 71 = .ok (.iload_n 2, 1) := by decide +kernel
theorem dX3_copyFrom_72 : decode cX3_copyFrom 72 = .ok (.aaload, 1) := by decide +kernel
theorem dX3_copyFrom_73 : decode cX3_copyFrom 73 = .ok (.aload_n 1, 1) := by decide +kernel
theorem dX3_copyFrom_74 : decode cX3_copyFrom 74 = .ok (.getfield 26, 3) := by decide +kernel
theorem dX3_copyFrom_77 : decode cX3_copyFrom 77 = .ok (.iload_n 2, 1) := by decide +kernel
theorem dX3_copyFrom_78 : decode cX3_copyFrom 78 = .ok (.aaload, 1) := by decide +kernel
theorem dX3_copyFrom_79 : decode cX3_copyFrom 79 = .ok (.invokevirtual 40, 3) := by decide +kernel
theorem dX3_copyFrom_82 : decode cX3_copyFrom 82 = .ok (.iinc 2 1, 3) := by decide +kernel
theorem dX3_copyFrom_85 : decode cX3_copyFrom 85 = .ok (.goto (-24), 3) := by decide +kernel
theorem dX3_copyFrom_88 : decode cX3_copyFrom 88 = .ok (.aload_n 0, 1) := by decide +kernel
theorem dX3_copyFrom_89 : decode cX3_copyFrom 89 = .ok (.aload_n 1, 1) := by decide +kernel
theorem dX3_copyFrom_90 : decode cX3_copyFrom 90 = .ok (.getfield 44, 3) := by decide +kernel
theorem dX3_copyFrom_93 : decode cX3_copyFrom 93 = .ok (.putfield 44, 3) := by decide +kernel
theorem dX3_copyFrom_96 : decode cX3_copyFrom 96 = .ok (.aload_n 0, 1) := by decide +kernel
theorem dX3_copyFrom_97 : decode cX3_copyFrom 97 = .ok (.aload_n 1, 1) := by decide +kernel
theorem dX3_copyFrom_98 : decode cX3_copyFrom 98 = .ok (.getfield 48, 3) := by decide +kernel
theorem dX3_copyFrom_101 : decode cX3_copyFrom 101 = .ok (.putfield 48, 3) := by decide +kernel
theorem dX3_copyFrom_104 : decode cX3_copyFrom 104 = .ok (.aload_n 0, 1) := by decide +kernel
theorem dX3_copyFrom_105 : decode cX3_copyFrom 105 = .ok (.aload_n 1, 1) := by decide +kernel
theorem dX3_copyFrom_106 : decode cX3_copyFrom 106 = .ok (.getfield 51, 3) := by decide +kernel
theorem dX3_copyFrom_109 : decode cX3_copyFrom 109 = .ok (.putfield 51, 3) := by decide +kernel
theorem dX3_copyFrom_112 : decode cX3_copyFrom 112 = .ok (.aload_n 0, 1) := by decide +kernel
theorem dX3_copyFrom_113 : decode cX3_copyFrom 113 = .ok (.aload_n 1, 1) := by decide +kernel
theorem dX3_copyFrom_114 : decode cX3_copyFrom 114 = .ok (.getfield 54, 3) := by decide +kernel
theorem dX3_copyFrom_117 : decode cX3_copyFrom 117 = .ok (.putfield 54, 3) := by decide +kernel
theorem dX3_copyFrom_120 : decode cX3_copyFrom 120 = .ok (.aload_n 0, 1) := by decide +kernel
theorem dX3_copyFrom_121 : decode cX3_copyFrom 121 = .ok (.aload_n 1, 1) := by decide +kernel
theorem dX3_copyFrom_122 : decode cX3_copyFrom 122 = .ok (.getfield 57, 3) := by decide +kernel
theorem dX3_copyFrom_125 : decode cX3_copyFrom 125 = .ok (.putfield 57, 3) := by decide +kernel
theorem dX3_copyFrom_128 : decode cX3_copyFrom 128 = .ok (.aload_n 0, 1) := by decide +kernel
theorem dX3_copyFrom_129 : decode cX3_copyFrom 129 = .ok (.aload_n 1, 1) := by decide +kernel
theorem dX3_copyFrom_130 : decode cX3_copyFrom 130 = .ok (.getfield 60, 3) := by decide +kernel
theorem dX3_copyFrom_133 : decode cX3_copyFrom 133 = .ok (.putfield 60, 3) := by decide +kernel
theorem dX3_copyFrom_136 : decode cX3_copyFrom 136 = .ok (.return_, 1) := by decide +kernel
theorem dX3_hasCar_0 : decode cX3_hasCar 0 = .ok (.iload_n 1, 1) := by decide +kernel
theorem dX3_hasCar_1 : decode cX3_hasCar 1 = .ok (.ifCond .lt 24, 3) := by decide +kernel
theorem dX3_hasCar_4 : decode cX3_hasCar 4 = .ok (.iload_n 1, 1) := by decide +kernel
theorem dX3_hasCar_5 : decode cX3_hasCar 5 = .ok (.aload_n 0, 1) := by decide +kernel
theorem dX3_hasCar_6 : decode cX3_hasCar 6 = .ok (.getfield 44, 3) := by decide +kernel
theorem dX3_hasCar_9 : decode cX3_hasCar 9 = .ok (.if_icmp .ge 16, 3) := by decide +kernel
theorem dX3_hasCar_12 : decode cX3_hasCar 12 = .ok (.aload_n 0, 1) := by decide +kernel
theorem dX3_hasCar_13 : decode cX3_hasCar 13 = .ok (.getfield 44, 3) := by decide +kernel
theorem dX3_hasCar_16 : decode cX3_hasCar 16 = .ok (.bipush 8, 2) := by decide +kernel
theorem dX3_hasCar_18 : decode cX3_hasCar 18 = .ok (.if_icmp .gt 7, 3) := by decide +kernel
theorem dX3_hasCar_21 : decode cX3_hasCar 21 = .ok (.iconst 1, 1) := by decide +kernel
theorem dX3_hasCar_22 : decode cX3_hasCar 22 = .ok (.goto 4, 3) := by decide +kernel
theorem dX3_hasCar_25 : decode cX3_hasCar 25 = .ok (.iconst 0, 1) := by decide +kernel
theorem dX3_hasCar_26 : decode cX3_hasCar 26 = .ok (.ireturn, 1) := by decide +kernel
theorem dX3_isRolling_0 : decode cX3_isRolling 0 = .ok (.aload_n 0, 1) := by decide +kernel
theorem dX3_isRolling_1 : decode cX3_isRolling 1 = .ok (.iload_n 1, 1) := by decide +kernel
theorem dX3_isRolling_2 : decode cX3_isRolling 2 = .ok (.invokevirtual 63, 3) := by decide +kernel
theorem dX3_isRolling_5 : decode cX3_isRolling 5 = .ok (.ifCond .eq 20, 3) := by decide +kernel
theorem dX3_isRolling_8 : decode cX3_isRolling 8 = .ok (.aload_n 0, 1) := by decide +kernel
theorem dX3_isRolling_9 : decode cX3_isRolling 9 = .ok (.getfield 26, 3) := by decide +kernel
theorem dX3_isRolling_12 : decode cX3_isRolling 12 = .ok (.iload_n 1, 1) := by decide +kernel
theorem dX3_isRolling_13 : decode cX3_isRolling 13 = .ok (.aaload, 1) := by decide +kernel
theorem dX3_isRolling_14 : decode cX3_isRolling 14 = .ok (.getfield 67, 3) := by decide +kernel
theorem dX3_isRolling_17 : decode cX3_isRolling 17 = .ok (.iconst 1, 1) := by decide +kernel
theorem dX3_isRolling_18 : decode cX3_isRolling 18 = .ok (.if_icmp .ne 7, 3) := by decide +kernel
theorem dX3_isRolling_21 : decode cX3_isRolling 21 = .ok (.iconst 1, 1) := by decide +kernel
theorem dX3_isRolling_22 : decode cX3_isRolling 22 = .ok (.goto 4, 3) := by decide +kernel
theorem dX3_isRolling_25 : decode cX3_isRolling 25 = .ok (.iconst 0, 1) := by decide +kernel
theorem dX3_isRolling_26 : decode cX3_isRolling 26 = .ok (.ireturn, 1) := by decide +kernel
theorem dX3_addCar_0 : decode cX3_addCar 0 = .ok (.aload_n 0, 1) := by decide +kernel
theorem dX3_addCar_1 : decode cX3_addCar 1 = .ok (.getfield 44, 3) := by decide +kernel
theorem dX3_addCar_4 : decode cX3_addCar 4 = .ok (.ifCond .lt 12, 3) := by decide +kernel
theorem dX3_addCar_7 : decode cX3_addCar 7 = .ok (.aload_n 0, 1) := by decide +kernel
theorem dX3_addCar_8 : decode cX3_addCar 8 = .ok (.getfield 44, 3) := by decide +kernel
theorem dX3_addCar_11 : decode cX3_addCar 11 = .ok (.bipush 8, 2) := by decide +kernel
theorem dX3_addCar_13 : decode cX3_addCar 13 = .ok (.if_icmp .lt 5, 3) := by decide +kernel
theorem dX3_addCar_16 : decode cX3_addCar 16 = .ok (.iconst (-1), 1) := by decide +kernel
theorem dX3_addCar_17 : decode cX3_addCar 17 = .ok (.ireturn, 1) := by decide +kernel
theorem dX3_addCar_18 : decode cX3_addCar 18 = .ok (.aload_n 0, 1) := by decide +kernel
theorem dX3_addCar_19 : decode cX3_addCar 19 = .ok (.getfield 26, 3) := by decide +kernel
theorem dX3_addCar_22 : decode cX3_addCar 22 = .ok (.aload_n 0, 1) := by decide +kernel
theorem dX3_addCar_23 : decode cX3_addCar 23 = .ok (.getfield 44, 3) := by decide +kernel
theorem dX3_addCar_26 : decode cX3_addCar 26 = .ok (.aaload, 1) := by decide +kernel
theorem dX3_addCar_27 : decode cX3_addCar 27 = .ok (.invokevirtual 70, 3) := by decide +kernel
theorem dX3_addCar_30 : decode cX3_addCar 30 = .ok (.aload_n 0, 1) := by decide +kernel
theorem dX3_addCar_31 : decode cX3_addCar 31 = .ok (.dup, 1) := by decide +kernel
theorem dX3_addCar_32 : decode cX3_addCar 32 = .ok (.getfield 44, 3) := by decide +kernel
theorem dX3_addCar_35 : decode cX3_addCar 35 = .ok (.iconst 1, 1) := by decide +kernel
theorem dX3_addCar_36 : decode cX3_addCar 36 = .ok (.iadd, 1) := by decide +kernel
theorem dX3_addCar_37 : decode cX3_addCar 37 = .ok (.putfield 44, 3) := by decide +kernel
theorem dX3_addCar_40 : decode cX3_addCar 40 = .ok (.aload_n 0, 1) := by decide +kernel
theorem dX3_addCar_41 : decode cX3_addCar 41 = .ok (.getfield 44, 3) := by decide +kernel
theorem dX3_addCar_44 : decode cX3_addCar 44 = .ok (.iconst 1, 1) := by decide +kernel
theorem dX3_addCar_45 : decode cX3_addCar 45 = .ok (.isub, 1) := by decide +kernel
theorem dX3_addCar_46 : decode cX3_addCar 46 = .ok (.ireturn, 1) := by decide +kernel
theorem dX3_canLoad_0 : decode cX3_canLoad 0 = .ok (.aload_n 0, 1) := by decide +kernel
theorem dX3_canLoad_1 : decode cX3_canLoad 1 = .ok (.iload_n 1, 1) := by decide +kernel
theorem dX3_canLoad_2 : decode cX3_canLoad 2 = .ok (.invokevirtual 63, 3) := by decide +kernel
theorem dX3_canLoad_5 : decode cX3_canLoad 5 = .ok (.ifCond .eq 35, 3) := by decide +kernel
theorem dX3_canLoad_8 : decode cX3_canLoad 8 = .ok (.aload_n 0, 1) := by decide +kernel
theorem dX3_canLoad_9 : decode cX3_canLoad 9 = .ok (.getfield 26, 3) := by decide +kernel
theorem dX3_canLoad_12 : decode cX3_canLoad 12 = .ok (.iload_n 1, 1) := by decide +kernel
theorem dX3_canLoad_13 : decode cX3_canLoad 13 = .ok (.aaload, 1) := by decide +kernel
theorem dX3_canLoad_14 : decode cX3_canLoad 14 = .ok (.getfield 67, 3) := by decide +kernel
theorem dX3_canLoad_17 : decode cX3_canLoad 17 = .ok (.ifCond .ne 23, 3) := by decide +kernel
theorem dX3_canLoad_20 : decode cX3_canLoad 20 = .ok (.aload_n 0, 1) := by decide +kernel
theorem dX3_canLoad_21 : decode cX3_canLoad 21 = .ok (.getfield 26, 3) := by decide +kernel
theorem dX3_canLoad_24 : decode cX3_canLoad 24 = .ok (.iload_n 1, 1) := by decide +kernel
theorem dX3_canLoad_25 : decode cX3_canLoad 25 = .ok (.aaload, 1) := by decide +kernel
theorem dX3_canLoad_26 : decode cX3_canLoad 26 = .ok (.getfield 73, 3) := by decide +kernel
theorem dX3_canLoad_29 : decode cX3_canLoad 29 = .ok (.iload_n 2, 1) := by decide +kernel
theorem dX3_canLoad_30 : decode cX3_canLoad 30 = .ok (.iadd, 1) := by decide +kernel
theorem dX3_canLoad_31 : decode cX3_canLoad 31 = .ok (.bipush 20, 2) := by decide +kernel
theorem dX3_canLoad_33 : decode cX3_canLoad 33 = .ok (.if_icmp .gt 7, 3) := by decide +kernel
theorem dX3_canLoad_36 : decode cX3_canLoad 36 = .ok (.iconst 1, 1) := by decide +kernel
theorem dX3_canLoad_37 : decode cX3_canLoad 37 = .ok (.goto 4, 3) := by decide +kernel
theorem dX3_canLoad_40 : decode cX3_canLoad 40 = .ok (.iconst 0, 1) := by decide +kernel
theorem dX3_canLoad_41 : decode cX3_canLoad 41 = .ok (.ireturn, 1) := by decide +kernel
theorem dX3_addOre_0 : decode cX3_addOre 0 = .ok (.aload_n 0, 1) := by decide +kernel
theorem dX3_addOre_1 : decode cX3_addOre 1 = .ok (.getfield 26, 3) := by decide +kernel
theorem dX3_addOre_4 : decode cX3_addOre 4 = .ok (.iload_n 1, 1) := by decide +kernel
theorem dX3_addOre_5 : decode cX3_addOre 5 = .ok (.aaload, 1) := by decide +kernel
theorem dX3_addOre_6 : decode cX3_addOre 6 = .ok (.dup, 1) := by decide +kernel
theorem dX3_addOre_7 : decode cX3_addOre 7 = .ok (.getfield 73, 3) := by decide +kernel
theorem dX3_addOre_10 : decode cX3_addOre 10 = .ok (.iload_n 2, 1) := by decide +kernel
theorem dX3_addOre_11 : decode cX3_addOre 11 = .ok (.iadd, 1) := by decide +kernel
theorem dX3_addOre_12 : decode cX3_addOre 12 = .ok (.putfield 73, 3) := by decide +kernel
theorem dX3_addOre_15 : decode cX3_addOre 15 = .ok (.aload_n 0, 1) := by decide +kernel
theorem dX3_addOre_16 : decode cX3_addOre 16 = .ok (.dup, 1) := by decide +kernel
theorem dX3_addOre_17 : decode cX3_addOre 17 = .ok (.getfield 51, 3) := by decide +kernel
theorem dX3_addOre_20 : decode cX3_addOre 20 = .ok (.iload_n 2, 1) := by decide +kernel
theorem dX3_addOre_21 : decode cX3_addOre 21 = .ok (.iadd, 1) := by decide +kernel
theorem dX3_addOre_22 : decode cX3_addOre 22 = .ok (.putfield 51, 3) := by decide +kernel
theorem dX3_addOre_25 : decode cX3_addOre 25 = .ok (.aload_n 0, 1) := by decide +kernel
theorem dX3_addOre_26 : decode cX3_addOre 26 = .ok (.getfield 26, 3) := by decide +kernel
theorem dX3_addOre_29 : decode cX3_addOre 29 = .ok (.iload_n 1, 1) := by decide +kernel
theorem dX3_addOre_30 : decode cX3_addOre 30 = .ok (.aaload, 1) := by decide +kernel
theorem dX3_addOre_31 : decode cX3_addOre 31 = .ok (.getfield 73, 3) := by decide +kernel
theorem dX3_addOre_34 : decode cX3_addOre 34 = .ok (.ireturn, 1) := by decide +kernel
theorem dX3_releaseRefusal_0 : decode cX3_releaseRefusal 0 = .ok (.aload_n 0, 1) := by decide +kernel
theorem dX3_releaseRefusal_1 : decode cX3_releaseRefusal 1 = .ok (.getfield 26, 3) := by decide +kernel
theorem dX3_releaseRefusal_4 : decode cX3_releaseRefusal 4 = .ok (.iload_n 1, 1) := by decide +kernel
theorem dX3_releaseRefusal_5 : decode cX3_releaseRefusal 5 = .ok (.aaload, 1) := by decide +kernel
theorem dX3_releaseRefusal_6 : decode cX3_releaseRefusal 6 = .ok (.getfield 67, 3) := by decide +kernel
theorem dX3_releaseRefusal_9 : decode cX3_releaseRefusal 9 = .ok (.ifCond .eq 5, 3) := by decide +kernel
theorem dX3_releaseRefusal_12 : decode cX3_releaseRefusal 12 = .ok (.iconst 1, 1) := by decide +kernel
theorem dX3_releaseRefusal_13 : decode cX3_releaseRefusal 13 = .ok (.ireturn, 1) := by decide +kernel
theorem dX3_releaseRefusal_14 : decode cX3_releaseRefusal 14 = .ok (.aload_n 0, 1) := by decide +kernel
theorem dX3_releaseRefusal_15 : decode cX3_releaseRefusal 15 = .ok (.iconst 0, 1) := by decide +kernel
theorem dX3_releaseRefusal_16 : decode cX3_releaseRefusal 16 = .ok (.iconst 1, 1) := by decide +kernel
theorem dX3_releaseRefusal_17 : decode cX3_releaseRefusal 17 = .ok (.invokevirtual 76, 3) := by decide +kernel
theorem dX3_releaseRefusal_20 : decode cX3_releaseRefusal 20 = .ok (.ifCond .eq 7, 3) := by decide +kernel
theorem dX3_releaseRefusal_23 : decode cX3_releaseRefusal 23 = .ok (.iconst 2, 1) := by decide +kernel
theorem dX3_releaseRefusal_24 : decode cX3_releaseRefusal 24 = .ok (.goto 4, 3) := by decide +kernel
theorem dX3_releaseRefusal_27 : decode cX3_releaseRefusal 27 = .ok (.iconst 0, 1) := by decide +kernel
theorem dX3_releaseRefusal_28 : decode cX3_releaseRefusal 28 = .ok (.ireturn, 1) := by decide +kernel
theorem dX3_letRoll_0 : decode cX3_letRoll 0 = .ok (.aload_n 0, 1) := by decide +kernel
theorem dX3_letRoll_1 : decode cX3_letRoll 1 = .ok (.iload_n 1, 1) := by decide +kernel
theorem dX3_letRoll_2 : decode cX3_letRoll 2 = .ok (.invokevirtual 80, 3) := by decide +kernel
theorem dX3_letRoll_5 : decode cX3_letRoll 5 = .ok (.istore_n 3, 1) := by decide +kernel
theorem dX3_letRoll_6 : decode cX3_letRoll 6 = .ok (.iload_n 3, 1) := by decide +kernel
theorem dX3_letRoll_7 : decode cX3_letRoll 7 = .ok (.ifCond .eq 15, 3) := by decide +kernel
theorem dX3_letRoll_10 : decode cX3_letRoll 10 = .ok (.aload_n 0, 1) := by decide +kernel
theorem dX3_letRoll_11 : decode cX3_letRoll 11 = .ok (.dup, 1) := by decide +kernel
theorem dX3_letRoll_12 : decode cX3_letRoll 12 = .ok (.getfield 60, 3) := by decide +kernel
theorem dX3_letRoll_15 : decode cX3_letRoll 15 = .ok (.iconst 1, 1) := by decide +kernel
theorem dX3_letRoll_16 : decode cX3_letRoll 16 = .ok (.iadd, 1) := by decide +kernel
theorem dX3_letRoll_17 : decode cX3_letRoll 17 = .ok (.putfield 60, 3) := by decide +kernel
theorem dX3_letRoll_20 : decode cX3_letRoll 20 = .ok (.iload_n 3, 1) := by decide +kernel
theorem dX3_letRoll_21 : decode cX3_letRoll 21 = .ok (.ireturn, 1) := by decide +kernel
theorem dX3_letRoll_22 : decode cX3_letRoll 22 = .ok (.aload_n 0, 1) := by decide +kernel
theorem dX3_letRoll_23 : decode cX3_letRoll 23 = .ok (.getfield 26, 3) := by decide +kernel
theorem dX3_letRoll_26 : decode cX3_letRoll 26 = .ok (.iload_n 1, 1) := by decide +kernel
theorem dX3_letRoll_27 : decode cX3_letRoll 27 = .ok (.aaload, 1) := by decide +kernel
theorem dX3_letRoll_28 : decode cX3_letRoll 28 = .ok (.iconst 1, 1) := by decide +kernel
theorem dX3_letRoll_29 : decode cX3_letRoll 29 = .ok (.putfield 67, 3) := by decide +kernel
theorem dX3_letRoll_32 : decode cX3_letRoll 32 = .ok (.aload_n 0, 1) := by decide +kernel
theorem dX3_letRoll_33 : decode cX3_letRoll 33 = .ok (.getfield 26, 3) := by decide +kernel
theorem dX3_letRoll_36 : decode cX3_letRoll 36 = .ok (.iload_n 1, 1) := by decide +kernel
theorem dX3_letRoll_37 : decode cX3_letRoll 37 = .ok (.aaload, 1) := by decide +kernel
theorem dX3_letRoll_38 : decode cX3_letRoll 38 = .ok (.iload_n 2, 1) := by decide +kernel
theorem dX3_letRoll_39 : decode cX3_letRoll 39 = .ok (.putfield 84, 3) := by decide +kernel
theorem dX3_letRoll_42 : decode cX3_letRoll 42 = .ok (.iconst 0, 1) := by decide +kernel
theorem dX3_letRoll_43 : decode cX3_letRoll 43 = .ok (.ireturn, 1) := by decide +kernel
theorem dX3_changeBrake_0 : decode cX3_changeBrake 0 = .ok (.aload_n 0, 1) := by decide +kernel
theorem dX3_changeBrake_1 : decode cX3_changeBrake 1 = .ok (.getfield 26, 3) := by decide +kernel
theorem dX3_changeBrake_4 : decode cX3_changeBrake 4 = .ok (.iload_n 1, 1) := by decide +kernel
theorem dX3_changeBrake_5 : decode cX3_changeBrake 5 = .ok (.aaload, 1) := by decide +kernel
theorem dX3_changeBrake_6 : decode cX3_changeBrake 6 = .ok (.getfield 84, 3) := by decide +kernel
theorem dX3_changeBrake_9 : decode cX3_changeBrake 9 = .ok (.istore_n 3, 1) := by decide +kernel
theorem dX3_changeBrake_10 : decode cX3_changeBrake 10 = .ok (.aload_n 0, 1) := by decide +kernel
theorem dX3_changeBrake_11 : decode cX3_changeBrake 11 = .ok (.getfield 26, 3) := by decide +kernel
theorem dX3_changeBrake_14 : decode cX3_changeBrake 14 = .ok (.iload_n 1, 1) := by decide +kernel
theorem dX3_changeBrake_15 : decode cX3_changeBrake 15 = .ok (.aaload, 1) := by decide +kernel
theorem dX3_changeBrake_16 : decode cX3_changeBrake 16 = .ok (.iload_n 2, 1) := by decide +kernel
theorem dX3_changeBrake_17 : decode cX3_changeBrake 17 = .ok (.putfield 84, 3) := by decide +kernel
theorem dX3_changeBrake_20 : decode cX3_changeBrake 20 = .ok (.iload_n 3, 1) := by decide +kernel
theorem dX3_changeBrake_21 : decode cX3_changeBrake 21 = .ok (.ireturn, 1) := by decide +kernel
theorem dX3_pullRefusal_0 : decode cX3_pullRefusal 0 = .ok (.aload_n 0, 1) := by decide +kernel
theorem dX3_pullRefusal_1 : decode cX3_pullRefusal 1 = .ok (.getfield 26, 3) := by decide +kernel
theorem dX3_pullRefusal_4 : decode cX3_pullRefusal 4 = .ok (.iload_n 1, 1) := by decide +kernel
theorem dX3_pullRefusal_5 : decode cX3_pullRefusal 5 = .ok (.aaload, 1) := by decide +kernel
theorem dX3_pullRefusal_6 : decode cX3_pullRefusal 6 = .ok (.getfield 67, 3) := by decide +kernel
theorem dX3_pullRefusal_9 : decode cX3_pullRefusal 9 = .ok (.istore_n 2, 1) := by decide +kernel
theorem dX3_pullRefusal_10 : decode cX3_pullRefusal 10 = .ok (.iload_n 2, 1) := by decide +kernel
theorem dX3_pullRefusal_11 : decode cX3_pullRefusal 11 = .ok (.iconst 2, 1) := by decide +kernel
theorem dX3_pullRefusal_12 : decode cX3_pullRefusal 12 = .ok (.if_icmp .eq 10, 3) := by decide +kernel
theorem dX3_pullRefusal_15 : decode cX3_pullRefusal 15 = .ok (.iload_n 2, 1) := by decide +kernel
theorem dX3_pullRefusal_16 : decode cX3_pullRefusal 16 = .ok (.iconst 3, 1) := by decide +kernel
theorem dX3_pullRefusal_17 : decode cX3_pullRefusal 17 = .ok (.if_icmp .eq 5, 3) := by decide +kernel
theorem dX3_pullRefusal_20 : decode cX3_pullRefusal 20 = .ok (.iconst 1, 1) := by decide +kernel
theorem dX3_pullRefusal_21 : decode cX3_pullRefusal 21 = .ok (.ireturn, 1) := by decide +kernel
theorem dX3_pullRefusal_22 : decode cX3_pullRefusal 22 = .ok (.aload_n 0, 1) := by decide +kernel
theorem dX3_pullRefusal_23 : decode cX3_pullRefusal 23 = .ok (.invokevirtual 87, 3) := by decide +kernel
theorem dX3_pullRefusal_26 : decode cX3_pullRefusal 26 = .ok (.ifCond .ne 7, 3) := by decide +kernel
theorem dX3_pullRefusal_29 : decode cX3_pullRefusal 29 = .ok (.iconst 2, 1) := by decide +kernel
theorem dX3_pullRefusal_30 : decode cX3_pullRefusal 30 = .ok (.goto 4, 3) := by decide +kernel
theorem dX3_pullRefusal_33 : decode cX3_pullRefusal 33 = .ok (.iconst 0, 1) := by decide +kernel
theorem dX3_pullRefusal_34 : decode cX3_pullRefusal 34 = .ok (.ireturn, 1) := by decide +kernel
theorem dX3_harnessMule_0 : decode cX3_harnessMule 0 = .ok (.aload_n 0, 1) := by decide +kernel
theorem dX3_harnessMule_1 : decode cX3_harnessMule 1 = .ok (.iload_n 1, 1) := by decide +kernel
theorem dX3_harnessMule_2 : decode cX3_harnessMule 2 = .ok (.invokevirtual 91, 3) := by decide +kernel
theorem dX3_harnessMule_5 : decode cX3_harnessMule 5 = .ok (.istore_n 2, 1) := by decide +kernel
theorem dX3_harnessMule_6 : decode cX3_harnessMule 6 = .ok (.iload_n 2, 1) := by decide +kernel
theorem dX3_harnessMule_7 : decode cX3_harnessMule 7 = .ok (.ifCond .eq 15, 3) := by decide +kernel
theorem dX3_harnessMule_10 : decode cX3_harnessMule 10 = .ok (.aload_n 0, 1) := by decide +kernel
theorem dX3_harnessMule_11 : decode cX3_harnessMule 11 = .ok (.dup, 1) := by decide +kernel
theorem dX3_harnessMule_12 : decode cX3_harnessMule 12 = .ok (.getfield 60, 3) := by decide +kernel
theorem dX3_harnessMule_15 : decode cX3_harnessMule 15 = .ok (.iconst 1, 1) := by decide +kernel
theorem dX3_harnessMule_16 : decode cX3_harnessMule 16 = .ok (.iadd, 1) := by decide +kernel
theorem dX3_harnessMule_17 : decode cX3_harnessMule 17 = .ok (.putfield 60, 3) := by decide +kernel
theorem dX3_harnessMule_20 : decode cX3_harnessMule 20 = .ok (.iload_n 2, 1) := by decide +kernel
theorem dX3_harnessMule_21 : decode cX3_harnessMule 21 = .ok (.ireturn, 1) := by decide +kernel
theorem dX3_harnessMule_22 : decode cX3_harnessMule 22 = .ok (.aload_n 0, 1) := by decide +kernel
theorem dX3_harnessMule_23 : decode cX3_harnessMule 23 = .ok (.getfield 26, 3) := by decide +kernel
theorem dX3_harnessMule_26 : decode cX3_harnessMule 26 = .ok (.iload_n 1, 1) := by decide +kernel
theorem dX3_harnessMule_27 : decode cX3_harnessMule 27 = .ok (.aaload, 1) := by decide +kernel
theorem dX3_harnessMule_28 : decode cX3_harnessMule 28 = .ok (.iconst 4, 1) := by decide +kernel
theorem dX3_harnessMule_29 : decode cX3_harnessMule 29 = .ok (.putfield 67, 3) := by decide +kernel
theorem dX3_harnessMule_32 : decode cX3_harnessMule 32 = .ok (.aload_n 0, 1) := by decide +kernel
theorem dX3_harnessMule_33 : decode cX3_harnessMule 33 = .ok (.getfield 26, 3) := by decide +kernel
theorem dX3_harnessMule_36 : decode cX3_harnessMule 36 = .ok (.iload_n 1, 1) := by decide +kernel
theorem dX3_harnessMule_37 : decode cX3_harnessMule 37 = .ok (.aaload, 1) := by decide +kernel
theorem dX3_harnessMule_38 : decode cX3_harnessMule 38 = .ok (.iconst 0, 1) := by decide +kernel
theorem dX3_harnessMule_39 : decode cX3_harnessMule 39 = .ok (.putfield 84, 3) := by decide +kernel
theorem dX3_harnessMule_42 : decode cX3_harnessMule 42 = .ok (.iconst 0, 1) := by decide +kernel
theorem dX3_harnessMule_43 : decode cX3_harnessMule 43 = .ok (.ireturn, 1) := by decide +kernel
theorem dX3_leaveOneCar_0 : decode cX3_leaveOneCar 0 = .ok (.aload_n 0, 1) := by decide +kernel
theorem dX3_leaveOneCar_1 : decode cX3_leaveOneCar 1 = .ok (.iconst 1, 1) := by decide +kernel
theorem dX3_leaveOneCar_2 : decode cX3_leaveOneCar 2 = .ok (.putfield 44, 3) := by decide +kernel
theorem dX3_leaveOneCar_5 : decode cX3_leaveOneCar 5 = .ok (.aload_n 0, 1) := by decide +kernel
theorem dX3_leaveOneCar_6 : decode cX3_leaveOneCar 6 = .ok (.getfield 26, 3) := by decide +kernel
theorem dX3_leaveOneCar_9 : decode cX3_leaveOneCar 9 = .ok (.iconst 0, 1) := by decide +kernel
theorem dX3_leaveOneCar_10 : decode cX3_leaveOneCar 10 = .ok (.aaload, 1) := by decide +kernel
theorem dX3_leaveOneCar_11 : decode cX3_leaveOneCar 11 = .ok (.invokevirtual 70, 3) := by decide +kernel
theorem dX3_leaveOneCar_14 : decode cX3_leaveOneCar 14 = .ok (.aload_n 0, 1) := by decide +kernel
theorem dX3_leaveOneCar_15 : decode cX3_leaveOneCar 15 = .ok (.getfield 26, 3) := by decide +kernel
theorem dX3_leaveOneCar_18 : decode cX3_leaveOneCar 18 = .ok (.iconst 0, 1) := by decide +kernel
theorem dX3_leaveOneCar_19 : decode cX3_leaveOneCar 19 = .ok (.aaload, 1) := by decide +kernel
theorem dX3_leaveOneCar_20 : decode cX3_leaveOneCar 20 = .ok (.iconst 1, 1) := by decide +kernel
theorem dX3_leaveOneCar_21 : decode cX3_leaveOneCar 21 = .ok (.putfield 67, 3) := by decide +kernel
theorem dX3_leaveOneCar_24 : decode cX3_leaveOneCar 24 = .ok (.aload_n 0, 1) := by decide +kernel
theorem dX3_leaveOneCar_25 : decode cX3_leaveOneCar 25 = .ok (.getfield 26, 3) := by decide +kernel
theorem dX3_leaveOneCar_28 : decode cX3_leaveOneCar 28 = .ok (.iconst 0, 1) := by decide +kernel
theorem dX3_leaveOneCar_29 : decode cX3_leaveOneCar 29 = .ok (.aaload, 1) := by decide +kernel
theorem dX3_leaveOneCar_30 : decode cX3_leaveOneCar 30 = .ok (.iload_n 1, 1) := by decide +kernel
theorem dX3_leaveOneCar_31 : decode cX3_leaveOneCar 31 = .ok (.putfield 73, 3) := by decide +kernel
theorem dX3_leaveOneCar_34 : decode cX3_leaveOneCar 34 = .ok (.aload_n 0, 1) := by decide +kernel
theorem dX3_leaveOneCar_35 : decode cX3_leaveOneCar 35 = .ok (.getfield 26, 3) := by decide +kernel
theorem dX3_leaveOneCar_38 : decode cX3_leaveOneCar 38 = .ok (.iconst 0, 1) := by decide +kernel
theorem dX3_leaveOneCar_39 : decode cX3_leaveOneCar 39 = .ok (.aaload, 1) := by decide +kernel
theorem dX3_leaveOneCar_40 : decode cX3_leaveOneCar 40 = .ok (.iload_n 2, 1) := by decide +kernel
theorem dX3_leaveOneCar_41 : decode cX3_leaveOneCar 41 = .ok (.putfield 84, 3) := by decide +kernel
theorem dX3_leaveOneCar_44 : decode cX3_leaveOneCar 44 = .ok (.return_, 1) := by decide +kernel
theorem dX3_passTicks_0 : decode cX3_passTicks 0 = .ok (.iconst 0, 1) := by decide +kernel
theorem dX3_passTicks_1 : decode cX3_passTicks 1 = .ok (.istore_n 2, 1) := by decide +kernel
theorem dX3_passTicks_2 : decode cX3_passTicks 2 = .ok (.iload_n 2, 1) := by decide +kernel
theorem dX3_passTicks_3 : decode cX3_passTicks 3 = .ok (.iload_n 1, 1) := by decide +kernel
theorem dX3_passTicks_4 : decode cX3_passTicks 4 = .ok (.if_icmp .ge 13, 3) := by decide +kernel
theorem dX3_passTicks_7 : decode cX3_passTicks 7 = .ok (.aload_n 0, 1) := by decide +kernel
theorem dX3_passTicks_8 : decode cX3_passTicks 8 = .ok (.invokevirtual 94, 3) := by decide +kernel
theorem dX3_passTicks_11 : decode cX3_passTicks 11 = .ok (.iinc 2 1, 3) := by decide +kernel
theorem dX3_passTicks_14 : decode cX3_passTicks 14 = .ok (.goto (-12), 3) := by decide +kernel
theorem dX3_passTicks_17 : decode cX3_passTicks 17 = .ok (.return_, 1) := by decide +kernel
theorem dX3_passTick_0 : decode cX3_passTick 0 = .ok (.aload_n 0, 1) := by decide +kernel
theorem dX3_passTick_1 : decode cX3_passTick 1 = .ok (.dup, 1) := by decide +kernel
theorem dX3_passTick_2 : decode cX3_passTick 2 = .ok (.getfield 48, 3) := by decide +kernel
theorem dX3_passTick_5 : decode cX3_passTick 5 = .ok (.iconst 1, 1) := by decide +kernel
theorem dX3_passTick_6 : decode cX3_passTick 6 = .ok (.iadd, 1) := by decide +kernel
theorem dX3_passTick_7 : decode cX3_passTick 7 = .ok (.putfield 48, 3) := by decide +kernel
theorem dX3_passTick_10 : decode cX3_passTick 10 = .ok (.aload_n 0, 1) := by decide +kernel
theorem dX3_passTick_11 : decode cX3_passTick 11 = .ok (.iconst 1, 1) := by decide +kernel
theorem dX3_passTick_12 : decode cX3_passTick 12 = .ok (.invokevirtual 97, 3) := by decide +kernel
theorem dX3_passTick_15 : decode cX3_passTick 15 = .ok (.istore_n 1, 1) := by decide +kernel
theorem dX3_passTick_16 : decode cX3_passTick 16 = .ok (.aload_n 0, 1) := by decide +kernel
theorem dX3_passTick_17 : decode cX3_passTick 17 = .ok (.invokevirtual 100, 3) := by decide +kernel
theorem dX3_passTick_20 : decode cX3_passTick 20 = .ok (.iconst 0, 1) := by decide +kernel
theorem dX3_passTick_21 : decode cX3_passTick 21 = .ok (.istore_n 2, 1) := by decide +kernel
theorem dX3_passTick_22 : decode cX3_passTick 22 = .ok (.iload_n 2, 1) := by decide +kernel
theorem dX3_passTick_23 : decode cX3_passTick 23 = .ok (.bipush 8, 2) := by decide +kernel
theorem dX3_passTick_25 : decode cX3_passTick 25 = .ok (.if_icmp .ge 32, 3) := by decide +kernel
theorem dX3_passTick_28 : decode cX3_passTick 28 = .ok (.aload_n 0, 1) := by decide +kernel
theorem dX3_passTick_29 : decode cX3_passTick 29 = .ok (.aload_n 0, 1) := by decide +kernel
theorem dX3_passTick_30 : decode cX3_passTick 30 = .ok (.getfield 30, 3) := by decide +kernel
theorem dX3_passTick_33 : decode cX3_passTick 33 = .ok (.iload_n 2, 1) := by decide +kernel
theorem dX3_passTick_34 : decode cX3_passTick 34 = .ok (.iaload, 1) := by decide +kernel
theorem dX3_passTick_35 : decode cX3_passTick 35 = .ok (.invokevirtual 63, 3) := by decide +kernel
theorem dX3_passTick_38 : decode cX3_passTick 38 = .ok (.ifCond .eq 13, 3) := by decide +kernel
theorem dX3_passTick_41 : decode cX3_passTick 41 = .ok (.aload_n 0, 1) := by decide +kernel
theorem dX3_passTick_42 : decode cX3_passTick 42 = .ok (.aload_n 0, 1) := by decide +kernel
theorem dX3_passTick_43 : decode cX3_passTick 43 = .ok (.getfield 30, 3) := by decide +kernel
theorem dX3_passTick_46 : decode cX3_passTick 46 = .ok (.iload_n 2, 1) := by decide +kernel
theorem dX3_passTick_47 : decode cX3_passTick 47 = .ok (.iaload, 1) := by decide +kernel
theorem dX3_passTick_48 : decode cX3_passTick 48 = .ok (.invokevirtual 103, 3) := by decide +kernel
theorem dX3_passTick_51 : decode cX3_passTick 51 = .ok (.iinc 2 1, 3) := by decide +kernel
theorem dX3_passTick_54 : decode cX3_passTick 54 = .ok (.goto (-32), 3) := by decide +kernel
theorem dX3_passTick_57 : decode cX3_passTick 57 = .ok (.iconst 0, 1) := by decide +kernel
theorem dX3_passTick_58 : decode cX3_passTick 58 = .ok (.istore_n 2, 1) := by decide +kernel
theorem dX3_passTick_59 : decode cX3_passTick 59 = .ok (.iload_n 2, 1) := by decide +kernel
theorem dX3_passTick_60 : decode cX3_passTick 60 = .ok (.aload_n 0, 1) := by decide +kernel
theorem dX3_passTick_61 : decode cX3_passTick 61 = .ok (.getfield 44, 3) := by decide +kernel
theorem dX3_passTick_64 : decode cX3_passTick 64 = .ok (.if_icmp .ge 49, 3) := by decide +kernel
theorem dX3_passTick_67 : decode cX3_passTick 67 = .ok (.iload_n 1, 1) := by decide +kernel
theorem dX3_passTick_68 : decode cX3_passTick 68 = .ok (.iconst 1, 1) := by decide +kernel
theorem dX3_passTick_69 : decode cX3_passTick 69 = .ok (.iload_n 2, 1) := by decide +kernel
theorem dX3_passTick_70 : decode cX3_passTick 70 = .ok (.ishl, 1) := by decide +kernel
theorem dX3_passTick_71 : decode cX3_passTick 71 = .ok (.iand, 1) := by decide +kernel
theorem dX3_passTick_72 : decode cX3_passTick 72 = .ok (.ifCond .ne 12, 3) := by decide +kernel
theorem dX3_passTick_75 : decode cX3_passTick 75 = .ok (.aload_n 0, 1) := by decide +kernel
theorem dX3_passTick_76 : decode cX3_passTick 76 = .ok (.getfield 26, 3) := by decide +kernel
theorem dX3_passTick_79 : decode cX3_passTick 79 = .ok (.iload_n 2, 1) := by decide +kernel
theorem dX3_passTick_80 : decode cX3_passTick 80 = .ok (.aaload, 1) := by decide +kernel
theorem dX3_passTick_81 : decode cX3_passTick 81 = .ok (.invokevirtual 107, 3) := by decide +kernel
theorem dX3_passTick_84 : decode cX3_passTick 84 = .ok (.aload_n 0, 1) := by decide +kernel
theorem dX3_passTick_85 : decode cX3_passTick 85 = .ok (.getfield 26, 3) := by decide +kernel
theorem dX3_passTick_88 : decode cX3_passTick 88 = .ok (.iload_n 2, 1) := by decide +kernel
theorem dX3_passTick_89 : decode cX3_passTick 89 = .ok (.aaload, 1) := by decide +kernel
theorem dX3_passTick_90 : decode cX3_passTick 90 = .ok (.getfield 67, 3) := by decide +kernel
theorem dX3_passTick_93 : decode cX3_passTick 93 = .ok (.iconst 4, 1) := by decide +kernel
theorem dX3_passTick_94 : decode cX3_passTick 94 = .ok (.if_icmp .ne 13, 3) := by decide +kernel
theorem dX3_passTick_97 : decode cX3_passTick 97 = .ok (.aload_n 0, 1) := by decide +kernel
theorem dX3_passTick_98 : decode cX3_passTick 98 = .ok (.aload_n 0, 1) := by decide +kernel
theorem dX3_passTick_99 : decode cX3_passTick 99 = .ok (.getfield 26, 3) := by decide +kernel
theorem dX3_passTick_102 : decode cX3_passTick 102 = .ok (.iload_n 2, 1) := by decide +kernel
theorem dX3_passTick_103 : decode cX3_passTick 103 = .ok (.aaload, 1) := by decide +kernel
theorem dX3_passTick_104 : decode cX3_passTick 104 = .ok (.invokevirtual 110, 3) := by decide +kernel
theorem dX3_passTick_107 : decode cX3_passTick 107 = .ok (.iinc 2 1, 3) := by decide +kernel
theorem dX3_passTick_110 : decode cX3_passTick 110 = .ok (.goto (-51), 3) := by decide +kernel
theorem dX3_passTick_113 : decode cX3_passTick 113 = .ok (.return_, 1) := by decide +kernel
theorem dX3_lineUp_0 : decode cX3_lineUp 0 = .ok (.iconst 0, 1) := by decide +kernel
theorem dX3_lineUp_1 : decode cX3_lineUp 1 = .ok (.istore_n 1, 1) := by decide +kernel
theorem dX3_lineUp_2 : decode cX3_lineUp 2 = .ok (.iload_n 1, 1) := by decide +kernel
theorem dX3_lineUp_3 : decode cX3_lineUp 3 = .ok (.bipush 8, 2) := by decide +kernel
theorem dX3_lineUp_5 : decode cX3_lineUp 5 = .ok (.if_icmp .ge 16, 3) := by decide +kernel
theorem dX3_lineUp_8 : decode cX3_lineUp 8 = .ok (.aload_n 0, 1) := by decide +kernel
theorem dX3_lineUp_9 : decode cX3_lineUp 9 = .ok (.getfield 30, 3) := by decide +kernel
theorem dX3_lineUp_12 : decode cX3_lineUp 12 = .ok (.iload_n 1, 1) := by decide +kernel
theorem dX3_lineUp_13 : decode cX3_lineUp 13 = .ok (.iconst (-1), 1) := by decide +kernel
theorem dX3_lineUp_14 : decode cX3_lineUp 14 = .ok (.iastore, 1) := by decide +kernel
theorem dX3_lineUp_15 : decode cX3_lineUp 15 = .ok (.iinc 1 1, 3) := by decide +kernel
theorem dX3_lineUp_18 : decode cX3_lineUp 18 = .ok (.goto (-16), 3) := by decide +kernel
theorem dX3_lineUp_21 : decode cX3_lineUp 21 = .ok (.iconst 0, 1) := by decide +kernel
theorem dX3_lineUp_22 : decode cX3_lineUp 22 = .ok (.istore_n 1, 1) := by decide +kernel
theorem dX3_lineUp_23 : decode cX3_lineUp 23 = .ok (.iload_n 1, 1) := by decide +kernel
theorem dX3_lineUp_24 : decode cX3_lineUp 24 = .ok (.aload_n 0, 1) := by decide +kernel
theorem dX3_lineUp_25 : decode cX3_lineUp 25 = .ok (.getfield 44, 3) := by decide +kernel
theorem dX3_lineUp_28 : decode cX3_lineUp 28 = .ok (.if_icmp .ge 41, 3) := by decide +kernel
theorem dX3_lineUp_31 : decode cX3_lineUp 31 = .ok (.aload_n 0, 1) := by decide +kernel
theorem dX3_lineUp_32 : decode cX3_lineUp 32 = .ok (.iload_n 1, 1) := by decide +kernel
theorem dX3_lineUp_33 : decode cX3_lineUp 33 = .ok (.invokevirtual 113, 3) := by decide +kernel
theorem dX3_lineUp_36 : decode cX3_lineUp 36 = .ok (.istore_n 2, 1) := by decide +kernel
theorem dX3_lineUp_37 : decode cX3_lineUp 37 = .ok (.aload_n 0, 1) := by decide +kernel
theorem dX3_lineUp_38 : decode cX3_lineUp 38 = .ok (.getfield 26, 3) := by decide +kernel
theorem dX3_lineUp_41 : decode cX3_lineUp 41 = .ok (.iload_n 1, 1) := by decide +kernel
theorem dX3_lineUp_42 : decode cX3_lineUp 42 = .ok (.aaload, 1) := by decide +kernel
theorem dX3_lineUp_43 : decode cX3_lineUp 43 = .ok (.getfield 67, 3) := by decide +kernel
theorem dX3_lineUp_46 : decode cX3_lineUp 46 = .ok (.iconst 1, 1) := by decide +kernel
theorem dX3_lineUp_47 : decode cX3_lineUp 47 = .ok (.if_icmp .ne 16, 3) := by decide +kernel
theorem dX3_lineUp_50 : decode cX3_lineUp 50 = .ok (.iload_n 2, 1) := by decide +kernel
theorem dX3_lineUp_51 : decode cX3_lineUp 51 = .ok (.bipush 8, 2) := by decide +kernel
theorem dX3_lineUp_53 : decode cX3_lineUp 53 = .ok (.if_icmp .ge 10, 3) := by decide +kernel
theorem dX3_lineUp_56 : decode cX3_lineUp 56 = .ok (.aload_n 0, 1) := by decide +kernel
theorem dX3_lineUp_57 : decode cX3_lineUp 57 = .ok (.getfield 30, 3) := by decide +kernel
theorem dX3_lineUp_60 : decode cX3_lineUp 60 = .ok (.iload_n 2, 1) := by decide +kernel
theorem dX3_lineUp_61 : decode cX3_lineUp 61 = .ok (.iload_n 1, 1) := by decide +kernel
theorem dX3_lineUp_62 : decode cX3_lineUp 62 = .ok (.iastore, 1) := by decide +kernel
theorem dX3_lineUp_63 : decode cX3_lineUp 63 = .ok (.iinc 1 1, 3) := by decide +kernel
theorem dX3_lineUp_66 : decode cX3_lineUp 66 = .ok (.goto (-43), 3) := by decide +kernel
theorem dX3_lineUp_69 : decode cX3_lineUp 69 = .ok (.return_, 1) := by decide +kernel
theorem dX3_rankOf_0 : decode cX3_rankOf 0 = .ok (.iconst 0, 1) := by decide +kernel
theorem dX3_rankOf_1 : decode cX3_rankOf 1 = .ok (.istore_n 2, 1) := by decide +kernel
theorem dX3_rankOf_2 : decode cX3_rankOf 2 = .ok (.iconst 0, 1) := by decide +kernel
theorem dX3_rankOf_3 : decode cX3_rankOf 3 = .ok (.istore_n 3, 1) := by decide +kernel
theorem dX3_rankOf_4 : decode cX3_rankOf 4 = .ok (.iload_n 3, 1) := by decide +kernel
theorem dX3_rankOf_5 : decode cX3_rankOf 5 = .ok (.aload_n 0, 1) := by decide +kernel
theorem dX3_rankOf_6 : decode cX3_rankOf 6 = .ok (.getfield 44, 3) := by decide +kernel
theorem dX3_rankOf_9 : decode cX3_rankOf 9 = .ok (.if_icmp .ge 21, 3) := by decide +kernel
theorem dX3_rankOf_12 : decode cX3_rankOf 12 = .ok (.aload_n 0, 1) := by decide +kernel
theorem dX3_rankOf_13 : decode cX3_rankOf 13 = .ok (.iload_n 3, 1) := by decide +kernel
theorem dX3_rankOf_14 : decode cX3_rankOf 14 = .ok (.iload_n 1, 1) := by decide +kernel
theorem dX3_rankOf_15 : decode cX3_rankOf 15 = .ok (.invokevirtual 116, 3) := by decide +kernel
theorem dX3_rankOf_18 : decode cX3_rankOf 18 = .ok (.ifCond .eq 6, 3) := by decide +kernel
theorem dX3_rankOf_21 : decode cX3_rankOf 21 = .ok (.iinc 2 1, 3) := by decide +kernel
theorem dX3_rankOf_24 : decode cX3_rankOf 24 = .ok (.iinc 3 1, 3) := by decide +kernel
theorem dX3_rankOf_27 : decode cX3_rankOf 27 = .ok (.goto (-23), 3) := by decide +kernel
theorem dX3_rankOf_30 : decode cX3_rankOf 30 = .ok (.iload_n 2, 1) := by decide +kernel
theorem dX3_rankOf_31 : decode cX3_rankOf 31 = .ok (.ireturn, 1) := by decide +kernel
theorem dX3_isBefore_0 : decode cX3_isBefore 0 = .ok (.aload_n 0, 1) := by decide +kernel
theorem dX3_isBefore_1 : decode cX3_isBefore 1 = .ok (.getfield 26, 3) := by decide +kernel
theorem dX3_isBefore_4 : decode cX3_isBefore 4 = .ok (.iload_n 1, 1) := by decide +kernel
theorem dX3_isBefore_5 : decode cX3_isBefore 5 = .ok (.aaload, 1) := by decide +kernel
theorem dX3_isBefore_6 : decode cX3_isBefore 6 = .ok (.getfield 120, 3) := by decide +kernel
theorem dX3_isBefore_9 : decode cX3_isBefore 9 = .ok (.aload_n 0, 1) := by decide +kernel
theorem dX3_isBefore_10 : decode cX3_isBefore 10 = .ok (.getfield 26, 3) := by decide +kernel
theorem dX3_isBefore_13 : decode cX3_isBefore 13 = .ok (.iload_n 2, 1) := by decide +kernel
theorem dX3_isBefore_14 : decode cX3_isBefore 14 = .ok (.aaload, 1) := by decide +kernel
theorem dX3_isBefore_15 : decode cX3_isBefore 15 = .ok (.getfield 120, 3) := by decide +kernel
theorem dX3_isBefore_18 : decode cX3_isBefore 18 = .ok (.isub, 1) := by decide +kernel
theorem dX3_isBefore_19 : decode cX3_isBefore 19 = .ok (.istore_n 3, 1) := by decide +kernel
theorem dX3_isBefore_20 : decode cX3_isBefore 20 = .ok (.aload_n 0, 1) := by decide +kernel
theorem dX3_isBefore_21 : decode cX3_isBefore 21 = .ok (.getfield 26, 3) := by decide +kernel
theorem dX3_isBefore_24 : decode cX3_isBefore 24 = .ok (.iload_n 1, 1) := by decide +kernel
theorem dX3_isBefore_25 : decode cX3_isBefore 25 = .ok (.aaload, 1) := by decide +kernel
theorem dX3_isBefore_26 : decode cX3_isBefore 26 = .ok (.getfield 67, 3) := by decide +kernel
theorem dX3_isBefore_29 : decode cX3_isBefore 29 = .ok (.iconst 1, 1) := by decide +kernel
theorem dX3_isBefore_30 : decode cX3_isBefore 30 = .ok (.if_icmp .ne 20, 3) := by decide +kernel
theorem dX3_isBefore_33 : decode cX3_isBefore 33 = .ok (.iload_n 3, 1) := by decide +kernel
theorem dX3_isBefore_34 : decode cX3_isBefore 34 = .ok (.ifCond .gt 12, 3) := by decide +kernel
theorem dX3_isBefore_37 : decode cX3_isBefore 37 = .ok (.iload_n 3, 1) := by decide +kernel
theorem dX3_isBefore_38 : decode cX3_isBefore 38 = .ok (.ifCond .ne 12, 3) := by decide +kernel
theorem dX3_isBefore_41 : decode cX3_isBefore 41 = .ok (.iload_n 1, 1) := by decide +kernel
theorem dX3_isBefore_42 : decode cX3_isBefore 42 = .ok (.iload_n 2, 1) := by decide +kernel
theorem dX3_isBefore_43 : decode cX3_isBefore 43 = .ok (.if_icmp .ge 7, 3) := by decide +kernel
theorem dX3_isBefore_46 : decode cX3_isBefore 46 = .ok (.iconst 1, 1) := by decide +kernel
theorem dX3_isBefore_47 : decode cX3_isBefore 47 = .ok (.goto 4, 3) := by decide +kernel
theorem dX3_isBefore_50 : decode cX3_isBefore 50 = .ok (.iconst 0, 1) := by decide +kernel
theorem dX3_isBefore_51 : decode cX3_isBefore 51 = .ok (.ireturn, 1) := by decide +kernel
theorem dX3_moveCar_0 : decode cX3_moveCar 0 = .ok (.aload_n 0, 1) := by decide +kernel
theorem dX3_moveCar_1 : decode cX3_moveCar 1 = .ok (.getfield 26, 3) := by decide +kernel
theorem dX3_moveCar_4 : decode cX3_moveCar 4 = .ok (.iload_n 1, 1) := by decide +kernel
theorem dX3_moveCar_5 : decode cX3_moveCar 5 = .ok (.aaload, 1) := by decide +kernel
theorem dX3_moveCar_6 : decode cX3_moveCar 6 = .ok (.astore_n 2, 1) := by decide +kernel
theorem dX3_moveCar_7 : decode cX3_moveCar 7 = .ok (.aload_n 2, 1) := by decide +kernel
theorem dX3_moveCar_8 : decode cX3_moveCar 8 = .ok (.getfield 120, 3) := by decide +kernel
theorem dX3_moveCar_11 : decode cX3_moveCar 11 = .ok (.istore_n 3, 1) := by decide +kernel
theorem dX3_moveCar_12 : decode cX3_moveCar 12 = .ok (.aload_n 2, 1) := by decide +kernel
theorem dX3_moveCar_13 : decode cX3_moveCar 13 = .ok (.aload_n 0, 1) := by decide +kernel
theorem dX3_moveCar_14 : decode cX3_moveCar 14 = .ok (.iload_n 3, 1) := by decide +kernel
theorem dX3_moveCar_15 : decode cX3_moveCar 15 = .ok (.invokevirtual 123, 3) := by decide +kernel
theorem dX3_moveCar_18 : decode cX3_moveCar 18 = .ok (.aload_n 0, 1) := by decide +kernel
theorem dX3_moveCar_19 : decode cX3_moveCar 19 = .ok (.getfield 21, 3) := by decide +kernel
theorem dX3_moveCar_22 : decode cX3_moveCar 22 = .ok (.iconst 0, 1) := by decide +kernel
theorem dX3_moveCar_23 : decode cX3_moveCar 23 = .ok (.iaload, 1) := by decide +kernel
theorem dX3_moveCar_24 : decode cX3_moveCar 24 = .ok (.isub, 1) := by decide +kernel
theorem dX3_moveCar_25 : decode cX3_moveCar 25 = .ok (.invokevirtual 126, 3) := by decide +kernel
theorem dX3_moveCar_28 : decode cX3_moveCar 28 = .ok (.aload_n 2, 1) := by decide +kernel
theorem dX3_moveCar_29 : decode cX3_moveCar 29 = .ok (.invokevirtual 129, 3) := by decide +kernel
theorem dX3_moveCar_32 : decode cX3_moveCar 32 = .ok (.aload_n 0, 1) := by decide +kernel
theorem dX3_moveCar_33 : decode cX3_moveCar 33 = .ok (.iload_n 1, 1) := by decide +kernel
theorem dX3_moveCar_34 : decode cX3_moveCar 34 = .ok (.invokevirtual 132, 3) := by decide +kernel
theorem dX3_moveCar_37 : decode cX3_moveCar 37 = .ok (.istore 4, 2) := by decide +kernel
theorem dX3_moveCar_39 : decode cX3_moveCar 39 = .ok (.aload_n 2, 1) := by decide +kernel
theorem dX3_moveCar_40 : decode cX3_moveCar 40 = .ok (.iload_n 3, 1) := by decide +kernel
theorem dX3_moveCar_41 : decode cX3_moveCar 41 = .ok (.aload_n 2, 1) := by decide +kernel
theorem dX3_moveCar_42 : decode cX3_moveCar 42 = .ok (.getfield 135, 3) := by decide +kernel
theorem dX3_moveCar_45 : decode cX3_moveCar 45 = .ok (.iadd, 1) := by decide +kernel
theorem dX3_moveCar_46 : decode cX3_moveCar 46 = .ok (.putfield 120, 3) := by decide +kernel
theorem dX3_moveCar_49 : decode cX3_moveCar 49 = .ok (.iload 4, 2) := by decide +kernel
theorem dX3_moveCar_51 : decode cX3_moveCar 51 = .ok (.iconst (-1), 1) := by decide +kernel
theorem dX3_moveCar_52 : decode cX3_moveCar 52 = .ok (.if_icmp .eq 36, 3) := by decide +kernel
theorem dX3_moveCar_55 : decode cX3_moveCar 55 = .ok (.aload_n 2, 1) := by decide +kernel
theorem dX3_moveCar_56 : decode cX3_moveCar 56 = .ok (.getfield 120, 3) := by decide +kernel
theorem dX3_moveCar_59 : decode cX3_moveCar 59 = .ok (.aload_n 0, 1) := by decide +kernel
theorem dX3_moveCar_60 : decode cX3_moveCar 60 = .ok (.getfield 26, 3) := by decide +kernel
theorem dX3_moveCar_63 : decode cX3_moveCar 63 = .ok (.iload 4, 2) := by decide +kernel
theorem dX3_moveCar_65 : decode cX3_moveCar 65 = .ok (.aaload, 1) := by decide +kernel
theorem dX3_moveCar_66 : decode cX3_moveCar 66 = .ok (.getfield 120, 3) := by decide +kernel
theorem dX3_moveCar_69 : decode cX3_moveCar 69 = .ok (.bipush 10, 2) := by decide +kernel
theorem dX3_moveCar_71 : decode cX3_moveCar 71 = .ok (.isub, 1) := by decide +kernel
theorem dX3_moveCar_72 : decode cX3_moveCar 72 = .ok (.if_icmp .le 16, 3) := by decide +kernel
theorem dX3_moveCar_75 : decode cX3_moveCar 75 = .ok (.aload_n 0, 1) := by decide +kernel
theorem dX3_moveCar_76 : decode cX3_moveCar 76 = .ok (.aload_n 2, 1) := by decide +kernel
theorem dX3_moveCar_77 : decode cX3_moveCar 77 = .ok (.iload_n 3, 1) := by decide +kernel
theorem dX3_moveCar_78 : decode cX3_moveCar 78 = .ok (.aload_n 0, 1) := by decide +kernel
theorem dX3_moveCar_79 : decode cX3_moveCar 79 = .ok (.getfield 26, 3) := by decide +kernel
theorem dX3_moveCar_82 : decode cX3_moveCar 82 = .ok (.iload 4, 2) := by decide +kernel
theorem dX3_moveCar_84 : decode cX3_moveCar 84 = .ok (.aaload, 1) := by decide +kernel
theorem dX3_moveCar_85 : decode cX3_moveCar 85 = .ok (.invokevirtual 138, 3) := by decide +kernel
theorem dX3_moveCar_88 : decode cX3_moveCar 88 = .ok (.aload_n 0, 1) := by decide +kernel
theorem dX3_moveCar_89 : decode cX3_moveCar 89 = .ok (.iload_n 3, 1) := by decide +kernel
theorem dX3_moveCar_90 : decode cX3_moveCar 90 = .ok (.aload_n 2, 1) := by decide +kernel
theorem dX3_moveCar_91 : decode cX3_moveCar 91 = .ok (.getfield 120, 3) := by decide +kernel
theorem dX3_moveCar_94 : decode cX3_moveCar 94 = .ok (.aload_n 2, 1) := by decide +kernel
theorem dX3_moveCar_95 : decode cX3_moveCar 95 = .ok (.getfield 135, 3) := by decide +kernel
theorem dX3_moveCar_98 : decode cX3_moveCar 98 = .ok (.invokevirtual 142, 3) := by decide +kernel
theorem dX3_moveCar_101 : decode cX3_moveCar 101 = .ok (.istore 5, 2) := by decide +kernel
theorem dX3_moveCar_103 : decode cX3_moveCar 103 = .ok (.iload 5, 2) := by decide +kernel
theorem dX3_moveCar_105 : decode cX3_moveCar 105 = .ok (.iconst (-1), 1) := by decide +kernel
theorem dX3_moveCar_106 : decode cX3_moveCar 106 = .ok (.if_icmp .eq 36, 3) := by decide +kernel
theorem dX3_moveCar_109 : decode cX3_moveCar 109 = .ok (.aload_n 0, 1) := by decide +kernel
theorem dX3_moveCar_110 : decode cX3_moveCar 110 = .ok (.getfield 18, 3) := by decide +kernel
theorem dX3_moveCar_113 : decode cX3_moveCar 113 = .ok (.iload 5, 2) := by decide +kernel
theorem dX3_moveCar_115 : decode cX3_moveCar 115 = .ok (.dup2, 1) := by decide +kernel
theorem dX3_moveCar_116 : decode cX3_moveCar 116 = .ok (.iaload, 1) := by decide +kernel
theorem dX3_moveCar_117 : decode cX3_moveCar 117 = .ok (.iconst 1, 1) := by decide +kernel
theorem dX3_moveCar_118 : decode cX3_moveCar 118 = .ok (.iadd, 1) := by decide +kernel
theorem dX3_moveCar_119 : decode cX3_moveCar 119 = .ok (.iastore, 1) := by decide +kernel
theorem dX3_moveCar_120 : decode cX3_moveCar 120 = .ok (.aload_n 2, 1) := by decide +kernel
theorem dX3_moveCar_121 : decode cX3_moveCar 121 = .ok (.iconst 3, 1) := by decide +kernel
theorem dX3_moveCar_122 : decode cX3_moveCar 122 = .ok (.putfield 67, 3) := by decide +kernel
theorem dX3_moveCar_125 : decode cX3_moveCar 125 = .ok (.aload_n 2, 1) := by decide +kernel
theorem dX3_moveCar_126 : decode cX3_moveCar 126 = .ok (.iload 5, 2) := by decide +kernel
theorem dX3_moveCar_128 : decode cX3_moveCar 128 = .ok (.bipush 10, 2) := by decide +kernel
theorem dX3_moveCar_130 : decode cX3_moveCar 130 = .ok (.imul, 1) := by decide +kernel
theorem dX3_moveCar_131 : decode cX3_moveCar 131 = .ok (.putfield 120, 3) := by decide +kernel
theorem dX3_moveCar_134 : decode cX3_moveCar 134 = .ok (.aload_n 2, 1) := by decide +kernel
theorem dX3_moveCar_135 : decode cX3_moveCar 135 = .ok (.iconst 0, 1) := by decide +kernel
theorem dX3_moveCar_136 : decode cX3_moveCar 136 = .ok (.putfield 135, 3) := by decide +kernel
theorem dX3_moveCar_139 : decode cX3_moveCar 139 = .ok (.goto 18, 3) := by decide +kernel
theorem dX3_moveCar_142 : decode cX3_moveCar 142 = .ok (.aload_n 2, 1) := by decide +kernel
theorem dX3_moveCar_143 : decode cX3_moveCar 143 = .ok (.getfield 120, 3) := by decide +kernel
theorem dX3_moveCar_146 : decode cX3_moveCar 146 = .ok (.sipush 300, 3) := by decide +kernel
theorem dX3_moveCar_149 : decode cX3_moveCar 149 = .ok (.if_icmp .lt 8, 3) := by decide +kernel
theorem dX3_moveCar_152 : decode cX3_moveCar 152 = .ok (.aload_n 0, 1) := by decide +kernel
theorem dX3_moveCar_153 : decode cX3_moveCar 153 = .ok (.aload_n 2, 1) := by decide +kernel
theorem dX3_moveCar_154 : decode cX3_moveCar 154 = .ok (.invokevirtual 146, 3) := by decide +kernel
theorem dX3_moveCar_157 : decode cX3_moveCar 157 = .ok (.return_, 1) := by decide +kernel
theorem dX3_gradeAt_0 : decode cX3_gradeAt 0 = .ok (.iload_n 1, 1) := by decide +kernel
theorem dX3_gradeAt_1 : decode cX3_gradeAt 1 = .ok (.bipush 10, 2) := by decide +kernel
theorem dX3_gradeAt_3 : decode cX3_gradeAt 3 = .ok (.idiv, 1) := by decide +kernel
theorem dX3_gradeAt_4 : decode cX3_gradeAt 4 = .ok (.istore_n 2, 1) := by decide +kernel
theorem dX3_gradeAt_5 : decode cX3_gradeAt 5 = .ok (.iload_n 2, 1) := by decide +kernel
theorem dX3_gradeAt_6 : decode cX3_gradeAt 6 = .ok (.ifCond .lt 18, 3) := by decide +kernel
theorem dX3_gradeAt_9 : decode cX3_gradeAt 9 = .ok (.iload_n 2, 1) := by decide +kernel
theorem dX3_gradeAt_10 : decode cX3_gradeAt 10 = .ok (.bipush 30, 2) := by decide +kernel
theorem dX3_gradeAt_12 : decode cX3_gradeAt 12 = .ok (.if_icmp .ge 12, 3) := by decide +kernel
theorem dX3_gradeAt_15 : decode cX3_gradeAt 15 = .ok (.aload_n 0, 1) := by decide +kernel
theorem dX3_gradeAt_16 : decode cX3_gradeAt 16 = .ok (.getfield 9, 3) := by decide +kernel
theorem dX3_gradeAt_19 : decode cX3_gradeAt 19 = .ok (.iload_n 2, 1) := by decide +kernel
theorem dX3_gradeAt_20 : decode cX3_gradeAt 20 = .ok (.iaload, 1) := by decide +kernel
theorem dX3_gradeAt_21 : decode cX3_gradeAt 21 = .ok (.goto 4, 3) := by decide +kernel
theorem dX3_gradeAt_24 : decode cX3_gradeAt 24 = .ok (.iconst 0, 1) := by decide +kernel
theorem dX3_gradeAt_25 : decode cX3_gradeAt 25 = .ok (.ireturn, 1) := by decide +kernel
theorem dX3_nextBefore_0 : decode cX3_nextBefore 0 = .ok (.iconst (-1), 1) := by decide +kernel
theorem dX3_nextBefore_1 : decode cX3_nextBefore 1 = .ok (.istore_n 2, 1) := by decide +kernel
theorem dX3_nextBefore_2 : decode cX3_nextBefore 2 = .ok (.iconst 0, 1) := by decide +kernel
theorem dX3_nextBefore_3 : decode cX3_nextBefore 3 = .ok (.istore_n 3, 1) := by decide +kernel
theorem dX3_nextBefore_4 : decode cX3_nextBefore 4 = .ok (.iload_n 3, 1) := by decide +kernel
theorem dX3_nextBefore_5 : decode cX3_nextBefore 5 = .ok (.aload_n 0, 1) := by decide +kernel
theorem dX3_nextBefore_6 : decode cX3_nextBefore 6 = .ok (.getfield 44, 3) := by decide +kernel
theorem dX3_nextBefore_9 : decode cX3_nextBefore 9 = .ok (.if_icmp .ge 46, 3) := by decide +kernel
theorem dX3_nextBefore_12 : decode cX3_nextBefore 12 = .ok (.aload_n 0, 1) := by decide +kernel
theorem dX3_nextBefore_13 : decode cX3_nextBefore 13 = .ok (.iload_n 3, 1) := by decide +kernel
theorem dX3_nextBefore_14 : decode cX3_nextBefore 14 = .ok (.iload_n 1, 1) := by decide +kernel
theorem dX3_nextBefore_15 : decode cX3_nextBefore 15 = .ok (.invokevirtual 116, 3) := by decide +kernel
theorem dX3_nextBefore_18 : decode cX3_nextBefore 18 = .ok (.ifCond .eq 31, 3) := by decide +kernel
theorem dX3_nextBefore_21 : decode cX3_nextBefore 21 = .ok (.iload_n 2, 1) := by decide +kernel
theorem dX3_nextBefore_22 : decode cX3_nextBefore 22 = .ok (.iconst (-1), 1) := by decide +kernel
theorem dX3_nextBefore_23 : decode cX3_nextBefore 23 = .ok (.if_icmp .eq 24, 3) := by decide +kernel
theorem dX3_nextBefore_26 : decode cX3_nextBefore 26 = .ok (.aload_n 0, 1) := by decide +kernel
theorem dX3_nextBefore_27 : decode cX3_nextBefore 27 = .ok (.getfield 26, 3) := by decide +kernel
theorem dX3_nextBefore_30 : decode cX3_nextBefore 30 = .ok (.iload_n 3, 1) := by decide +kernel
theorem dX3_nextBefore_31 : decode cX3_nextBefore 31 = .ok (.aaload, 1) := by decide +kernel
theorem dX3_nextBefore_32 : decode cX3_nextBefore 32 = .ok (.getfield 120, 3) := by decide +kernel
theorem dX3_nextBefore_35 : decode cX3_nextBefore 35 = .ok (.aload_n 0, 1) := by decide +kernel
theorem dX3_nextBefore_36 : decode cX3_nextBefore 36 = .ok (.getfield 26, 3) := by decide +kernel
theorem dX3_nextBefore_39 : decode cX3_nextBefore 39 = .ok (.iload_n 2, 1) := by decide +kernel
theorem dX3_nextBefore_40 : decode cX3_nextBefore 40 = .ok (.aaload, 1) := by decide +kernel
theorem dX3_nextBefore_41 : decode cX3_nextBefore 41 = .ok (.getfield 120, 3) := by decide +kernel
theorem dX3_nextBefore_44 : decode cX3_nextBefore 44 = .ok (.if_icmp .gt 5, 3) := by decide +kernel
theorem dX3_nextBefore_47 : decode cX3_nextBefore 47 = .ok (.iload_n 3, 1) := by decide +kernel
theorem dX3_nextBefore_48 : decode cX3_nextBefore 48 = .ok (.istore_n 2, 1) := by decide +kernel
theorem dX3_nextBefore_49 : decode cX3_nextBefore 49 = .ok (.iinc 3 1, 3) := by decide +kernel
theorem dX3_nextBefore_52 : decode cX3_nextBefore 52 = .ok (.goto (-48), 3) := by decide +kernel
theorem dX3_nextBefore_55 : decode cX3_nextBefore 55 = .ok (.iload_n 2, 1) := by decide +kernel
theorem dX3_nextBefore_56 : decode cX3_nextBefore 56 = .ok (.ireturn, 1) := by decide +kernel
theorem dX3_bump_0 : decode cX3_bump 0 = .ok (.aload_n 1, 1) := by decide +kernel
theorem dX3_bump_1 : decode cX3_bump 1 = .ok (.iload_n 2, 1) := by decide +kernel
theorem dX3_bump_2 : decode cX3_bump 2 = .ok (.aload_n 3, 1) := by decide +kernel
theorem dX3_bump_3 : decode cX3_bump 3 = .ok (.getfield 120, 3) := by decide +kernel
theorem dX3_bump_6 : decode cX3_bump 6 = .ok (.bipush 10, 2) := by decide +kernel
theorem dX3_bump_8 : decode cX3_bump 8 = .ok (.isub, 1) := by decide +kernel
theorem dX3_bump_9 : decode cX3_bump 9 = .ok (.invokestatic 149, 3) := by decide +kernel
theorem dX3_bump_12 : decode cX3_bump 12 = .ok (.putfield 120, 3) := by decide +kernel
theorem dX3_bump_15 : decode cX3_bump 15 = .ok (.aload_n 1, 1) := by decide +kernel
theorem dX3_bump_16 : decode cX3_bump 16 = .ok (.aload_n 1, 1) := by decide +kernel
theorem dX3_bump_17 : decode cX3_bump 17 = .ok (.getfield 135, 3) := by decide +kernel
theorem dX3_bump_20 : decode cX3_bump 20 = .ok (.aload_n 3, 1) := by decide +kernel
theorem dX3_bump_21 : decode cX3_bump 21 = .ok (.getfield 135, 3) := by decide +kernel
theorem dX3_bump_24 : decode cX3_bump 24 = .ok (.invokestatic 154, 3) := by decide +kernel
theorem dX3_bump_27 : decode cX3_bump 27 = .ok (.putfield 135, 3) := by decide +kernel
theorem dX3_bump_30 : decode cX3_bump 30 = .ok (.aload_n 1, 1) := by decide +kernel
theorem dX3_bump_31 : decode cX3_bump 31 = .ok (.dup, 1) := by decide +kernel
theorem dX3_bump_32 : decode cX3_bump 32 = .ok (.getfield 157, 3) := by decide +kernel
theorem dX3_bump_35 : decode cX3_bump 35 = .ok (.iconst 1, 1) := by decide +kernel
theorem dX3_bump_36 : decode cX3_bump 36 = .ok (.iadd, 1) := by decide +kernel
theorem dX3_bump_37 : decode cX3_bump 37 = .ok (.putfield 157, 3) := by decide +kernel
theorem dX3_bump_40 : decode cX3_bump 40 = .ok (.return_, 1) := by decide +kernel
theorem dX3_runawaySection_0 : decode cX3_runawaySection 0 = .ok (.iconst 0, 1) := by decide +kernel
theorem dX3_runawaySection_1 : decode cX3_runawaySection 1 = .ok (.iload_n 1, 1) := by decide +kernel
theorem dX3_runawaySection_2 : decode cX3_runawaySection 2 = .ok (.bipush 10, 2) := by decide +kernel
theorem dX3_runawaySection_4 : decode cX3_runawaySection 4 = .ok (.idiv, 1) := by decide +kernel
theorem dX3_runawaySection_5 : decode cX3_runawaySection 5 = .ok (.invokestatic 149, 3) := by decide +kernel
theorem dX3_runawaySection_8 : decode cX3_runawaySection 8 = .ok (.iconst 1, 1) := by decide +kernel
theorem dX3_runawaySection_9 : decode cX3_runawaySection 9 = .ok (.iadd, 1) := by decide +kernel
theorem dX3_runawaySection_10 : decode cX3_runawaySection 10 = .ok (.istore 4, 2) := by decide +kernel
theorem dX3_runawaySection_12 : decode cX3_runawaySection 12 = .ok (.iload 4, 2) := by decide +kernel
theorem dX3_runawaySection_14 : decode cX3_runawaySection 14 = .ok (.bipush 30, 2) := by decide +kernel
theorem dX3_runawaySection_16 : decode cX3_runawaySection 16 = .ok (.if_icmp .ge 42, 3) := by decide +kernel
theorem dX3_runawaySection_19 : decode cX3_runawaySection 19 = .ok (.iload 4, 2) := by decide +kernel
theorem dX3_runawaySection_21 : decode cX3_runawaySection 21 = .ok (.bipush 10, 2) := by decide +kernel
theorem dX3_runawaySection_23 : decode cX3_runawaySection 23 = .ok (.imul, 1) := by decide +kernel
theorem dX3_runawaySection_24 : decode cX3_runawaySection 24 = .ok (.iload_n 2, 1) := by decide +kernel
theorem dX3_runawaySection_25 : decode cX3_runawaySection 25 = .ok (.if_icmp .gt 33, 3) := by decide +kernel
theorem dX3_runawaySection_28 : decode cX3_runawaySection 28 = .ok (.aload_n 0, 1) := by decide +kernel
theorem dX3_runawaySection_29 : decode cX3_runawaySection 29 = .ok (.getfield 15, 3) := by decide +kernel
theorem dX3_runawaySection_32 : decode cX3_runawaySection 32 = .ok (.iload 4, 2) := by decide +kernel
theorem dX3_runawaySection_34 : decode cX3_runawaySection 34 = .ok (.iaload, 1) := by decide +kernel
theorem dX3_runawaySection_35 : decode cX3_runawaySection 35 = .ok (.ifCond .le 17, 3) := by decide +kernel
theorem dX3_runawaySection_38 : decode cX3_runawaySection 38 = .ok (.iload_n 3, 1) := by decide +kernel
theorem dX3_runawaySection_39 : decode cX3_runawaySection 39 = .ok (.aload_n 0, 1) := by decide +kernel
theorem dX3_runawaySection_40 : decode cX3_runawaySection 40 = .ok (.getfield 15, 3) := by decide +kernel
theorem dX3_runawaySection_43 : decode cX3_runawaySection 43 = .ok (.iload 4, 2) := by decide +kernel
theorem dX3_runawaySection_45 : decode cX3_runawaySection 45 = .ok (.iaload, 1) := by decide +kernel
theorem dX3_runawaySection_46 : decode cX3_runawaySection 46 = .ok (.if_icmp .le 6, 3) := by decide +kernel
theorem dX3_runawaySection_49 : decode cX3_runawaySection 49 = .ok (.iload 4, 2) := by decide +kernel
theorem dX3_runawaySection_51 : decode cX3_runawaySection 51 = .ok (.ireturn, 1) := by decide +kernel
theorem dX3_runawaySection_52 : decode cX3_runawaySection 52 = .ok (.iinc 4 1, 3) := by decide +kernel
theorem dX3_runawaySection_55 : decode cX3_runawaySection 55 = .ok (.goto (-43), 3) := by decide +kernel
theorem dX3_runawaySection_58 : decode cX3_runawaySection 58 = .ok (.iconst (-1), 1) := by decide +kernel
theorem dX3_runawaySection_59 : decode cX3_runawaySection 59 = .ok (.ireturn, 1) := by decide +kernel
theorem dX3_arrive_0 : decode cX3_arrive 0 = .ok (.aload_n 1, 1) := by decide +kernel
theorem dX3_arrive_1 : decode cX3_arrive 1 = .ok (.getfield 135, 3) := by decide +kernel
theorem dX3_arrive_4 : decode cX3_arrive 4 = .ok (.bipush 25, 2) := by decide +kernel
theorem dX3_arrive_6 : decode cX3_arrive 6 = .ok (.if_icmp .le 12, 3) := by decide +kernel
theorem dX3_arrive_9 : decode cX3_arrive 9 = .ok (.aload_n 1, 1) := by decide +kernel
theorem dX3_arrive_10 : decode cX3_arrive 10 = .ok (.getfield 73, 3) := by decide +kernel
theorem dX3_arrive_13 : decode cX3_arrive 13 = .ok (.iconst 2, 1) := by decide +kernel
theorem dX3_arrive_14 : decode cX3_arrive 14 = .ok (.idiv, 1) := by decide +kernel
theorem dX3_arrive_15 : decode cX3_arrive 15 = .ok (.goto 4, 3) := by decide +kernel
theorem dX3_arrive_18 : decode cX3_arrive 18 = .ok (.iconst 0, 1) := by decide +kernel
theorem dX3_arrive_19 : decode cX3_arrive 19 = .ok (.istore_n 2, 1) := by decide +kernel
theorem dX3_arrive_20 : decode cX3_arrive 20 = .ok (.aload_n 0, 1) := by decide +kernel
theorem dX3_arrive_21 : decode cX3_arrive 21 = .ok (.dup, 1) := by decide +kernel
theorem dX3_arrive_22 : decode cX3_arrive 22 = .ok (.getfield 57, 3) := by decide +kernel
theorem dX3_arrive_25 : decode cX3_arrive 25 = .ok (.iload_n 2, 1) := by decide +kernel
theorem dX3_arrive_26 : decode cX3_arrive 26 = .ok (.iadd, 1) := by decide +kernel
theorem dX3_arrive_27 : decode cX3_arrive 27 = .ok (.putfield 57, 3) := by decide +kernel
theorem dX3_arrive_30 : decode cX3_arrive 30 = .ok (.aload_n 0, 1) := by decide +kernel
theorem dX3_arrive_31 : decode cX3_arrive 31 = .ok (.dup, 1) := by decide +kernel
theorem dX3_arrive_32 : decode cX3_arrive 32 = .ok (.getfield 54, 3) := by decide +kernel
theorem dX3_arrive_35 : decode cX3_arrive 35 = .ok (.aload_n 1, 1) := by decide +kernel
theorem dX3_arrive_36 : decode cX3_arrive 36 = .ok (.getfield 73, 3) := by decide +kernel
theorem dX3_arrive_39 : decode cX3_arrive 39 = .ok (.iload_n 2, 1) := by decide +kernel
theorem dX3_arrive_40 : decode cX3_arrive 40 = .ok (.isub, 1) := by decide +kernel
theorem dX3_arrive_41 : decode cX3_arrive 41 = .ok (.iadd, 1) := by decide +kernel
theorem dX3_arrive_42 : decode cX3_arrive 42 = .ok (.putfield 54, 3) := by decide +kernel
theorem dX3_arrive_45 : decode cX3_arrive 45 = .ok (.aload_n 1, 1) := by decide +kernel
theorem dX3_arrive_46 : decode cX3_arrive 46 = .ok (.dup, 1) := by decide +kernel
theorem dX3_arrive_47 : decode cX3_arrive 47 = .ok (.getfield 160, 3) := by decide +kernel
theorem dX3_arrive_50 : decode cX3_arrive 50 = .ok (.aload_n 1, 1) := by decide +kernel
theorem dX3_arrive_51 : decode cX3_arrive 51 = .ok (.getfield 73, 3) := by decide +kernel
theorem dX3_arrive_54 : decode cX3_arrive 54 = .ok (.iload_n 2, 1) := by decide +kernel
theorem dX3_arrive_55 : decode cX3_arrive 55 = .ok (.isub, 1) := by decide +kernel
theorem dX3_arrive_56 : decode cX3_arrive 56 = .ok (.iadd, 1) := by decide +kernel
theorem dX3_arrive_57 : decode cX3_arrive 57 = .ok (.putfield 160, 3) := by decide +kernel
theorem dX3_arrive_60 : decode cX3_arrive 60 = .ok (.aload_n 1, 1) := by decide +kernel
theorem dX3_arrive_61 : decode cX3_arrive 61 = .ok (.iconst 2, 1) := by decide +kernel
theorem dX3_arrive_62 : decode cX3_arrive 62 = .ok (.putfield 67, 3) := by decide +kernel
theorem dX3_arrive_65 : decode cX3_arrive 65 = .ok (.aload_n 1, 1) := by decide +kernel
theorem dX3_arrive_66 : decode cX3_arrive 66 = .ok (.sipush 300, 3) := by decide +kernel
theorem dX3_arrive_69 : decode cX3_arrive 69 = .ok (.putfield 120, 3) := by decide +kernel
theorem dX3_arrive_72 : decode cX3_arrive 72 = .ok (.aload_n 1, 1) := by decide +kernel
theorem dX3_arrive_73 : decode cX3_arrive 73 = .ok (.iconst 0, 1) := by decide +kernel
theorem dX3_arrive_74 : decode cX3_arrive 74 = .ok (.putfield 73, 3) := by decide +kernel
theorem dX3_arrive_77 : decode cX3_arrive 77 = .ok (.aload_n 1, 1) := by decide +kernel
theorem dX3_arrive_78 : decode cX3_arrive 78 = .ok (.iconst 0, 1) := by decide +kernel
theorem dX3_arrive_79 : decode cX3_arrive 79 = .ok (.putfield 135, 3) := by decide +kernel
theorem dX3_arrive_82 : decode cX3_arrive 82 = .ok (.aload_n 1, 1) := by decide +kernel
theorem dX3_arrive_83 : decode cX3_arrive 83 = .ok (.iconst 0, 1) := by decide +kernel
theorem dX3_arrive_84 : decode cX3_arrive 84 = .ok (.putfield 84, 3) := by decide +kernel
theorem dX3_arrive_87 : decode cX3_arrive 87 = .ok (.return_, 1) := by decide +kernel
theorem dX3_pullOn_0 : decode cX3_pullOn 0 = .ok (.aload_n 1, 1) := by decide +kernel
theorem dX3_pullOn_1 : decode cX3_pullOn 1 = .ok (.iconst 0, 1) := by decide +kernel
theorem dX3_pullOn_2 : decode cX3_pullOn 2 = .ok (.aload_n 1, 1) := by decide +kernel
theorem dX3_pullOn_3 : decode cX3_pullOn 3 = .ok (.getfield 120, 3) := by decide +kernel
theorem dX3_pullOn_6 : decode cX3_pullOn 6 = .ok (.aload_n 0, 1) := by decide +kernel
theorem dX3_pullOn_7 : decode cX3_pullOn 7 = .ok (.getfield 21, 3) := by decide +kernel
theorem dX3_pullOn_10 : decode cX3_pullOn 10 = .ok (.iconst 1, 1) := by decide +kernel
theorem dX3_pullOn_11 : decode cX3_pullOn 11 = .ok (.iaload, 1) := by decide +kernel
theorem dX3_pullOn_12 : decode cX3_pullOn 12 = .ok (.isub, 1) := by decide +kernel
theorem dX3_pullOn_13 : decode cX3_pullOn 13 = .ok (.invokestatic 149, 3) := by decide +kernel
theorem dX3_pullOn_16 : decode cX3_pullOn 16 = .ok (.putfield 120, 3) := by decide +kernel
theorem dX3_pullOn_19 : decode cX3_pullOn 19 = .ok (.aload_n 1, 1) := by decide +kernel
theorem dX3_pullOn_20 : decode cX3_pullOn 20 = .ok (.getfield 120, 3) := by decide +kernel
theorem dX3_pullOn_23 : decode cX3_pullOn 23 = .ok (.ifCond .ne 8, 3) := by decide +kernel
theorem dX3_pullOn_26 : decode cX3_pullOn 26 = .ok (.aload_n 1, 1) := by decide +kernel
theorem dX3_pullOn_27 : decode cX3_pullOn 27 = .ok (.iconst 0, 1) := by decide +kernel
theorem dX3_pullOn_28 : decode cX3_pullOn 28 = .ok (.putfield 67, 3) := by decide +kernel
theorem dX3_pullOn_31 : decode cX3_pullOn 31 = .ok (.return_, 1) := by decide +kernel
theorem dX3_switchCount_0 : decode cX3_switchCount 0 = .ok (.iconst 0, 1) := by decide +kernel
theorem dX3_switchCount_1 : decode cX3_switchCount 1 = .ok (.istore_n 1, 1) := by decide +kernel
theorem dX3_switchCount_2 : decode cX3_switchCount 2 = .ok (.iconst 0, 1) := by decide +kernel
theorem dX3_switchCount_3 : decode cX3_switchCount 3 = .ok (.istore_n 2, 1) := by decide +kernel
theorem dX3_switchCount_4 : decode cX3_switchCount 4 = .ok (.iload_n 2, 1) := by decide +kernel
theorem dX3_switchCount_5 : decode cX3_switchCount 5 = .ok (.bipush 30, 2) := by decide +kernel
theorem dX3_switchCount_7 : decode cX3_switchCount 7 = .ok (.if_icmp .ge 21, 3) := by decide +kernel
theorem dX3_switchCount_10 : decode cX3_switchCount 10 = .ok (.aload_n 0, 1) := by decide +kernel
theorem dX3_switchCount_11 : decode cX3_switchCount 11 = .ok (.getfield 15, 3) := by decide +kernel
theorem dX3_switchCount_14 : decode cX3_switchCount 14 = .ok (.iload_n 2, 1) := by decide +kernel
theorem dX3_switchCount_15 : decode cX3_switchCount 15 = .ok (.iaload, 1) := by decide +kernel
theorem dX3_switchCount_16 : decode cX3_switchCount 16 = .ok (.ifCond .le 6, 3) := by decide +kernel
theorem dX3_switchCount_19 : decode cX3_switchCount 19 = .ok (.iinc 1 1, 3) := by decide +kernel
theorem dX3_switchCount_22 : decode cX3_switchCount 22 = .ok (.iinc 2 1, 3) := by decide +kernel
theorem dX3_switchCount_25 : decode cX3_switchCount 25 = .ok (.goto (-21), 3) := by decide +kernel
theorem dX3_switchCount_28 : decode cX3_switchCount 28 = .ok (.iload_n 1, 1) := by decide +kernel
theorem dX3_switchCount_29 : decode cX3_switchCount 29 = .ok (.ireturn, 1) := by decide +kernel
theorem dX3_carsInState_0 : decode cX3_carsInState 0 = .ok (.iconst 0, 1) := by decide +kernel
theorem dX3_carsInState_1 : decode cX3_carsInState 1 = .ok (.istore_n 2, 1) := by decide +kernel
theorem dX3_carsInState_2 : decode cX3_carsInState 2 = .ok (.iconst 0, 1) := by decide +kernel
theorem dX3_carsInState_3 : decode cX3_carsInState 3 = .ok (.istore_n 3, 1) := by decide +kernel
theorem dX3_carsInState_4 : decode cX3_carsInState 4 = .ok (.iload_n 3, 1) := by decide +kernel
theorem dX3_carsInState_5 : decode cX3_carsInState 5 = .ok (.aload_n 0, 1) := by decide +kernel
theorem dX3_carsInState_6 : decode cX3_carsInState 6 = .ok (.getfield 44, 3) := by decide +kernel
theorem dX3_carsInState_9 : decode cX3_carsInState 9 = .ok (.if_icmp .ge 28, 3) := by decide +kernel
theorem dX3_carsInState_12 : decode cX3_carsInState 12 = .ok (.aload_n 0, 1) := by decide +kernel
theorem dX3_carsInState_13 : decode cX3_carsInState 13 = .ok (.getfield 26, 3) := by decide +kernel
theorem dX3_carsInState_16 : decode cX3_carsInState 16 = .ok (.iload_n 3, 1) := by decide +kernel
theorem dX3_carsInState_17 : decode cX3_carsInState 17 = .ok (.aaload, 1) := by decide +kernel
theorem dX3_carsInState_18 : decode cX3_carsInState 18 = .ok (.getfield 67, 3) := by decide +kernel
theorem dX3_carsInState_21 : decode cX3_carsInState 21 = .ok (.iload_n 1, 1) := by decide +kernel
theorem dX3_carsInState_22 : decode cX3_carsInState 22 = .ok (.if_icmp .ne 9, 3) := by decide +kernel
theorem dX3_carsInState_25 : decode cX3_carsInState 25 = .ok (.iload_n 2, 1) := by decide +kernel
theorem dX3_carsInState_26 : decode cX3_carsInState 26 = .ok (.iconst 1, 1) := by decide +kernel
theorem dX3_carsInState_27 : decode cX3_carsInState 27 = .ok (.iload_n 3, 1) := by decide +kernel
theorem dX3_carsInState_28 : decode cX3_carsInState 28 = .ok (.ishl, 1) := by decide +kernel
theorem dX3_carsInState_29 : decode cX3_carsInState 29 = .ok (.ior, 1) := by decide +kernel
theorem dX3_carsInState_30 : decode cX3_carsInState 30 = .ok (.istore_n 2, 1) := by decide +kernel
theorem dX3_carsInState_31 : decode cX3_carsInState 31 = .ok (.iinc 3 1, 3) := by decide +kernel
theorem dX3_carsInState_34 : decode cX3_carsInState 34 = .ok (.goto (-30), 3) := by decide +kernel
theorem dX3_carsInState_37 : decode cX3_carsInState 37 = .ok (.iload_n 2, 1) := by decide +kernel
theorem dX3_carsInState_38 : decode cX3_carsInState 38 = .ok (.ireturn, 1) := by decide +kernel
theorem dX3_carsInSection_0 : decode cX3_carsInSection 0 = .ok (.iconst 0, 1) := by decide +kernel
theorem dX3_carsInSection_1 : decode cX3_carsInSection 1 = .ok (.istore_n 3, 1) := by decide +kernel
theorem dX3_carsInSection_2 : decode cX3_carsInSection 2 = .ok (.iconst 0, 1) := by decide +kernel
theorem dX3_carsInSection_3 : decode cX3_carsInSection 3 = .ok (.istore 4, 2) := by decide +kernel
theorem dX3_carsInSection_5 : decode cX3_carsInSection 5 = .ok (.iload 4, 2) := by decide +kernel
theorem dX3_carsInSection_7 : decode cX3_carsInSection 7 = .ok (.aload_n 0, 1) := by decide +kernel
theorem dX3_carsInSection_8 : decode cX3_carsInSection 8 = .ok (.getfield 44, 3) := by decide +kernel
theorem dX3_carsInSection_11 : decode cX3_carsInSection 11 = .ok (.if_icmp .ge 47, 3) := by decide +kernel
theorem dX3_carsInSection_14 : decode cX3_carsInSection 14 = .ok (.aload_n 0, 1) := by decide +kernel
theorem dX3_carsInSection_15 : decode cX3_carsInSection 15 = .ok (.getfield 26, 3) := by decide +kernel
theorem dX3_carsInSection_18 : decode cX3_carsInSection 18 = .ok (.iload 4, 2) := by decide +kernel
theorem dX3_carsInSection_20 : decode cX3_carsInSection 20 = .ok (.aaload, 1) := by decide +kernel
theorem dX3_carsInSection_21 : decode cX3_carsInSection 21 = .ok (.getfield 67, 3) := by decide +kernel
theorem dX3_carsInSection_24 : decode cX3_carsInSection 24 = .ok (.iload_n 2, 1) := by decide +kernel
theorem dX3_carsInSection_25 : decode cX3_carsInSection 25 = .ok (.if_icmp .ne 27, 3) := by decide +kernel
theorem dX3_carsInSection_28 : decode cX3_carsInSection 28 = .ok (.aload_n 0, 1) := by decide +kernel
theorem dX3_carsInSection_29 : decode cX3_carsInSection 29 = .ok (.getfield 26, 3) := by decide +kernel
theorem dX3_carsInSection_32 : decode cX3_carsInSection 32 = .ok (.iload 4, 2) := by decide +kernel
theorem dX3_carsInSection_34 : decode cX3_carsInSection 34 = .ok (.aaload, 1) := by decide +kernel
theorem dX3_carsInSection_35 : decode cX3_carsInSection 35 = .ok (.getfield 120, 3) := by decide +kernel
theorem dX3_carsInSection_38 : decode cX3_carsInSection 38 = .ok (.bipush 10, 2) := by decide +kernel
theorem dX3_carsInSection_40 : decode cX3_carsInSection 40 = .ok (.idiv, 1) := by decide +kernel
theorem dX3_carsInSection_41 : decode cX3_carsInSection 41 = .ok (.iload_n 1, 1) := by decide +kernel
theorem dX3_carsInSection_42 : decode cX3_carsInSection 42 = .ok (.if_icmp .ne 10, 3) := by decide +kernel
theorem dX3_carsInSection_45 : decode cX3_carsInSection 45 = .ok (.iload_n 3, 1) := by decide +kernel
theorem dX3_carsInSection_46 : decode cX3_carsInSection 46 = .ok (.iconst 1, 1) := by decide +kernel
theorem dX3_carsInSection_47 : decode cX3_carsInSection 47 = .ok (.iload 4, 2) := by decide +kernel
theorem dX3_carsInSection_49 : decode cX3_carsInSection 49 = .ok (.ishl, 1) := by decide +kernel
theorem dX3_carsInSection_50 : decode cX3_carsInSection 50 = .ok (.ior, 1) := by decide +kernel
theorem dX3_carsInSection_51 : decode cX3_carsInSection 51 = .ok (.istore_n 3, 1) := by decide +kernel
theorem dX3_carsInSection_52 : decode cX3_carsInSection 52 = .ok (.iinc 4 1, 3) := by decide +kernel
theorem dX3_carsInSection_55 : decode cX3_carsInSection 55 = .ok (.goto (-50), 3) := by decide +kernel
theorem dX3_carsInSection_58 : decode cX3_carsInSection 58 = .ok (.iload_n 3, 1) := by decide +kernel
theorem dX3_carsInSection_59 : decode cX3_carsInSection 59 = .ok (.ireturn, 1) := by decide +kernel
theorem dX3_freeMules_0 : decode cX3_freeMules 0 = .ok (.iconst 0, 1) := by decide +kernel
theorem dX3_freeMules_1 : decode cX3_freeMules 1 = .ok (.aload_n 0, 1) := by decide +kernel
theorem dX3_freeMules_2 : decode cX3_freeMules 2 = .ok (.getfield 21, 3) := by decide +kernel
theorem dX3_freeMules_5 : decode cX3_freeMules 5 = .ok (.iconst 2, 1) := by decide +kernel
theorem dX3_freeMules_6 : decode cX3_freeMules 6 = .ok (.iaload, 1) := by decide +kernel
theorem dX3_freeMules_7 : decode cX3_freeMules 7 = .ok (.aload_n 0, 1) := by decide +kernel
theorem dX3_freeMules_8 : decode cX3_freeMules 8 = .ok (.iconst 4, 1) := by decide +kernel
theorem dX3_freeMules_9 : decode cX3_freeMules 9 = .ok (.invokevirtual 97, 3) := by decide +kernel
theorem dX3_freeMules_12 : decode cX3_freeMules 12 = .ok (.invokestatic 161, 3) := by decide +kernel
theorem dX3_freeMules_15 : decode cX3_freeMules 15 = .ok (.isub, 1) := by decide +kernel
theorem dX3_freeMules_16 : decode cX3_freeMules 16 = .ok (.invokestatic 149, 3) := by decide +kernel
theorem dX3_freeMules_19 : decode cX3_freeMules 19 = .ok (.ireturn, 1) := by decide +kernel
theorem dX3_oreInCars_0 : decode cX3_oreInCars 0 = .ok (.iconst 0, 1) := by decide +kernel
theorem dX3_oreInCars_1 : decode cX3_oreInCars 1 = .ok (.istore_n 1, 1) := by decide +kernel
theorem dX3_oreInCars_2 : decode cX3_oreInCars 2 = .ok (.iconst 0, 1) := by decide +kernel
theorem dX3_oreInCars_3 : decode cX3_oreInCars 3 = .ok (.istore_n 2, 1) := by decide +kernel
theorem dX3_oreInCars_4 : decode cX3_oreInCars 4 = .ok (.iload_n 2, 1) := by decide +kernel
theorem dX3_oreInCars_5 : decode cX3_oreInCars 5 = .ok (.aload_n 0, 1) := by decide +kernel
theorem dX3_oreInCars_6 : decode cX3_oreInCars 6 = .ok (.getfield 44, 3) := by decide +kernel
theorem dX3_oreInCars_9 : decode cX3_oreInCars 9 = .ok (.if_icmp .ge 21, 3) := by decide +kernel
theorem dX3_oreInCars_12 : decode cX3_oreInCars 12 = .ok (.iload_n 1, 1) := by decide +kernel
theorem dX3_oreInCars_13 : decode cX3_oreInCars 13 = .ok (.aload_n 0, 1) := by decide +kernel
theorem dX3_oreInCars_14 : decode cX3_oreInCars 14 = .ok (.getfield 26, 3) := by decide +kernel
theorem dX3_oreInCars_17 : decode cX3_oreInCars 17 = .ok (.iload_n 2, 1) := by decide +kernel
theorem dX3_oreInCars_18 : decode cX3_oreInCars 18 = .ok (.aaload, 1) := by decide +kernel
theorem dX3_oreInCars_19 : decode cX3_oreInCars 19 = .ok (.getfield 73, 3) := by decide +kernel
theorem dX3_oreInCars_22 : decode cX3_oreInCars 22 = .ok (.iadd, 1) := by decide +kernel
theorem dX3_oreInCars_23 : decode cX3_oreInCars 23 = .ok (.istore_n 1, 1) := by decide +kernel
theorem dX3_oreInCars_24 : decode cX3_oreInCars 24 = .ok (.iinc 2 1, 3) := by decide +kernel
theorem dX3_oreInCars_27 : decode cX3_oreInCars 27 = .ok (.goto (-23), 3) := by decide +kernel
theorem dX3_oreInCars_30 : decode cX3_oreInCars 30 = .ok (.iload_n 1, 1) := by decide +kernel
theorem dX3_oreInCars_31 : decode cX3_oreInCars 31 = .ok (.ireturn, 1) := by decide +kernel
theorem dX3_bumps_0 : decode cX3_bumps 0 = .ok (.iconst 0, 1) := by decide +kernel
theorem dX3_bumps_1 : decode cX3_bumps 1 = .ok (.istore_n 1, 1) := by decide +kernel
theorem dX3_bumps_2 : decode cX3_bumps 2 = .ok (.iconst 0, 1) := by decide +kernel
theorem dX3_bumps_3 : decode cX3_bumps 3 = .ok (.istore_n 2, 1) := by decide +kernel
theorem dX3_bumps_4 : decode cX3_bumps 4 = .ok (.iload_n 2, 1) := by decide +kernel
theorem dX3_bumps_5 : decode cX3_bumps 5 = .ok (.aload_n 0, 1) := by decide +kernel
theorem dX3_bumps_6 : decode cX3_bumps 6 = .ok (.getfield 44, 3) := by decide +kernel
theorem dX3_bumps_9 : decode cX3_bumps 9 = .ok (.if_icmp .ge 21, 3) := by decide +kernel
theorem dX3_bumps_12 : decode cX3_bumps 12 = .ok (.iload_n 1, 1) := by decide +kernel
theorem dX3_bumps_13 : decode cX3_bumps 13 = .ok (.aload_n 0, 1) := by decide +kernel
theorem dX3_bumps_14 : decode cX3_bumps 14 = .ok (.getfield 26, 3) := by decide +kernel
theorem dX3_bumps_17 : decode cX3_bumps 17 = .ok (.iload_n 2, 1) := by decide +kernel
theorem dX3_bumps_18 : decode cX3_bumps 18 = .ok (.aaload, 1) := by decide +kernel
theorem dX3_bumps_19 : decode cX3_bumps 19 = .ok (.getfield 157, 3) := by decide +kernel
theorem dX3_bumps_22 : decode cX3_bumps 22 = .ok (.iadd, 1) := by decide +kernel
theorem dX3_bumps_23 : decode cX3_bumps 23 = .ok (.istore_n 1, 1) := by decide +kernel
theorem dX3_bumps_24 : decode cX3_bumps 24 = .ok (.iinc 2 1, 3) := by decide +kernel
theorem dX3_bumps_27 : decode cX3_bumps 27 = .ok (.goto (-23), 3) := by decide +kernel
theorem dX3_bumps_30 : decode cX3_bumps 30 = .ok (.iload_n 1, 1) := by decide +kernel
theorem dX3_bumps_31 : decode cX3_bumps 31 = .ok (.ireturn, 1) := by decide +kernel
theorem dX3_number_0 : decode cX3_number 0 = .ok (.iload_n 1, 1) := by decide +kernel
theorem dX3_number_1 : decode cX3_number 1 = .ok (.tableswitch 126 0 12 #[67, 72, 77, 82, 87, 92, 97, 102, 107, 126, 126, 112, 119], 67) := by decide +kernel
theorem dX3_number_68 : decode cX3_number 68 = .ok (.aload_n 0, 1) := by decide +kernel
theorem dX3_number_69 : decode cX3_number 69 = .ok (.getfield 48, 3) := by decide +kernel
theorem dX3_number_72 : decode cX3_number 72 = .ok (.ireturn, 1) := by decide +kernel
theorem dX3_number_73 : decode cX3_number 73 = .ok (.aload_n 0, 1) := by decide +kernel
theorem dX3_number_74 : decode cX3_number 74 = .ok (.getfield 44, 3) := by decide +kernel
theorem dX3_number_77 : decode cX3_number 77 = .ok (.ireturn, 1) := by decide +kernel
theorem dX3_number_78 : decode cX3_number 78 = .ok (.aload_n 0, 1) := by decide +kernel
theorem dX3_number_79 : decode cX3_number 79 = .ok (.invokevirtual 166, 3) := by decide +kernel
theorem dX3_number_82 : decode cX3_number 82 = .ok (.ireturn, 1) := by decide +kernel
theorem dX3_number_83 : decode cX3_number 83 = .ok (.aload_n 0, 1) := by decide +kernel
theorem dX3_number_84 : decode cX3_number 84 = .ok (.getfield 51, 3) := by decide +kernel
theorem dX3_number_87 : decode cX3_number 87 = .ok (.ireturn, 1) := by decide +kernel
theorem dX3_number_88 : decode cX3_number 88 = .ok (.aload_n 0, 1) := by decide +kernel
theorem dX3_number_89 : decode cX3_number 89 = .ok (.getfield 54, 3) := by decide +kernel
theorem dX3_number_92 : decode cX3_number 92 = .ok (.ireturn, 1) := by decide +kernel
theorem dX3_number_93 : decode cX3_number 93 = .ok (.aload_n 0, 1) := by decide +kernel
theorem dX3_number_94 : decode cX3_number 94 = .ok (.getfield 57, 3) := by decide +kernel
theorem dX3_number_97 : decode cX3_number 97 = .ok (.ireturn, 1) := by decide +kernel
theorem dX3_number_98 : decode cX3_number 98 = .ok (.aload_n 0, 1) := by decide +kernel
theorem dX3_number_99 : decode cX3_number 99 = .ok (.invokevirtual 169, 3) := by decide +kernel
theorem dX3_number_102 : decode cX3_number 102 = .ok (.ireturn, 1) := by decide +kernel
theorem dX3_number_103 : decode cX3_number 103 = .ok (.aload_n 0, 1) := by decide +kernel
theorem dX3_number_104 : decode cX3_number 104 = .ok (.invokevirtual 87, 3) := by decide +kernel
theorem dX3_number_107 : decode cX3_number 107 = .ok (.ireturn, 1) := by decide +kernel
theorem dX3_number_108 : decode cX3_number 108 = .ok (.aload_n 0, 1) := by decide +kernel
theorem dX3_number_109 : decode cX3_number 109 = .ok (.getfield 60, 3) := by decide +kernel
theorem dX3_number_112 : decode cX3_number 112 = .ok (.ireturn, 1) := by decide +kernel
theorem dX3_number_113 : decode cX3_number 113 = .ok (.aload_n 0, 1) := by decide +kernel
theorem dX3_number_114 : decode cX3_number 114 = .ok (.getfield 21, 3) := by decide +kernel
theorem dX3_number_117 : decode cX3_number 117 = .ok (.iconst 0, 1) := by decide +kernel
theorem dX3_number_118 : decode cX3_number 118 = .ok (.iaload, 1) := by decide +kernel
theorem dX3_number_119 : decode cX3_number 119 = .ok (.ireturn, 1) := by decide +kernel
theorem dX3_number_120 : decode cX3_number 120 = .ok (.aload_n 0, 1) := by decide +kernel
theorem dX3_number_121 : decode cX3_number 121 = .ok (.getfield 21, 3) := by decide +kernel
theorem dX3_number_124 : decode cX3_number 124 = .ok (.iconst 1, 1) := by decide +kernel
theorem dX3_number_125 : decode cX3_number 125 = .ok (.iaload, 1) := by decide +kernel
theorem dX3_number_126 : decode cX3_number 126 = .ok (.ireturn, 1) := by decide +kernel
theorem dX3_number_127 : decode cX3_number 127 = .ok (.aload_n 0, 1) := by decide +kernel
theorem dX3_number_128 : decode cX3_number 128 = .ok (.getfield 21, 3) := by decide +kernel
theorem dX3_number_131 : decode cX3_number 131 = .ok (.iconst 2, 1) := by decide +kernel
theorem dX3_number_132 : decode cX3_number 132 = .ok (.iaload, 1) := by decide +kernel
theorem dX3_number_133 : decode cX3_number 133 = .ok (.ireturn, 1) := by decide +kernel
theorem dX4_init_0 : decode cX4_init 0 = .ok (.aload_n 0, 1) := by decide +kernel
theorem dX4_init_1 : decode cX4_init 1 = .ok (.invokespecial 1, 3) := by decide +kernel
theorem dX4_init_4 : decode cX4_init 4 = .ok (.aload_n 0, 1) := by decide +kernel
theorem dX4_init_5 : decode cX4_init 5 = .ok (.new 7, 3) := by decide +kernel
theorem dX4_init_8 : decode cX4_init 8 = .ok (.dup, 1) := by decide +kernel
theorem dX4_init_9 : decode cX4_init 9 = .ok (.invokespecial 9, 3) := by decide +kernel
theorem dX4_init_12 : decode cX4_init 12 = .ok (.putfield 10, 3) := by decide +kernel
theorem dX4_init_15 : decode cX4_init 15 = .ok (.aload_n 0, 1) := by decide +kernel
theorem dX4_init_16 : decode cX4_init 16 = .ok (.new 7, 3) := by decide +kernel
theorem dX4_init_19 : decode cX4_init 19 = .ok (.dup, 1) := by decide +kernel
theorem dX4_init_20 : decode cX4_init 20 = .ok (.invokespecial 9, 3) := by decide +kernel
theorem dX4_init_23 : decode cX4_init 23 = .ok (.putfield 16, 3) := by decide +kernel
theorem dX4_init_26 : decode cX4_init 26 = .ok (.aload_n 0, 1) := by decide +kernel
theorem dX4_init_27 : decode cX4_init 27 = .ok (.new 19, 3) := by decide +kernel
theorem dX4_init_30 : decode cX4_init 30 = .ok (.dup, 1) := by decide +kernel
theorem dX4_init_31 : decode cX4_init 31 = .ok (.invokespecial 21, 3) := by decide +kernel
theorem dX4_init_34 : decode cX4_init 34 = .ok (.putfield 22, 3) := by decide +kernel
theorem dX4_init_37 : decode cX4_init 37 = .ok (.aload_n 0, 1) := by decide +kernel
theorem dX4_init_38 : decode cX4_init 38 = .ok (.iconst 2, 1) := by decide +kernel
theorem dX4_init_39 : decode cX4_init 39 = .ok (.anewarray 7, 3) := by decide +kernel
theorem dX4_init_42 : decode cX4_init 42 = .ok (.putfield 26, 3) := by decide +kernel
theorem dX4_init_45 : decode cX4_init 45 = .ok (.aload_n 0, 1) := by decide +kernel
theorem dX4_init_46 : decode cX4_init 46 = .ok (.iconst 2, 1) := by decide +kernel
theorem dX4_init_47 : decode cX4_init 47 = .ok (.newarray .boolean, 2) := by decide +kernel
theorem dX4_init_49 : decode cX4_init 49 = .ok (.putfield 30, 3) := by decide +kernel
theorem dX4_init_52 : decode cX4_init 52 = .ok (.aload_n 0, 1) := by decide +kernel
theorem dX4_init_53 : decode cX4_init 53 = .ok (.new 34, 3) := by decide +kernel
theorem dX4_init_56 : decode cX4_init 56 = .ok (.dup, 1) := by decide +kernel
theorem dX4_init_57 : decode cX4_init 57 = .ok (.invokespecial 36, 3) := by decide +kernel
theorem dX4_init_60 : decode cX4_init 60 = .ok (.putfield 37, 3) := by decide +kernel
theorem dX4_init_63 : decode cX4_init 63 = .ok (.iconst 0, 1) := by decide +kernel
theorem dX4_init_64 : decode cX4_init 64 = .ok (.istore_n 1, 1) := by decide +kernel
theorem dX4_init_65 : decode cX4_init 65 = .ok (.iload_n 1, 1) := by decide +kernel
theorem dX4_init_66 : decode cX4_init 66 = .ok (.iconst 2, 1) := by decide +kernel
theorem dX4_init_67 : decode cX4_init 67 = .ok (.if_icmp .ge 22, 3) := by decide +kernel
theorem dX4_init_70 : decode cX4_init 70 = .ok (.aload_n 0, 1) := by decide +kernel
theorem dX4_init_71 : decode cX4_init 71 = .ok (.getfield 26, 3) := by decide +kernel
theorem dX4_init_74 : decode cX4_init 74 = .ok (.iload_n 1, 1) := by decide +kernel
theorem dX4_init_75 : decode cX4_init 75 = .ok (.new 7, 3) := by decide +kernel
theorem dX4_init_78 : decode cX4_init 78 = .ok (.dup, 1) := by decide +kernel
theorem dX4_init_79 : decode cX4_init 79 = .ok (.invokespecial 9, 3) := by decide +kernel
theorem dX4_init_82 : decode cX4_init 82 = .ok (.aastore, 1) := by decide +kernel
theorem dX4_init_83 : decode cX4_init 83 = .ok (.iinc 1 1, 3) := by decide +kernel
theorem dX4_init_86 : decode cX4_init 86 = .ok (.goto (-21), 3) := by decide +kernel
theorem dX4_init_89 : decode cX4_init 89 = .ok (.return_, 1) := by decide +kernel
theorem dX4_grade_0 : decode cX4_grade 0 = .ok (.iload_n 1, 1) := by decide +kernel
theorem dX4_grade_1 : decode cX4_grade 1 = .ok (.ifCond .lt 13, 3) := by decide +kernel
theorem dX4_grade_4 : decode cX4_grade 4 = .ok (.iload_n 1, 1) := by decide +kernel
theorem dX4_grade_5 : decode cX4_grade 5 = .ok (.bipush 30, 2) := by decide +kernel
theorem dX4_grade_7 : decode cX4_grade 7 = .ok (.if_icmp .ge 7, 3) := by decide +kernel
theorem dX4_grade_10 : decode cX4_grade 10 = .ok (.iconst 1, 1) := by decide +kernel
theorem dX4_grade_11 : decode cX4_grade 11 = .ok (.goto 4, 3) := by decide +kernel
theorem dX4_grade_14 : decode cX4_grade 14 = .ok (.iconst 0, 1) := by decide +kernel
theorem dX4_grade_15 : decode cX4_grade 15 = .ok (.invokestatic 41, 3) := by decide +kernel
theorem dX4_grade_18 : decode cX4_grade 18 = .ok (.iload_n 2, 1) := by decide +kernel
theorem dX4_grade_19 : decode cX4_grade 19 = .ok (.iconst 0, 1) := by decide +kernel
theorem dX4_grade_20 : decode cX4_grade 20 = .ok (.bipush 9, 2) := by decide +kernel
theorem dX4_grade_22 : decode cX4_grade 22 = .ok (.invokestatic 45, 3) := by decide +kernel
theorem dX4_grade_25 : decode cX4_grade 25 = .ok (.invokestatic 49, 3) := by decide +kernel
theorem dX4_grade_28 : decode cX4_grade 28 = .ok (.aload_n 0, 1) := by decide +kernel
theorem dX4_grade_29 : decode cX4_grade 29 = .ok (.getfield 22, 3) := by decide +kernel
theorem dX4_grade_32 : decode cX4_grade 32 = .ok (.aload_n 0, 1) := by decide +kernel
theorem dX4_grade_33 : decode cX4_grade 33 = .ok (.getfield 10, 3) := by decide +kernel
theorem dX4_grade_36 : decode cX4_grade 36 = .ok (.invokevirtual 52, 3) := by decide +kernel
theorem dX4_grade_39 : decode cX4_grade 39 = .ok (.aload_n 0, 1) := by decide +kernel
theorem dX4_grade_40 : decode cX4_grade 40 = .ok (.getfield 10, 3) := by decide +kernel
theorem dX4_grade_43 : decode cX4_grade 43 = .ok (.getfield 56, 3) := by decide +kernel
theorem dX4_grade_46 : decode cX4_grade 46 = .ok (.iload_n 1, 1) := by decide +kernel
theorem dX4_grade_47 : decode cX4_grade 47 = .ok (.iaload, 1) := by decide +kernel
theorem dX4_grade_48 : decode cX4_grade 48 = .ok (.istore_n 3, 1) := by decide +kernel
theorem dX4_grade_49 : decode cX4_grade 49 = .ok (.aload_n 0, 1) := by decide +kernel
theorem dX4_grade_50 : decode cX4_grade 50 = .ok (.getfield 10, 3) := by decide +kernel
theorem dX4_grade_53 : decode cX4_grade 53 = .ok (.getfield 56, 3) := by decide +kernel
theorem dX4_grade_56 : decode cX4_grade 56 = .ok (.iload_n 1, 1) := by decide +kernel
theorem dX4_grade_57 : decode cX4_grade 57 = .ok (.iload_n 2, 1) := by decide +kernel
theorem dX4_grade_58 : decode cX4_grade 58 = .ok (.iastore, 1) := by decide +kernel
theorem dX4_grade_59 : decode cX4_grade 59 = .ok (.iload_n 3, 1) := by decide +kernel
theorem dX4_grade_60 : decode cX4_grade 60 = .ok (.ireturn, 1) := by decide +kernel
theorem dX4_spring_0 : decode cX4_spring 0 = .ok (.iload_n 1, 1) := by decide +kernel
theorem dX4_spring_1 : decode cX4_spring 1 = .ok (.iconst 1, 1) := by decide +kernel
theorem dX4_spring_2 : decode cX4_spring 2 = .ok (.if_icmp .lt 13, 3) := by decide +kernel
theorem dX4_spring_5 : decode cX4_spring 5 = .ok (.iload_n 1, 1) := by decide +kernel
theorem dX4_spring_6 : decode cX4_spring 6 = .ok (.bipush 30, 2) := by decide +kernel
theorem dX4_spring_8 : decode cX4_spring 8 = .ok (.if_icmp .ge 7, 3) := by decide +kernel
theorem dX4_spring_11 : decode cX4_spring 11 = .ok (.iconst 1, 1) := by decide +kernel
theorem dX4_spring_12 : decode cX4_spring 12 = .ok (.goto 4, 3) := by decide +kernel
theorem dX4_spring_15 : decode cX4_spring 15 = .ok (.iconst 0, 1) := by decide +kernel
theorem dX4_spring_16 : decode cX4_spring 16 = .ok (.invokestatic 41, 3) := by decide +kernel
theorem dX4_spring_19 : decode cX4_spring 19 = .ok (.iload_n 2, 1) := by decide +kernel
theorem dX4_spring_20 : decode cX4_spring 20 = .ok (.iconst 0, 1) := by decide +kernel
theorem dX4_spring_21 : decode cX4_spring 21 = .ok (.bipush 40, 2) := by decide +kernel
theorem dX4_spring_23 : decode cX4_spring 23 = .ok (.invokestatic 45, 3) := by decide +kernel
theorem dX4_spring_26 : decode cX4_spring 26 = .ok (.invokestatic 49, 3) := by decide +kernel
theorem dX4_spring_29 : decode cX4_spring 29 = .ok (.aload_n 0, 1) := by decide +kernel
theorem dX4_spring_30 : decode cX4_spring 30 = .ok (.getfield 10, 3) := by decide +kernel
theorem dX4_spring_33 : decode cX4_spring 33 = .ok (.getfield 60, 3) := by decide +kernel
theorem dX4_spring_36 : decode cX4_spring 36 = .ok (.iload_n 1, 1) := by decide +kernel
theorem dX4_spring_37 : decode cX4_spring 37 = .ok (.iaload, 1) := by decide +kernel
theorem dX4_spring_38 : decode cX4_spring 38 = .ok (.istore_n 3, 1) := by decide +kernel
theorem dX4_spring_39 : decode cX4_spring 39 = .ok (.iload_n 2, 1) := by decide +kernel
theorem dX4_spring_40 : decode cX4_spring 40 = .ok (.ifCond .eq 18, 3) := by decide +kernel
theorem dX4_spring_43 : decode cX4_spring 43 = .ok (.iload_n 3, 1) := by decide +kernel
theorem dX4_spring_44 : decode cX4_spring 44 = .ok (.ifCond .ne 14, 3) := by decide +kernel
theorem dX4_spring_47 : decode cX4_spring 47 = .ok (.aload_n 0, 1) := by decide +kernel
theorem dX4_spring_48 : decode cX4_spring 48 = .ok (.getfield 10, 3) := by decide +kernel
theorem dX4_spring_51 : decode cX4_spring 51 = .ok (.invokevirtual 63, 3) := by decide +kernel
theorem dX4_spring_54 : decode cX4_spring 54 = .ok (.iconst 4, 1) := by decide +kernel
theorem dX4_spring_55 : decode cX4_spring 55 = .ok (.if_icmp .ge 7, 3) := by decide +kernel
theorem dX4_spring_58 : decode cX4_spring 58 = .ok (.iconst 1, 1) := by decide +kernel
theorem dX4_spring_59 : decode cX4_spring 59 = .ok (.goto 4, 3) := by decide +kernel
theorem dX4_spring_62 : decode cX4_spring 62 = .ok (.iconst 0, 1) := by decide +kernel
theorem dX4_spring_63 : decode cX4_spring 63 = .ok (.invokestatic 67, 3) := by decide +kernel
theorem dX4_spring_66 : decode cX4_spring 66 = .ok (.aload_n 0, 1) := by decide +kernel
theorem dX4_spring_67 : decode cX4_spring 67 = .ok (.getfield 22, 3) := by decide +kernel
theorem dX4_spring_70 : decode cX4_spring 70 = .ok (.aload_n 0, 1) := by decide +kernel
theorem dX4_spring_71 : decode cX4_spring 71 = .ok (.getfield 10, 3) := by decide +kernel
theorem dX4_spring_74 : decode cX4_spring 74 = .ok (.invokevirtual 52, 3) := by decide +kernel
theorem dX4_spring_77 : decode cX4_spring 77 = .ok (.aload_n 0, 1) := by decide +kernel
theorem dX4_spring_78 : decode cX4_spring 78 = .ok (.getfield 10, 3) := by decide +kernel
theorem dX4_spring_81 : decode cX4_spring 81 = .ok (.getfield 60, 3) := by decide +kernel
theorem dX4_spring_84 : decode cX4_spring 84 = .ok (.iload_n 1, 1) := by decide +kernel
theorem dX4_spring_85 : decode cX4_spring 85 = .ok (.iload_n 2, 1) := by decide +kernel
theorem dX4_spring_86 : decode cX4_spring 86 = .ok (.iastore, 1) := by decide +kernel
theorem dX4_spring_87 : decode cX4_spring 87 = .ok (.iload_n 3, 1) := by decide +kernel
theorem dX4_spring_88 : decode cX4_spring 88 = .ok (.ireturn, 1) := by decide +kernel
theorem dX4_car_0 : decode cX4_car 0 = .ok (.aload_n 0, 1) := by decide +kernel
theorem dX4_car_1 : decode cX4_car 1 = .ok (.getfield 10, 3) := by decide +kernel
theorem dX4_car_4 : decode cX4_car 4 = .ok (.getfield 70, 3) := by decide +kernel
theorem dX4_car_7 : decode cX4_car 7 = .ok (.bipush 8, 2) := by decide +kernel
theorem dX4_car_9 : decode cX4_car 9 = .ok (.if_icmp .ge 7, 3) := by decide +kernel
theorem dX4_car_12 : decode cX4_car 12 = .ok (.iconst 1, 1) := by decide +kernel
theorem dX4_car_13 : decode cX4_car 13 = .ok (.goto 4, 3) := by decide +kernel
theorem dX4_car_16 : decode cX4_car 16 = .ok (.iconst 0, 1) := by decide +kernel
theorem dX4_car_17 : decode cX4_car 17 = .ok (.invokestatic 67, 3) := by decide +kernel
theorem dX4_car_20 : decode cX4_car 20 = .ok (.aload_n 0, 1) := by decide +kernel
theorem dX4_car_21 : decode cX4_car 21 = .ok (.getfield 22, 3) := by decide +kernel
theorem dX4_car_24 : decode cX4_car 24 = .ok (.aload_n 0, 1) := by decide +kernel
theorem dX4_car_25 : decode cX4_car 25 = .ok (.getfield 10, 3) := by decide +kernel
theorem dX4_car_28 : decode cX4_car 28 = .ok (.invokevirtual 52, 3) := by decide +kernel
theorem dX4_car_31 : decode cX4_car 31 = .ok (.aload_n 0, 1) := by decide +kernel
theorem dX4_car_32 : decode cX4_car 32 = .ok (.getfield 10, 3) := by decide +kernel
theorem dX4_car_35 : decode cX4_car 35 = .ok (.invokevirtual 74, 3) := by decide +kernel
theorem dX4_car_38 : decode cX4_car 38 = .ok (.ireturn, 1) := by decide +kernel
theorem dX4_load_0 : decode cX4_load 0 = .ok (.aload_n 0, 1) := by decide +kernel
theorem dX4_load_1 : decode cX4_load 1 = .ok (.getfield 10, 3) := by decide +kernel
theorem dX4_load_4 : decode cX4_load 4 = .ok (.iload_n 1, 1) := by decide +kernel
theorem dX4_load_5 : decode cX4_load 5 = .ok (.invokevirtual 77, 3) := by decide +kernel
theorem dX4_load_8 : decode cX4_load 8 = .ok (.invokestatic 41, 3) := by decide +kernel
theorem dX4_load_11 : decode cX4_load 11 = .ok (.iload_n 2, 1) := by decide +kernel
theorem dX4_load_12 : decode cX4_load 12 = .ok (.iconst 1, 1) := by decide +kernel
theorem dX4_load_13 : decode cX4_load 13 = .ok (.bipush 20, 2) := by decide +kernel
theorem dX4_load_15 : decode cX4_load 15 = .ok (.invokestatic 45, 3) := by decide +kernel
theorem dX4_load_18 : decode cX4_load 18 = .ok (.invokestatic 49, 3) := by decide +kernel
theorem dX4_load_21 : decode cX4_load 21 = .ok (.aload_n 0, 1) := by decide +kernel
theorem dX4_load_22 : decode cX4_load 22 = .ok (.getfield 10, 3) := by decide +kernel
theorem dX4_load_25 : decode cX4_load 25 = .ok (.iload_n 1, 1) := by decide +kernel
theorem dX4_load_26 : decode cX4_load 26 = .ok (.iload_n 2, 1) := by decide +kernel
theorem dX4_load_27 : decode cX4_load 27 = .ok (.invokevirtual 81, 3) := by decide +kernel
theorem dX4_load_30 : decode cX4_load 30 = .ok (.invokestatic 67, 3) := by decide +kernel
theorem dX4_load_33 : decode cX4_load 33 = .ok (.aload_n 0, 1) := by decide +kernel
theorem dX4_load_34 : decode cX4_load 34 = .ok (.getfield 22, 3) := by decide +kernel
theorem dX4_load_37 : decode cX4_load 37 = .ok (.aload_n 0, 1) := by decide +kernel
theorem dX4_load_38 : decode cX4_load 38 = .ok (.getfield 10, 3) := by decide +kernel
theorem dX4_load_41 : decode cX4_load 41 = .ok (.invokevirtual 52, 3) := by decide +kernel
theorem dX4_load_44 : decode cX4_load 44 = .ok (.aload_n 0, 1) := by decide +kernel
theorem dX4_load_45 : decode cX4_load 45 = .ok (.getfield 10, 3) := by decide +kernel
theorem dX4_load_48 : decode cX4_load 48 = .ok (.iload_n 1, 1) := by decide +kernel
theorem dX4_load_49 : decode cX4_load 49 = .ok (.iload_n 2, 1) := by decide +kernel
theorem dX4_load_50 : decode cX4_load 50 = .ok (.invokevirtual 85, 3) := by decide +kernel
theorem dX4_load_53 : decode cX4_load 53 = .ok (.ireturn, 1) := by decide +kernel
theorem dX4_release_0 : decode cX4_release 0 = .ok (.aload_n 0, 1) := by decide +kernel
theorem dX4_release_1 : decode cX4_release 1 = .ok (.getfield 10, 3) := by decide +kernel
theorem dX4_release_4 : decode cX4_release 4 = .ok (.iload_n 1, 1) := by decide +kernel
theorem dX4_release_5 : decode cX4_release 5 = .ok (.invokevirtual 77, 3) := by decide +kernel
theorem dX4_release_8 : decode cX4_release 8 = .ok (.invokestatic 41, 3) := by decide +kernel
theorem dX4_release_11 : decode cX4_release 11 = .ok (.iload_n 2, 1) := by decide +kernel
theorem dX4_release_12 : decode cX4_release 12 = .ok (.iconst 0, 1) := by decide +kernel
theorem dX4_release_13 : decode cX4_release 13 = .ok (.bipush 9, 2) := by decide +kernel
theorem dX4_release_15 : decode cX4_release 15 = .ok (.invokestatic 45, 3) := by decide +kernel
theorem dX4_release_18 : decode cX4_release 18 = .ok (.invokestatic 49, 3) := by decide +kernel
theorem dX4_release_21 : decode cX4_release 21 = .ok (.aload_n 0, 1) := by decide +kernel
theorem dX4_release_22 : decode cX4_release 22 = .ok (.getfield 22, 3) := by decide +kernel
theorem dX4_release_25 : decode cX4_release 25 = .ok (.aload_n 0, 1) := by decide +kernel
theorem dX4_release_26 : decode cX4_release 26 = .ok (.getfield 10, 3) := by decide +kernel
theorem dX4_release_29 : decode cX4_release 29 = .ok (.invokevirtual 52, 3) := by decide +kernel
theorem dX4_release_32 : decode cX4_release 32 = .ok (.aload_n 0, 1) := by decide +kernel
theorem dX4_release_33 : decode cX4_release 33 = .ok (.getfield 10, 3) := by decide +kernel
theorem dX4_release_36 : decode cX4_release 36 = .ok (.iload_n 1, 1) := by decide +kernel
theorem dX4_release_37 : decode cX4_release 37 = .ok (.iload_n 2, 1) := by decide +kernel
theorem dX4_release_38 : decode cX4_release 38 = .ok (.invokevirtual 89, 3) := by decide +kernel
theorem dX4_release_41 : decode cX4_release 41 = .ok (.ireturn, 1) := by decide +kernel
theorem dX4_brake_0 : decode cX4_brake 0 = .ok (.aload_n 0, 1) := by decide +kernel
theorem dX4_brake_1 : decode cX4_brake 1 = .ok (.getfield 10, 3) := by decide +kernel
theorem dX4_brake_4 : decode cX4_brake 4 = .ok (.iload_n 1, 1) := by decide +kernel
theorem dX4_brake_5 : decode cX4_brake 5 = .ok (.invokevirtual 77, 3) := by decide +kernel
theorem dX4_brake_8 : decode cX4_brake 8 = .ok (.invokestatic 41, 3) := by decide +kernel
theorem dX4_brake_11 : decode cX4_brake 11 = .ok (.iload_n 2, 1) := by decide +kernel
theorem dX4_brake_12 : decode cX4_brake 12 = .ok (.iconst 0, 1) := by decide +kernel
theorem dX4_brake_13 : decode cX4_brake 13 = .ok (.bipush 9, 2) := by decide +kernel
theorem dX4_brake_15 : decode cX4_brake 15 = .ok (.invokestatic 45, 3) := by decide +kernel
theorem dX4_brake_18 : decode cX4_brake 18 = .ok (.invokestatic 49, 3) := by decide +kernel
theorem dX4_brake_21 : decode cX4_brake 21 = .ok (.aload_n 0, 1) := by decide +kernel
theorem dX4_brake_22 : decode cX4_brake 22 = .ok (.getfield 10, 3) := by decide +kernel
theorem dX4_brake_25 : decode cX4_brake 25 = .ok (.iload_n 1, 1) := by decide +kernel
theorem dX4_brake_26 : decode cX4_brake 26 = .ok (.invokevirtual 92, 3) := by decide +kernel
theorem dX4_brake_29 : decode cX4_brake 29 = .ok (.invokestatic 67, 3) := by decide +kernel
theorem dX4_brake_32 : decode cX4_brake 32 = .ok (.aload_n 0, 1) := by decide +kernel
theorem dX4_brake_33 : decode cX4_brake 33 = .ok (.getfield 22, 3) := by decide +kernel
theorem dX4_brake_36 : decode cX4_brake 36 = .ok (.aload_n 0, 1) := by decide +kernel
theorem dX4_brake_37 : decode cX4_brake 37 = .ok (.getfield 10, 3) := by decide +kernel
theorem dX4_brake_40 : decode cX4_brake 40 = .ok (.invokevirtual 52, 3) := by decide +kernel
theorem dX4_brake_43 : decode cX4_brake 43 = .ok (.aload_n 0, 1) := by decide +kernel
theorem dX4_brake_44 : decode cX4_brake 44 = .ok (.getfield 10, 3) := by decide +kernel
theorem dX4_brake_47 : decode cX4_brake 47 = .ok (.iload_n 1, 1) := by decide +kernel
theorem dX4_brake_48 : decode cX4_brake 48 = .ok (.iload_n 2, 1) := by decide +kernel
theorem dX4_brake_49 : decode cX4_brake 49 = .ok (.invokevirtual 95, 3) := by decide +kernel
theorem dX4_brake_52 : decode cX4_brake 52 = .ok (.ireturn, 1) := by decide +kernel
theorem dX4_pull_0 : decode cX4_pull 0 = .ok (.aload_n 0, 1) := by decide +kernel
theorem dX4_pull_1 : decode cX4_pull 1 = .ok (.getfield 10, 3) := by decide +kernel
theorem dX4_pull_4 : decode cX4_pull 4 = .ok (.iload_n 1, 1) := by decide +kernel
theorem dX4_pull_5 : decode cX4_pull 5 = .ok (.invokevirtual 77, 3) := by decide +kernel
theorem dX4_pull_8 : decode cX4_pull 8 = .ok (.invokestatic 41, 3) := by decide +kernel
theorem dX4_pull_11 : decode cX4_pull 11 = .ok (.aload_n 0, 1) := by decide +kernel
theorem dX4_pull_12 : decode cX4_pull 12 = .ok (.getfield 22, 3) := by decide +kernel
theorem dX4_pull_15 : decode cX4_pull 15 = .ok (.aload_n 0, 1) := by decide +kernel
theorem dX4_pull_16 : decode cX4_pull 16 = .ok (.getfield 10, 3) := by decide +kernel
theorem dX4_pull_19 : decode cX4_pull 19 = .ok (.invokevirtual 52, 3) := by decide +kernel
theorem dX4_pull_22 : decode cX4_pull 22 = .ok (.aload_n 0, 1) := by decide +kernel
theorem dX4_pull_23 : decode cX4_pull 23 = .ok (.getfield 10, 3) := by decide +kernel
theorem dX4_pull_26 : decode cX4_pull 26 = .ok (.iload_n 1, 1) := by decide +kernel
theorem dX4_pull_27 : decode cX4_pull 27 = .ok (.invokevirtual 98, 3) := by decide +kernel
theorem dX4_pull_30 : decode cX4_pull 30 = .ok (.ireturn, 1) := by decide +kernel
theorem dX4_set_0 : decode cX4_set 0 = .ok (.iload_n 1, 1) := by decide +kernel
theorem dX4_set_1 : decode cX4_set 1 = .ok (.ifCond .lt 12, 3) := by decide +kernel
theorem dX4_set_4 : decode cX4_set 4 = .ok (.iload_n 1, 1) := by decide +kernel
theorem dX4_set_5 : decode cX4_set 5 = .ok (.iconst 3, 1) := by decide +kernel
theorem dX4_set_6 : decode cX4_set 6 = .ok (.if_icmp .ge 7, 3) := by decide +kernel
theorem dX4_set_9 : decode cX4_set 9 = .ok (.iconst 1, 1) := by decide +kernel
theorem dX4_set_10 : decode cX4_set 10 = .ok (.goto 4, 3) := by decide +kernel
theorem dX4_set_13 : decode cX4_set 13 = .ok (.iconst 0, 1) := by decide +kernel
theorem dX4_set_14 : decode cX4_set 14 = .ok (.invokestatic 41, 3) := by decide +kernel
theorem dX4_set_17 : decode cX4_set 17 = .ok (.iload_n 2, 1) := by decide +kernel
theorem dX4_set_18 : decode cX4_set 18 = .ok (.iload_n 1, 1) := by decide +kernel
theorem dX4_set_19 : decode cX4_set 19 = .ok (.invokestatic 102, 3) := by decide +kernel
theorem dX4_set_22 : decode cX4_set 22 = .ok (.iload_n 1, 1) := by decide +kernel
theorem dX4_set_23 : decode cX4_set 23 = .ok (.invokestatic 105, 3) := by decide +kernel
theorem dX4_set_26 : decode cX4_set 26 = .ok (.invokestatic 45, 3) := by decide +kernel
theorem dX4_set_29 : decode cX4_set 29 = .ok (.invokestatic 49, 3) := by decide +kernel
theorem dX4_set_32 : decode cX4_set 32 = .ok (.aload_n 0, 1) := by decide +kernel
theorem dX4_set_33 : decode cX4_set 33 = .ok (.getfield 22, 3) := by decide +kernel
theorem dX4_set_36 : decode cX4_set 36 = .ok (.aload_n 0, 1) := by decide +kernel
theorem dX4_set_37 : decode cX4_set 37 = .ok (.getfield 10, 3) := by decide +kernel
theorem dX4_set_40 : decode cX4_set 40 = .ok (.invokevirtual 52, 3) := by decide +kernel
theorem dX4_set_43 : decode cX4_set 43 = .ok (.aload_n 0, 1) := by decide +kernel
theorem dX4_set_44 : decode cX4_set 44 = .ok (.getfield 10, 3) := by decide +kernel
theorem dX4_set_47 : decode cX4_set 47 = .ok (.getfield 108, 3) := by decide +kernel
theorem dX4_set_50 : decode cX4_set 50 = .ok (.iload_n 1, 1) := by decide +kernel
theorem dX4_set_51 : decode cX4_set 51 = .ok (.iaload, 1) := by decide +kernel
theorem dX4_set_52 : decode cX4_set 52 = .ok (.istore_n 3, 1) := by decide +kernel
theorem dX4_set_53 : decode cX4_set 53 = .ok (.aload_n 0, 1) := by decide +kernel
theorem dX4_set_54 : decode cX4_set 54 = .ok (.getfield 10, 3) := by decide +kernel
theorem dX4_set_57 : decode cX4_set 57 = .ok (.getfield 108, 3) := by decide +kernel
theorem dX4_set_60 : decode cX4_set 60 = .ok (.iload_n 1, 1) := by decide +kernel
theorem dX4_set_61 : decode cX4_set 61 = .ok (.iload_n 2, 1) := by decide +kernel
theorem dX4_set_62 : decode cX4_set 62 = .ok (.iastore, 1) := by decide +kernel
theorem dX4_set_63 : decode cX4_set 63 = .ok (.iload_n 3, 1) := by decide +kernel
theorem dX4_set_64 : decode cX4_set 64 = .ok (.ireturn, 1) := by decide +kernel
theorem dX4_run_0 : decode cX4_run 0 = .ok (.iload_n 1, 1) := by decide +kernel
theorem dX4_run_1 : decode cX4_run 1 = .ok (.iconst 1, 1) := by decide +kernel
theorem dX4_run_2 : decode cX4_run 2 = .ok (.bipush 60, 2) := by decide +kernel
theorem dX4_run_4 : decode cX4_run 4 = .ok (.invokestatic 45, 3) := by decide +kernel
theorem dX4_run_7 : decode cX4_run 7 = .ok (.invokestatic 49, 3) := by decide +kernel
theorem dX4_run_10 : decode cX4_run 10 = .ok (.aload_n 0, 1) := by decide +kernel
theorem dX4_run_11 : decode cX4_run 11 = .ok (.getfield 22, 3) := by decide +kernel
theorem dX4_run_14 : decode cX4_run 14 = .ok (.aload_n 0, 1) := by decide +kernel
theorem dX4_run_15 : decode cX4_run 15 = .ok (.getfield 10, 3) := by decide +kernel
theorem dX4_run_18 : decode cX4_run 18 = .ok (.invokevirtual 52, 3) := by decide +kernel
theorem dX4_run_21 : decode cX4_run 21 = .ok (.aload_n 0, 1) := by decide +kernel
theorem dX4_run_22 : decode cX4_run 22 = .ok (.getfield 10, 3) := by decide +kernel
theorem dX4_run_25 : decode cX4_run 25 = .ok (.getfield 111, 3) := by decide +kernel
theorem dX4_run_28 : decode cX4_run 28 = .ok (.istore_n 2, 1) := by decide +kernel
theorem dX4_run_29 : decode cX4_run 29 = .ok (.aload_n 0, 1) := by decide +kernel
theorem dX4_run_30 : decode cX4_run 30 = .ok (.getfield 10, 3) := by decide +kernel
theorem dX4_run_33 : decode cX4_run 33 = .ok (.iload_n 1, 1) := by decide +kernel
theorem dX4_run_34 : decode cX4_run 34 = .ok (.invokevirtual 114, 3) := by decide +kernel
theorem dX4_run_37 : decode cX4_run 37 = .ok (.aload_n 0, 1) := by decide +kernel
theorem dX4_run_38 : decode cX4_run 38 = .ok (.getfield 10, 3) := by decide +kernel
theorem dX4_run_41 : decode cX4_run 41 = .ok (.getfield 111, 3) := by decide +kernel
theorem dX4_run_44 : decode cX4_run 44 = .ok (.iload_n 2, 1) := by decide +kernel
theorem dX4_run_45 : decode cX4_run 45 = .ok (.isub, 1) := by decide +kernel
theorem dX4_run_46 : decode cX4_run 46 = .ok (.ireturn, 1) := by decide +kernel
theorem dX4_append_0 : decode cX4_append 0 = .ok (.iload_n 1, 1) := by decide +kernel
theorem dX4_append_1 : decode cX4_append 1 = .ok (.bipush 33, 2) := by decide +kernel
theorem dX4_append_3 : decode cX4_append 3 = .ok (.bipush 126, 2) := by decide +kernel
theorem dX4_append_5 : decode cX4_append 5 = .ok (.invokestatic 45, 3) := by decide +kernel
theorem dX4_append_8 : decode cX4_append 8 = .ok (.invokestatic 49, 3) := by decide +kernel
theorem dX4_append_11 : decode cX4_append 11 = .ok (.aload_n 0, 1) := by decide +kernel
theorem dX4_append_12 : decode cX4_append 12 = .ok (.getfield 37, 3) := by decide +kernel
theorem dX4_append_15 : decode cX4_append 15 = .ok (.iload_n 1, 1) := by decide +kernel
theorem dX4_append_16 : decode cX4_append 16 = .ok (.i2c, 1) := by decide +kernel
theorem dX4_append_17 : decode cX4_append 17 = .ok (.invokevirtual 118, 3) := by decide +kernel
theorem dX4_append_20 : decode cX4_append 20 = .ok (.invokestatic 67, 3) := by decide +kernel
theorem dX4_append_23 : decode cX4_append 23 = .ok (.aload_n 0, 1) := by decide +kernel
theorem dX4_append_24 : decode cX4_append 24 = .ok (.getfield 37, 3) := by decide +kernel
theorem dX4_append_27 : decode cX4_append 27 = .ok (.getfield 122, 3) := by decide +kernel
theorem dX4_append_30 : decode cX4_append 30 = .ok (.ireturn, 1) := by decide +kernel
theorem dX4_clearBuffer_0 : decode cX4_clearBuffer 0 = .ok (.aload_n 0, 1) := by decide +kernel
theorem dX4_clearBuffer_1 : decode cX4_clearBuffer 1 = .ok (.getfield 37, 3) := by decide +kernel
theorem dX4_clearBuffer_4 : decode cX4_clearBuffer 4 = .ok (.getfield 122, 3) := by decide +kernel
theorem dX4_clearBuffer_7 : decode cX4_clearBuffer 7 = .ok (.istore_n 1, 1) := by decide +kernel
theorem dX4_clearBuffer_8 : decode cX4_clearBuffer 8 = .ok (.aload_n 0, 1) := by decide +kernel
theorem dX4_clearBuffer_9 : decode cX4_clearBuffer 9 = .ok (.getfield 37, 3) := by decide +kernel
theorem dX4_clearBuffer_12 : decode cX4_clearBuffer 12 = .ok (.iconst 0, 1) := by decide +kernel
theorem dX4_clearBuffer_13 : decode cX4_clearBuffer 13 = .ok (.putfield 122, 3) := by decide +kernel
theorem dX4_clearBuffer_16 : decode cX4_clearBuffer 16 = .ok (.iload_n 1, 1) := by decide +kernel
theorem dX4_clearBuffer_17 : decode cX4_clearBuffer 17 = .ok (.ireturn, 1) := by decide +kernel
theorem dX4_firstError_0 : decode cX4_firstError 0 = .ok (.aload_n 0, 1) := by decide +kernel
theorem dX4_firstError_1 : decode cX4_firstError 1 = .ok (.getfield 37, 3) := by decide +kernel
theorem dX4_firstError_4 : decode cX4_firstError 4 = .ok (.invokevirtual 125, 3) := by decide +kernel
theorem dX4_firstError_7 : decode cX4_firstError 7 = .ok (.ireturn, 1) := by decide +kernel
theorem dX4_execute_0 : decode cX4_execute 0 = .ok (.aload_n 0, 1) := by decide +kernel
theorem dX4_execute_1 : decode cX4_execute 1 = .ok (.getfield 37, 3) := by decide +kernel
theorem dX4_execute_4 : decode cX4_execute 4 = .ok (.invokevirtual 128, 3) := by decide +kernel
theorem dX4_execute_7 : decode cX4_execute 7 = .ok (.invokestatic 49, 3) := by decide +kernel
theorem dX4_execute_10 : decode cX4_execute 10 = .ok (.aload_n 0, 1) := by decide +kernel
theorem dX4_execute_11 : decode cX4_execute 11 = .ok (.getfield 22, 3) := by decide +kernel
theorem dX4_execute_14 : decode cX4_execute 14 = .ok (.aload_n 0, 1) := by decide +kernel
theorem dX4_execute_15 : decode cX4_execute 15 = .ok (.getfield 10, 3) := by decide +kernel
theorem dX4_execute_18 : decode cX4_execute 18 = .ok (.invokevirtual 52, 3) := by decide +kernel
theorem dX4_execute_21 : decode cX4_execute 21 = .ok (.iconst 0, 1) := by decide +kernel
theorem dX4_execute_22 : decode cX4_execute 22 = .ok (.istore_n 1, 1) := by decide +kernel
theorem dX4_execute_23 : decode cX4_execute 23 = .ok (.iconst 0, 1) := by decide +kernel
theorem dX4_execute_24 : decode cX4_execute 24 = .ok (.istore_n 2, 1) := by decide +kernel
theorem dX4_execute_25 : decode cX4_execute 25 = .ok (.iconst 1, 1) := by decide +kernel
theorem dX4_execute_26 : decode cX4_execute 26 = .ok (.istore_n 3, 1) := by decide +kernel
theorem dX4_execute_27 : decode cX4_execute 27 = .ok (.iload_n 3, 1) := by decide +kernel
theorem dX4_execute_28 : decode cX4_execute 28 = .ok (.aload_n 0, 1) := by decide +kernel
theorem dX4_execute_29 : decode cX4_execute 29 = .ok (.getfield 37, 3) := by decide +kernel
theorem dX4_execute_32 : decode cX4_execute 32 = .ok (.getfield 122, 3) := by decide +kernel
theorem dX4_execute_35 : decode cX4_execute 35 = .ok (.if_icmp .gt 39, 3) := by decide +kernel
theorem dX4_execute_38 : decode cX4_execute 38 = .ok (.aload_n 0, 1) := by decide +kernel
theorem dX4_execute_39 : decode cX4_execute 39 = .ok (.getfield 37, 3) := by decide +kernel
theorem dX4_execute_42 : decode cX4_execute 42 = .ok (.iload_n 3, 1) := by decide +kernel
theorem dX4_execute_43 : decode cX4_execute 43 = .ok (.invokevirtual 132, 3) := by decide +kernel
theorem dX4_execute_46 : decode cX4_execute 46 = .ok (.ifCond .eq 22, 3) := by decide +kernel
theorem dX4_execute_49 : decode cX4_execute 49 = .ok (.aload_n 0, 1) := by decide +kernel
theorem dX4_execute_50 : decode cX4_execute 50 = .ok (.iload_n 2, 1) := by decide +kernel
theorem dX4_execute_51 : decode cX4_execute 51 = .ok (.iload_n 3, 1) := by decide +kernel
theorem dX4_execute_52 : decode cX4_execute 52 = .ok (.invokevirtual 135, 3) := by decide +kernel
theorem dX4_execute_55 : decode cX4_execute 55 = .ok (.ifCond .ne 6, 3) := by decide +kernel
theorem dX4_execute_58 : decode cX4_execute 58 = .ok (.goto 16, 3) := by decide +kernel
theorem dX4_execute_61 : decode cX4_execute 61 = .ok (.iinc 1 1, 3) := by decide +kernel
theorem dX4_execute_64 : decode cX4_execute 64 = .ok (.iload_n 3, 1) := by decide +kernel
theorem dX4_execute_65 : decode cX4_execute 65 = .ok (.iconst 1, 1) := by decide +kernel
theorem dX4_execute_66 : decode cX4_execute 66 = .ok (.iadd, 1) := by decide +kernel
theorem dX4_execute_67 : decode cX4_execute 67 = .ok (.istore_n 2, 1) := by decide +kernel
theorem dX4_execute_68 : decode cX4_execute 68 = .ok (.iinc 3 1, 3) := by decide +kernel
theorem dX4_execute_71 : decode cX4_execute 71 = .ok (.goto (-44), 3) := by decide +kernel
theorem dX4_execute_74 : decode cX4_execute 74 = .ok (.aload_n 0, 1) := by decide +kernel
theorem dX4_execute_75 : decode cX4_execute 75 = .ok (.getfield 37, 3) := by decide +kernel
theorem dX4_execute_78 : decode cX4_execute 78 = .ok (.iconst 0, 1) := by decide +kernel
theorem dX4_execute_79 : decode cX4_execute 79 = .ok (.putfield 122, 3) := by decide +kernel
theorem dX4_execute_82 : decode cX4_execute 82 = .ok (.iload_n 1, 1) := by decide +kernel
theorem dX4_execute_83 : decode cX4_execute 83 = .ok (.ireturn, 1) := by decide +kernel
theorem dX4_undo_0 : decode cX4_undo 0 = .ok (.aload_n 0, 1) := by decide +kernel
theorem dX4_undo_1 : decode cX4_undo 1 = .ok (.getfield 22, 3) := by decide +kernel
theorem dX4_undo_4 : decode cX4_undo 4 = .ok (.getfield 138, 3) := by decide +kernel
theorem dX4_undo_7 : decode cX4_undo 7 = .ok (.ifCond .le 7, 3) := by decide +kernel
theorem dX4_undo_10 : decode cX4_undo 10 = .ok (.iconst 1, 1) := by decide +kernel
theorem dX4_undo_11 : decode cX4_undo 11 = .ok (.goto 4, 3) := by decide +kernel
theorem dX4_undo_14 : decode cX4_undo 14 = .ok (.iconst 0, 1) := by decide +kernel
theorem dX4_undo_15 : decode cX4_undo 15 = .ok (.invokestatic 67, 3) := by decide +kernel
theorem dX4_undo_18 : decode cX4_undo 18 = .ok (.aload_n 0, 1) := by decide +kernel
theorem dX4_undo_19 : decode cX4_undo 19 = .ok (.getfield 22, 3) := by decide +kernel
theorem dX4_undo_22 : decode cX4_undo 22 = .ok (.aload_n 0, 1) := by decide +kernel
theorem dX4_undo_23 : decode cX4_undo 23 = .ok (.getfield 10, 3) := by decide +kernel
theorem dX4_undo_26 : decode cX4_undo 26 = .ok (.invokevirtual 141, 3) := by decide +kernel
theorem dX4_undo_29 : decode cX4_undo 29 = .ok (.aload_n 0, 1) := by decide +kernel
theorem dX4_undo_30 : decode cX4_undo 30 = .ok (.getfield 22, 3) := by decide +kernel
theorem dX4_undo_33 : decode cX4_undo 33 = .ok (.getfield 138, 3) := by decide +kernel
theorem dX4_undo_36 : decode cX4_undo 36 = .ok (.ireturn, 1) := by decide +kernel
theorem dX4_keep_0 : decode cX4_keep 0 = .ok (.iload_n 1, 1) := by decide +kernel
theorem dX4_keep_1 : decode cX4_keep 1 = .ok (.ifCond .lt 12, 3) := by decide +kernel
theorem dX4_keep_4 : decode cX4_keep 4 = .ok (.iload_n 1, 1) := by decide +kernel
theorem dX4_keep_5 : decode cX4_keep 5 = .ok (.iconst 2, 1) := by decide +kernel
theorem dX4_keep_6 : decode cX4_keep 6 = .ok (.if_icmp .ge 7, 3) := by decide +kernel
theorem dX4_keep_9 : decode cX4_keep 9 = .ok (.iconst 1, 1) := by decide +kernel
theorem dX4_keep_10 : decode cX4_keep 10 = .ok (.goto 4, 3) := by decide +kernel
theorem dX4_keep_13 : decode cX4_keep 13 = .ok (.iconst 0, 1) := by decide +kernel
theorem dX4_keep_14 : decode cX4_keep 14 = .ok (.invokestatic 49, 3) := by decide +kernel
theorem dX4_keep_17 : decode cX4_keep 17 = .ok (.aload_n 0, 1) := by decide +kernel
theorem dX4_keep_18 : decode cX4_keep 18 = .ok (.getfield 26, 3) := by decide +kernel
theorem dX4_keep_21 : decode cX4_keep 21 = .ok (.iload_n 1, 1) := by decide +kernel
theorem dX4_keep_22 : decode cX4_keep 22 = .ok (.aaload, 1) := by decide +kernel
theorem dX4_keep_23 : decode cX4_keep 23 = .ok (.aload_n 0, 1) := by decide +kernel
theorem dX4_keep_24 : decode cX4_keep 24 = .ok (.getfield 10, 3) := by decide +kernel
theorem dX4_keep_27 : decode cX4_keep 27 = .ok (.invokevirtual 144, 3) := by decide +kernel
theorem dX4_keep_30 : decode cX4_keep 30 = .ok (.aload_n 0, 1) := by decide +kernel
theorem dX4_keep_31 : decode cX4_keep 31 = .ok (.getfield 30, 3) := by decide +kernel
theorem dX4_keep_34 : decode cX4_keep 34 = .ok (.iload_n 1, 1) := by decide +kernel
theorem dX4_keep_35 : decode cX4_keep 35 = .ok (.iconst 1, 1) := by decide +kernel
theorem dX4_keep_36 : decode cX4_keep 36 = .ok (.bastore, 1) := by decide +kernel
theorem dX4_keep_37 : decode cX4_keep 37 = .ok (.aload_n 0, 1) := by decide +kernel
theorem dX4_keep_38 : decode cX4_keep 38 = .ok (.getfield 10, 3) := by decide +kernel
theorem dX4_keep_41 : decode cX4_keep 41 = .ok (.getfield 147, 3) := by decide +kernel
theorem dX4_keep_44 : decode cX4_keep 44 = .ok (.ireturn, 1) := by decide +kernel
theorem dX4_goBack_0 : decode cX4_goBack 0 = .ok (.iload_n 1, 1) := by decide +kernel
theorem dX4_goBack_1 : decode cX4_goBack 1 = .ok (.ifCond .lt 12, 3) := by decide +kernel
theorem dX4_goBack_4 : decode cX4_goBack 4 = .ok (.iload_n 1, 1) := by decide +kernel
theorem dX4_goBack_5 : decode cX4_goBack 5 = .ok (.iconst 2, 1) := by decide +kernel
theorem dX4_goBack_6 : decode cX4_goBack 6 = .ok (.if_icmp .ge 7, 3) := by decide +kernel
theorem dX4_goBack_9 : decode cX4_goBack 9 = .ok (.iconst 1, 1) := by decide +kernel
theorem dX4_goBack_10 : decode cX4_goBack 10 = .ok (.goto 4, 3) := by decide +kernel
theorem dX4_goBack_13 : decode cX4_goBack 13 = .ok (.iconst 0, 1) := by decide +kernel
theorem dX4_goBack_14 : decode cX4_goBack 14 = .ok (.invokestatic 49, 3) := by decide +kernel
theorem dX4_goBack_17 : decode cX4_goBack 17 = .ok (.aload_n 0, 1) := by decide +kernel
theorem dX4_goBack_18 : decode cX4_goBack 18 = .ok (.getfield 30, 3) := by decide +kernel
theorem dX4_goBack_21 : decode cX4_goBack 21 = .ok (.iload_n 1, 1) := by decide +kernel
theorem dX4_goBack_22 : decode cX4_goBack 22 = .ok (.baload, 1) := by decide +kernel
theorem dX4_goBack_23 : decode cX4_goBack 23 = .ok (.invokestatic 67, 3) := by decide +kernel
theorem dX4_goBack_26 : decode cX4_goBack 26 = .ok (.aload_n 0, 1) := by decide +kernel
theorem dX4_goBack_27 : decode cX4_goBack 27 = .ok (.getfield 22, 3) := by decide +kernel
theorem dX4_goBack_30 : decode cX4_goBack 30 = .ok (.aload_n 0, 1) := by decide +kernel
theorem dX4_goBack_31 : decode cX4_goBack 31 = .ok (.getfield 10, 3) := by decide +kernel
theorem dX4_goBack_34 : decode cX4_goBack 34 = .ok (.invokevirtual 52, 3) := by decide +kernel
theorem dX4_goBack_37 : decode cX4_goBack 37 = .ok (.aload_n 0, 1) := by decide +kernel
theorem dX4_goBack_38 : decode cX4_goBack 38 = .ok (.getfield 10, 3) := by decide +kernel
theorem dX4_goBack_41 : decode cX4_goBack 41 = .ok (.aload_n 0, 1) := by decide +kernel
theorem dX4_goBack_42 : decode cX4_goBack 42 = .ok (.getfield 26, 3) := by decide +kernel
theorem dX4_goBack_45 : decode cX4_goBack 45 = .ok (.iload_n 1, 1) := by decide +kernel
theorem dX4_goBack_46 : decode cX4_goBack 46 = .ok (.aaload, 1) := by decide +kernel
theorem dX4_goBack_47 : decode cX4_goBack 47 = .ok (.invokevirtual 144, 3) := by decide +kernel
theorem dX4_goBack_50 : decode cX4_goBack 50 = .ok (.aload_n 0, 1) := by decide +kernel
theorem dX4_goBack_51 : decode cX4_goBack 51 = .ok (.getfield 10, 3) := by decide +kernel
theorem dX4_goBack_54 : decode cX4_goBack 54 = .ok (.getfield 147, 3) := by decide +kernel
theorem dX4_goBack_57 : decode cX4_goBack 57 = .ok (.ireturn, 1) := by decide +kernel
theorem dX4_section_0 : decode cX4_section 0 = .ok (.iload_n 1, 1) := by decide +kernel
theorem dX4_section_1 : decode cX4_section 1 = .ok (.ifCond .lt 13, 3) := by decide +kernel
theorem dX4_section_4 : decode cX4_section 4 = .ok (.iload_n 1, 1) := by decide +kernel
theorem dX4_section_5 : decode cX4_section 5 = .ok (.bipush 30, 2) := by decide +kernel
theorem dX4_section_7 : decode cX4_section 7 = .ok (.if_icmp .ge 7, 3) := by decide +kernel
theorem dX4_section_10 : decode cX4_section 10 = .ok (.iconst 1, 1) := by decide +kernel
theorem dX4_section_11 : decode cX4_section 11 = .ok (.goto 4, 3) := by decide +kernel
theorem dX4_section_14 : decode cX4_section 14 = .ok (.iconst 0, 1) := by decide +kernel
theorem dX4_section_15 : decode cX4_section 15 = .ok (.invokestatic 41, 3) := by decide +kernel
theorem dX4_section_18 : decode cX4_section 18 = .ok (.iload_n 2, 1) := by decide +kernel
theorem dX4_section_19 : decode cX4_section 19 = .ok (.iconst 0, 1) := by decide +kernel
theorem dX4_section_20 : decode cX4_section 20 = .ok (.iconst 4, 1) := by decide +kernel
theorem dX4_section_21 : decode cX4_section 21 = .ok (.invokestatic 45, 3) := by decide +kernel
theorem dX4_section_24 : decode cX4_section 24 = .ok (.invokestatic 49, 3) := by decide +kernel
theorem dX4_section_27 : decode cX4_section 27 = .ok (.iload_n 2, 1) := by decide +kernel
theorem dX4_section_28 : decode cX4_section 28 = .ok (.tableswitch 72 0 3 #[32, 42, 52, 62], 32) := by decide +kernel
theorem dX4_section_60 : decode cX4_section 60 = .ok (.aload_n 0, 1) := by decide +kernel
theorem dX4_section_61 : decode cX4_section 61 = .ok (.getfield 10, 3) := by decide +kernel
theorem dX4_section_64 : decode cX4_section 64 = .ok (.getfield 56, 3) := by decide +kernel
theorem dX4_section_67 : decode cX4_section 67 = .ok (.iload_n 1, 1) := by decide +kernel
theorem dX4_section_68 : decode cX4_section 68 = .ok (.iaload, 1) := by decide +kernel
theorem dX4_section_69 : decode cX4_section 69 = .ok (.ireturn, 1) := by decide +kernel
theorem dX4_section_70 : decode cX4_section 70 = .ok (.aload_n 0, 1) := by decide +kernel
theorem dX4_section_71 : decode cX4_section 71 = .ok (.getfield 10, 3) := by decide +kernel
theorem dX4_section_74 : decode cX4_section 74 = .ok (.getfield 60, 3) := by decide +kernel
theorem dX4_section_77 : decode cX4_section 77 = .ok (.iload_n 1, 1) := by decide +kernel
theorem dX4_section_78 : decode cX4_section 78 = .ok (.iaload, 1) := by decide +kernel
theorem dX4_section_79 : decode cX4_section 79 = .ok (.ireturn, 1) := by decide +kernel
theorem dX4_section_80 : decode cX4_section 80 = .ok (.aload_n 0, 1) := by decide +kernel
theorem dX4_section_81 : decode cX4_section 81 = .ok (.getfield 10, 3) := by decide +kernel
theorem dX4_section_84 : decode cX4_section 84 = .ok (.iload_n 1, 1) := by decide +kernel
theorem dX4_section_85 : decode cX4_section 85 = .ok (.iconst 1, 1) := by decide +kernel
theorem dX4_section_86 : decode cX4_section 86 = .ok (.invokevirtual 150, 3) := by decide +kernel
theorem dX4_section_89 : decode cX4_section 89 = .ok (.ireturn, 1) := by decide +kernel
theorem dX4_section_90 : decode cX4_section 90 = .ok (.aload_n 0, 1) := by decide +kernel
theorem dX4_section_91 : decode cX4_section 91 = .ok (.getfield 10, 3) := by decide +kernel
theorem dX4_section_94 : decode cX4_section 94 = .ok (.iload_n 1, 1) := by decide +kernel
theorem dX4_section_95 : decode cX4_section 95 = .ok (.iconst 3, 1) := by decide +kernel
theorem dX4_section_96 : decode cX4_section 96 = .ok (.invokevirtual 150, 3) := by decide +kernel
theorem dX4_section_99 : decode cX4_section 99 = .ok (.ireturn, 1) := by decide +kernel
theorem dX4_section_100 : decode cX4_section 100 = .ok (.aload_n 0, 1) := by decide +kernel
theorem dX4_section_101 : decode cX4_section 101 = .ok (.getfield 10, 3) := by decide +kernel
theorem dX4_section_104 : decode cX4_section 104 = .ok (.getfield 153, 3) := by decide +kernel
theorem dX4_section_107 : decode cX4_section 107 = .ok (.iload_n 1, 1) := by decide +kernel
theorem dX4_section_108 : decode cX4_section 108 = .ok (.iaload, 1) := by decide +kernel
theorem dX4_section_109 : decode cX4_section 109 = .ok (.ireturn, 1) := by decide +kernel
theorem dX4_carOf_0 : decode cX4_carOf 0 = .ok (.aload_n 0, 1) := by decide +kernel
theorem dX4_carOf_1 : decode cX4_carOf 1 = .ok (.getfield 10, 3) := by decide +kernel
theorem dX4_carOf_4 : decode cX4_carOf 4 = .ok (.iload_n 1, 1) := by decide +kernel
theorem dX4_carOf_5 : decode cX4_carOf 5 = .ok (.invokevirtual 77, 3) := by decide +kernel
theorem dX4_carOf_8 : decode cX4_carOf 8 = .ok (.invokestatic 41, 3) := by decide +kernel
theorem dX4_carOf_11 : decode cX4_carOf 11 = .ok (.iload_n 2, 1) := by decide +kernel
theorem dX4_carOf_12 : decode cX4_carOf 12 = .ok (.iconst 0, 1) := by decide +kernel
theorem dX4_carOf_13 : decode cX4_carOf 13 = .ok (.bipush 9, 2) := by decide +kernel
theorem dX4_carOf_15 : decode cX4_carOf 15 = .ok (.invokestatic 45, 3) := by decide +kernel
theorem dX4_carOf_18 : decode cX4_carOf 18 = .ok (.invokestatic 49, 3) := by decide +kernel
theorem dX4_carOf_21 : decode cX4_carOf 21 = .ok (.aload_n 0, 1) := by decide +kernel
theorem dX4_carOf_22 : decode cX4_carOf 22 = .ok (.getfield 10, 3) := by decide +kernel
theorem dX4_carOf_25 : decode cX4_carOf 25 = .ok (.getfield 156, 3) := by decide +kernel
theorem dX4_carOf_28 : decode cX4_carOf 28 = .ok (.iload_n 1, 1) := by decide +kernel
theorem dX4_carOf_29 : decode cX4_carOf 29 = .ok (.aaload, 1) := by decide +kernel
theorem dX4_carOf_30 : decode cX4_carOf 30 = .ok (.iload_n 2, 1) := by decide +kernel
theorem dX4_carOf_31 : decode cX4_carOf 31 = .ok (.invokevirtual 160, 3) := by decide +kernel
theorem dX4_carOf_34 : decode cX4_carOf 34 = .ok (.ireturn, 1) := by decide +kernel
theorem dX4_cars_0 : decode cX4_cars 0 = .ok (.iload_n 1, 1) := by decide +kernel
theorem dX4_cars_1 : decode cX4_cars 1 = .ok (.iconst 0, 1) := by decide +kernel
theorem dX4_cars_2 : decode cX4_cars 2 = .ok (.iconst 4, 1) := by decide +kernel
theorem dX4_cars_3 : decode cX4_cars 3 = .ok (.invokestatic 45, 3) := by decide +kernel
theorem dX4_cars_6 : decode cX4_cars 6 = .ok (.invokestatic 49, 3) := by decide +kernel
theorem dX4_cars_9 : decode cX4_cars 9 = .ok (.aload_n 0, 1) := by decide +kernel
theorem dX4_cars_10 : decode cX4_cars 10 = .ok (.getfield 10, 3) := by decide +kernel
theorem dX4_cars_13 : decode cX4_cars 13 = .ok (.iload_n 1, 1) := by decide +kernel
theorem dX4_cars_14 : decode cX4_cars 14 = .ok (.invokevirtual 165, 3) := by decide +kernel
theorem dX4_cars_17 : decode cX4_cars 17 = .ok (.ireturn, 1) := by decide +kernel
theorem dX4_rolling_0 : decode cX4_rolling 0 = .ok (.iload_n 1, 1) := by decide +kernel
theorem dX4_rolling_1 : decode cX4_rolling 1 = .ok (.ifCond .lt 7, 3) := by decide +kernel
theorem dX4_rolling_4 : decode cX4_rolling 4 = .ok (.iconst 1, 1) := by decide +kernel
theorem dX4_rolling_5 : decode cX4_rolling 5 = .ok (.goto 4, 3) := by decide +kernel
theorem dX4_rolling_8 : decode cX4_rolling 8 = .ok (.iconst 0, 1) := by decide +kernel
theorem dX4_rolling_9 : decode cX4_rolling 9 = .ok (.invokestatic 49, 3) := by decide +kernel
theorem dX4_rolling_12 : decode cX4_rolling 12 = .ok (.iconst 0, 1) := by decide +kernel
theorem dX4_rolling_13 : decode cX4_rolling 13 = .ok (.istore_n 2, 1) := by decide +kernel
theorem dX4_rolling_14 : decode cX4_rolling 14 = .ok (.iload_n 2, 1) := by decide +kernel
theorem dX4_rolling_15 : decode cX4_rolling 15 = .ok (.aload_n 0, 1) := by decide +kernel
theorem dX4_rolling_16 : decode cX4_rolling 16 = .ok (.getfield 10, 3) := by decide +kernel
theorem dX4_rolling_19 : decode cX4_rolling 19 = .ok (.getfield 70, 3) := by decide +kernel
theorem dX4_rolling_22 : decode cX4_rolling 22 = .ok (.if_icmp .ge 39, 3) := by decide +kernel
theorem dX4_rolling_25 : decode cX4_rolling 25 = .ok (.aload_n 0, 1) := by decide +kernel
theorem dX4_rolling_26 : decode cX4_rolling 26 = .ok (.getfield 10, 3) := by decide +kernel
theorem dX4_rolling_29 : decode cX4_rolling 29 = .ok (.getfield 156, 3) := by decide +kernel
theorem dX4_rolling_32 : decode cX4_rolling 32 = .ok (.iload_n 2, 1) := by decide +kernel
theorem dX4_rolling_33 : decode cX4_rolling 33 = .ok (.aaload, 1) := by decide +kernel
theorem dX4_rolling_34 : decode cX4_rolling 34 = .ok (.getfield 168, 3) := by decide +kernel
theorem dX4_rolling_37 : decode cX4_rolling 37 = .ok (.iconst 1, 1) := by decide +kernel
theorem dX4_rolling_38 : decode cX4_rolling 38 = .ok (.if_icmp .ne 17, 3) := by decide +kernel
theorem dX4_rolling_41 : decode cX4_rolling 41 = .ok (.aload_n 0, 1) := by decide +kernel
theorem dX4_rolling_42 : decode cX4_rolling 42 = .ok (.getfield 10, 3) := by decide +kernel
theorem dX4_rolling_45 : decode cX4_rolling 45 = .ok (.iload_n 2, 1) := by decide +kernel
theorem dX4_rolling_46 : decode cX4_rolling 46 = .ok (.invokevirtual 171, 3) := by decide +kernel
theorem dX4_rolling_49 : decode cX4_rolling 49 = .ok (.iload_n 1, 1) := by decide +kernel
theorem dX4_rolling_50 : decode cX4_rolling 50 = .ok (.if_icmp .ne 5, 3) := by decide +kernel
theorem dX4_rolling_53 : decode cX4_rolling 53 = .ok (.iload_n 2, 1) := by decide +kernel
theorem dX4_rolling_54 : decode cX4_rolling 54 = .ok (.ireturn, 1) := by decide +kernel
theorem dX4_rolling_55 : decode cX4_rolling 55 = .ok (.iinc 2 1, 3) := by decide +kernel
theorem dX4_rolling_58 : decode cX4_rolling 58 = .ok (.goto (-44), 3) := by decide +kernel
theorem dX4_rolling_61 : decode cX4_rolling 61 = .ok (.iconst (-1), 1) := by decide +kernel
theorem dX4_rolling_62 : decode cX4_rolling 62 = .ok (.ireturn, 1) := by decide +kernel
theorem dX4_count_0 : decode cX4_count 0 = .ok (.iload_n 1, 1) := by decide +kernel
theorem dX4_count_1 : decode cX4_count 1 = .ok (.iconst 0, 1) := by decide +kernel
theorem dX4_count_2 : decode cX4_count 2 = .ok (.bipush 13, 2) := by decide +kernel
theorem dX4_count_4 : decode cX4_count 4 = .ok (.invokestatic 45, 3) := by decide +kernel
theorem dX4_count_7 : decode cX4_count 7 = .ok (.invokestatic 49, 3) := by decide +kernel
theorem dX4_count_10 : decode cX4_count 10 = .ok (.iload_n 1, 1) := by decide +kernel
theorem dX4_count_11 : decode cX4_count 11 = .ok (.lookupswitch 41 #[(9, 25), (10, 33)], 25) := by decide +kernel
theorem dX4_count_36 : decode cX4_count 36 = .ok (.aload_n 0, 1) := by decide +kernel
theorem dX4_count_37 : decode cX4_count 37 = .ok (.getfield 22, 3) := by decide +kernel
theorem dX4_count_40 : decode cX4_count 40 = .ok (.getfield 138, 3) := by decide +kernel
theorem dX4_count_43 : decode cX4_count 43 = .ok (.ireturn, 1) := by decide +kernel
theorem dX4_count_44 : decode cX4_count 44 = .ok (.aload_n 0, 1) := by decide +kernel
theorem dX4_count_45 : decode cX4_count 45 = .ok (.getfield 37, 3) := by decide +kernel
theorem dX4_count_48 : decode cX4_count 48 = .ok (.getfield 122, 3) := by decide +kernel
theorem dX4_count_51 : decode cX4_count 51 = .ok (.ireturn, 1) := by decide +kernel
theorem dX4_count_52 : decode cX4_count 52 = .ok (.aload_n 0, 1) := by decide +kernel
theorem dX4_count_53 : decode cX4_count 53 = .ok (.getfield 10, 3) := by decide +kernel
theorem dX4_count_56 : decode cX4_count 56 = .ok (.iload_n 1, 1) := by decide +kernel
theorem dX4_count_57 : decode cX4_count 57 = .ok (.invokevirtual 174, 3) := by decide +kernel
theorem dX4_count_60 : decode cX4_count 60 = .ok (.ireturn, 1) := by decide +kernel
theorem dX4_refusal_0 : decode cX4_refusal 0 = .ok (.aload_n 0, 1) := by decide +kernel
theorem dX4_refusal_1 : decode cX4_refusal 1 = .ok (.getfield 10, 3) := by decide +kernel
theorem dX4_refusal_4 : decode cX4_refusal 4 = .ok (.iload_n 1, 1) := by decide +kernel
theorem dX4_refusal_5 : decode cX4_refusal 5 = .ok (.invokevirtual 77, 3) := by decide +kernel
theorem dX4_refusal_8 : decode cX4_refusal 8 = .ok (.invokestatic 41, 3) := by decide +kernel
theorem dX4_refusal_11 : decode cX4_refusal 11 = .ok (.iload_n 2, 1) := by decide +kernel
theorem dX4_refusal_12 : decode cX4_refusal 12 = .ok (.ifCond .eq 14, 3) := by decide +kernel
theorem dX4_refusal_15 : decode cX4_refusal 15 = .ok (.aload_n 0, 1) := by decide +kernel
theorem dX4_refusal_16 : decode cX4_refusal 16 = .ok (.getfield 10, 3) := by decide +kernel
theorem dX4_refusal_19 : decode cX4_refusal 19 = .ok (.iload_n 1, 1) := by decide +kernel
theorem dX4_refusal_20 : decode cX4_refusal 20 = .ok (.invokevirtual 175, 3) := by decide +kernel
theorem dX4_refusal_23 : decode cX4_refusal 23 = .ok (.goto 11, 3) := by decide +kernel
theorem dX4_refusal_26 : decode cX4_refusal 26 = .ok (.aload_n 0, 1) := by decide +kernel
theorem dX4_refusal_27 : decode cX4_refusal 27 = .ok (.getfield 10, 3) := by decide +kernel
theorem dX4_refusal_30 : decode cX4_refusal 30 = .ok (.iload_n 1, 1) := by decide +kernel
theorem dX4_refusal_31 : decode cX4_refusal 31 = .ok (.invokevirtual 178, 3) := by decide +kernel
theorem dX4_refusal_34 : decode cX4_refusal 34 = .ok (.ireturn, 1) := by decide +kernel
theorem dX4_ifAlone_0 : decode cX4_ifAlone 0 = .ok (.iload_n 1, 1) := by decide +kernel
theorem dX4_ifAlone_1 : decode cX4_ifAlone 1 = .ok (.iconst 0, 1) := by decide +kernel
theorem dX4_ifAlone_2 : decode cX4_ifAlone 2 = .ok (.bipush 20, 2) := by decide +kernel
theorem dX4_ifAlone_4 : decode cX4_ifAlone 4 = .ok (.invokestatic 45, 3) := by decide +kernel
theorem dX4_ifAlone_7 : decode cX4_ifAlone 7 = .ok (.invokestatic 49, 3) := by decide +kernel
theorem dX4_ifAlone_10 : decode cX4_ifAlone 10 = .ok (.iload_n 2, 1) := by decide +kernel
theorem dX4_ifAlone_11 : decode cX4_ifAlone 11 = .ok (.iconst 0, 1) := by decide +kernel
theorem dX4_ifAlone_12 : decode cX4_ifAlone 12 = .ok (.bipush 9, 2) := by decide +kernel
theorem dX4_ifAlone_14 : decode cX4_ifAlone 14 = .ok (.invokestatic 45, 3) := by decide +kernel
theorem dX4_ifAlone_17 : decode cX4_ifAlone 17 = .ok (.invokestatic 49, 3) := by decide +kernel
theorem dX4_ifAlone_20 : decode cX4_ifAlone 20 = .ok (.iload_n 3, 1) := by decide +kernel
theorem dX4_ifAlone_21 : decode cX4_ifAlone 21 = .ok (.iconst 0, 1) := by decide +kernel
theorem dX4_ifAlone_22 : decode cX4_ifAlone 22 = .ok (.iconst 4, 1) := by decide +kernel
theorem dX4_ifAlone_23 : decode cX4_ifAlone 23 = .ok (.invokestatic 45, 3) := by decide +kernel
theorem dX4_ifAlone_26 : decode cX4_ifAlone 26 = .ok (.invokestatic 49, 3) := by decide +kernel
theorem dX4_ifAlone_29 : decode cX4_ifAlone 29 = .ok (.aload_n 0, 1) := by decide +kernel
theorem dX4_ifAlone_30 : decode cX4_ifAlone 30 = .ok (.iload_n 1, 1) := by decide +kernel
theorem dX4_ifAlone_31 : decode cX4_ifAlone 31 = .ok (.iload_n 2, 1) := by decide +kernel
theorem dX4_ifAlone_32 : decode cX4_ifAlone 32 = .ok (.invokevirtual 181, 3) := by decide +kernel
theorem dX4_ifAlone_35 : decode cX4_ifAlone 35 = .ok (.istore 4, 2) := by decide +kernel
theorem dX4_ifAlone_37 : decode cX4_ifAlone 37 = .ok (.aload_n 0, 1) := by decide +kernel
theorem dX4_ifAlone_38 : decode cX4_ifAlone 38 = .ok (.getfield 16, 3) := by decide +kernel
theorem dX4_ifAlone_41 : decode cX4_ifAlone 41 = .ok (.getfield 156, 3) := by decide +kernel
theorem dX4_ifAlone_44 : decode cX4_ifAlone 44 = .ok (.iconst 0, 1) := by decide +kernel
theorem dX4_ifAlone_45 : decode cX4_ifAlone 45 = .ok (.aaload, 1) := by decide +kernel
theorem dX4_ifAlone_46 : decode cX4_ifAlone 46 = .ok (.astore 5, 2) := by decide +kernel
theorem dX4_ifAlone_48 : decode cX4_ifAlone 48 = .ok (.iload_n 3, 1) := by decide +kernel
theorem dX4_ifAlone_49 : decode cX4_ifAlone 49 = .ok (.tableswitch 52 0 3 #[31, 37, 40, 46], 31) := by decide +kernel
theorem dX4_ifAlone_80 : decode cX4_ifAlone 80 = .ok (.aload 5, 2) := by decide +kernel
theorem dX4_ifAlone_82 : decode cX4_ifAlone 82 = .ok (.getfield 168, 3) := by decide +kernel
theorem dX4_ifAlone_85 : decode cX4_ifAlone 85 = .ok (.ireturn, 1) := by decide +kernel
theorem dX4_ifAlone_86 : decode cX4_ifAlone 86 = .ok (.iload 4, 2) := by decide +kernel
theorem dX4_ifAlone_88 : decode cX4_ifAlone 88 = .ok (.ireturn, 1) := by decide +kernel
theorem dX4_ifAlone_89 : decode cX4_ifAlone 89 = .ok (.aload 5, 2) := by decide +kernel
theorem dX4_ifAlone_91 : decode cX4_ifAlone 91 = .ok (.getfield 184, 3) := by decide +kernel
theorem dX4_ifAlone_94 : decode cX4_ifAlone 94 = .ok (.ireturn, 1) := by decide +kernel
theorem dX4_ifAlone_95 : decode cX4_ifAlone 95 = .ok (.aload 5, 2) := by decide +kernel
theorem dX4_ifAlone_97 : decode cX4_ifAlone 97 = .ok (.getfield 185, 3) := by decide +kernel
theorem dX4_ifAlone_100 : decode cX4_ifAlone 100 = .ok (.ireturn, 1) := by decide +kernel
theorem dX4_ifAlone_101 : decode cX4_ifAlone 101 = .ok (.aload 5, 2) := by decide +kernel
theorem dX4_ifAlone_103 : decode cX4_ifAlone 103 = .ok (.getfield 188, 3) := by decide +kernel
theorem dX4_ifAlone_106 : decode cX4_ifAlone 106 = .ok (.ireturn, 1) := by decide +kernel
theorem dX4_leastBrake_0 : decode cX4_leastBrake 0 = .ok (.iload_n 1, 1) := by decide +kernel
theorem dX4_leastBrake_1 : decode cX4_leastBrake 1 = .ok (.iconst 0, 1) := by decide +kernel
theorem dX4_leastBrake_2 : decode cX4_leastBrake 2 = .ok (.bipush 20, 2) := by decide +kernel
theorem dX4_leastBrake_4 : decode cX4_leastBrake 4 = .ok (.invokestatic 45, 3) := by decide +kernel
theorem dX4_leastBrake_7 : decode cX4_leastBrake 7 = .ok (.invokestatic 49, 3) := by decide +kernel
theorem dX4_leastBrake_10 : decode cX4_leastBrake 10 = .ok (.iconst 0, 1) := by decide +kernel
theorem dX4_leastBrake_11 : decode cX4_leastBrake 11 = .ok (.istore_n 2, 1) := by decide +kernel
theorem dX4_leastBrake_12 : decode cX4_leastBrake 12 = .ok (.iload_n 2, 1) := by decide +kernel
theorem dX4_leastBrake_13 : decode cX4_leastBrake 13 = .ok (.bipush 9, 2) := by decide +kernel
theorem dX4_leastBrake_15 : decode cX4_leastBrake 15 = .ok (.if_icmp .gt 44, 3) := by decide +kernel
theorem dX4_leastBrake_18 : decode cX4_leastBrake 18 = .ok (.aload_n 0, 1) := by decide +kernel
theorem dX4_leastBrake_19 : decode cX4_leastBrake 19 = .ok (.iload_n 1, 1) := by decide +kernel
theorem dX4_leastBrake_20 : decode cX4_leastBrake 20 = .ok (.iload_n 2, 1) := by decide +kernel
theorem dX4_leastBrake_21 : decode cX4_leastBrake 21 = .ok (.invokevirtual 181, 3) := by decide +kernel
theorem dX4_leastBrake_24 : decode cX4_leastBrake 24 = .ok (.pop, 1) := by decide +kernel
theorem dX4_leastBrake_25 : decode cX4_leastBrake 25 = .ok (.aload_n 0, 1) := by decide +kernel
theorem dX4_leastBrake_26 : decode cX4_leastBrake 26 = .ok (.getfield 16, 3) := by decide +kernel
theorem dX4_leastBrake_29 : decode cX4_leastBrake 29 = .ok (.getfield 156, 3) := by decide +kernel
theorem dX4_leastBrake_32 : decode cX4_leastBrake 32 = .ok (.iconst 0, 1) := by decide +kernel
theorem dX4_leastBrake_33 : decode cX4_leastBrake 33 = .ok (.aaload, 1) := by decide +kernel
theorem dX4_leastBrake_34 : decode cX4_leastBrake 34 = .ok (.astore_n 3, 1) := by decide +kernel
theorem dX4_leastBrake_35 : decode cX4_leastBrake 35 = .ok (.aload_n 3, 1) := by decide +kernel
theorem dX4_leastBrake_36 : decode cX4_leastBrake 36 = .ok (.getfield 168, 3) := by decide +kernel
theorem dX4_leastBrake_39 : decode cX4_leastBrake 39 = .ok (.iconst 2, 1) := by decide +kernel
theorem dX4_leastBrake_40 : decode cX4_leastBrake 40 = .ok (.if_icmp .ne 13, 3) := by decide +kernel
theorem dX4_leastBrake_43 : decode cX4_leastBrake 43 = .ok (.aload_n 3, 1) := by decide +kernel
theorem dX4_leastBrake_44 : decode cX4_leastBrake 44 = .ok (.getfield 184, 3) := by decide +kernel
theorem dX4_leastBrake_47 : decode cX4_leastBrake 47 = .ok (.iload_n 1, 1) := by decide +kernel
theorem dX4_leastBrake_48 : decode cX4_leastBrake 48 = .ok (.if_icmp .ne 5, 3) := by decide +kernel
theorem dX4_leastBrake_51 : decode cX4_leastBrake 51 = .ok (.iload_n 2, 1) := by decide +kernel
theorem dX4_leastBrake_52 : decode cX4_leastBrake 52 = .ok (.ireturn, 1) := by decide +kernel
theorem dX4_leastBrake_53 : decode cX4_leastBrake 53 = .ok (.iinc 2 1, 3) := by decide +kernel
theorem dX4_leastBrake_56 : decode cX4_leastBrake 56 = .ok (.goto (-44), 3) := by decide +kernel
theorem dX4_leastBrake_59 : decode cX4_leastBrake 59 = .ok (.iconst (-1), 1) := by decide +kernel
theorem dX4_leastBrake_60 : decode cX4_leastBrake 60 = .ok (.ireturn, 1) := by decide +kernel
theorem dX4_ifRun_0 : decode cX4_ifRun 0 = .ok (.iload_n 1, 1) := by decide +kernel
theorem dX4_ifRun_1 : decode cX4_ifRun 1 = .ok (.iconst 1, 1) := by decide +kernel
theorem dX4_ifRun_2 : decode cX4_ifRun 2 = .ok (.sipush 200, 3) := by decide +kernel
theorem dX4_ifRun_5 : decode cX4_ifRun 5 = .ok (.invokestatic 45, 3) := by decide +kernel
theorem dX4_ifRun_8 : decode cX4_ifRun 8 = .ok (.invokestatic 49, 3) := by decide +kernel
theorem dX4_ifRun_11 : decode cX4_ifRun 11 = .ok (.iload_n 2, 1) := by decide +kernel
theorem dX4_ifRun_12 : decode cX4_ifRun 12 = .ok (.iconst 0, 1) := by decide +kernel
theorem dX4_ifRun_13 : decode cX4_ifRun 13 = .ok (.iconst 4, 1) := by decide +kernel
theorem dX4_ifRun_14 : decode cX4_ifRun 14 = .ok (.invokestatic 45, 3) := by decide +kernel
theorem dX4_ifRun_17 : decode cX4_ifRun 17 = .ok (.invokestatic 49, 3) := by decide +kernel
theorem dX4_ifRun_20 : decode cX4_ifRun 20 = .ok (.aload_n 0, 1) := by decide +kernel
theorem dX4_ifRun_21 : decode cX4_ifRun 21 = .ok (.getfield 16, 3) := by decide +kernel
theorem dX4_ifRun_24 : decode cX4_ifRun 24 = .ok (.aload_n 0, 1) := by decide +kernel
theorem dX4_ifRun_25 : decode cX4_ifRun 25 = .ok (.getfield 10, 3) := by decide +kernel
theorem dX4_ifRun_28 : decode cX4_ifRun 28 = .ok (.invokevirtual 144, 3) := by decide +kernel
theorem dX4_ifRun_31 : decode cX4_ifRun 31 = .ok (.aload_n 0, 1) := by decide +kernel
theorem dX4_ifRun_32 : decode cX4_ifRun 32 = .ok (.getfield 16, 3) := by decide +kernel
theorem dX4_ifRun_35 : decode cX4_ifRun 35 = .ok (.iload_n 1, 1) := by decide +kernel
theorem dX4_ifRun_36 : decode cX4_ifRun 36 = .ok (.invokevirtual 114, 3) := by decide +kernel
theorem dX4_ifRun_39 : decode cX4_ifRun 39 = .ok (.iload_n 2, 1) := by decide +kernel
theorem dX4_ifRun_40 : decode cX4_ifRun 40 = .ok (.tableswitch 89 0 3 #[32, 48, 64, 73], 32) := by decide +kernel
theorem dX4_ifRun_72 : decode cX4_ifRun 72 = .ok (.aload_n 0, 1) := by decide +kernel
theorem dX4_ifRun_73 : decode cX4_ifRun 73 = .ok (.getfield 16, 3) := by decide +kernel
theorem dX4_ifRun_76 : decode cX4_ifRun 76 = .ok (.getfield 111, 3) := by decide +kernel
theorem dX4_ifRun_79 : decode cX4_ifRun 79 = .ok (.aload_n 0, 1) := by decide +kernel
theorem dX4_ifRun_80 : decode cX4_ifRun 80 = .ok (.getfield 10, 3) := by decide +kernel
theorem dX4_ifRun_83 : decode cX4_ifRun 83 = .ok (.getfield 111, 3) := by decide +kernel
theorem dX4_ifRun_86 : decode cX4_ifRun 86 = .ok (.isub, 1) := by decide +kernel
theorem dX4_ifRun_87 : decode cX4_ifRun 87 = .ok (.ireturn, 1) := by decide +kernel
theorem dX4_ifRun_88 : decode cX4_ifRun 88 = .ok (.aload_n 0, 1) := by decide +kernel
theorem dX4_ifRun_89 : decode cX4_ifRun 89 = .ok (.getfield 16, 3) := by decide +kernel
theorem dX4_ifRun_92 : decode cX4_ifRun 92 = .ok (.getfield 191, 3) := by decide +kernel
theorem dX4_ifRun_95 : decode cX4_ifRun 95 = .ok (.aload_n 0, 1) := by decide +kernel
theorem dX4_ifRun_96 : decode cX4_ifRun 96 = .ok (.getfield 10, 3) := by decide +kernel
theorem dX4_ifRun_99 : decode cX4_ifRun 99 = .ok (.getfield 191, 3) := by decide +kernel
theorem dX4_ifRun_102 : decode cX4_ifRun 102 = .ok (.isub, 1) := by decide +kernel
theorem dX4_ifRun_103 : decode cX4_ifRun 103 = .ok (.ireturn, 1) := by decide +kernel
theorem dX4_ifRun_104 : decode cX4_ifRun 104 = .ok (.aload_n 0, 1) := by decide +kernel
theorem dX4_ifRun_105 : decode cX4_ifRun 105 = .ok (.getfield 16, 3) := by decide +kernel
theorem dX4_ifRun_108 : decode cX4_ifRun 108 = .ok (.iconst 3, 1) := by decide +kernel
theorem dX4_ifRun_109 : decode cX4_ifRun 109 = .ok (.invokevirtual 165, 3) := by decide +kernel
theorem dX4_ifRun_112 : decode cX4_ifRun 112 = .ok (.ireturn, 1) := by decide +kernel
theorem dX4_ifRun_113 : decode cX4_ifRun 113 = .ok (.aload_n 0, 1) := by decide +kernel
theorem dX4_ifRun_114 : decode cX4_ifRun 114 = .ok (.getfield 16, 3) := by decide +kernel
theorem dX4_ifRun_117 : decode cX4_ifRun 117 = .ok (.invokevirtual 194, 3) := by decide +kernel
theorem dX4_ifRun_120 : decode cX4_ifRun 120 = .ok (.aload_n 0, 1) := by decide +kernel
theorem dX4_ifRun_121 : decode cX4_ifRun 121 = .ok (.getfield 10, 3) := by decide +kernel
theorem dX4_ifRun_124 : decode cX4_ifRun 124 = .ok (.invokevirtual 194, 3) := by decide +kernel
theorem dX4_ifRun_127 : decode cX4_ifRun 127 = .ok (.isub, 1) := by decide +kernel
theorem dX4_ifRun_128 : decode cX4_ifRun 128 = .ok (.ireturn, 1) := by decide +kernel
