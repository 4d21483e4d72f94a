theorem dX0_init_0 : decode cX0_init 0 = .ok (.aload_n 0, 1) := by decide +kernel
theorem dX0_init_1 : decode cX0_init 1 = .ok (.invokespecial 3, 3) := by decide +kernel
theorem dX0_init_4 : decode cX0_init 4 = .ok (.aload_n 0, 1) := by decide +kernel
theorem dX0_init_5 : decode cX0_init 5 = .ok (.iload_n 1, 1) := by decide +kernel
theorem dX0_init_6 : decode cX0_init 6 = .ok (.putfield 9, 3) := by decide +kernel
theorem dX0_init_9 : decode cX0_init 9 = .ok (.aload_n 0, 1) := by decide +kernel
theorem dX0_init_10 : decode cX0_init 10 = .ok (.iload_n 2, 1) := by decide +kernel
theorem dX0_init_11 : decode cX0_init 11 = .ok (.putfield 15, 3) := by decide +kernel
theorem dX0_init_14 : decode cX0_init 14 = .ok (.aload_n 0, 1) := by decide +kernel
theorem dX0_init_15 : decode cX0_init 15 = .ok (.iload_n 3, 1) := by decide +kernel
theorem dX0_init_16 : decode cX0_init 16 = .ok (.putfield 18, 3) := by decide +kernel
theorem dX0_init_19 : decode cX0_init 19 = .ok (.aload_n 0, 1) := by decide +kernel
theorem dX0_init_20 : decode cX0_init 20 = .ok (.iload 4, 2) := by decide +kernel
theorem dX0_init_22 : decode cX0_init 22 = .ok (.putfield 21, 3) := by decide +kernel
theorem dX0_init_25 : decode cX0_init 25 = .ok (.aload_n 0, 1) := by decide +kernel
theorem dX0_init_26 : decode cX0_init 26 = .ok (.iconst 5, 1) := by decide +kernel
theorem dX0_init_27 : decode cX0_init 27 = .ok (.putfield 24, 3) := by decide +kernel
theorem dX0_init_30 : decode cX0_init 30 = .ok (.aload_n 0, 1) := by decide +kernel
theorem dX0_init_31 : decode cX0_init 31 = .ok (.iconst 5, 1) := by decide +kernel
theorem dX0_init_32 : decode cX0_init 32 = .ok (.putfield 27, 3) := by decide +kernel
theorem dX0_init_35 : decode cX0_init 35 = .ok (.aload_n 0, 1) := by decide +kernel
theorem dX0_init_36 : decode cX0_init 36 = .ok (.iconst 1, 1) := by decide +kernel
theorem dX0_init_37 : decode cX0_init 37 = .ok (.putfield 30, 3) := by decide +kernel
theorem dX0_init_40 : decode cX0_init 40 = .ok (.aload_n 0, 1) := by decide +kernel
theorem dX0_init_41 : decode cX0_init 41 = .ok (.bipush 6, 2) := by decide +kernel
theorem dX0_init_43 : decode cX0_init 43 = .ok (.putfield 34, 3) := by decide +kernel
theorem dX0_init_46 : decode cX0_init 46 = .ok (.aload_n 0, 1) := by decide +kernel
theorem dX0_init_47 : decode cX0_init 47 = .ok (.iconst (-1), 1) := by decide +kernel
theorem dX0_init_48 : decode cX0_init 48 = .ok (.putfield 37, 3) := by decide +kernel
theorem dX0_init_51 : decode cX0_init 51 = .ok (.aload_n 0, 1) := by decide +kernel
theorem dX0_init_52 : decode cX0_init 52 = .ok (.new 40, 3) := by decide +kernel
theorem dX0_init_55 : decode cX0_init 55 = .ok (.dup, 1) := by decide +kernel
theorem dX0_init_56 : decode cX0_init 56 = .ok (.invokespecial 42, 3) := by decide +kernel
theorem dX0_init_59 : decode cX0_init 59 = .ok (.putfield 43, 3) := by decide +kernel
theorem dX0_init_62 : decode cX0_init 62 = .ok (.aload_n 0, 1) := by decide +kernel
theorem dX0_init_63 : decode cX0_init 63 = .ok (.bipush 8, 2) := by decide +kernel
theorem dX0_init_65 : decode cX0_init 65 = .ok (.anewarray 47, 3) := by decide +kernel
theorem dX0_init_68 : decode cX0_init 68 = .ok (.putfield 49, 3) := by decide +kernel
theorem dX0_init_71 : decode cX0_init 71 = .ok (.iconst 0, 1) := by decide +kernel
theorem dX0_init_72 : decode cX0_init 72 = .ok (.istore 5, 2) := by decide +kernel
theorem dX0_init_74 : decode cX0_init 74 = .ok (.iload 5, 2) := by decide +kernel
theorem dX0_init_76 : decode cX0_init 76 = .ok (.bipush 8, 2) := by decide +kernel
theorem dX0_init_78 : decode cX0_init 78 = .ok (.if_icmp .ge 23, 3) := by decide +kernel
theorem dX0_init_81 : decode cX0_init 81 = .ok (.aload_n 0, 1) := by decide +kernel
theorem dX0_init_82 : decode cX0_init 82 = .ok (.getfield 49, 3) := by decide +kernel
theorem dX0_init_85 : decode cX0_init 85 = .ok (.iload 5, 2) := by decide +kernel
theorem dX0_init_87 : decode cX0_init 87 = .ok (.new 47, 3) := by decide +kernel
theorem dX0_init_90 : decode cX0_init 90 = .ok (.dup, 1) := by decide +kernel
theorem dX0_init_91 : decode cX0_init 91 = .ok (.invokespecial 53, 3) := by decide +kernel
theorem dX0_init_94 : decode cX0_init 94 = .ok (.aastore, 1) := by decide +kernel
theorem dX0_init_95 : decode cX0_init 95 = .ok (.iinc 5 1, 3) := by decide +kernel
theorem dX0_init_98 : decode cX0_init 98 = .ok (.goto (-24), 3) := by decide +kernel
theorem dX0_init_101 : decode cX0_init 101 = .ok (.return_, 1) := by decide +kernel
theorem dX0_canSee_0 : decode cX0_canSee 0 = .ok (.aload_n 1, 1) := by decide +kernel
theorem dX0_canSee_1 : decode cX0_canSee 1 = .ok (.iload_n 2, 1) := by decide +kernel
theorem dX0_canSee_2 : decode cX0_canSee 2 = .ok (.invokevirtual 54, 3) := by decide +kernel
theorem dX0_canSee_5 : decode cX0_canSee 5 = .ok (.aload_n 0, 1) := by decide +kernel
theorem dX0_canSee_6 : decode cX0_canSee 6 = .ok (.getfield 15, 3) := by decide +kernel
theorem dX0_canSee_9 : decode cX0_canSee 9 = .ok (.if_icmp .ge 10, 3) := by decide +kernel
theorem dX0_canSee_12 : decode cX0_canSee 12 = .ok (.aload_n 0, 1) := by decide +kernel
theorem dX0_canSee_13 : decode cX0_canSee 13 = .ok (.getfield 24, 3) := by decide +kernel
theorem dX0_canSee_16 : decode cX0_canSee 16 = .ok (.goto 7, 3) := by decide +kernel
theorem dX0_canSee_19 : decode cX0_canSee 19 = .ok (.aload_n 0, 1) := by decide +kernel
theorem dX0_canSee_20 : decode cX0_canSee 20 = .ok (.getfield 27, 3) := by decide +kernel
theorem dX0_canSee_23 : decode cX0_canSee 23 = .ok (.istore_n 3, 1) := by decide +kernel
theorem dX0_canSee_24 : decode cX0_canSee 24 = .ok (.aload_n 1, 1) := by decide +kernel
theorem dX0_canSee_25 : decode cX0_canSee 25 = .ok (.getfield 60, 3) := by decide +kernel
theorem dX0_canSee_28 : decode cX0_canSee 28 = .ok (.ifCond .eq 21, 3) := by decide +kernel
theorem dX0_canSee_31 : decode cX0_canSee 31 = .ok (.aload_n 1, 1) := by decide +kernel
theorem dX0_canSee_32 : decode cX0_canSee 32 = .ok (.iload_n 2, 1) := by decide +kernel
theorem dX0_canSee_33 : decode cX0_canSee 33 = .ok (.invokevirtual 63, 3) := by decide +kernel
theorem dX0_canSee_36 : decode cX0_canSee 36 = .ok (.aload_n 0, 1) := by decide +kernel
theorem dX0_canSee_37 : decode cX0_canSee 37 = .ok (.getfield 18, 3) := by decide +kernel
theorem dX0_canSee_40 : decode cX0_canSee 40 = .ok (.isub, 1) := by decide +kernel
theorem dX0_canSee_41 : decode cX0_canSee 41 = .ok (.iload_n 3, 1) := by decide +kernel
theorem dX0_canSee_42 : decode cX0_canSee 42 = .ok (.if_icmp .lt 7, 3) := by decide +kernel
theorem dX0_canSee_45 : decode cX0_canSee 45 = .ok (.iconst 1, 1) := by decide +kernel
theorem dX0_canSee_46 : decode cX0_canSee 46 = .ok (.goto 4, 3) := by decide +kernel
theorem dX0_canSee_49 : decode cX0_canSee 49 = .ok (.iconst 0, 1) := by decide +kernel
theorem dX0_canSee_50 : decode cX0_canSee 50 = .ok (.ireturn, 1) := by decide +kernel
theorem dX0_trueCount_0 : decode cX0_trueCount 0 = .ok (.aload_n 1, 1) := by decide +kernel
theorem dX0_trueCount_1 : decode cX0_trueCount 1 = .ok (.iconst 0, 1) := by decide +kernel
theorem dX0_trueCount_2 : decode cX0_trueCount 2 = .ok (.invokevirtual 54, 3) := by decide +kernel
theorem dX0_trueCount_5 : decode cX0_trueCount 5 = .ok (.istore_n 2, 1) := by decide +kernel
theorem dX0_trueCount_6 : decode cX0_trueCount 6 = .ok (.aload_n 0, 1) := by decide +kernel
theorem dX0_trueCount_7 : decode cX0_trueCount 7 = .ok (.getfield 15, 3) := by decide +kernel
theorem dX0_trueCount_10 : decode cX0_trueCount 10 = .ok (.aload_n 0, 1) := by decide +kernel
theorem dX0_trueCount_11 : decode cX0_trueCount 11 = .ok (.getfield 18, 3) := by decide +kernel
theorem dX0_trueCount_14 : decode cX0_trueCount 14 = .ok (.iload_n 2, 1) := by decide +kernel
theorem dX0_trueCount_15 : decode cX0_trueCount 15 = .ok (.aload_n 1, 1) := by decide +kernel
theorem dX0_trueCount_16 : decode cX0_trueCount 16 = .ok (.iconst 0, 1) := by decide +kernel
theorem dX0_trueCount_17 : decode cX0_trueCount 17 = .ok (.invokevirtual 63, 3) := by decide +kernel
theorem dX0_trueCount_20 : decode cX0_trueCount 20 = .ok (.invokestatic 66, 3) := by decide +kernel
theorem dX0_trueCount_23 : decode cX0_trueCount 23 = .ok (.istore_n 3, 1) := by decide +kernel
theorem dX0_trueCount_24 : decode cX0_trueCount 24 = .ok (.iload_n 3, 1) := by decide +kernel
theorem dX0_trueCount_25 : decode cX0_trueCount 25 = .ok (.aload_n 1, 1) := by decide +kernel
theorem dX0_trueCount_26 : decode cX0_trueCount 26 = .ok (.getfield 70, 3) := by decide +kernel
theorem dX0_trueCount_29 : decode cX0_trueCount 29 = .ok (.iadd, 1) := by decide +kernel
theorem dX0_trueCount_30 : decode cX0_trueCount 30 = .ok (.aload_n 0, 1) := by decide +kernel
theorem dX0_trueCount_31 : decode cX0_trueCount 31 = .ok (.getfield 21, 3) := by decide +kernel
theorem dX0_trueCount_34 : decode cX0_trueCount 34 = .ok (.iadd, 1) := by decide +kernel
theorem dX0_trueCount_35 : decode cX0_trueCount 35 = .ok (.iload_n 2, 1) := by decide +kernel
theorem dX0_trueCount_36 : decode cX0_trueCount 36 = .ok (.aload_n 0, 1) := by decide +kernel
theorem dX0_trueCount_37 : decode cX0_trueCount 37 = .ok (.getfield 15, 3) := by decide +kernel
theorem dX0_trueCount_40 : decode cX0_trueCount 40 = .ok (.if_icmp .ge 10, 3) := by decide +kernel
theorem dX0_trueCount_43 : decode cX0_trueCount 43 = .ok (.aload_n 0, 1) := by decide +kernel
theorem dX0_trueCount_44 : decode cX0_trueCount 44 = .ok (.getfield 73, 3) := by decide +kernel
theorem dX0_trueCount_47 : decode cX0_trueCount 47 = .ok (.goto 8, 3) := by decide +kernel
theorem dX0_trueCount_50 : decode cX0_trueCount 50 = .ok (.aload_n 0, 1) := by decide +kernel
theorem dX0_trueCount_51 : decode cX0_trueCount 51 = .ok (.getfield 73, 3) := by decide +kernel
theorem dX0_trueCount_54 : decode cX0_trueCount 54 = .ok (.ineg, 1) := by decide +kernel
theorem dX0_trueCount_55 : decode cX0_trueCount 55 = .ok (.iadd, 1) := by decide +kernel
theorem dX0_trueCount_56 : decode cX0_trueCount 56 = .ok (.ireturn, 1) := by decide +kernel
theorem dX0_airDelay_0 : decode cX0_airDelay 0 = .ok (.aload_n 0, 1) := by decide +kernel
theorem dX0_airDelay_1 : decode cX0_airDelay 1 = .ok (.getfield 30, 3) := by decide +kernel
theorem dX0_airDelay_4 : decode cX0_airDelay 4 = .ok (.ifCond .eq 5, 3) := by decide +kernel
theorem dX0_airDelay_7 : decode cX0_airDelay 7 = .ok (.iconst 0, 1) := by decide +kernel
theorem dX0_airDelay_8 : decode cX0_airDelay 8 = .ok (.ireturn, 1) := by decide +kernel
theorem dX0_airDelay_9 : decode cX0_airDelay 9 = .ok (.aload_n 1, 1) := by decide +kernel
theorem dX0_airDelay_10 : decode cX0_airDelay 10 = .ok (.iconst 0, 1) := by decide +kernel
theorem dX0_airDelay_11 : decode cX0_airDelay 11 = .ok (.invokevirtual 54, 3) := by decide +kernel
theorem dX0_airDelay_14 : decode cX0_airDelay 14 = .ok (.aload_n 0, 1) := by decide +kernel
theorem dX0_airDelay_15 : decode cX0_airDelay 15 = .ok (.getfield 15, 3) := by decide +kernel
theorem dX0_airDelay_18 : decode cX0_airDelay 18 = .ok (.isub, 1) := by decide +kernel
theorem dX0_airDelay_19 : decode cX0_airDelay 19 = .ok (.invokestatic 76, 3) := by decide +kernel
theorem dX0_airDelay_22 : decode cX0_airDelay 22 = .ok (.aload_n 1, 1) := by decide +kernel
theorem dX0_airDelay_23 : decode cX0_airDelay 23 = .ok (.iconst 0, 1) := by decide +kernel
theorem dX0_airDelay_24 : decode cX0_airDelay 24 = .ok (.invokevirtual 63, 3) := by decide +kernel
theorem dX0_airDelay_27 : decode cX0_airDelay 27 = .ok (.aload_n 0, 1) := by decide +kernel
theorem dX0_airDelay_28 : decode cX0_airDelay 28 = .ok (.getfield 18, 3) := by decide +kernel
theorem dX0_airDelay_31 : decode cX0_airDelay 31 = .ok (.isub, 1) := by decide +kernel
theorem dX0_airDelay_32 : decode cX0_airDelay 32 = .ok (.invokestatic 76, 3) := by decide +kernel
theorem dX0_airDelay_35 : decode cX0_airDelay 35 = .ok (.if_icmp .le 7, 3) := by decide +kernel
theorem dX0_airDelay_38 : decode cX0_airDelay 38 = .ok (.iconst 1, 1) := by decide +kernel
theorem dX0_airDelay_39 : decode cX0_airDelay 39 = .ok (.goto 4, 3) := by decide +kernel
theorem dX0_airDelay_42 : decode cX0_airDelay 42 = .ok (.iconst 0, 1) := by decide +kernel
theorem dX0_airDelay_43 : decode cX0_airDelay 43 = .ok (.istore_n 2, 1) := by decide +kernel
theorem dX0_airDelay_44 : decode cX0_airDelay 44 = .ok (.iload_n 2, 1) := by decide +kernel
theorem dX0_airDelay_45 : decode cX0_airDelay 45 = .ok (.ifCond .eq 12, 3) := by decide +kernel
theorem dX0_airDelay_48 : decode cX0_airDelay 48 = .ok (.iconst 2, 1) := by decide +kernel
theorem dX0_airDelay_49 : decode cX0_airDelay 49 = .ok (.aload_n 0, 1) := by decide +kernel
theorem dX0_airDelay_50 : decode cX0_airDelay 50 = .ok (.getfield 81, 3) := by decide +kernel
theorem dX0_airDelay_53 : decode cX0_airDelay 53 = .ok (.imul, 1) := by decide +kernel
theorem dX0_airDelay_54 : decode cX0_airDelay 54 = .ok (.goto 7, 3) := by decide +kernel
theorem dX0_airDelay_57 : decode cX0_airDelay 57 = .ok (.aload_n 0, 1) := by decide +kernel
theorem dX0_airDelay_58 : decode cX0_airDelay 58 = .ok (.getfield 81, 3) := by decide +kernel
theorem dX0_airDelay_61 : decode cX0_airDelay 61 = .ok (.ireturn, 1) := by decide +kernel
theorem dX1_init_0 : decode cX1_init 0 = .ok (.aload_n 0, 1) := by decide +kernel
theorem dX1_init_1 : decode cX1_init 1 = .ok (.invokespecial 3, 3) := by decide +kernel
theorem dX1_init_4 : decode cX1_init 4 = .ok (.return_, 1) := by decide +kernel
theorem dX1_take_0 : decode cX1_take 0 = .ok (.iload_n 3, 1) := by decide +kernel
theorem dX1_take_1 : decode cX1_take 1 = .ok (.ifCond .eq 14, 3) := by decide +kernel
theorem dX1_take_4 : decode cX1_take 4 = .ok (.aload_n 0, 1) := by decide +kernel
theorem dX1_take_5 : decode cX1_take 5 = .ok (.getfield 9, 3) := by decide +kernel
theorem dX1_take_8 : decode cX1_take 8 = .ok (.ifCond .eq 7, 3) := by decide +kernel
theorem dX1_take_11 : decode cX1_take 11 = .ok (.iconst 1, 1) := by decide +kernel
theorem dX1_take_12 : decode cX1_take 12 = .ok (.goto 4, 3) := by decide +kernel
theorem dX1_take_15 : decode cX1_take 15 = .ok (.iconst 0, 1) := by decide +kernel
theorem dX1_take_16 : decode cX1_take 16 = .ok (.istore 4, 2) := by decide +kernel
theorem dX1_take_18 : decode cX1_take 18 = .ok (.aload_n 0, 1) := by decide +kernel
theorem dX1_take_19 : decode cX1_take 19 = .ok (.invokevirtual 15, 3) := by decide +kernel
theorem dX1_take_22 : decode cX1_take 22 = .ok (.aload_n 0, 1) := by decide +kernel
theorem dX1_take_23 : decode cX1_take 23 = .ok (.iconst 1, 1) := by decide +kernel
theorem dX1_take_24 : decode cX1_take 24 = .ok (.putfield 9, 3) := by decide +kernel
theorem dX1_take_27 : decode cX1_take 27 = .ok (.aload_n 0, 1) := by decide +kernel
theorem dX1_take_28 : decode cX1_take 28 = .ok (.iload_n 1, 1) := by decide +kernel
theorem dX1_take_29 : decode cX1_take 29 = .ok (.putfield 18, 3) := by decide +kernel
theorem dX1_take_32 : decode cX1_take 32 = .ok (.aload_n 0, 1) := by decide +kernel
theorem dX1_take_33 : decode cX1_take 33 = .ok (.iload_n 2, 1) := by decide +kernel
theorem dX1_take_34 : decode cX1_take 34 = .ok (.putfield 22, 3) := by decide +kernel
theorem dX1_take_37 : decode cX1_take 37 = .ok (.aload_n 0, 1) := by decide +kernel
theorem dX1_take_38 : decode cX1_take 38 = .ok (.aload_n 0, 1) := by decide +kernel
theorem dX1_take_39 : decode cX1_take 39 = .ok (.getfield 18, 3) := by decide +kernel
theorem dX1_take_42 : decode cX1_take 42 = .ok (.aload_n 0, 1) := by decide +kernel
theorem dX1_take_43 : decode cX1_take 43 = .ok (.getfield 22, 3) := by decide +kernel
theorem dX1_take_46 : decode cX1_take 46 = .ok (.isub, 1) := by decide +kernel
theorem dX1_take_47 : decode cX1_take 47 = .ok (.iconst 5, 1) := by decide +kernel
theorem dX1_take_48 : decode cX1_take 48 = .ok (.iadd, 1) := by decide +kernel
theorem dX1_take_49 : decode cX1_take 49 = .ok (.bipush 10, 2) := by decide +kernel
theorem dX1_take_51 : decode cX1_take 51 = .ok (.invokestatic 25, 3) := by decide +kernel
theorem dX1_take_54 : decode cX1_take 54 = .ok (.putfield 31, 3) := by decide +kernel
theorem dX1_take_57 : decode cX1_take 57 = .ok (.aload_n 0, 1) := by decide +kernel
theorem dX1_take_58 : decode cX1_take 58 = .ok (.aload_n 0, 1) := by decide +kernel
theorem dX1_take_59 : decode cX1_take 59 = .ok (.getfield 18, 3) := by decide +kernel
theorem dX1_take_62 : decode cX1_take 62 = .ok (.aload_n 0, 1) := by decide +kernel
theorem dX1_take_63 : decode cX1_take 63 = .ok (.getfield 22, 3) := by decide +kernel
theorem dX1_take_66 : decode cX1_take 66 = .ok (.isub, 1) := by decide +kernel
theorem dX1_take_67 : decode cX1_take 67 = .ok (.bipush 10, 2) := by decide +kernel
theorem dX1_take_69 : decode cX1_take 69 = .ok (.aload_n 0, 1) := by decide +kernel
theorem dX1_take_70 : decode cX1_take 70 = .ok (.getfield 31, 3) := by decide +kernel
theorem dX1_take_73 : decode cX1_take 73 = .ok (.imul, 1) := by decide +kernel
theorem dX1_take_74 : decode cX1_take 74 = .ok (.isub, 1) := by decide +kernel
theorem dX1_take_75 : decode cX1_take 75 = .ok (.putfield 34, 3) := by decide +kernel
theorem dX1_take_78 : decode cX1_take 78 = .ok (.aload_n 0, 1) := by decide +kernel
theorem dX1_take_79 : decode cX1_take 79 = .ok (.iload 4, 2) := by decide +kernel
theorem dX1_take_81 : decode cX1_take 81 = .ok (.ifCond .eq 12, 3) := by decide +kernel
theorem dX1_take_84 : decode cX1_take 84 = .ok (.aload_n 0, 1) := by decide +kernel
theorem dX1_take_85 : decode cX1_take 85 = .ok (.getfield 37, 3) := by decide +kernel
theorem dX1_take_88 : decode cX1_take 88 = .ok (.iconst 1, 1) := by decide +kernel
theorem dX1_take_89 : decode cX1_take 89 = .ok (.iadd, 1) := by decide +kernel
theorem dX1_take_90 : decode cX1_take 90 = .ok (.goto 4, 3) := by decide +kernel
theorem dX1_take_93 : decode cX1_take 93 = .ok (.iconst 1, 1) := by decide +kernel
theorem dX1_take_94 : decode cX1_take 94 = .ok (.putfield 37, 3) := by decide +kernel
theorem dX1_take_97 : decode cX1_take 97 = .ok (.aload_n 0, 1) := by decide +kernel
theorem dX1_take_98 : decode cX1_take 98 = .ok (.aload_n 0, 1) := by decide +kernel
theorem dX1_take_99 : decode cX1_take 99 = .ok (.getfield 34, 3) := by decide +kernel
theorem dX1_take_102 : decode cX1_take 102 = .ok (.bipush (-2), 2) := by decide +kernel
theorem dX1_take_104 : decode cX1_take 104 = .ok (.iconst 2, 1) := by decide +kernel
theorem dX1_take_105 : decode cX1_take 105 = .ok (.invokestatic 40, 3) := by decide +kernel
theorem dX1_take_108 : decode cX1_take 108 = .ok (.ifCond .eq 7, 3) := by decide +kernel
theorem dX1_take_111 : decode cX1_take 111 = .ok (.iconst 0, 1) := by decide +kernel
theorem dX1_take_112 : decode cX1_take 112 = .ok (.goto 18, 3) := by decide +kernel
theorem dX1_take_115 : decode cX1_take 115 = .ok (.iload 4, 2) := by decide +kernel
theorem dX1_take_117 : decode cX1_take 117 = .ok (.ifCond .eq 12, 3) := by decide +kernel
theorem dX1_take_120 : decode cX1_take 120 = .ok (.aload_n 0, 1) := by decide +kernel
theorem dX1_take_121 : decode cX1_take 121 = .ok (.getfield 44, 3) := by decide +kernel
theorem dX1_take_124 : decode cX1_take 124 = .ok (.iconst 1, 1) := by decide +kernel
theorem dX1_take_125 : decode cX1_take 125 = .ok (.iadd, 1) := by decide +kernel
theorem dX1_take_126 : decode cX1_take 126 = .ok (.goto 4, 3) := by decide +kernel
theorem dX1_take_129 : decode cX1_take 129 = .ok (.iconst 1, 1) := by decide +kernel
theorem dX1_take_130 : decode cX1_take 130 = .ok (.putfield 44, 3) := by decide +kernel
theorem dX1_take_133 : decode cX1_take 133 = .ok (.aload_n 0, 1) := by decide +kernel
theorem dX1_take_134 : decode cX1_take 134 = .ok (.aload_n 0, 1) := by decide +kernel
theorem dX1_take_135 : decode cX1_take 135 = .ok (.getfield 37, 3) := by decide +kernel
theorem dX1_take_138 : decode cX1_take 138 = .ok (.iconst 3, 1) := by decide +kernel
theorem dX1_take_139 : decode cX1_take 139 = .ok (.if_icmp .lt 15, 3) := by decide +kernel
theorem dX1_take_142 : decode cX1_take 142 = .ok (.aload_n 0, 1) := by decide +kernel
theorem dX1_take_143 : decode cX1_take 143 = .ok (.getfield 44, 3) := by decide +kernel
theorem dX1_take_146 : decode cX1_take 146 = .ok (.iconst 3, 1) := by decide +kernel
theorem dX1_take_147 : decode cX1_take 147 = .ok (.if_icmp .lt 7, 3) := by decide +kernel
theorem dX1_take_150 : decode cX1_take 150 = .ok (.iconst 1, 1) := by decide +kernel
theorem dX1_take_151 : decode cX1_take 151 = .ok (.goto 4, 3) := by decide +kernel
theorem dX1_take_154 : decode cX1_take 154 = .ok (.iconst 0, 1) := by decide +kernel
theorem dX1_take_155 : decode cX1_take 155 = .ok (.putfield 47, 3) := by decide +kernel
theorem dX1_take_158 : decode cX1_take 158 = .ok (.return_, 1) := by decide +kernel
theorem dX1_lose_0 : decode cX1_lose 0 = .ok (.aload_n 0, 1) := by decide +kernel
theorem dX1_lose_1 : decode cX1_lose 1 = .ok (.invokevirtual 15, 3) := by decide +kernel
theorem dX1_lose_4 : decode cX1_lose 4 = .ok (.aload_n 0, 1) := by decide +kernel
theorem dX1_lose_5 : decode cX1_lose 5 = .ok (.iconst 0, 1) := by decide +kernel
theorem dX1_lose_6 : decode cX1_lose 6 = .ok (.putfield 9, 3) := by decide +kernel
theorem dX1_lose_9 : decode cX1_lose 9 = .ok (.aload_n 0, 1) := by decide +kernel
theorem dX1_lose_10 : decode cX1_lose 10 = .ok (.iconst 0, 1) := by decide +kernel
theorem dX1_lose_11 : decode cX1_lose 11 = .ok (.putfield 47, 3) := by decide +kernel
theorem dX1_lose_14 : decode cX1_lose 14 = .ok (.return_, 1) := by decide +kernel
theorem dX1_forget_0 : decode cX1_forget 0 = .ok (.aload_n 0, 1) := by decide +kernel
theorem dX1_forget_1 : decode cX1_forget 1 = .ok (.iconst 0, 1) := by decide +kernel
theorem dX1_forget_2 : decode cX1_forget 2 = .ok (.putfield 50, 3) := by decide +kernel
theorem dX1_forget_5 : decode cX1_forget 5 = .ok (.aload_n 0, 1) := by decide +kernel
theorem dX1_forget_6 : decode cX1_forget 6 = .ok (.iconst 0, 1) := by decide +kernel
theorem dX1_forget_7 : decode cX1_forget 7 = .ok (.putfield 53, 3) := by decide +kernel
theorem dX1_forget_10 : decode cX1_forget 10 = .ok (.aload_n 0, 1) := by decide +kernel
theorem dX1_forget_11 : decode cX1_forget 11 = .ok (.iconst 0, 1) := by decide +kernel
theorem dX1_forget_12 : decode cX1_forget 12 = .ok (.putfield 56, 3) := by decide +kernel
theorem dX1_forget_15 : decode cX1_forget 15 = .ok (.return_, 1) := by decide +kernel
theorem dX1_measured_0 : decode cX1_measured 0 = .ok (.aload_n 0, 1) := by decide +kernel
theorem dX1_measured_1 : decode cX1_measured 1 = .ok (.getfield 47, 3) := by decide +kernel
theorem dX1_measured_4 : decode cX1_measured 4 = .ok (.ifCond .eq 18, 3) := by decide +kernel
theorem dX1_measured_7 : decode cX1_measured 7 = .ok (.aload_n 0, 1) := by decide +kernel
theorem dX1_measured_8 : decode cX1_measured 8 = .ok (.getfield 22, 3) := by decide +kernel
theorem dX1_measured_11 : decode cX1_measured 11 = .ok (.bipush 10, 2) := by decide +kernel
theorem dX1_measured_13 : decode cX1_measured 13 = .ok (.aload_n 0, 1) := by decide +kernel
theorem dX1_measured_14 : decode cX1_measured 14 = .ok (.getfield 31, 3) := by decide +kernel
theorem dX1_measured_17 : decode cX1_measured 17 = .ok (.imul, 1) := by decide +kernel
theorem dX1_measured_18 : decode cX1_measured 18 = .ok (.iadd, 1) := by decide +kernel
theorem dX1_measured_19 : decode cX1_measured 19 = .ok (.goto 7, 3) := by decide +kernel
theorem dX1_measured_22 : decode cX1_measured 22 = .ok (.aload_n 0, 1) := by decide +kernel
theorem dX1_measured_23 : decode cX1_measured 23 = .ok (.getfield 18, 3) := by decide +kernel
theorem dX1_measured_26 : decode cX1_measured 26 = .ok (.ireturn, 1) := by decide +kernel
theorem dX1_tell_0 : decode cX1_tell 0 = .ok (.iload_n 1, 1) := by decide +kernel
theorem dX1_tell_1 : decode cX1_tell 1 = .ok (.iconst 5, 1) := by decide +kernel
theorem dX1_tell_2 : decode cX1_tell 2 = .ok (.if_icmp .ne 16, 3) := by decide +kernel
theorem dX1_tell_5 : decode cX1_tell 5 = .ok (.aload_n 0, 1) := by decide +kernel
theorem dX1_tell_6 : decode cX1_tell 6 = .ok (.getfield 47, 3) := by decide +kernel
theorem dX1_tell_9 : decode cX1_tell 9 = .ok (.ifCond .eq 7, 3) := by decide +kernel
theorem dX1_tell_12 : decode cX1_tell 12 = .ok (.iconst 1, 1) := by decide +kernel
theorem dX1_tell_13 : decode cX1_tell 13 = .ok (.goto 4, 3) := by decide +kernel
theorem dX1_tell_16 : decode cX1_tell 16 = .ok (.iconst 0, 1) := by decide +kernel
theorem dX1_tell_17 : decode cX1_tell 17 = .ok (.ireturn, 1) := by decide +kernel
theorem dX1_tell_18 : decode cX1_tell 18 = .ok (.iload_n 1, 1) := by decide +kernel
theorem dX1_tell_19 : decode cX1_tell 19 = .ok (.bipush 6, 2) := by decide +kernel
theorem dX1_tell_21 : decode cX1_tell 21 = .ok (.if_icmp .ne 16, 3) := by decide +kernel
theorem dX1_tell_24 : decode cX1_tell 24 = .ok (.aload_n 0, 1) := by decide +kernel
theorem dX1_tell_25 : decode cX1_tell 25 = .ok (.getfield 50, 3) := by decide +kernel
theorem dX1_tell_28 : decode cX1_tell 28 = .ok (.ifCond .eq 7, 3) := by decide +kernel
theorem dX1_tell_31 : decode cX1_tell 31 = .ok (.iconst 1, 1) := by decide +kernel
theorem dX1_tell_32 : decode cX1_tell 32 = .ok (.goto 4, 3) := by decide +kernel
theorem dX1_tell_35 : decode cX1_tell 35 = .ok (.iconst 0, 1) := by decide +kernel
theorem dX1_tell_36 : decode cX1_tell 36 = .ok (.ireturn, 1) := by decide +kernel
theorem dX1_tell_37 : decode cX1_tell 37 = .ok (.aload_n 0, 1) := by decide +kernel
theorem dX1_tell_38 : decode cX1_tell 38 = .ok (.getfield 9, 3) := by decide +kernel
theorem dX1_tell_41 : decode cX1_tell 41 = .ok (.ifCond .eq 11, 3) := by decide +kernel
theorem dX1_tell_44 : decode cX1_tell 44 = .ok (.aload_n 0, 1) := by decide +kernel
theorem dX1_tell_45 : decode cX1_tell 45 = .ok (.iload_n 1, 1) := by decide +kernel
theorem dX1_tell_46 : decode cX1_tell 46 = .ok (.invokevirtual 59, 3) := by decide +kernel
theorem dX1_tell_49 : decode cX1_tell 49 = .ok (.goto 4, 3) := by decide +kernel
theorem dX1_tell_52 : decode cX1_tell 52 = .ok (.iconst (-1), 1) := by decide +kernel
theorem dX1_tell_53 : decode cX1_tell 53 = .ok (.ireturn, 1) := by decide +kernel
theorem dX1_tellSeen_0 : decode cX1_tellSeen 0 = .ok (.iload_n 1, 1) := by decide +kernel
theorem dX1_tellSeen_1 : decode cX1_tellSeen 1 = .ok (.tableswitch 60 0 4 #[35, 40, 45, 50, 55], 35) := by decide +kernel
theorem dX1_tellSeen_36 : decode cX1_tellSeen 36 = .ok (.aload_n 0, 1) := by decide +kernel
theorem dX1_tellSeen_37 : decode cX1_tellSeen 37 = .ok (.getfield 18, 3) := by decide +kernel
theorem dX1_tellSeen_40 : decode cX1_tellSeen 40 = .ok (.ireturn, 1) := by decide +kernel
theorem dX1_tellSeen_41 : decode cX1_tellSeen 41 = .ok (.aload_n 0, 1) := by decide +kernel
theorem dX1_tellSeen_42 : decode cX1_tellSeen 42 = .ok (.getfield 22, 3) := by decide +kernel
theorem dX1_tellSeen_45 : decode cX1_tellSeen 45 = .ok (.ireturn, 1) := by decide +kernel
theorem dX1_tellSeen_46 : decode cX1_tellSeen 46 = .ok (.aload_n 0, 1) := by decide +kernel
theorem dX1_tellSeen_47 : decode cX1_tellSeen 47 = .ok (.getfield 31, 3) := by decide +kernel
theorem dX1_tellSeen_50 : decode cX1_tellSeen 50 = .ok (.ireturn, 1) := by decide +kernel
theorem dX1_tellSeen_51 : decode cX1_tellSeen 51 = .ok (.aload_n 0, 1) := by decide +kernel
theorem dX1_tellSeen_52 : decode cX1_tellSeen 52 = .ok (.getfield 34, 3) := by decide +kernel
theorem dX1_tellSeen_55 : decode cX1_tellSeen 55 = .ok (.ireturn, 1) := by decide +kernel
theorem dX1_tellSeen_56 : decode cX1_tellSeen 56 = .ok (.aload_n 0, 1) := by decide +kernel
theorem dX1_tellSeen_57 : decode cX1_tellSeen 57 = .ok (.getfield 37, 3) := by decide +kernel
theorem dX1_tellSeen_60 : decode cX1_tellSeen 60 = .ok (.ireturn, 1) := by decide +kernel
theorem dX1_tellSeen_61 : decode cX1_tellSeen 61 = .ok (.aload_n 0, 1) := by decide +kernel
theorem dX1_tellSeen_62 : decode cX1_tellSeen 62 = .ok (.getfield 53, 3) := by decide +kernel
theorem dX1_tellSeen_65 : decode cX1_tellSeen 65 = .ok (.ireturn, 1) := by decide +kernel
theorem dX2_init_0 : decode cX2_init 0 = .ok (.aload_n 0, 1) := by decide +kernel
theorem dX2_init_1 : decode cX2_init 1 = .ok (.invokespecial 3, 3) := by decide +kernel
theorem dX2_init_4 : decode cX2_init 4 = .ok (.aload_n 0, 1) := by decide +kernel
theorem dX2_init_5 : decode cX2_init 5 = .ok (.bipush 8, 2) := by decide +kernel
theorem dX2_init_7 : decode cX2_init 7 = .ok (.newarray .int, 2) := by decide +kernel
theorem dX2_init_9 : decode cX2_init 9 = .ok (.putfield 9, 3) := by decide +kernel
theorem dX2_init_12 : decode cX2_init 12 = .ok (.aload_n 0, 1) := by decide +kernel
theorem dX2_init_13 : decode cX2_init 13 = .ok (.bipush 8, 2) := by decide +kernel
theorem dX2_init_15 : decode cX2_init 15 = .ok (.newarray .int, 2) := by decide +kernel
theorem dX2_init_17 : decode cX2_init 17 = .ok (.putfield 15, 3) := by decide +kernel
theorem dX2_init_20 : decode cX2_init 20 = .ok (.aload_n 0, 1) := by decide +kernel
theorem dX2_init_21 : decode cX2_init 21 = .ok (.bipush 8, 2) := by decide +kernel
theorem dX2_init_23 : decode cX2_init 23 = .ok (.newarray .int, 2) := by decide +kernel
theorem dX2_init_25 : decode cX2_init 25 = .ok (.putfield 18, 3) := by decide +kernel
theorem dX2_init_28 : decode cX2_init 28 = .ok (.aload_n 0, 1) := by decide +kernel
theorem dX2_init_29 : decode cX2_init 29 = .ok (.bipush 8, 2) := by decide +kernel
theorem dX2_init_31 : decode cX2_init 31 = .ok (.newarray .int, 2) := by decide +kernel
theorem dX2_init_33 : decode cX2_init 33 = .ok (.putfield 21, 3) := by decide +kernel
theorem dX2_init_36 : decode cX2_init 36 = .ok (.aload_n 0, 1) := by decide +kernel
theorem dX2_init_37 : decode cX2_init 37 = .ok (.bipush 8, 2) := by decide +kernel
theorem dX2_init_39 : decode cX2_init 39 = .ok (.newarray .int, 2) := by decide +kernel
theorem dX2_init_41 : decode cX2_init 41 = .ok (.putfield 24, 3) := by decide +kernel
theorem dX2_init_44 : decode cX2_init 44 = .ok (.return_, 1) := by decide +kernel
theorem dX2_clear_0 : decode cX2_clear 0 = .ok (.aload_n 0, 1) := by decide +kernel
theorem dX2_clear_1 : decode cX2_clear 1 = .ok (.iconst 0, 1) := by decide +kernel
theorem dX2_clear_2 : decode cX2_clear 2 = .ok (.putfield 27, 3) := by decide +kernel
theorem dX2_clear_5 : decode cX2_clear 5 = .ok (.return_, 1) := by decide +kernel
theorem dX2_use_0 : decode cX2_use 0 = .ok (.aload_n 0, 1) := by decide +kernel
theorem dX2_use_1 : decode cX2_use 1 = .ok (.getfield 27, 3) := by decide +kernel
theorem dX2_use_4 : decode cX2_use 4 = .ok (.bipush 8, 2) := by decide +kernel
theorem dX2_use_6 : decode cX2_use 6 = .ok (.if_icmp .lt 4, 3) := by decide +kernel
theorem dX2_use_9 : decode cX2_use 9 = .ok (.return_, 1) := by decide +kernel
theorem dX2_use_10 : decode cX2_use 10 = .ok (.aload_n 0, 1) := by decide +kernel
theorem dX2_use_11 : decode cX2_use 11 = .ok (.getfield 9, 3) := by decide +kernel
theorem dX2_use_14 : decode cX2_use 14 = .ok (.aload_n 0, 1) := by decide +kernel
theorem dX2_use_15 : decode cX2_use 15 = .ok (.getfield 27, 3) := by decide +kernel
theorem dX2_use_18 : decode cX2_use 18 = .ok (.iload_n 1, 1) := by decide +kernel
theorem dX2_use_19 : decode cX2_use 19 = .ok (.iastore, 1) := by decide +kernel
theorem dX2_use_20 : decode cX2_use 20 = .ok (.aload_n 0, 1) := by decide +kernel
theorem dX2_use_21 : decode cX2_use 21 = .ok (.getfield 15, 3) := by decide +kernel
theorem dX2_use_24 : decode cX2_use 24 = .ok (.aload_n 0, 1) := by decide +kernel
theorem dX2_use_25 : decode cX2_use 25 = .ok (.getfield 27, 3) := by decide +kernel
theorem dX2_use_28 : decode cX2_use 28 = .ok (.iload_n 2, 1) := by decide +kernel
theorem dX2_use_29 : decode cX2_use 29 = .ok (.iastore, 1) := by decide +kernel
theorem dX2_use_30 : decode cX2_use 30 = .ok (.aload_n 0, 1) := by decide +kernel
theorem dX2_use_31 : decode cX2_use 31 = .ok (.getfield 18, 3) := by decide +kernel
theorem dX2_use_34 : decode cX2_use 34 = .ok (.aload_n 0, 1) := by decide +kernel
theorem dX2_use_35 : decode cX2_use 35 = .ok (.getfield 27, 3) := by decide +kernel
theorem dX2_use_38 : decode cX2_use 38 = .ok (.iload_n 3, 1) := by decide +kernel
theorem dX2_use_39 : decode cX2_use 39 = .ok (.iastore, 1) := by decide +kernel
theorem dX2_use_40 : decode cX2_use 40 = .ok (.aload_n 0, 1) := by decide +kernel
theorem dX2_use_41 : decode cX2_use 41 = .ok (.getfield 21, 3) := by decide +kernel
theorem dX2_use_44 : decode cX2_use 44 = .ok (.aload_n 0, 1) := by decide +kernel
theorem dX2_use_45 : decode cX2_use 45 = .ok (.getfield 27, 3) := by decide +kernel
theorem dX2_use_48 : decode cX2_use 48 = .ok (.iload 4, 2) := by decide +kernel
theorem dX2_use_50 : decode cX2_use 50 = .ok (.iastore, 1) := by decide +kernel
theorem dX2_use_51 : decode cX2_use 51 = .ok (.aload_n 0, 1) := by decide +kernel
theorem dX2_use_52 : decode cX2_use 52 = .ok (.dup, 1) := by decide +kernel
theorem dX2_use_53 : decode cX2_use 53 = .ok (.getfield 27, 3) := by decide +kernel
theorem dX2_use_56 : decode cX2_use 56 = .ok (.iconst 1, 1) := by decide +kernel
theorem dX2_use_57 : decode cX2_use 57 = .ok (.iadd, 1) := by decide +kernel
theorem dX2_use_58 : decode cX2_use 58 = .ok (.putfield 27, 3) := by decide +kernel
theorem dX2_use_61 : decode cX2_use 61 = .ok (.return_, 1) := by decide +kernel
theorem dX2_hasSolution_0 : decode cX2_hasSolution 0 = .ok (.aload_n 0, 1) := by decide +kernel
theorem dX2_hasSolution_1 : decode cX2_hasSolution 1 = .ok (.getfield 27, 3) := by decide +kernel
theorem dX2_hasSolution_4 : decode cX2_hasSolution 4 = .ok (.iconst 3, 1) := by decide +kernel
theorem dX2_hasSolution_5 : decode cX2_hasSolution 5 = .ok (.if_icmp .lt 7, 3) := by decide +kernel
theorem dX2_hasSolution_8 : decode cX2_hasSolution 8 = .ok (.iconst 1, 1) := by decide +kernel
theorem dX2_hasSolution_9 : decode cX2_hasSolution 9 = .ok (.goto 4, 3) := by decide +kernel
theorem dX2_hasSolution_12 : decode cX2_hasSolution 12 = .ok (.iconst 0, 1) := by decide +kernel
theorem dX2_hasSolution_13 : decode cX2_hasSolution 13 = .ok (.ireturn, 1) := by decide +kernel
theorem dX2_solve_0 : decode cX2_solve 0 = .ok (.aload_n 0, 1) := by decide +kernel
theorem dX2_solve_1 : decode cX2_solve 1 = .ok (.bipush 99, 2) := by decide +kernel
theorem dX2_solve_3 : decode cX2_solve 3 = .ok (.putfield 31, 3) := by decide +kernel
theorem dX2_solve_6 : decode cX2_solve 6 = .ok (.aload_n 0, 1) := by decide +kernel
theorem dX2_solve_7 : decode cX2_solve 7 = .ok (.invokevirtual 34, 3) := by decide +kernel
theorem dX2_solve_10 : decode cX2_solve 10 = .ok (.ifCond .ne 4, 3) := by decide +kernel
theorem dX2_solve_13 : decode cX2_solve 13 = .ok (.return_, 1) := by decide +kernel
theorem dX2_solve_14 : decode cX2_solve 14 = .ok (.aload_n 0, 1) := by decide +kernel
theorem dX2_solve_15 : decode cX2_solve 15 = .ok (.iconst (-1), 1) := by decide +kernel
theorem dX2_solve_16 : decode cX2_solve 16 = .ok (.invokevirtual 38, 3) := by decide +kernel
theorem dX2_solve_19 : decode cX2_solve 19 = .ok (.aload_n 0, 1) := by decide +kernel
theorem dX2_solve_20 : decode cX2_solve 20 = .ok (.aload_n 0, 1) := by decide +kernel
theorem dX2_solve_21 : decode cX2_solve 21 = .ok (.getfield 42, 3) := by decide +kernel
theorem dX2_solve_24 : decode cX2_solve 24 = .ok (.putfield 45, 3) := by decide +kernel
theorem dX2_solve_27 : decode cX2_solve 27 = .ok (.aload_n 0, 1) := by decide +kernel
theorem dX2_solve_28 : decode cX2_solve 28 = .ok (.aload_n 0, 1) := by decide +kernel
theorem dX2_solve_29 : decode cX2_solve 29 = .ok (.getfield 48, 3) := by decide +kernel
theorem dX2_solve_32 : decode cX2_solve 32 = .ok (.putfield 51, 3) := by decide +kernel
theorem dX2_solve_35 : decode cX2_solve 35 = .ok (.aload_n 0, 1) := by decide +kernel
theorem dX2_solve_36 : decode cX2_solve 36 = .ok (.aload_n 0, 1) := by decide +kernel
theorem dX2_solve_37 : decode cX2_solve 37 = .ok (.getfield 54, 3) := by decide +kernel
theorem dX2_solve_40 : decode cX2_solve 40 = .ok (.putfield 57, 3) := by decide +kernel
theorem dX2_solve_43 : decode cX2_solve 43 = .ok (.aload_n 0, 1) := by decide +kernel
theorem dX2_solve_44 : decode cX2_solve 44 = .ok (.aload_n 0, 1) := by decide +kernel
theorem dX2_solve_45 : decode cX2_solve 45 = .ok (.getfield 60, 3) := by decide +kernel
theorem dX2_solve_48 : decode cX2_solve 48 = .ok (.putfield 64, 3) := by decide +kernel
theorem dX2_solve_51 : decode cX2_solve 51 = .ok (.aload_n 0, 1) := by decide +kernel
theorem dX2_solve_52 : decode cX2_solve 52 = .ok (.getfield 27, 3) := by decide +kernel
theorem dX2_solve_55 : decode cX2_solve 55 = .ok (.iconst 4, 1) := by decide +kernel
theorem dX2_solve_56 : decode cX2_solve 56 = .ok (.if_icmp .ge 4, 3) := by decide +kernel
theorem dX2_solve_59 : decode cX2_solve 59 = .ok (.return_, 1) := by decide +kernel
theorem dX2_solve_60 : decode cX2_solve 60 = .ok (.iconst 0, 1) := by decide +kernel
theorem dX2_solve_61 : decode cX2_solve 61 = .ok (.istore_n 1, 1) := by decide +kernel
theorem dX2_solve_62 : decode cX2_solve 62 = .ok (.iconst 0, 1) := by decide +kernel
theorem dX2_solve_63 : decode cX2_solve 63 = .ok (.istore_n 2, 1) := by decide +kernel
theorem dX2_solve_64 : decode cX2_solve 64 = .ok (.iload_n 2, 1) := by decide +kernel
theorem dX2_solve_65 : decode cX2_solve 65 = .ok (.aload_n 0, 1) := by decide +kernel
theorem dX2_solve_66 : decode cX2_solve 66 = .ok (.getfield 27, 3) := by decide +kernel
theorem dX2_solve_69 : decode cX2_solve 69 = .ok (.if_icmp .ge 38, 3) := by decide +kernel
theorem dX2_solve_72 : decode cX2_solve 72 = .ok (.aload_n 0, 1) := by decide +kernel
theorem dX2_solve_73 : decode cX2_solve 73 = .ok (.iload_n 2, 1) := by decide +kernel
theorem dX2_solve_74 : decode cX2_solve 74 = .ok (.invokevirtual 38, 3) := by decide +kernel
theorem dX2_solve_77 : decode cX2_solve 77 = .ok (.iload_n 1, 1) := by decide +kernel
theorem dX2_solve_78 : decode cX2_solve 78 = .ok (.aload_n 0, 1) := by decide +kernel
theorem dX2_solve_79 : decode cX2_solve 79 = .ok (.getfield 45, 3) := by decide +kernel
theorem dX2_solve_82 : decode cX2_solve 82 = .ok (.aload_n 0, 1) := by decide +kernel
theorem dX2_solve_83 : decode cX2_solve 83 = .ok (.getfield 51, 3) := by decide +kernel
theorem dX2_solve_86 : decode cX2_solve 86 = .ok (.aload_n 0, 1) := by decide +kernel
theorem dX2_solve_87 : decode cX2_solve 87 = .ok (.getfield 42, 3) := by decide +kernel
theorem dX2_solve_90 : decode cX2_solve 90 = .ok (.aload_n 0, 1) := by decide +kernel
theorem dX2_solve_91 : decode cX2_solve 91 = .ok (.getfield 48, 3) := by decide +kernel
theorem dX2_solve_94 : decode cX2_solve 94 = .ok (.invokestatic 67, 3) := by decide +kernel
theorem dX2_solve_97 : decode cX2_solve 97 = .ok (.invokestatic 71, 3) := by decide +kernel
theorem dX2_solve_100 : decode cX2_solve 100 = .ok (.istore_n 1, 1) := by decide +kernel
theorem dX2_solve_101 : decode cX2_solve 101 = .ok (.iinc 2 1, 3) := by decide +kernel
theorem dX2_solve_104 : decode cX2_solve 104 = .ok (.goto (-40), 3) := by decide +kernel
theorem dX2_solve_107 : decode cX2_solve 107 = .ok (.aload_n 0, 1) := by decide +kernel
theorem dX2_solve_108 : decode cX2_solve 108 = .ok (.iconst 3, 1) := by decide +kernel
theorem dX2_solve_109 : decode cX2_solve 109 = .ok (.iload_n 1, 1) := by decide +kernel
theorem dX2_solve_110 : decode cX2_solve 110 = .ok (.iadd, 1) := by decide +kernel
theorem dX2_solve_111 : decode cX2_solve 111 = .ok (.putfield 31, 3) := by decide +kernel
theorem dX2_solve_114 : decode cX2_solve 114 = .ok (.return_, 1) := by decide +kernel
theorem dX2_search_0 : decode cX2_search 0 = .ok (.aload_n 0, 1) := by decide +kernel
theorem dX2_search_1 : decode cX2_search 1 = .ok (.ldc2_w 77, 3) := by decide +kernel
theorem dX2_search_4 : decode cX2_search 4 = .ok (.putfield 60, 3) := by decide +kernel
theorem dX2_search_7 : decode cX2_search 7 = .ok (.iconst 0, 1) := by decide +kernel
theorem dX2_search_8 : decode cX2_search 8 = .ok (.istore_n 2, 1) := by decide +kernel
theorem dX2_search_9 : decode cX2_search 9 = .ok (.iload_n 2, 1) := by decide +kernel
theorem dX2_search_10 : decode cX2_search 10 = .ok (.bipush 12, 2) := by decide +kernel
theorem dX2_search_12 : decode cX2_search 12 = .ok (.if_icmp .gt 31, 3) := by decide +kernel
theorem dX2_search_15 : decode cX2_search 15 = .ok (.bipush (-12), 2) := by decide +kernel
theorem dX2_search_17 : decode cX2_search 17 = .ok (.istore_n 3, 1) := by decide +kernel
theorem dX2_search_18 : decode cX2_search 18 = .ok (.iload_n 3, 1) := by decide +kernel
theorem dX2_search_19 : decode cX2_search 19 = .ok (.bipush 12, 2) := by decide +kernel
theorem dX2_search_21 : decode cX2_search 21 = .ok (.if_icmp .gt 16, 3) := by decide +kernel
theorem dX2_search_24 : decode cX2_search 24 = .ok (.aload_n 0, 1) := by decide +kernel
theorem dX2_search_25 : decode cX2_search 25 = .ok (.iload_n 3, 1) := by decide +kernel
theorem dX2_search_26 : decode cX2_search 26 = .ok (.iload_n 2, 1) := by decide +kernel
theorem dX2_search_27 : decode cX2_search 27 = .ok (.iload_n 1, 1) := by decide +kernel
theorem dX2_search_28 : decode cX2_search 28 = .ok (.invokevirtual 79, 3) := by decide +kernel
theorem dX2_search_31 : decode cX2_search 31 = .ok (.iinc 3 1, 3) := by decide +kernel
theorem dX2_search_34 : decode cX2_search 34 = .ok (.goto (-16), 3) := by decide +kernel
theorem dX2_search_37 : decode cX2_search 37 = .ok (.iinc 2 1, 3) := by decide +kernel
theorem dX2_search_40 : decode cX2_search 40 = .ok (.goto (-31), 3) := by decide +kernel
theorem dX2_search_43 : decode cX2_search 43 = .ok (.return_, 1) := by decide +kernel
theorem dX2_tryPlace_0 : decode cX2_tryPlace 0 = .ok (.iconst 0, 1) := by decide +kernel
theorem dX2_tryPlace_1 : decode cX2_tryPlace 1 = .ok (.istore 4, 2) := by decide +kernel
theorem dX2_tryPlace_3 : decode cX2_tryPlace 3 = .ok (.iconst 0, 1) := by decide +kernel
theorem dX2_tryPlace_4 : decode cX2_tryPlace 4 = .ok (.istore 5, 2) := by decide +kernel
theorem dX2_tryPlace_6 : decode cX2_tryPlace 6 = .ok (.iconst 0, 1) := by decide +kernel
theorem dX2_tryPlace_7 : decode cX2_tryPlace 7 = .ok (.istore 6, 2) := by decide +kernel
theorem dX2_tryPlace_9 : decode cX2_tryPlace 9 = .ok (.iload 6, 2) := by decide +kernel
theorem dX2_tryPlace_11 : decode cX2_tryPlace 11 = .ok (.aload_n 0, 1) := by decide +kernel
theorem dX2_tryPlace_12 : decode cX2_tryPlace 12 = .ok (.getfield 27, 3) := by decide +kernel
theorem dX2_tryPlace_15 : decode cX2_tryPlace 15 = .ok (.if_icmp .ge 81, 3) := by decide +kernel
theorem dX2_tryPlace_18 : decode cX2_tryPlace 18 = .ok (.aload_n 0, 1) := by decide +kernel
theorem dX2_tryPlace_19 : decode cX2_tryPlace 19 = .ok (.getfield 24, 3) := by decide +kernel
theorem dX2_tryPlace_22 : decode cX2_tryPlace 22 = .ok (.iload 6, 2) := by decide +kernel
theorem dX2_tryPlace_24 : decode cX2_tryPlace 24 = .ok (.aload_n 0, 1) := by decide +kernel
theorem dX2_tryPlace_25 : decode cX2_tryPlace 25 = .ok (.getfield 18, 3) := by decide +kernel
theorem dX2_tryPlace_28 : decode cX2_tryPlace 28 = .ok (.iload 6, 2) := by decide +kernel
theorem dX2_tryPlace_30 : decode cX2_tryPlace 30 = .ok (.iaload, 1) := by decide +kernel
theorem dX2_tryPlace_31 : decode cX2_tryPlace 31 = .ok (.iload_n 1, 1) := by decide +kernel
theorem dX2_tryPlace_32 : decode cX2_tryPlace 32 = .ok (.iload_n 2, 1) := by decide +kernel
theorem dX2_tryPlace_33 : decode cX2_tryPlace 33 = .ok (.aload_n 0, 1) := by decide +kernel
theorem dX2_tryPlace_34 : decode cX2_tryPlace 34 = .ok (.getfield 9, 3) := by decide +kernel
theorem dX2_tryPlace_37 : decode cX2_tryPlace 37 = .ok (.iload 6, 2) := by decide +kernel
theorem dX2_tryPlace_39 : decode cX2_tryPlace 39 = .ok (.iaload, 1) := by decide +kernel
theorem dX2_tryPlace_40 : decode cX2_tryPlace 40 = .ok (.aload_n 0, 1) := by decide +kernel
theorem dX2_tryPlace_41 : decode cX2_tryPlace 41 = .ok (.getfield 15, 3) := by decide +kernel
theorem dX2_tryPlace_44 : decode cX2_tryPlace 44 = .ok (.iload 6, 2) := by decide +kernel
theorem dX2_tryPlace_46 : decode cX2_tryPlace 46 = .ok (.iaload, 1) := by decide +kernel
theorem dX2_tryPlace_47 : decode cX2_tryPlace 47 = .ok (.invokestatic 67, 3) := by decide +kernel
theorem dX2_tryPlace_50 : decode cX2_tryPlace 50 = .ok (.isub, 1) := by decide +kernel
theorem dX2_tryPlace_51 : decode cX2_tryPlace 51 = .ok (.iastore, 1) := by decide +kernel
theorem dX2_tryPlace_52 : decode cX2_tryPlace 52 = .ok (.iload 6, 2) := by decide +kernel
theorem dX2_tryPlace_54 : decode cX2_tryPlace 54 = .ok (.iload_n 3, 1) := by decide +kernel
theorem dX2_tryPlace_55 : decode cX2_tryPlace 55 = .ok (.if_icmp .eq 35, 3) := by decide +kernel
theorem dX2_tryPlace_58 : decode cX2_tryPlace 58 = .ok (.iload 4, 2) := by decide +kernel
theorem dX2_tryPlace_60 : decode cX2_tryPlace 60 = .ok (.aload_n 0, 1) := by decide +kernel
theorem dX2_tryPlace_61 : decode cX2_tryPlace 61 = .ok (.getfield 21, 3) := by decide +kernel
theorem dX2_tryPlace_64 : decode cX2_tryPlace 64 = .ok (.iload 6, 2) := by decide +kernel
theorem dX2_tryPlace_66 : decode cX2_tryPlace 66 = .ok (.iaload, 1) := by decide +kernel
theorem dX2_tryPlace_67 : decode cX2_tryPlace 67 = .ok (.aload_n 0, 1) := by decide +kernel
theorem dX2_tryPlace_68 : decode cX2_tryPlace 68 = .ok (.getfield 24, 3) := by decide +kernel
theorem dX2_tryPlace_71 : decode cX2_tryPlace 71 = .ok (.iload 6, 2) := by decide +kernel
theorem dX2_tryPlace_73 : decode cX2_tryPlace 73 = .ok (.iaload, 1) := by decide +kernel
theorem dX2_tryPlace_74 : decode cX2_tryPlace 74 = .ok (.imul, 1) := by decide +kernel
theorem dX2_tryPlace_75 : decode cX2_tryPlace 75 = .ok (.iadd, 1) := by decide +kernel
theorem dX2_tryPlace_76 : decode cX2_tryPlace 76 = .ok (.istore 4, 2) := by decide +kernel
theorem dX2_tryPlace_78 : decode cX2_tryPlace 78 = .ok (.iload 5, 2) := by decide +kernel
theorem dX2_tryPlace_80 : decode cX2_tryPlace 80 = .ok (.aload_n 0, 1) := by decide +kernel
theorem dX2_tryPlace_81 : decode cX2_tryPlace 81 = .ok (.getfield 21, 3) := by decide +kernel
theorem dX2_tryPlace_84 : decode cX2_tryPlace 84 = .ok (.iload 6, 2) := by decide +kernel
theorem dX2_tryPlace_86 : decode cX2_tryPlace 86 = .ok (.iaload, 1) := by decide +kernel
theorem dX2_tryPlace_87 : decode cX2_tryPlace 87 = .ok (.iadd, 1) := by decide +kernel
theorem dX2_tryPlace_88 : decode cX2_tryPlace 88 = .ok (.istore 5, 2) := by decide +kernel
theorem dX2_tryPlace_90 : decode cX2_tryPlace 90 = .ok (.iinc 6 1, 3) := by decide +kernel
theorem dX2_tryPlace_93 : decode cX2_tryPlace 93 = .ok (.goto (-84), 3) := by decide +kernel
theorem dX2_tryPlace_96 : decode cX2_tryPlace 96 = .ok (.iload 5, 2) := by decide +kernel
theorem dX2_tryPlace_98 : decode cX2_tryPlace 98 = .ok (.ifCond .ne 7, 3) := by decide +kernel
theorem dX2_tryPlace_101 : decode cX2_tryPlace 101 = .ok (.iconst 0, 1) := by decide +kernel
theorem dX2_tryPlace_102 : decode cX2_tryPlace 102 = .ok (.goto 10, 3) := by decide +kernel
theorem dX2_tryPlace_105 : decode cX2_tryPlace 105 = .ok (.iload 4, 2) := by decide +kernel
theorem dX2_tryPlace_107 : decode cX2_tryPlace 107 = .ok (.iload 5, 2) := by decide +kernel
theorem dX2_tryPlace_109 : decode cX2_tryPlace 109 = .ok (.invokestatic 83, 3) := by decide +kernel
theorem dX2_tryPlace_112 : decode cX2_tryPlace 112 = .ok (.istore 6, 2) := by decide +kernel
theorem dX2_tryPlace_114 : decode cX2_tryPlace 114 = .ok (.aload_n 0, 1) := by decide +kernel
theorem dX2_tryPlace_115 : decode cX2_tryPlace 115 = .ok (.iload 6, 2) := by decide +kernel
theorem dX2_tryPlace_117 : decode cX2_tryPlace 117 = .ok (.iload_n 3, 1) := by decide +kernel
theorem dX2_tryPlace_118 : decode cX2_tryPlace 118 = .ok (.invokevirtual 86, 3) := by decide +kernel
theorem dX2_tryPlace_121 : decode cX2_tryPlace 121 = .ok (.lstore 7, 2) := by decide +kernel
theorem dX2_tryPlace_123 : decode cX2_tryPlace 123 = .ok (.aload_n 0, 1) := by decide +kernel
theorem dX2_tryPlace_124 : decode cX2_tryPlace 124 = .ok (.getfield 60, 3) := by decide +kernel
theorem dX2_tryPlace_127 : decode cX2_tryPlace 127 = .ok (.ldc2_w 77, 3) := by decide +kernel
theorem dX2_tryPlace_130 : decode cX2_tryPlace 130 = .ok (.lcmp, 1) := by decide +kernel
theorem dX2_tryPlace_131 : decode cX2_tryPlace 131 = .ok (.ifCond .eq 13, 3) := by decide +kernel
theorem dX2_tryPlace_134 : decode cX2_tryPlace 134 = .ok (.lload 7, 2) := by decide +kernel
theorem dX2_tryPlace_136 : decode cX2_tryPlace 136 = .ok (.aload_n 0, 1) := by decide +kernel
theorem dX2_tryPlace_137 : decode cX2_tryPlace 137 = .ok (.getfield 60, 3) := by decide +kernel
theorem dX2_tryPlace_140 : decode cX2_tryPlace 140 = .ok (.lcmp, 1) := by decide +kernel
theorem dX2_tryPlace_141 : decode cX2_tryPlace 141 = .ok (.ifCond .ge 25, 3) := by decide +kernel
theorem dX2_tryPlace_144 : decode cX2_tryPlace 144 = .ok (.aload_n 0, 1) := by decide +kernel
theorem dX2_tryPlace_145 : decode cX2_tryPlace 145 = .ok (.iload_n 1, 1) := by decide +kernel
theorem dX2_tryPlace_146 : decode cX2_tryPlace 146 = .ok (.putfield 42, 3) := by decide +kernel
theorem dX2_tryPlace_149 : decode cX2_tryPlace 149 = .ok (.aload_n 0, 1) := by decide +kernel
theorem dX2_tryPlace_150 : decode cX2_tryPlace 150 = .ok (.iload_n 2, 1) := by decide +kernel
theorem dX2_tryPlace_151 : decode cX2_tryPlace 151 = .ok (.putfield 48, 3) := by decide +kernel
theorem dX2_tryPlace_154 : decode cX2_tryPlace 154 = .ok (.aload_n 0, 1) := by decide +kernel
theorem dX2_tryPlace_155 : decode cX2_tryPlace 155 = .ok (.iload 6, 2) := by decide +kernel
theorem dX2_tryPlace_157 : decode cX2_tryPlace 157 = .ok (.putfield 54, 3) := by decide +kernel
theorem dX2_tryPlace_160 : decode cX2_tryPlace 160 = .ok (.aload_n 0, 1) := by decide +kernel
theorem dX2_tryPlace_161 : decode cX2_tryPlace 161 = .ok (.lload 7, 2) := by decide +kernel
theorem dX2_tryPlace_163 : decode cX2_tryPlace 163 = .ok (.putfield 60, 3) := by decide +kernel
theorem dX2_tryPlace_166 : decode cX2_tryPlace 166 = .ok (.return_, 1) := by decide +kernel
theorem dX2_costBy_0 : decode cX2_costBy 0 = .ok (.lconst 0, 1) := by decide +kernel
theorem dX2_costBy_1 : decode cX2_costBy 1 = .ok (.lstore_n 3, 1) := by decide +kernel
theorem dX2_costBy_2 : decode cX2_costBy 2 = .ok (.iconst 0, 1) := by decide +kernel
theorem dX2_costBy_3 : decode cX2_costBy 3 = .ok (.istore 5, 2) := by decide +kernel
theorem dX2_costBy_5 : decode cX2_costBy 5 = .ok (.iload 5, 2) := by decide +kernel
theorem dX2_costBy_7 : decode cX2_costBy 7 = .ok (.aload_n 0, 1) := by decide +kernel
theorem dX2_costBy_8 : decode cX2_costBy 8 = .ok (.getfield 27, 3) := by decide +kernel
theorem dX2_costBy_11 : decode cX2_costBy 11 = .ok (.if_icmp .ge 44, 3) := by decide +kernel
theorem dX2_costBy_14 : decode cX2_costBy 14 = .ok (.iload 5, 2) := by decide +kernel
theorem dX2_costBy_16 : decode cX2_costBy 16 = .ok (.iload_n 2, 1) := by decide +kernel
theorem dX2_costBy_17 : decode cX2_costBy 17 = .ok (.if_icmp .eq 32, 3) := by decide +kernel
theorem dX2_costBy_20 : decode cX2_costBy 20 = .ok (.aload_n 0, 1) := by decide +kernel
theorem dX2_costBy_21 : decode cX2_costBy 21 = .ok (.getfield 24, 3) := by decide +kernel
theorem dX2_costBy_24 : decode cX2_costBy 24 = .ok (.iload 5, 2) := by decide +kernel
theorem dX2_costBy_26 : decode cX2_costBy 26 = .ok (.iaload, 1) := by decide +kernel
theorem dX2_costBy_27 : decode cX2_costBy 27 = .ok (.iload_n 1, 1) := by decide +kernel
theorem dX2_costBy_28 : decode cX2_costBy 28 = .ok (.isub, 1) := by decide +kernel
theorem dX2_costBy_29 : decode cX2_costBy 29 = .ok (.i2l, 1) := by decide +kernel
theorem dX2_costBy_30 : decode cX2_costBy 30 = .ok (.lstore 6, 2) := by decide +kernel
theorem dX2_costBy_32 : decode cX2_costBy 32 = .ok (.lload_n 3, 1) := by decide +kernel
theorem dX2_costBy_33 : decode cX2_costBy 33 = .ok (.aload_n 0, 1) := by decide +kernel
theorem dX2_costBy_34 : decode cX2_costBy 34 = .ok (.getfield 21, 3) := by decide +kernel
theorem dX2_costBy_37 : decode cX2_costBy 37 = .ok (.iload 5, 2) := by decide +kernel
theorem dX2_costBy_39 : decode cX2_costBy 39 = .ok (.iaload, 1) := by decide +kernel
theorem dX2_costBy_40 : decode cX2_costBy 40 = .ok (.i2l, 1) := by decide +kernel
theorem dX2_costBy_41 : decode cX2_costBy 41 = .ok (.lload 6, 2) := by decide +kernel
theorem dX2_costBy_43 : decode cX2_costBy 43 = .ok (.lmul, 1) := by decide +kernel
theorem dX2_costBy_44 : decode cX2_costBy 44 = .ok (.lload 6, 2) := by decide +kernel
theorem dX2_costBy_46 : decode cX2_costBy 46 = .ok (.lmul, 1) := by decide +kernel
theorem dX2_costBy_47 : decode cX2_costBy 47 = .ok (.ladd, 1) := by decide +kernel
theorem dX2_costBy_48 : decode cX2_costBy 48 = .ok (.lstore_n 3, 1) := by decide +kernel
theorem dX2_costBy_49 : decode cX2_costBy 49 = .ok (.iinc 5 1, 3) := by decide +kernel
theorem dX2_costBy_52 : decode cX2_costBy 52 = .ok (.goto (-47), 3) := by decide +kernel
theorem dX2_costBy_55 : decode cX2_costBy 55 = .ok (.lload_n 3, 1) := by decide +kernel
theorem dX2_costBy_56 : decode cX2_costBy 56 = .ok (.lreturn, 1) := by decide +kernel
theorem dX3_init_0 : decode cX3_init 0 = .ok (.aload_n 0, 1) := by decide +kernel
theorem dX3_init_1 : decode cX3_init 1 = .ok (.invokespecial 3, 3) := by decide +kernel
theorem dX3_init_4 : decode cX3_init 4 = .ok (.aload_n 0, 1) := by decide +kernel
theorem dX3_init_5 : decode cX3_init 5 = .ok (.iload_n 1, 1) := by decide +kernel
theorem dX3_init_6 : decode cX3_init 6 = .ok (.putfield 9, 3) := by decide +kernel
theorem dX3_init_9 : decode cX3_init 9 = .ok (.aload_n 0, 1) := by decide +kernel
theorem dX3_init_10 : decode cX3_init 10 = .ok (.iload_n 2, 1) := by decide +kernel
theorem dX3_init_11 : decode cX3_init 11 = .ok (.putfield 15, 3) := by decide +kernel
theorem dX3_init_14 : decode cX3_init 14 = .ok (.aload_n 0, 1) := by decide +kernel
theorem dX3_init_15 : decode cX3_init 15 = .ok (.iload_n 3, 1) := by decide +kernel
theorem dX3_init_16 : decode cX3_init 16 = .ok (.putfield 18, 3) := by decide +kernel
theorem dX3_init_19 : decode cX3_init 19 = .ok (.aload_n 0, 1) := by decide +kernel
theorem dX3_init_20 : decode cX3_init 20 = .ok (.iload 4, 2) := by decide +kernel
theorem dX3_init_22 : decode cX3_init 22 = .ok (.putfield 21, 3) := by decide +kernel
theorem dX3_init_25 : decode cX3_init 25 = .ok (.aload_n 0, 1) := by decide +kernel
theorem dX3_init_26 : decode cX3_init 26 = .ok (.iload 5, 2) := by decide +kernel
theorem dX3_init_28 : decode cX3_init 28 = .ok (.putfield 24, 3) := by decide +kernel
theorem dX3_init_31 : decode cX3_init 31 = .ok (.aload_n 0, 1) := by decide +kernel
theorem dX3_init_32 : decode cX3_init 32 = .ok (.iconst 1, 1) := by decide +kernel
theorem dX3_init_33 : decode cX3_init 33 = .ok (.putfield 27, 3) := by decide +kernel
theorem dX3_init_36 : decode cX3_init 36 = .ok (.aload_n 0, 1) := by decide +kernel
theorem dX3_init_37 : decode cX3_init 37 = .ok (.iconst (-1), 1) := by decide +kernel
theorem dX3_init_38 : decode cX3_init 38 = .ok (.putfield 31, 3) := by decide +kernel
theorem dX3_init_41 : decode cX3_init 41 = .ok (.aload_n 0, 1) := by decide +kernel
theorem dX3_init_42 : decode cX3_init 42 = .ok (.iconst (-1), 1) := by decide +kernel
theorem dX3_init_43 : decode cX3_init 43 = .ok (.putfield 34, 3) := by decide +kernel
theorem dX3_init_46 : decode cX3_init 46 = .ok (.return_, 1) := by decide +kernel
theorem dX3_moveClock_0 : decode cX3_moveClock 0 = .ok (.aload_n 0, 1) := by decide +kernel
theorem dX3_moveClock_1 : decode cX3_moveClock 1 = .ok (.aload_n 0, 1) := by decide +kernel
theorem dX3_moveClock_2 : decode cX3_moveClock 2 = .ok (.getfield 21, 3) := by decide +kernel
theorem dX3_moveClock_5 : decode cX3_moveClock 5 = .ok (.iload_n 1, 1) := by decide +kernel
theorem dX3_moveClock_6 : decode cX3_moveClock 6 = .ok (.iadd, 1) := by decide +kernel
theorem dX3_moveClock_7 : decode cX3_moveClock 7 = .ok (.sipush 999, 3) := by decide +kernel
theorem dX3_moveClock_10 : decode cX3_moveClock 10 = .ok (.invokestatic 37, 3) := by decide +kernel
theorem dX3_moveClock_13 : decode cX3_moveClock 13 = .ok (.putfield 21, 3) := by decide +kernel
theorem dX3_moveClock_16 : decode cX3_moveClock 16 = .ok (.return_, 1) := by decide +kernel
theorem dX3_passOne_0 : decode cX3_passOne 0 = .ok (.aload_n 0, 1) := by decide +kernel
theorem dX3_passOne_1 : decode cX3_passOne 1 = .ok (.aload_n 0, 1) := by decide +kernel
theorem dX3_passOne_2 : decode cX3_passOne 2 = .ok (.getfield 15, 3) := by decide +kernel
theorem dX3_passOne_5 : decode cX3_passOne 5 = .ok (.aload_n 0, 1) := by decide +kernel
theorem dX3_passOne_6 : decode cX3_passOne 6 = .ok (.getfield 18, 3) := by decide +kernel
theorem dX3_passOne_9 : decode cX3_passOne 9 = .ok (.iadd, 1) := by decide +kernel
theorem dX3_passOne_10 : decode cX3_passOne 10 = .ok (.bipush 48, 2) := by decide +kernel
theorem dX3_passOne_12 : decode cX3_passOne 12 = .ok (.invokestatic 41, 3) := by decide +kernel
theorem dX3_passOne_15 : decode cX3_passOne 15 = .ok (.putfield 15, 3) := by decide +kernel
theorem dX3_passOne_18 : decode cX3_passOne 18 = .ok (.aload_n 0, 1) := by decide +kernel
theorem dX3_passOne_19 : decode cX3_passOne 19 = .ok (.aload_n 0, 1) := by decide +kernel
theorem dX3_passOne_20 : decode cX3_passOne 20 = .ok (.getfield 24, 3) := by decide +kernel
theorem dX3_passOne_23 : decode cX3_passOne 23 = .ok (.invokevirtual 46, 3) := by decide +kernel
theorem dX3_passOne_26 : decode cX3_passOne 26 = .ok (.return_, 1) := by decide +kernel
theorem dX3_xIn_0 : decode cX3_xIn 0 = .ok (.aload_n 0, 1) := by decide +kernel
theorem dX3_xIn_1 : decode cX3_xIn 1 = .ok (.getfield 9, 3) := by decide +kernel
theorem dX3_xIn_4 : decode cX3_xIn 4 = .ok (.aload_n 0, 1) := by decide +kernel
theorem dX3_xIn_5 : decode cX3_xIn 5 = .ok (.getfield 15, 3) := by decide +kernel
theorem dX3_xIn_8 : decode cX3_xIn 8 = .ok (.iload_n 1, 1) := by decide +kernel
theorem dX3_xIn_9 : decode cX3_xIn 9 = .ok (.aload_n 0, 1) := by decide +kernel
theorem dX3_xIn_10 : decode cX3_xIn 10 = .ok (.getfield 18, 3) := by decide +kernel
theorem dX3_xIn_13 : decode cX3_xIn 13 = .ok (.imul, 1) := by decide +kernel
theorem dX3_xIn_14 : decode cX3_xIn 14 = .ok (.iadd, 1) := by decide +kernel
theorem dX3_xIn_15 : decode cX3_xIn 15 = .ok (.invokestatic 50, 3) := by decide +kernel
theorem dX3_xIn_18 : decode cX3_xIn 18 = .ok (.imul, 1) := by decide +kernel
theorem dX3_xIn_19 : decode cX3_xIn 19 = .ok (.bipush 12, 2) := by decide +kernel
theorem dX3_xIn_21 : decode cX3_xIn 21 = .ok (.idiv, 1) := by decide +kernel
theorem dX3_xIn_22 : decode cX3_xIn 22 = .ok (.ireturn, 1) := by decide +kernel
theorem dX3_yIn_0 : decode cX3_yIn 0 = .ok (.aload_n 0, 1) := by decide +kernel
theorem dX3_yIn_1 : decode cX3_yIn 1 = .ok (.getfield 9, 3) := by decide +kernel
theorem dX3_yIn_4 : decode cX3_yIn 4 = .ok (.aload_n 0, 1) := by decide +kernel
theorem dX3_yIn_5 : decode cX3_yIn 5 = .ok (.getfield 15, 3) := by decide +kernel
theorem dX3_yIn_8 : decode cX3_yIn 8 = .ok (.iload_n 1, 1) := by decide +kernel
theorem dX3_yIn_9 : decode cX3_yIn 9 = .ok (.aload_n 0, 1) := by decide +kernel
theorem dX3_yIn_10 : decode cX3_yIn 10 = .ok (.getfield 18, 3) := by decide +kernel
theorem dX3_yIn_13 : decode cX3_yIn 13 = .ok (.imul, 1) := by decide +kernel
theorem dX3_yIn_14 : decode cX3_yIn 14 = .ok (.iadd, 1) := by decide +kernel
theorem dX3_yIn_15 : decode cX3_yIn 15 = .ok (.bipush 12, 2) := by decide +kernel
theorem dX3_yIn_17 : decode cX3_yIn 17 = .ok (.iadd, 1) := by decide +kernel
theorem dX3_yIn_18 : decode cX3_yIn 18 = .ok (.invokestatic 50, 3) := by decide +kernel
theorem dX3_yIn_21 : decode cX3_yIn 21 = .ok (.imul, 1) := by decide +kernel
theorem dX3_yIn_22 : decode cX3_yIn 22 = .ok (.bipush 12, 2) := by decide +kernel
theorem dX3_yIn_24 : decode cX3_yIn 24 = .ok (.idiv, 1) := by decide +kernel
theorem dX3_yIn_25 : decode cX3_yIn 25 = .ok (.ireturn, 1) := by decide +kernel
theorem dX3_takeMessage_0 : decode cX3_takeMessage 0 = .ok (.aload_n 0, 1) := by decide +kernel
theorem dX3_takeMessage_1 : decode cX3_takeMessage 1 = .ok (.getfield 21, 3) := by decide +kernel
theorem dX3_takeMessage_4 : decode cX3_takeMessage 4 = .ok (.iload_n 2, 1) := by decide +kernel
theorem dX3_takeMessage_5 : decode cX3_takeMessage 5 = .ok (.iadd, 1) := by decide +kernel
theorem dX3_takeMessage_6 : decode cX3_takeMessage 6 = .ok (.istore_n 3, 1) := by decide +kernel
theorem dX3_takeMessage_7 : decode cX3_takeMessage 7 = .ok (.iload_n 1, 1) := by decide +kernel
theorem dX3_takeMessage_8 : decode cX3_takeMessage 8 = .ok (.aload_n 0, 1) := by decide +kernel
theorem dX3_takeMessage_9 : decode cX3_takeMessage 9 = .ok (.getfield 31, 3) := by decide +kernel
theorem dX3_takeMessage_12 : decode cX3_takeMessage 12 = .ok (.isub, 1) := by decide +kernel
theorem dX3_takeMessage_13 : decode cX3_takeMessage 13 = .ok (.istore 4, 2) := by decide +kernel
theorem dX3_takeMessage_15 : decode cX3_takeMessage 15 = .ok (.aload_n 0, 1) := by decide +kernel
theorem dX3_takeMessage_16 : decode cX3_takeMessage 16 = .ok (.getfield 54, 3) := by decide +kernel
theorem dX3_takeMessage_19 : decode cX3_takeMessage 19 = .ok (.ifCond .le 26, 3) := by decide +kernel
theorem dX3_takeMessage_22 : decode cX3_takeMessage 22 = .ok (.iload 4, 2) := by decide +kernel
theorem dX3_takeMessage_24 : decode cX3_takeMessage 24 = .ok (.ifCond .eq 21, 3) := by decide +kernel
theorem dX3_takeMessage_27 : decode cX3_takeMessage 27 = .ok (.aload_n 0, 1) := by decide +kernel
theorem dX3_takeMessage_28 : decode cX3_takeMessage 28 = .ok (.iload_n 3, 1) := by decide +kernel
theorem dX3_takeMessage_29 : decode cX3_takeMessage 29 = .ok (.aload_n 0, 1) := by decide +kernel
theorem dX3_takeMessage_30 : decode cX3_takeMessage 30 = .ok (.getfield 57, 3) := by decide +kernel
theorem dX3_takeMessage_33 : decode cX3_takeMessage 33 = .ok (.isub, 1) := by decide +kernel
theorem dX3_takeMessage_34 : decode cX3_takeMessage 34 = .ok (.iload 4, 2) := by decide +kernel
theorem dX3_takeMessage_36 : decode cX3_takeMessage 36 = .ok (.idiv, 1) := by decide +kernel
theorem dX3_takeMessage_37 : decode cX3_takeMessage 37 = .ok (.bipush 9, 2) := by decide +kernel
theorem dX3_takeMessage_39 : decode cX3_takeMessage 39 = .ok (.invokestatic 37, 3) := by decide +kernel
theorem dX3_takeMessage_42 : decode cX3_takeMessage 42 = .ok (.putfield 60, 3) := by decide +kernel
theorem dX3_takeMessage_45 : decode cX3_takeMessage 45 = .ok (.aload_n 0, 1) := by decide +kernel
theorem dX3_takeMessage_46 : decode cX3_takeMessage 46 = .ok (.dup, 1) := by decide +kernel
theorem dX3_takeMessage_47 : decode cX3_takeMessage 47 = .ok (.getfield 54, 3) := by decide +kernel
theorem dX3_takeMessage_50 : decode cX3_takeMessage 50 = .ok (.iconst 1, 1) := by decide +kernel
theorem dX3_takeMessage_51 : decode cX3_takeMessage 51 = .ok (.iadd, 1) := by decide +kernel
theorem dX3_takeMessage_52 : decode cX3_takeMessage 52 = .ok (.putfield 54, 3) := by decide +kernel
theorem dX3_takeMessage_55 : decode cX3_takeMessage 55 = .ok (.aload_n 0, 1) := by decide +kernel
theorem dX3_takeMessage_56 : decode cX3_takeMessage 56 = .ok (.iload_n 1, 1) := by decide +kernel
theorem dX3_takeMessage_57 : decode cX3_takeMessage 57 = .ok (.putfield 31, 3) := by decide +kernel
theorem dX3_takeMessage_60 : decode cX3_takeMessage 60 = .ok (.aload_n 0, 1) := by decide +kernel
theorem dX3_takeMessage_61 : decode cX3_takeMessage 61 = .ok (.aload_n 0, 1) := by decide +kernel
theorem dX3_takeMessage_62 : decode cX3_takeMessage 62 = .ok (.getfield 15, 3) := by decide +kernel
theorem dX3_takeMessage_65 : decode cX3_takeMessage 65 = .ok (.putfield 34, 3) := by decide +kernel
theorem dX3_takeMessage_68 : decode cX3_takeMessage 68 = .ok (.aload_n 0, 1) := by decide +kernel
theorem dX3_takeMessage_69 : decode cX3_takeMessage 69 = .ok (.iload_n 3, 1) := by decide +kernel
theorem dX3_takeMessage_70 : decode cX3_takeMessage 70 = .ok (.putfield 57, 3) := by decide +kernel
theorem dX3_takeMessage_73 : decode cX3_takeMessage 73 = .ok (.return_, 1) := by decide +kernel
theorem dX3_messageHolds_0 : decode cX3_messageHolds 0 = .ok (.aload_n 0, 1) := by decide +kernel
theorem dX3_messageHolds_1 : decode cX3_messageHolds 1 = .ok (.getfield 54, 3) := by decide +kernel
theorem dX3_messageHolds_4 : decode cX3_messageHolds 4 = .ok (.ifCond .le 22, 3) := by decide +kernel
theorem dX3_messageHolds_7 : decode cX3_messageHolds 7 = .ok (.iload_n 1, 1) := by decide +kernel
theorem dX3_messageHolds_8 : decode cX3_messageHolds 8 = .ok (.aload_n 0, 1) := by decide +kernel
theorem dX3_messageHolds_9 : decode cX3_messageHolds 9 = .ok (.getfield 31, 3) := by decide +kernel
theorem dX3_messageHolds_12 : decode cX3_messageHolds 12 = .ok (.isub, 1) := by decide +kernel
theorem dX3_messageHolds_13 : decode cX3_messageHolds 13 = .ok (.iconst 0, 1) := by decide +kernel
theorem dX3_messageHolds_14 : decode cX3_messageHolds 14 = .ok (.bipush 12, 2) := by decide +kernel
theorem dX3_messageHolds_16 : decode cX3_messageHolds 16 = .ok (.invokestatic 63, 3) := by decide +kernel
theorem dX3_messageHolds_19 : decode cX3_messageHolds 19 = .ok (.ifCond .ne 7, 3) := by decide +kernel
theorem dX3_messageHolds_22 : decode cX3_messageHolds 22 = .ok (.iconst 1, 1) := by decide +kernel
theorem dX3_messageHolds_23 : decode cX3_messageHolds 23 = .ok (.goto 4, 3) := by decide +kernel
theorem dX3_messageHolds_26 : decode cX3_messageHolds 26 = .ok (.iconst 0, 1) := by decide +kernel
theorem dX3_messageHolds_27 : decode cX3_messageHolds 27 = .ok (.ireturn, 1) := by decide +kernel
theorem dX3_toldX_0 : decode cX3_toldX 0 = .ok (.aload_n 0, 1) := by decide +kernel
theorem dX3_toldX_1 : decode cX3_toldX 1 = .ok (.getfield 9, 3) := by decide +kernel
theorem dX3_toldX_4 : decode cX3_toldX 4 = .ok (.aload_n 0, 1) := by decide +kernel
theorem dX3_toldX_5 : decode cX3_toldX 5 = .ok (.getfield 34, 3) := by decide +kernel
theorem dX3_toldX_8 : decode cX3_toldX 8 = .ok (.iload_n 1, 1) := by decide +kernel
theorem dX3_toldX_9 : decode cX3_toldX 9 = .ok (.aload_n 0, 1) := by decide +kernel
theorem dX3_toldX_10 : decode cX3_toldX 10 = .ok (.getfield 31, 3) := by decide +kernel
theorem dX3_toldX_13 : decode cX3_toldX 13 = .ok (.isub, 1) := by decide +kernel
theorem dX3_toldX_14 : decode cX3_toldX 14 = .ok (.aload_n 0, 1) := by decide +kernel
theorem dX3_toldX_15 : decode cX3_toldX 15 = .ok (.getfield 18, 3) := by decide +kernel
theorem dX3_toldX_18 : decode cX3_toldX 18 = .ok (.imul, 1) := by decide +kernel
theorem dX3_toldX_19 : decode cX3_toldX 19 = .ok (.iadd, 1) := by decide +kernel
theorem dX3_toldX_20 : decode cX3_toldX 20 = .ok (.invokestatic 50, 3) := by decide +kernel
theorem dX3_toldX_23 : decode cX3_toldX 23 = .ok (.imul, 1) := by decide +kernel
theorem dX3_toldX_24 : decode cX3_toldX 24 = .ok (.bipush 12, 2) := by decide +kernel
theorem dX3_toldX_26 : decode cX3_toldX 26 = .ok (.idiv, 1) := by decide +kernel
theorem dX3_toldX_27 : decode cX3_toldX 27 = .ok (.ireturn, 1) := by decide +kernel
theorem dX3_toldY_0 : decode cX3_toldY 0 = .ok (.aload_n 0, 1) := by decide +kernel
theorem dX3_toldY_1 : decode cX3_toldY 1 = .ok (.getfield 9, 3) := by decide +kernel
theorem dX3_toldY_4 : decode cX3_toldY 4 = .ok (.aload_n 0, 1) := by decide +kernel
theorem dX3_toldY_5 : decode cX3_toldY 5 = .ok (.getfield 34, 3) := by decide +kernel
theorem dX3_toldY_8 : decode cX3_toldY 8 = .ok (.iload_n 1, 1) := by decide +kernel
theorem dX3_toldY_9 : decode cX3_toldY 9 = .ok (.aload_n 0, 1) := by decide +kernel
theorem dX3_toldY_10 : decode cX3_toldY 10 = .ok (.getfield 31, 3) := by decide +kernel
theorem dX3_toldY_13 : decode cX3_toldY 13 = .ok (.isub, 1) := by decide +kernel
theorem dX3_toldY_14 : decode cX3_toldY 14 = .ok (.aload_n 0, 1) := by decide +kernel
theorem dX3_toldY_15 : decode cX3_toldY 15 = .ok (.getfield 18, 3) := by decide +kernel
theorem dX3_toldY_18 : decode cX3_toldY 18 = .ok (.imul, 1) := by decide +kernel
theorem dX3_toldY_19 : decode cX3_toldY 19 = .ok (.iadd, 1) := by decide +kernel
theorem dX3_toldY_20 : decode cX3_toldY 20 = .ok (.bipush 12, 2) := by decide +kernel
theorem dX3_toldY_22 : decode cX3_toldY 22 = .ok (.iadd, 1) := by decide +kernel
theorem dX3_toldY_23 : decode cX3_toldY 23 = .ok (.invokestatic 50, 3) := by decide +kernel
theorem dX3_toldY_26 : decode cX3_toldY 26 = .ok (.imul, 1) := by decide +kernel
theorem dX3_toldY_27 : decode cX3_toldY 27 = .ok (.bipush 12, 2) := by decide +kernel
theorem dX3_toldY_29 : decode cX3_toldY 29 = .ok (.idiv, 1) := by decide +kernel
theorem dX3_toldY_30 : decode cX3_toldY 30 = .ok (.ireturn, 1) := by decide +kernel
theorem dX3_toldClock_0 : decode cX3_toldClock 0 = .ok (.aload_n 0, 1) := by decide +kernel
theorem dX3_toldClock_1 : decode cX3_toldClock 1 = .ok (.getfield 57, 3) := by decide +kernel
theorem dX3_toldClock_4 : decode cX3_toldClock 4 = .ok (.iload_n 1, 1) := by decide +kernel
theorem dX3_toldClock_5 : decode cX3_toldClock 5 = .ok (.aload_n 0, 1) := by decide +kernel
theorem dX3_toldClock_6 : decode cX3_toldClock 6 = .ok (.getfield 31, 3) := by decide +kernel
theorem dX3_toldClock_9 : decode cX3_toldClock 9 = .ok (.isub, 1) := by decide +kernel
theorem dX3_toldClock_10 : decode cX3_toldClock 10 = .ok (.aload_n 0, 1) := by decide +kernel
theorem dX3_toldClock_11 : decode cX3_toldClock 11 = .ok (.getfield 60, 3) := by decide +kernel
theorem dX3_toldClock_14 : decode cX3_toldClock 14 = .ok (.imul, 1) := by decide +kernel
theorem dX3_toldClock_15 : decode cX3_toldClock 15 = .ok (.iadd, 1) := by decide +kernel
theorem dX3_toldClock_16 : decode cX3_toldClock 16 = .ok (.ireturn, 1) := by decide +kernel
theorem dX3_tell_0 : decode cX3_tell 0 = .ok (.iload_n 1, 1) := by decide +kernel
theorem dX3_tell_1 : decode cX3_tell 1 = .ok (.tableswitch 87 0 6 #[43, 48, 53, 58, 63, 68, 81], 43) := by decide +kernel
theorem dX3_tell_44 : decode cX3_tell 44 = .ok (.aload_n 0, 1) := by decide +kernel
theorem dX3_tell_45 : decode cX3_tell 45 = .ok (.getfield 9, 3) := by decide +kernel
theorem dX3_tell_48 : decode cX3_tell 48 = .ok (.ireturn, 1) := by decide +kernel
theorem dX3_tell_49 : decode cX3_tell 49 = .ok (.aload_n 0, 1) := by decide +kernel
theorem dX3_tell_50 : decode cX3_tell 50 = .ok (.getfield 15, 3) := by decide +kernel
theorem dX3_tell_53 : decode cX3_tell 53 = .ok (.ireturn, 1) := by decide +kernel
theorem dX3_tell_54 : decode cX3_tell 54 = .ok (.aload_n 0, 1) := by decide +kernel
theorem dX3_tell_55 : decode cX3_tell 55 = .ok (.getfield 18, 3) := by decide +kernel
theorem dX3_tell_58 : decode cX3_tell 58 = .ok (.ireturn, 1) := by decide +kernel
theorem dX3_tell_59 : decode cX3_tell 59 = .ok (.aload_n 0, 1) := by decide +kernel
theorem dX3_tell_60 : decode cX3_tell 60 = .ok (.getfield 21, 3) := by decide +kernel
theorem dX3_tell_63 : decode cX3_tell 63 = .ok (.ireturn, 1) := by decide +kernel
theorem dX3_tell_64 : decode cX3_tell 64 = .ok (.aload_n 0, 1) := by decide +kernel
theorem dX3_tell_65 : decode cX3_tell 65 = .ok (.getfield 24, 3) := by decide +kernel
theorem dX3_tell_68 : decode cX3_tell 68 = .ok (.ireturn, 1) := by decide +kernel
theorem dX3_tell_69 : decode cX3_tell 69 = .ok (.aload_n 0, 1) := by decide +kernel
theorem dX3_tell_70 : decode cX3_tell 70 = .ok (.getfield 27, 3) := by decide +kernel
theorem dX3_tell_73 : decode cX3_tell 73 = .ok (.ifCond .eq 7, 3) := by decide +kernel
theorem dX3_tell_76 : decode cX3_tell 76 = .ok (.iconst 1, 1) := by decide +kernel
theorem dX3_tell_77 : decode cX3_tell 77 = .ok (.goto 4, 3) := by decide +kernel
theorem dX3_tell_80 : decode cX3_tell 80 = .ok (.iconst 0, 1) := by decide +kernel
theorem dX3_tell_81 : decode cX3_tell 81 = .ok (.ireturn, 1) := by decide +kernel
theorem dX3_tell_82 : decode cX3_tell 82 = .ok (.aload_n 0, 1) := by decide +kernel
theorem dX3_tell_83 : decode cX3_tell 83 = .ok (.iconst 0, 1) := by decide +kernel
theorem dX3_tell_84 : decode cX3_tell 84 = .ok (.invokevirtual 67, 3) := by decide +kernel
theorem dX3_tell_87 : decode cX3_tell 87 = .ok (.ireturn, 1) := by decide +kernel
theorem dX3_tell_88 : decode cX3_tell 88 = .ok (.aload_n 0, 1) := by decide +kernel
theorem dX3_tell_89 : decode cX3_tell 89 = .ok (.iconst 0, 1) := by decide +kernel
theorem dX3_tell_90 : decode cX3_tell 90 = .ok (.invokevirtual 70, 3) := by decide +kernel
theorem dX3_tell_93 : decode cX3_tell 93 = .ok (.ireturn, 1) := by decide +kernel
theorem dX3_tellMessage_0 : decode cX3_tellMessage 0 = .ok (.iload_n 1, 1) := by decide +kernel
theorem dX3_tellMessage_1 : decode cX3_tellMessage 1 = .ok (.tableswitch 107 0 6 #[43, 48, 53, 58, 63, 68, 82], 43) := by decide +kernel
theorem dX3_tellMessage_44 : decode cX3_tellMessage 44 = .ok (.aload_n 0, 1) := by decide +kernel
theorem dX3_tellMessage_45 : decode cX3_tellMessage 45 = .ok (.getfield 54, 3) := by decide +kernel
theorem dX3_tellMessage_48 : decode cX3_tellMessage 48 = .ok (.ireturn, 1) := by decide +kernel
theorem dX3_tellMessage_49 : decode cX3_tellMessage 49 = .ok (.aload_n 0, 1) := by decide +kernel
theorem dX3_tellMessage_50 : decode cX3_tellMessage 50 = .ok (.getfield 31, 3) := by decide +kernel
theorem dX3_tellMessage_53 : decode cX3_tellMessage 53 = .ok (.ireturn, 1) := by decide +kernel
theorem dX3_tellMessage_54 : decode cX3_tellMessage 54 = .ok (.aload_n 0, 1) := by decide +kernel
theorem dX3_tellMessage_55 : decode cX3_tellMessage 55 = .ok (.getfield 34, 3) := by decide +kernel
theorem dX3_tellMessage_58 : decode cX3_tellMessage 58 = .ok (.ireturn, 1) := by decide +kernel
theorem dX3_tellMessage_59 : decode cX3_tellMessage 59 = .ok (.aload_n 0, 1) := by decide +kernel
theorem dX3_tellMessage_60 : decode cX3_tellMessage 60 = .ok (.getfield 57, 3) := by decide +kernel
theorem dX3_tellMessage_63 : decode cX3_tellMessage 63 = .ok (.ireturn, 1) := by decide +kernel
theorem dX3_tellMessage_64 : decode cX3_tellMessage 64 = .ok (.aload_n 0, 1) := by decide +kernel
theorem dX3_tellMessage_65 : decode cX3_tellMessage 65 = .ok (.getfield 60, 3) := by decide +kernel
theorem dX3_tellMessage_68 : decode cX3_tellMessage 68 = .ok (.ireturn, 1) := by decide +kernel
theorem dX3_tellMessage_69 : decode cX3_tellMessage 69 = .ok (.aload_n 0, 1) := by decide +kernel
theorem dX3_tellMessage_70 : decode cX3_tellMessage 70 = .ok (.iload_n 2, 1) := by decide +kernel
theorem dX3_tellMessage_71 : decode cX3_tellMessage 71 = .ok (.invokevirtual 73, 3) := by decide +kernel
theorem dX3_tellMessage_74 : decode cX3_tellMessage 74 = .ok (.ifCond .eq 7, 3) := by decide +kernel
theorem dX3_tellMessage_77 : decode cX3_tellMessage 77 = .ok (.iconst 1, 1) := by decide +kernel
theorem dX3_tellMessage_78 : decode cX3_tellMessage 78 = .ok (.goto 4, 3) := by decide +kernel
theorem dX3_tellMessage_81 : decode cX3_tellMessage 81 = .ok (.iconst 0, 1) := by decide +kernel
theorem dX3_tellMessage_82 : decode cX3_tellMessage 82 = .ok (.ireturn, 1) := by decide +kernel
theorem dX3_tellMessage_83 : decode cX3_tellMessage 83 = .ok (.aload_n 0, 1) := by decide +kernel
theorem dX3_tellMessage_84 : decode cX3_tellMessage 84 = .ok (.getfield 54, 3) := by decide +kernel
theorem dX3_tellMessage_87 : decode cX3_tellMessage 87 = .ok (.ifCond .ne 7, 3) := by decide +kernel
theorem dX3_tellMessage_90 : decode cX3_tellMessage 90 = .ok (.iconst 0, 1) := by decide +kernel
theorem dX3_tellMessage_91 : decode cX3_tellMessage 91 = .ok (.goto 16, 3) := by decide +kernel
theorem dX3_tellMessage_94 : decode cX3_tellMessage 94 = .ok (.aload_n 0, 1) := by decide +kernel
theorem dX3_tellMessage_95 : decode cX3_tellMessage 95 = .ok (.iload_n 2, 1) := by decide +kernel
theorem dX3_tellMessage_96 : decode cX3_tellMessage 96 = .ok (.invokevirtual 77, 3) := by decide +kernel
theorem dX3_tellMessage_99 : decode cX3_tellMessage 99 = .ok (.aload_n 0, 1) := by decide +kernel
theorem dX3_tellMessage_100 : decode cX3_tellMessage 100 = .ok (.getfield 21, 3) := by decide +kernel
theorem dX3_tellMessage_103 : decode cX3_tellMessage 103 = .ok (.isub, 1) := by decide +kernel
theorem dX3_tellMessage_104 : decode cX3_tellMessage 104 = .ok (.invokestatic 80, 3) := by decide +kernel
theorem dX3_tellMessage_107 : decode cX3_tellMessage 107 = .ok (.ireturn, 1) := by decide +kernel
theorem dX3_tellMessage_108 : decode cX3_tellMessage 108 = .ok (.aload_n 0, 1) := by decide +kernel
theorem dX3_tellMessage_109 : decode cX3_tellMessage 109 = .ok (.getfield 54, 3) := by decide +kernel
theorem dX3_tellMessage_112 : decode cX3_tellMessage 112 = .ok (.ifCond .ne 7, 3) := by decide +kernel
theorem dX3_tellMessage_115 : decode cX3_tellMessage 115 = .ok (.iconst 0, 1) := by decide +kernel
theorem dX3_tellMessage_116 : decode cX3_tellMessage 116 = .ok (.goto 26, 3) := by decide +kernel
theorem dX3_tellMessage_119 : decode cX3_tellMessage 119 = .ok (.aload_n 0, 1) := by decide +kernel
theorem dX3_tellMessage_120 : decode cX3_tellMessage 120 = .ok (.iload_n 2, 1) := by decide +kernel
theorem dX3_tellMessage_121 : decode cX3_tellMessage 121 = .ok (.invokevirtual 83, 3) := by decide +kernel
theorem dX3_tellMessage_124 : decode cX3_tellMessage 124 = .ok (.aload_n 0, 1) := by decide +kernel
theorem dX3_tellMessage_125 : decode cX3_tellMessage 125 = .ok (.iload_n 2, 1) := by decide +kernel
theorem dX3_tellMessage_126 : decode cX3_tellMessage 126 = .ok (.invokevirtual 86, 3) := by decide +kernel
theorem dX3_tellMessage_129 : decode cX3_tellMessage 129 = .ok (.aload_n 0, 1) := by decide +kernel
theorem dX3_tellMessage_130 : decode cX3_tellMessage 130 = .ok (.iconst 0, 1) := by decide +kernel
theorem dX3_tellMessage_131 : decode cX3_tellMessage 131 = .ok (.invokevirtual 67, 3) := by decide +kernel
theorem dX3_tellMessage_134 : decode cX3_tellMessage 134 = .ok (.aload_n 0, 1) := by decide +kernel
theorem dX3_tellMessage_135 : decode cX3_tellMessage 135 = .ok (.iconst 0, 1) := by decide +kernel
theorem dX3_tellMessage_136 : decode cX3_tellMessage 136 = .ok (.invokevirtual 70, 3) := by decide +kernel
theorem dX3_tellMessage_139 : decode cX3_tellMessage 139 = .ok (.invokestatic 89, 3) := by decide +kernel
theorem dX3_tellMessage_142 : decode cX3_tellMessage 142 = .ok (.ireturn, 1) := by decide +kernel
theorem dX4_init_0 : decode cX4_init 0 = .ok (.aload_n 0, 1) := by decide +kernel
theorem dX4_init_1 : decode cX4_init 1 = .ok (.invokespecial 1, 3) := by decide +kernel
theorem dX4_init_4 : decode cX4_init 4 = .ok (.aload_n 0, 1) := by decide +kernel
theorem dX4_init_5 : decode cX4_init 5 = .ok (.iload_n 1, 1) := by decide +kernel
theorem dX4_init_6 : decode cX4_init 6 = .ok (.putfield 7, 3) := by decide +kernel
theorem dX4_init_9 : decode cX4_init 9 = .ok (.aload_n 0, 1) := by decide +kernel
theorem dX4_init_10 : decode cX4_init 10 = .ok (.iload_n 2, 1) := by decide +kernel
theorem dX4_init_11 : decode cX4_init 11 = .ok (.putfield 13, 3) := by decide +kernel
theorem dX4_init_14 : decode cX4_init 14 = .ok (.return_, 1) := by decide +kernel
theorem dX4_canHear_0 : decode cX4_canHear 0 = .ok (.aload_n 1, 1) := by decide +kernel
theorem dX4_canHear_1 : decode cX4_canHear 1 = .ok (.iload_n 2, 1) := by decide +kernel
theorem dX4_canHear_2 : decode cX4_canHear 2 = .ok (.invokevirtual 16, 3) := by decide +kernel
theorem dX4_canHear_5 : decode cX4_canHear 5 = .ok (.istore_n 3, 1) := by decide +kernel
theorem dX4_canHear_6 : decode cX4_canHear 6 = .ok (.aload_n 1, 1) := by decide +kernel
theorem dX4_canHear_7 : decode cX4_canHear 7 = .ok (.getfield 22, 3) := by decide +kernel
theorem dX4_canHear_10 : decode cX4_canHear 10 = .ok (.ifCond .eq 32, 3) := by decide +kernel
theorem dX4_canHear_13 : decode cX4_canHear 13 = .ok (.iload_n 3, 1) := by decide +kernel
theorem dX4_canHear_14 : decode cX4_canHear 14 = .ok (.bipush 10, 2) := by decide +kernel
theorem dX4_canHear_16 : decode cX4_canHear 16 = .ok (.if_icmp .lt 26, 3) := by decide +kernel
theorem dX4_canHear_19 : decode cX4_canHear 19 = .ok (.aload_n 1, 1) := by decide +kernel
theorem dX4_canHear_20 : decode cX4_canHear 20 = .ok (.iload_n 2, 1) := by decide +kernel
theorem dX4_canHear_21 : decode cX4_canHear 21 = .ok (.invokevirtual 26, 3) := by decide +kernel
theorem dX4_canHear_24 : decode cX4_canHear 24 = .ok (.aload_n 0, 1) := by decide +kernel
theorem dX4_canHear_25 : decode cX4_canHear 25 = .ok (.getfield 7, 3) := by decide +kernel
theorem dX4_canHear_28 : decode cX4_canHear 28 = .ok (.isub, 1) := by decide +kernel
theorem dX4_canHear_29 : decode cX4_canHear 29 = .ok (.invokestatic 29, 3) := by decide +kernel
theorem dX4_canHear_32 : decode cX4_canHear 32 = .ok (.iconst 2, 1) := by decide +kernel
theorem dX4_canHear_33 : decode cX4_canHear 33 = .ok (.iload_n 3, 1) := by decide +kernel
theorem dX4_canHear_34 : decode cX4_canHear 34 = .ok (.imul, 1) := by decide +kernel
theorem dX4_canHear_35 : decode cX4_canHear 35 = .ok (.if_icmp .gt 7, 3) := by decide +kernel
theorem dX4_canHear_38 : decode cX4_canHear 38 = .ok (.iconst 1, 1) := by decide +kernel
theorem dX4_canHear_39 : decode cX4_canHear 39 = .ok (.goto 4, 3) := by decide +kernel
theorem dX4_canHear_42 : decode cX4_canHear 42 = .ok (.iconst 0, 1) := by decide +kernel
theorem dX4_canHear_43 : decode cX4_canHear 43 = .ok (.ireturn, 1) := by decide +kernel
theorem dX5_init_0 : decode cX5_init 0 = .ok (.aload_n 0, 1) := by decide +kernel
theorem dX5_init_1 : decode cX5_init 1 = .ok (.invokespecial 3, 3) := by decide +kernel
theorem dX5_init_4 : decode cX5_init 4 = .ok (.aload_n 0, 1) := by decide +kernel
theorem dX5_init_5 : decode cX5_init 5 = .ok (.iconst (-1), 1) := by decide +kernel
theorem dX5_init_6 : decode cX5_init 6 = .ok (.putfield 9, 3) := by decide +kernel
theorem dX5_init_9 : decode cX5_init 9 = .ok (.aload_n 0, 1) := by decide +kernel
theorem dX5_init_10 : decode cX5_init 10 = .ok (.bipush 99, 2) := by decide +kernel
theorem dX5_init_12 : decode cX5_init 12 = .ok (.putfield 15, 3) := by decide +kernel
theorem dX5_init_15 : decode cX5_init 15 = .ok (.aload_n 0, 1) := by decide +kernel
theorem dX5_init_16 : decode cX5_init 16 = .ok (.iconst (-1), 1) := by decide +kernel
theorem dX5_init_17 : decode cX5_init 17 = .ok (.putfield 18, 3) := by decide +kernel
theorem dX5_init_20 : decode cX5_init 20 = .ok (.return_, 1) := by decide +kernel
theorem dX5_hasObservedIn_0 : decode cX5_hasObservedIn 0 = .ok (.aload_n 0, 1) := by decide +kernel
theorem dX5_hasObservedIn_1 : decode cX5_hasObservedIn 1 = .ok (.getfield 21, 3) := by decide +kernel
theorem dX5_hasObservedIn_4 : decode cX5_hasObservedIn 4 = .ok (.ifCond .le 15, 3) := by decide +kernel
theorem dX5_hasObservedIn_7 : decode cX5_hasObservedIn 7 = .ok (.aload_n 0, 1) := by decide +kernel
theorem dX5_hasObservedIn_8 : decode cX5_hasObservedIn 8 = .ok (.getfield 9, 3) := by decide +kernel
theorem dX5_hasObservedIn_11 : decode cX5_hasObservedIn 11 = .ok (.iload_n 1, 1) := by decide +kernel
theorem dX5_hasObservedIn_12 : decode cX5_hasObservedIn 12 = .ok (.if_icmp .ne 7, 3) := by decide +kernel
theorem dX5_hasObservedIn_15 : decode cX5_hasObservedIn 15 = .ok (.iconst 1, 1) := by decide +kernel
theorem dX5_hasObservedIn_16 : decode cX5_hasObservedIn 16 = .ok (.goto 4, 3) := by decide +kernel
theorem dX5_hasObservedIn_19 : decode cX5_hasObservedIn 19 = .ok (.iconst 0, 1) := by decide +kernel
theorem dX5_hasObservedIn_20 : decode cX5_hasObservedIn 20 = .ok (.ireturn, 1) := by decide +kernel
theorem dX5_hasObservedSince_0 : decode cX5_hasObservedSince 0 = .ok (.aload_n 0, 1) := by decide +kernel
theorem dX5_hasObservedSince_1 : decode cX5_hasObservedSince 1 = .ok (.getfield 21, 3) := by decide +kernel
theorem dX5_hasObservedSince_4 : decode cX5_hasObservedSince 4 = .ok (.ifCond .le 15, 3) := by decide +kernel
theorem dX5_hasObservedSince_7 : decode cX5_hasObservedSince 7 = .ok (.aload_n 0, 1) := by decide +kernel
theorem dX5_hasObservedSince_8 : decode cX5_hasObservedSince 8 = .ok (.getfield 9, 3) := by decide +kernel
theorem dX5_hasObservedSince_11 : decode cX5_hasObservedSince 11 = .ok (.iload_n 1, 1) := by decide +kernel
theorem dX5_hasObservedSince_12 : decode cX5_hasObservedSince 12 = .ok (.if_icmp .lt 7, 3) := by decide +kernel
theorem dX5_hasObservedSince_15 : decode cX5_hasObservedSince 15 = .ok (.iconst 1, 1) := by decide +kernel
theorem dX5_hasObservedSince_16 : decode cX5_hasObservedSince 16 = .ok (.goto 4, 3) := by decide +kernel
theorem dX5_hasObservedSince_19 : decode cX5_hasObservedSince 19 = .ok (.iconst 0, 1) := by decide +kernel
theorem dX5_hasObservedSince_20 : decode cX5_hasObservedSince 20 = .ok (.ireturn, 1) := by decide +kernel
theorem dX5_leapsTo_0 : decode cX5_leapsTo 0 = .ok (.aload_n 0, 1) := by decide +kernel
theorem dX5_leapsTo_1 : decode cX5_leapsTo 1 = .ok (.iload_n 3, 1) := by decide +kernel
theorem dX5_leapsTo_2 : decode cX5_leapsTo 2 = .ok (.iconst 1, 1) := by decide +kernel
theorem dX5_leapsTo_3 : decode cX5_leapsTo 3 = .ok (.isub, 1) := by decide +kernel
theorem dX5_leapsTo_4 : decode cX5_leapsTo 4 = .ok (.invokevirtual 24, 3) := by decide +kernel
theorem dX5_leapsTo_7 : decode cX5_leapsTo 7 = .ok (.ifCond .eq 32, 3) := by decide +kernel
theorem dX5_leapsTo_10 : decode cX5_leapsTo 10 = .ok (.aload_n 0, 1) := by decide +kernel
theorem dX5_leapsTo_11 : decode cX5_leapsTo 11 = .ok (.getfield 28, 3) := by decide +kernel
theorem dX5_leapsTo_14 : decode cX5_leapsTo 14 = .ok (.iconst 3, 1) := by decide +kernel
theorem dX5_leapsTo_15 : decode cX5_leapsTo 15 = .ok (.if_icmp .lt 24, 3) := by decide +kernel
theorem dX5_leapsTo_18 : decode cX5_leapsTo 18 = .ok (.aload_n 0, 1) := by decide +kernel
theorem dX5_leapsTo_19 : decode cX5_leapsTo 19 = .ok (.getfield 31, 3) := by decide +kernel
theorem dX5_leapsTo_22 : decode cX5_leapsTo 22 = .ok (.aload_n 0, 1) := by decide +kernel
theorem dX5_leapsTo_23 : decode cX5_leapsTo 23 = .ok (.getfield 34, 3) := by decide +kernel
theorem dX5_leapsTo_26 : decode cX5_leapsTo 26 = .ok (.iload_n 1, 1) := by decide +kernel
theorem dX5_leapsTo_27 : decode cX5_leapsTo 27 = .ok (.iload_n 2, 1) := by decide +kernel
theorem dX5_leapsTo_28 : decode cX5_leapsTo 28 = .ok (.invokestatic 37, 3) := by decide +kernel
theorem dX5_leapsTo_31 : decode cX5_leapsTo 31 = .ok (.iconst 4, 1) := by decide +kernel
theorem dX5_leapsTo_32 : decode cX5_leapsTo 32 = .ok (.if_icmp .le 7, 3) := by decide +kernel
theorem dX5_leapsTo_35 : decode cX5_leapsTo 35 = .ok (.iconst 1, 1) := by decide +kernel
theorem dX5_leapsTo_36 : decode cX5_leapsTo 36 = .ok (.goto 4, 3) := by decide +kernel
theorem dX5_leapsTo_39 : decode cX5_leapsTo 39 = .ok (.iconst 0, 1) := by decide +kernel
theorem dX5_leapsTo_40 : decode cX5_leapsTo 40 = .ok (.ireturn, 1) := by decide +kernel
theorem dX5_keepAll_0 : decode cX5_keepAll 0 = .ok (.aload_n 0, 1) := by decide +kernel
theorem dX5_keepAll_1 : decode cX5_keepAll 1 = .ok (.dup, 1) := by decide +kernel
theorem dX5_keepAll_2 : decode cX5_keepAll 2 = .ok (.getfield 21, 3) := by decide +kernel
theorem dX5_keepAll_5 : decode cX5_keepAll 5 = .ok (.iconst 1, 1) := by decide +kernel
theorem dX5_keepAll_6 : decode cX5_keepAll 6 = .ok (.iadd, 1) := by decide +kernel
theorem dX5_keepAll_7 : decode cX5_keepAll 7 = .ok (.putfield 21, 3) := by decide +kernel
theorem dX5_keepAll_10 : decode cX5_keepAll 10 = .ok (.aload_n 0, 1) := by decide +kernel
theorem dX5_keepAll_11 : decode cX5_keepAll 11 = .ok (.iload_n 1, 1) := by decide +kernel
theorem dX5_keepAll_12 : decode cX5_keepAll 12 = .ok (.putfield 9, 3) := by decide +kernel
theorem dX5_keepAll_15 : decode cX5_keepAll 15 = .ok (.aload_n 0, 1) := by decide +kernel
theorem dX5_keepAll_16 : decode cX5_keepAll 16 = .ok (.aload_n 2, 1) := by decide +kernel
theorem dX5_keepAll_17 : decode cX5_keepAll 17 = .ok (.getfield 41, 3) := by decide +kernel
theorem dX5_keepAll_20 : decode cX5_keepAll 20 = .ok (.putfield 28, 3) := by decide +kernel
theorem dX5_keepAll_23 : decode cX5_keepAll 23 = .ok (.aload_n 0, 1) := by decide +kernel
theorem dX5_keepAll_24 : decode cX5_keepAll 24 = .ok (.aload_n 2, 1) := by decide +kernel
theorem dX5_keepAll_25 : decode cX5_keepAll 25 = .ok (.getfield 44, 3) := by decide +kernel
theorem dX5_keepAll_28 : decode cX5_keepAll 28 = .ok (.putfield 15, 3) := by decide +kernel
theorem dX5_keepAll_31 : decode cX5_keepAll 31 = .ok (.aload_n 0, 1) := by decide +kernel
theorem dX5_keepAll_32 : decode cX5_keepAll 32 = .ok (.iload_n 3, 1) := by decide +kernel
theorem dX5_keepAll_33 : decode cX5_keepAll 33 = .ok (.putfield 45, 3) := by decide +kernel
theorem dX5_keepAll_36 : decode cX5_keepAll 36 = .ok (.aload_n 0, 1) := by decide +kernel
theorem dX5_keepAll_37 : decode cX5_keepAll 37 = .ok (.getfield 45, 3) := by decide +kernel
theorem dX5_keepAll_40 : decode cX5_keepAll 40 = .ok (.ifCond .le 8, 3) := by decide +kernel
theorem dX5_keepAll_43 : decode cX5_keepAll 43 = .ok (.aload_n 0, 1) := by decide +kernel
theorem dX5_keepAll_44 : decode cX5_keepAll 44 = .ok (.iload_n 1, 1) := by decide +kernel
theorem dX5_keepAll_45 : decode cX5_keepAll 45 = .ok (.putfield 18, 3) := by decide +kernel
theorem dX5_keepAll_48 : decode cX5_keepAll 48 = .ok (.aload_n 2, 1) := by decide +kernel
theorem dX5_keepAll_49 : decode cX5_keepAll 49 = .ok (.invokevirtual 48, 3) := by decide +kernel
theorem dX5_keepAll_52 : decode cX5_keepAll 52 = .ok (.ifCond .eq 12, 3) := by decide +kernel
theorem dX5_keepAll_55 : decode cX5_keepAll 55 = .ok (.aload_n 0, 1) := by decide +kernel
theorem dX5_keepAll_56 : decode cX5_keepAll 56 = .ok (.aload_n 2, 1) := by decide +kernel
theorem dX5_keepAll_57 : decode cX5_keepAll 57 = .ok (.iload 4, 2) := by decide +kernel
theorem dX5_keepAll_59 : decode cX5_keepAll 59 = .ok (.iload 5, 2) := by decide +kernel
theorem dX5_keepAll_61 : decode cX5_keepAll 61 = .ok (.invokevirtual 52, 3) := by decide +kernel
theorem dX5_keepAll_64 : decode cX5_keepAll 64 = .ok (.return_, 1) := by decide +kernel
theorem dX5_keepSolution_0 : decode cX5_keepSolution 0 = .ok (.aload_n 0, 1) := by decide +kernel
theorem dX5_keepSolution_1 : decode cX5_keepSolution 1 = .ok (.aload_n 1, 1) := by decide +kernel
theorem dX5_keepSolution_2 : decode cX5_keepSolution 2 = .ok (.getfield 56, 3) := by decide +kernel
theorem dX5_keepSolution_5 : decode cX5_keepSolution 5 = .ok (.putfield 31, 3) := by decide +kernel
theorem dX5_keepSolution_8 : decode cX5_keepSolution 8 = .ok (.aload_n 0, 1) := by decide +kernel
theorem dX5_keepSolution_9 : decode cX5_keepSolution 9 = .ok (.aload_n 1, 1) := by decide +kernel
theorem dX5_keepSolution_10 : decode cX5_keepSolution 10 = .ok (.getfield 57, 3) := by decide +kernel
theorem dX5_keepSolution_13 : decode cX5_keepSolution 13 = .ok (.putfield 34, 3) := by decide +kernel
theorem dX5_keepSolution_16 : decode cX5_keepSolution 16 = .ok (.aload_n 0, 1) := by decide +kernel
theorem dX5_keepSolution_17 : decode cX5_keepSolution 17 = .ok (.aload_n 1, 1) := by decide +kernel
theorem dX5_keepSolution_18 : decode cX5_keepSolution 18 = .ok (.getfield 58, 3) := by decide +kernel
theorem dX5_keepSolution_21 : decode cX5_keepSolution 21 = .ok (.putfield 61, 3) := by decide +kernel
theorem dX5_keepSolution_24 : decode cX5_keepSolution 24 = .ok (.aload_n 0, 1) := by decide +kernel
theorem dX5_keepSolution_25 : decode cX5_keepSolution 25 = .ok (.aload_n 1, 1) := by decide +kernel
theorem dX5_keepSolution_26 : decode cX5_keepSolution 26 = .ok (.getfield 62, 3) := by decide +kernel
theorem dX5_keepSolution_29 : decode cX5_keepSolution 29 = .ok (.l2i, 1) := by decide +kernel
theorem dX5_keepSolution_30 : decode cX5_keepSolution 30 = .ok (.putfield 66, 3) := by decide +kernel
theorem dX5_keepSolution_33 : decode cX5_keepSolution 33 = .ok (.aload_n 0, 1) := by decide +kernel
theorem dX5_keepSolution_34 : decode cX5_keepSolution 34 = .ok (.dup, 1) := by decide +kernel
theorem dX5_keepSolution_35 : decode cX5_keepSolution 35 = .ok (.getfield 68, 3) := by decide +kernel
theorem dX5_keepSolution_38 : decode cX5_keepSolution 38 = .ok (.iconst 1, 1) := by decide +kernel
theorem dX5_keepSolution_39 : decode cX5_keepSolution 39 = .ok (.iadd, 1) := by decide +kernel
theorem dX5_keepSolution_40 : decode cX5_keepSolution 40 = .ok (.putfield 68, 3) := by decide +kernel
theorem dX5_keepSolution_43 : decode cX5_keepSolution 43 = .ok (.aload_n 0, 1) := by decide +kernel
theorem dX5_keepSolution_44 : decode cX5_keepSolution 44 = .ok (.iload_n 2, 1) := by decide +kernel
theorem dX5_keepSolution_45 : decode cX5_keepSolution 45 = .ok (.iload_n 3, 1) := by decide +kernel
theorem dX5_keepSolution_46 : decode cX5_keepSolution 46 = .ok (.invokevirtual 71, 3) := by decide +kernel
theorem dX5_keepSolution_49 : decode cX5_keepSolution 49 = .ok (.istore 4, 2) := by decide +kernel
theorem dX5_keepSolution_51 : decode cX5_keepSolution 51 = .ok (.aload_n 0, 1) := by decide +kernel
theorem dX5_keepSolution_52 : decode cX5_keepSolution 52 = .ok (.dup, 1) := by decide +kernel
theorem dX5_keepSolution_53 : decode cX5_keepSolution 53 = .ok (.getfield 75, 3) := by decide +kernel
theorem dX5_keepSolution_56 : decode cX5_keepSolution 56 = .ok (.iload 4, 2) := by decide +kernel
theorem dX5_keepSolution_58 : decode cX5_keepSolution 58 = .ok (.iadd, 1) := by decide +kernel
theorem dX5_keepSolution_59 : decode cX5_keepSolution 59 = .ok (.putfield 75, 3) := by decide +kernel
theorem dX5_keepSolution_62 : decode cX5_keepSolution 62 = .ok (.aload_n 0, 1) := by decide +kernel
theorem dX5_keepSolution_63 : decode cX5_keepSolution 63 = .ok (.getfield 45, 3) := by decide +kernel
theorem dX5_keepSolution_66 : decode cX5_keepSolution 66 = .ok (.ifCond .ne 22, 3) := by decide +kernel
theorem dX5_keepSolution_69 : decode cX5_keepSolution 69 = .ok (.iload 4, 2) := by decide +kernel
theorem dX5_keepSolution_71 : decode cX5_keepSolution 71 = .ok (.aload_n 0, 1) := by decide +kernel
theorem dX5_keepSolution_72 : decode cX5_keepSolution 72 = .ok (.getfield 15, 3) := by decide +kernel
theorem dX5_keepSolution_75 : decode cX5_keepSolution 75 = .ok (.if_icmp .le 13, 3) := by decide +kernel
theorem dX5_keepSolution_78 : decode cX5_keepSolution 78 = .ok (.aload_n 0, 1) := by decide +kernel
theorem dX5_keepSolution_79 : decode cX5_keepSolution 79 = .ok (.dup, 1) := by decide +kernel
theorem dX5_keepSolution_80 : decode cX5_keepSolution 80 = .ok (.getfield 78, 3) := by decide +kernel
theorem dX5_keepSolution_83 : decode cX5_keepSolution 83 = .ok (.iconst 1, 1) := by decide +kernel
theorem dX5_keepSolution_84 : decode cX5_keepSolution 84 = .ok (.iadd, 1) := by decide +kernel
theorem dX5_keepSolution_85 : decode cX5_keepSolution 85 = .ok (.putfield 78, 3) := by decide +kernel
theorem dX5_keepSolution_88 : decode cX5_keepSolution 88 = .ok (.return_, 1) := by decide +kernel
theorem dX5_errorAt_0 : decode cX5_errorAt 0 = .ok (.aload_n 0, 1) := by decide +kernel
theorem dX5_errorAt_1 : decode cX5_errorAt 1 = .ok (.getfield 68, 3) := by decide +kernel
theorem dX5_errorAt_4 : decode cX5_errorAt 4 = .ok (.ifCond .ne 7, 3) := by decide +kernel
theorem dX5_errorAt_7 : decode cX5_errorAt 7 = .ok (.iconst 0, 1) := by decide +kernel
theorem dX5_errorAt_8 : decode cX5_errorAt 8 = .ok (.goto 16, 3) := by decide +kernel
theorem dX5_errorAt_11 : decode cX5_errorAt 11 = .ok (.aload_n 0, 1) := by decide +kernel
theorem dX5_errorAt_12 : decode cX5_errorAt 12 = .ok (.getfield 31, 3) := by decide +kernel
theorem dX5_errorAt_15 : decode cX5_errorAt 15 = .ok (.aload_n 0, 1) := by decide +kernel
theorem dX5_errorAt_16 : decode cX5_errorAt 16 = .ok (.getfield 34, 3) := by decide +kernel
theorem dX5_errorAt_19 : decode cX5_errorAt 19 = .ok (.iload_n 1, 1) := by decide +kernel
theorem dX5_errorAt_20 : decode cX5_errorAt 20 = .ok (.iload_n 2, 1) := by decide +kernel
theorem dX5_errorAt_21 : decode cX5_errorAt 21 = .ok (.invokestatic 37, 3) := by decide +kernel
theorem dX5_errorAt_24 : decode cX5_errorAt 24 = .ok (.ireturn, 1) := by decide +kernel
theorem dX5_meanOfErrors_0 : decode cX5_meanOfErrors 0 = .ok (.aload_n 0, 1) := by decide +kernel
theorem dX5_meanOfErrors_1 : decode cX5_meanOfErrors 1 = .ok (.getfield 68, 3) := by decide +kernel
theorem dX5_meanOfErrors_4 : decode cX5_meanOfErrors 4 = .ok (.ifCond .ne 7, 3) := by decide +kernel
theorem dX5_meanOfErrors_7 : decode cX5_meanOfErrors 7 = .ok (.dconst 0, 1) := by decide +kernel
theorem dX5_meanOfErrors_8 : decode cX5_meanOfErrors 8 = .ok (.goto 14, 3) := by decide +kernel
theorem dX5_meanOfErrors_11 : decode cX5_meanOfErrors 11 = .ok (.aload_n 0, 1) := by decide +kernel
theorem dX5_meanOfErrors_12 : decode cX5_meanOfErrors 12 = .ok (.getfield 75, 3) := by decide +kernel
theorem dX5_meanOfErrors_15 : decode cX5_meanOfErrors 15 = .ok (.i2d, 1) := by decide +kernel
theorem dX5_meanOfErrors_16 : decode cX5_meanOfErrors 16 = .ok (.aload_n 0, 1) := by decide +kernel
theorem dX5_meanOfErrors_17 : decode cX5_meanOfErrors 17 = .ok (.getfield 68, 3) := by decide +kernel
theorem dX5_meanOfErrors_20 : decode cX5_meanOfErrors 20 = .ok (.i2d, 1) := by decide +kernel
theorem dX5_meanOfErrors_21 : decode cX5_meanOfErrors 21 = .ok (.ddiv, 1) := by decide +kernel
theorem dX5_meanOfErrors_22 : decode cX5_meanOfErrors 22 = .ok (.dreturn, 1) := by decide +kernel
theorem dX5_tell_0 : decode cX5_tell 0 = .ok (.iload_n 1, 1) := by decide +kernel
theorem dX5_tell_1 : decode cX5_tell 1 = .ok (.tableswitch 96 3 11 #[51, 56, 61, 66, 71, 76, 81, 86, 91], 51) := by decide +kernel
theorem dX5_tell_52 : decode cX5_tell 52 = .ok (.aload_n 0, 1) := by decide +kernel
theorem dX5_tell_53 : decode cX5_tell 53 = .ok (.getfield 9, 3) := by decide +kernel
theorem dX5_tell_56 : decode cX5_tell 56 = .ok (.ireturn, 1) := by decide +kernel
theorem dX5_tell_57 : decode cX5_tell 57 = .ok (.aload_n 0, 1) := by decide +kernel
theorem dX5_tell_58 : decode cX5_tell 58 = .ok (.getfield 28, 3) := by decide +kernel
theorem dX5_tell_61 : decode cX5_tell 61 = .ok (.ireturn, 1) := by decide +kernel
theorem dX5_tell_62 : decode cX5_tell 62 = .ok (.aload_n 0, 1) := by decide +kernel
theorem dX5_tell_63 : decode cX5_tell 63 = .ok (.getfield 31, 3) := by decide +kernel
theorem dX5_tell_66 : decode cX5_tell 66 = .ok (.ireturn, 1) := by decide +kernel
theorem dX5_tell_67 : decode cX5_tell 67 = .ok (.aload_n 0, 1) := by decide +kernel
theorem dX5_tell_68 : decode cX5_tell 68 = .ok (.getfield 34, 3) := by decide +kernel
theorem dX5_tell_71 : decode cX5_tell 71 = .ok (.ireturn, 1) := by decide +kernel
theorem dX5_tell_72 : decode cX5_tell 72 = .ok (.aload_n 0, 1) := by decide +kernel
theorem dX5_tell_73 : decode cX5_tell 73 = .ok (.getfield 61, 3) := by decide +kernel
theorem dX5_tell_76 : decode cX5_tell 76 = .ok (.ireturn, 1) := by decide +kernel
theorem dX5_tell_77 : decode cX5_tell 77 = .ok (.aload_n 0, 1) := by decide +kernel
theorem dX5_tell_78 : decode cX5_tell 78 = .ok (.getfield 66, 3) := by decide +kernel
theorem dX5_tell_81 : decode cX5_tell 81 = .ok (.ireturn, 1) := by decide +kernel
theorem dX5_tell_82 : decode cX5_tell 82 = .ok (.aload_n 0, 1) := by decide +kernel
theorem dX5_tell_83 : decode cX5_tell 83 = .ok (.getfield 15, 3) := by decide +kernel
theorem dX5_tell_86 : decode cX5_tell 86 = .ok (.ireturn, 1) := by decide +kernel
theorem dX5_tell_87 : decode cX5_tell 87 = .ok (.aload_n 0, 1) := by decide +kernel
theorem dX5_tell_88 : decode cX5_tell 88 = .ok (.getfield 45, 3) := by decide +kernel
theorem dX5_tell_91 : decode cX5_tell 91 = .ok (.ireturn, 1) := by decide +kernel
theorem dX5_tell_92 : decode cX5_tell 92 = .ok (.aload_n 0, 1) := by decide +kernel
theorem dX5_tell_93 : decode cX5_tell 93 = .ok (.getfield 78, 3) := by decide +kernel
theorem dX5_tell_96 : decode cX5_tell 96 = .ok (.ireturn, 1) := by decide +kernel
theorem dX5_tell_97 : decode cX5_tell 97 = .ok (.aload_n 0, 1) := by decide +kernel
theorem dX5_tell_98 : decode cX5_tell 98 = .ok (.getfield 18, 3) := by decide +kernel
theorem dX5_tell_101 : decode cX5_tell 101 = .ok (.ireturn, 1) := by decide +kernel
theorem dJ6_bitCount_0f7a4_0 : decode cJ6_bitCount_0f7a4 0 = .ok (.iload_n 0, 1) := by decide +kernel
theorem dJ6_bitCount_0f7a4_1 : decode cJ6_bitCount_0f7a4 1 = .ok (.iload_n 0, 1) := by decide +kernel
theorem dJ6_bitCount_0f7a4_2 : decode cJ6_bitCount_0f7a4 2 = .ok (.iconst 1, 1) := by decide +kernel
theorem dJ6_bitCount_0f7a4_3 : decode cJ6_bitCount_0f7a4 3 = .ok (.iushr, 1) := by decide +kernel
theorem dJ6_bitCount_0f7a4_4 : decode cJ6_bitCount_0f7a4 4 = .ok (.ldc_w 265, 3) := by decide +kernel
theorem dJ6_bitCount_0f7a4_7 : decode cJ6_bitCount_0f7a4 7 = .ok (.iand, 1) := by decide +kernel
theorem dJ6_bitCount_0f7a4_8 : decode cJ6_bitCount_0f7a4 8 = .ok (.isub, 1) := by decide +kernel
theorem dJ6_bitCount_0f7a4_9 : decode cJ6_bitCount_0f7a4 9 = .ok (.istore_n 0, 1) := by decide +kernel
theorem dJ6_bitCount_0f7a4_10 : decode cJ6_bitCount_0f7a4 10 = .ok (.iload_n 0, 1) := by decide +kernel
theorem dJ6_bitCount_0f7a4_11 : decode cJ6_bitCount_0f7a4 11 = .ok (.ldc_w 266, 3) := by decide +kernel
theorem dJ6_bitCount_0f7a4_14 : decode cJ6_bitCount_0f7a4 14 = .ok (.iand, 1) := by decide +kernel
theorem dJ6_bitCount_0f7a4_15 : decode cJ6_bitCount_0f7a4 15 = .ok (.iload_n 0, 1) := by decide +kernel
theorem dJ6_bitCount_0f7a4_16 : decode cJ6_bitCount_0f7a4 16 = .ok (.iconst 2, 1) := by decide +kernel
theorem dJ6_bitCount_0f7a4_17 : decode cJ6_bitCount_0f7a4 17 = .ok (.iushr, 1) := by decide +kernel
theorem dJ6_bitCount_0f7a4_18 : decode cJ6_bitCount_0f7a4 18 = .ok (.ldc_w 266, 3) := by decide +kernel
theorem dJ6_bitCount_0f7a4_21 : decode cJ6_bitCount_0f7a4 21 = .ok (.iand, 1) := by decide +kernel
theorem dJ6_bitCount_0f7a4_22 : decode cJ6_bitCount_0f7a4 22 = .ok (.iadd, 1) := by decide +kernel
theorem dJ6_bitCount_0f7a4_23 : decode cJ6_bitCount_0f7a4 23 = .ok (.istore_n 0, 1) := by decide +kernel
theorem dJ6_bitCount_0f7a4_24 : decode cJ6_bitCount_0f7a4 24 = .ok (.iload_n 0, 1) := by decide +kernel
theorem dJ6_bitCount_0f7a4_25 : decode cJ6_bitCount_0f7a4 25 = .ok (.iload_n 0, 1) := by decide +kernel
theorem dJ6_bitCount_0f7a4_26 : decode cJ6_bitCount_0f7a4 26 = .ok (.iconst 4, 1) := by decide +kernel
theorem dJ6_bitCount_0f7a4_27 : decode cJ6_bitCount_0f7a4 27 = .ok (.iushr, 1) := by decide +kernel
theorem dJ6_bitCount_0f7a4_28 : decode cJ6_bitCount_0f7a4 28 = .ok (.iadd, 1) := by decide +kernel
theorem dJ6_bitCount_0f7a4_29 : decode cJ6_bitCount_0f7a4 29 = .ok (.ldc_w 267, 3) := by decide +kernel
theorem dJ6_bitCount_0f7a4_32 : decode cJ6_bitCount_0f7a4 32 = .ok (.iand, 1) := by decide +kernel
theorem dJ6_bitCount_0f7a4_33 : decode cJ6_bitCount_0f7a4 33 = .ok (.istore_n 0, 1) := by decide +kernel
theorem dJ6_bitCount_0f7a4_34 : decode cJ6_bitCount_0f7a4 34 = .ok (.iload_n 0, 1) := by decide +kernel
theorem dJ6_bitCount_0f7a4_35 : decode cJ6_bitCount_0f7a4 35 = .ok (.iload_n 0, 1) := by decide +kernel
theorem dJ6_bitCount_0f7a4_36 : decode cJ6_bitCount_0f7a4 36 = .ok (.bipush 8, 2) := by decide +kernel
theorem dJ6_bitCount_0f7a4_38 : decode cJ6_bitCount_0f7a4 38 = .ok (.iushr, 1) := by decide +kernel
theorem dJ6_bitCount_0f7a4_39 : decode cJ6_bitCount_0f7a4 39 = .ok (.iadd, 1) := by decide +kernel
theorem dJ6_bitCount_0f7a4_40 : decode cJ6_bitCount_0f7a4 40 = .ok (.istore_n 0, 1) := by decide +kernel
theorem dJ6_bitCount_0f7a4_41 : decode cJ6_bitCount_0f7a4 41 = .ok (.iload_n 0, 1) := by decide +kernel
theorem dJ6_bitCount_0f7a4_42 : decode cJ6_bitCount_0f7a4 42 = .ok (.iload_n 0, 1) := by decide +kernel
theorem dJ6_bitCount_0f7a4_43 : decode cJ6_bitCount_0f7a4 43 = .ok (.bipush 16, 2) := by decide +kernel
theorem dJ6_bitCount_0f7a4_45 : decode cJ6_bitCount_0f7a4 45 = .ok (.iushr, 1) := by decide +kernel
theorem dJ6_bitCount_0f7a4_46 : decode cJ6_bitCount_0f7a4 46 = .ok (.iadd, 1) := by decide +kernel
theorem dJ6_bitCount_0f7a4_47 : decode cJ6_bitCount_0f7a4 47 = .ok (.istore_n 0, 1) := by decide +kernel
theorem dJ6_bitCount_0f7a4_48 : decode cJ6_bitCount_0f7a4 48 = .ok (.iload_n 0, 1) := by decide +kernel
theorem dJ6_bitCount_0f7a4_49 : decode cJ6_bitCount_0f7a4 49 = .ok (.bipush 63, 2) := by decide +kernel
theorem dJ6_bitCount_0f7a4_51 : decode cJ6_bitCount_0f7a4 51 = .ok (.iand, 1) := by decide +kernel
theorem dJ6_bitCount_0f7a4_52 : decode cJ6_bitCount_0f7a4 52 = .ok (.ireturn, 1) := by decide +kernel
theorem dJ9_floorDiv_7cf53_0 : decode cJ9_floorDiv_7cf53 0 = .ok (.iload_n 0, 1) := by decide +kernel
theorem dJ9_floorDiv_7cf53_1 : decode cJ9_floorDiv_7cf53 1 = .ok (.iload_n 1, 1) := by decide +kernel
theorem dJ9_floorDiv_7cf53_2 : decode cJ9_floorDiv_7cf53 2 = .ok (.idiv, 1) := by decide +kernel
theorem dJ9_floorDiv_7cf53_3 : decode cJ9_floorDiv_7cf53 3 = .ok (.istore_n 2, 1) := by decide +kernel
theorem dJ9_floorDiv_7cf53_4 : decode cJ9_floorDiv_7cf53 4 = .ok (.iload_n 0, 1) := by decide +kernel
theorem dJ9_floorDiv_7cf53_5 : decode cJ9_floorDiv_7cf53 5 = .ok (.iload_n 1, 1) := by decide +kernel
theorem dJ9_floorDiv_7cf53_6 : decode cJ9_floorDiv_7cf53 6 = .ok (.ixor, 1) := by decide +kernel
theorem dJ9_floorDiv_7cf53_7 : decode cJ9_floorDiv_7cf53 7 = .ok (.ifCond .ge 14, 3) := by decide +kernel
theorem dJ9_floorDiv_7cf53_10 : decode cJ9_floorDiv_7cf53 10 = .ok (.iload_n 2, 1) := by decide +kernel
theorem dJ9_floorDiv_7cf53_11 : decode cJ9_floorDiv_7cf53 11 = .ok (.iload_n 1, 1) := by decide +kernel
theorem dJ9_floorDiv_7cf53_12 : decode cJ9_floorDiv_7cf53 12 = .ok (.imul, 1) := by decide +kernel
theorem dJ9_floorDiv_7cf53_13 : decode cJ9_floorDiv_7cf53 13 = .ok (.iload_n 0, 1) := by decide +kernel
theorem dJ9_floorDiv_7cf53_14 : decode cJ9_floorDiv_7cf53 14 = .ok (.if_icmp .eq 7, 3) := by decide +kernel
theorem dJ9_floorDiv_7cf53_17 : decode cJ9_floorDiv_7cf53 17 = .ok (.iload_n 2, 1) := by decide +kernel
theorem dJ9_floorDiv_7cf53_18 : decode cJ9_floorDiv_7cf53 18 = .ok (.iconst 1, 1) := by decide +kernel
theorem dJ9_floorDiv_7cf53_19 : decode cJ9_floorDiv_7cf53 19 = .ok (.isub, 1) := by decide +kernel
theorem dJ9_floorDiv_7cf53_20 : decode cJ9_floorDiv_7cf53 20 = .ok (.ireturn, 1) := by decide +kernel
theorem dJ9_floorDiv_7cf53_21 : decode cJ9_floorDiv_7cf53 21 = .ok (.iload_n 2, 1) := by decide +kernel
theorem dJ9_floorDiv_7cf53_22 : decode cJ9_floorDiv_7cf53 22 = .ok (.ireturn, 1) := by decide +kernel
theorem dJ9_floorMod_7cf53_0 : decode cJ9_floorMod_7cf53 0 = .ok (.iload_n 0, 1) := by decide +kernel
theorem dJ9_floorMod_7cf53_1 : decode cJ9_floorMod_7cf53 1 = .ok (.iload_n 1, 1) := by decide +kernel
theorem dJ9_floorMod_7cf53_2 : decode cJ9_floorMod_7cf53 2 = .ok (.irem, 1) := by decide +kernel
theorem dJ9_floorMod_7cf53_3 : decode cJ9_floorMod_7cf53 3 = .ok (.istore_n 2, 1) := by decide +kernel
theorem dJ9_floorMod_7cf53_4 : decode cJ9_floorMod_7cf53 4 = .ok (.iload_n 0, 1) := by decide +kernel
theorem dJ9_floorMod_7cf53_5 : decode cJ9_floorMod_7cf53 5 = .ok (.iload_n 1, 1) := by decide +kernel
theorem dJ9_floorMod_7cf53_6 : decode cJ9_floorMod_7cf53 6 = .ok (.ixor, 1) := by decide +kernel
theorem dJ9_floorMod_7cf53_7 : decode cJ9_floorMod_7cf53 7 = .ok (.ifCond .ge 11, 3) := by decide +kernel
theorem dJ9_floorMod_7cf53_10 : decode cJ9_floorMod_7cf53 10 = .ok (.iload_n 2, 1) := by decide +kernel
theorem dJ9_floorMod_7cf53_11 : decode cJ9_floorMod_7cf53 11 = .ok (.ifCond .eq 7, 3) := by decide +kernel
theorem dJ9_floorMod_7cf53_14 : decode cJ9_floorMod_7cf53 14 = .ok (.iload_n 2, 1) := by decide +kernel
theorem dJ9_floorMod_7cf53_15 : decode cJ9_floorMod_7cf53 15 = .ok (.iload_n 1, 1) := by decide +kernel
theorem dJ9_floorMod_7cf53_16 : decode cJ9_floorMod_7cf53 16 = .ok (.iadd, 1) := by decide +kernel
theorem dJ9_floorMod_7cf53_17 : decode cJ9_floorMod_7cf53 17 = .ok (.ireturn, 1) := by decide +kernel
theorem dJ9_floorMod_7cf53_18 : decode cJ9_floorMod_7cf53 18 = .ok (.iload_n 2, 1) := by decide +kernel
theorem dJ9_floorMod_7cf53_19 : decode cJ9_floorMod_7cf53 19 = .ok (.ireturn, 1) := by decide +kernel
theorem dJ9_abs_0f7a4_0 : decode cJ9_abs_0f7a4 0 = .ok (.iload_n 0, 1) := by decide +kernel
theorem dJ9_abs_0f7a4_1 : decode cJ9_abs_0f7a4 1 = .ok (.ifCond .ge 8, 3) := by decide +kernel
theorem dJ9_abs_0f7a4_4 : decode cJ9_abs_0f7a4 4 = .ok (.iload_n 0, 1) := by decide +kernel
theorem dJ9_abs_0f7a4_5 : decode cJ9_abs_0f7a4 5 = .ok (.ineg, 1) := by decide +kernel
theorem dJ9_abs_0f7a4_6 : decode cJ9_abs_0f7a4 6 = .ok (.goto 4, 3) := by decide +kernel
theorem dJ9_abs_0f7a4_9 : decode cJ9_abs_0f7a4 9 = .ok (.iload_n 0, 1) := by decide +kernel
theorem dJ9_abs_0f7a4_10 : decode cJ9_abs_0f7a4 10 = .ok (.ireturn, 1) := by decide +kernel
theorem dJ9_max_7cf53_0 : decode cJ9_max_7cf53 0 = .ok (.iload_n 0, 1) := by decide +kernel
theorem dJ9_max_7cf53_1 : decode cJ9_max_7cf53 1 = .ok (.iload_n 1, 1) := by decide +kernel
theorem dJ9_max_7cf53_2 : decode cJ9_max_7cf53 2 = .ok (.if_icmp .lt 7, 3) := by decide +kernel
theorem dJ9_max_7cf53_5 : decode cJ9_max_7cf53 5 = .ok (.iload_n 0, 1) := by decide +kernel
theorem dJ9_max_7cf53_6 : decode cJ9_max_7cf53 6 = .ok (.goto 4, 3) := by decide +kernel
theorem dJ9_max_7cf53_9 : decode cJ9_max_7cf53 9 = .ok (.iload_n 1, 1) := by decide +kernel
theorem dJ9_max_7cf53_10 : decode cJ9_max_7cf53 10 = .ok (.ireturn, 1) := by decide +kernel
theorem dJ9_min_7cf53_0 : decode cJ9_min_7cf53 0 = .ok (.iload_n 0, 1) := by decide +kernel
theorem dJ9_min_7cf53_1 : decode cJ9_min_7cf53 1 = .ok (.iload_n 1, 1) := by decide +kernel
theorem dJ9_min_7cf53_2 : decode cJ9_min_7cf53 2 = .ok (.if_icmp .gt 7, 3) := by decide +kernel
theorem dJ9_min_7cf53_5 : decode cJ9_min_7cf53 5 = .ok (.iload_n 0, 1) := by decide +kernel
theorem dJ9_min_7cf53_6 : decode cJ9_min_7cf53 6 = .ok (.goto 4, 3) := by decide +kernel
theorem dJ9_min_7cf53_9 : decode cJ9_min_7cf53 9 = .ok (.iload_n 1, 1) := by decide +kernel
theorem dJ9_min_7cf53_10 : decode cJ9_min_7cf53 10 = .ok (.ireturn, 1) := by decide +kernel
