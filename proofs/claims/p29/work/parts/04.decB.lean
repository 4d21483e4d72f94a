theorem dX6_init_0 : decode cX6_init 0 = .ok (.aload_n 0, 1) := by decide +kernel
theorem dX6_init_1 : decode cX6_init 1 = .ok (.invokespecial 1, 3) := by decide +kernel
theorem dX6_init_4 : decode cX6_init 4 = .ok (.aload_n 0, 1) := by decide +kernel
theorem dX6_init_5 : decode cX6_init 5 = .ok (.bipush 8, 2) := by decide +kernel
theorem dX6_init_7 : decode cX6_init 7 = .ok (.anewarray 9, 3) := by decide +kernel
theorem dX6_init_10 : decode cX6_init 10 = .ok (.putfield 11, 3) := by decide +kernel
theorem dX6_init_13 : decode cX6_init 13 = .ok (.aload_n 0, 1) := by decide +kernel
theorem dX6_init_14 : decode cX6_init 14 = .ok (.iconst 3, 1) := by decide +kernel
theorem dX6_init_15 : decode cX6_init 15 = .ok (.anewarray 15, 3) := by decide +kernel
theorem dX6_init_18 : decode cX6_init 18 = .ok (.putfield 17, 3) := by decide +kernel
theorem dX6_init_21 : decode cX6_init 21 = .ok (.aload_n 0, 1) := by decide +kernel
theorem dX6_init_22 : decode cX6_init 22 = .ok (.iconst 3, 1) := by decide +kernel
theorem dX6_init_23 : decode cX6_init 23 = .ok (.anewarray 21, 3) := by decide +kernel
theorem dX6_init_26 : decode cX6_init 26 = .ok (.putfield 23, 3) := by decide +kernel
theorem dX6_init_29 : decode cX6_init 29 = .ok (.aload_n 0, 1) := by decide +kernel
theorem dX6_init_30 : decode cX6_init 30 = .ok (.new 27, 3) := by decide +kernel
theorem dX6_init_33 : decode cX6_init 33 = .ok (.dup, 1) := by decide +kernel
theorem dX6_init_34 : decode cX6_init 34 = .ok (.invokespecial 29, 3) := by decide +kernel
theorem dX6_init_37 : decode cX6_init 37 = .ok (.putfield 30, 3) := by decide +kernel
theorem dX6_init_40 : decode cX6_init 40 = .ok (.return_, 1) := by decide +kernel
theorem dX6_star_0 : decode cX6_star 0 = .ok (.iload_n 1, 1) := by decide +kernel
theorem dX6_star_1 : decode cX6_star 1 = .ok (.bipush 60, 2) := by decide +kernel
theorem dX6_star_3 : decode cX6_star 3 = .ok (.sipush 200, 3) := by decide +kernel
theorem dX6_star_6 : decode cX6_star 6 = .ok (.invokestatic 34, 3) := by decide +kernel
theorem dX6_star_9 : decode cX6_star 9 = .ok (.ifCond .ne 23, 3) := by decide +kernel
theorem dX6_star_12 : decode cX6_star 12 = .ok (.iload_n 2, 1) := by decide +kernel
theorem dX6_star_13 : decode cX6_star 13 = .ok (.iconst 0, 1) := by decide +kernel
theorem dX6_star_14 : decode cX6_star 14 = .ok (.bipush 47, 2) := by decide +kernel
theorem dX6_star_16 : decode cX6_star 16 = .ok (.invokestatic 34, 3) := by decide +kernel
theorem dX6_star_19 : decode cX6_star 19 = .ok (.ifCond .ne 13, 3) := by decide +kernel
theorem dX6_star_22 : decode cX6_star 22 = .ok (.iload_n 3, 1) := by decide +kernel
theorem dX6_star_23 : decode cX6_star 23 = .ok (.bipush (-3), 2) := by decide +kernel
theorem dX6_star_25 : decode cX6_star 25 = .ok (.iconst 3, 1) := by decide +kernel
theorem dX6_star_26 : decode cX6_star 26 = .ok (.invokestatic 34, 3) := by decide +kernel
theorem dX6_star_29 : decode cX6_star 29 = .ok (.ifCond .eq 13, 3) := by decide +kernel
theorem dX6_star_32 : decode cX6_star 32 = .ok (.new 38, 3) := by decide +kernel
theorem dX6_star_35 : decode cX6_star 35 = .ok (.dup, 1) := by decide +kernel
theorem dX6_star_36 : decode cX6_star 36 = .ok (.ldc 40, 2) := by decide +kernel
theorem dX6_star_38 : decode cX6_star 38 = .ok (.invokespecial 42, 3) := by decide +kernel
theorem dX6_star_41 : decode cX6_star 41 = .ok (.athrow, 1) := by decide +kernel
theorem dX6_star_42 : decode cX6_star 42 = .ok (.iload 4, 2) := by decide +kernel
theorem dX6_star_44 : decode cX6_star 44 = .ok (.sipush (-500), 3) := by decide +kernel
theorem dX6_star_47 : decode cX6_star 47 = .ok (.sipush 500, 3) := by decide +kernel
theorem dX6_star_50 : decode cX6_star 50 = .ok (.invokestatic 34, 3) := by decide +kernel
theorem dX6_star_53 : decode cX6_star 53 = .ok (.ifCond .ne 14, 3) := by decide +kernel
theorem dX6_star_56 : decode cX6_star 56 = .ok (.iload 5, 2) := by decide +kernel
theorem dX6_star_58 : decode cX6_star 58 = .ok (.bipush (-3), 2) := by decide +kernel
theorem dX6_star_60 : decode cX6_star 60 = .ok (.iconst 3, 1) := by decide +kernel
theorem dX6_star_61 : decode cX6_star 61 = .ok (.invokestatic 34, 3) := by decide +kernel
theorem dX6_star_64 : decode cX6_star 64 = .ok (.ifCond .eq 13, 3) := by decide +kernel
theorem dX6_star_67 : decode cX6_star 67 = .ok (.new 38, 3) := by decide +kernel
theorem dX6_star_70 : decode cX6_star 70 = .ok (.dup, 1) := by decide +kernel
theorem dX6_star_71 : decode cX6_star 71 = .ok (.ldc 45, 2) := by decide +kernel
theorem dX6_star_73 : decode cX6_star 73 = .ok (.invokespecial 42, 3) := by decide +kernel
theorem dX6_star_76 : decode cX6_star 76 = .ok (.athrow, 1) := by decide +kernel
theorem dX6_star_77 : decode cX6_star 77 = .ok (.aload_n 0, 1) := by decide +kernel
theorem dX6_star_78 : decode cX6_star 78 = .ok (.getfield 47, 3) := by decide +kernel
theorem dX6_star_81 : decode cX6_star 81 = .ok (.bipush 8, 2) := by decide +kernel
theorem dX6_star_83 : decode cX6_star 83 = .ok (.if_icmp .lt 13, 3) := by decide +kernel
theorem dX6_star_86 : decode cX6_star 86 = .ok (.new 51, 3) := by decide +kernel
theorem dX6_star_89 : decode cX6_star 89 = .ok (.dup, 1) := by decide +kernel
theorem dX6_star_90 : decode cX6_star 90 = .ok (.ldc 53, 2) := by decide +kernel
theorem dX6_star_92 : decode cX6_star 92 = .ok (.invokespecial 55, 3) := by decide +kernel
theorem dX6_star_95 : decode cX6_star 95 = .ok (.athrow, 1) := by decide +kernel
theorem dX6_star_96 : decode cX6_star 96 = .ok (.aload_n 0, 1) := by decide +kernel
theorem dX6_star_97 : decode cX6_star 97 = .ok (.getfield 11, 3) := by decide +kernel
theorem dX6_star_100 : decode cX6_star 100 = .ok (.aload_n 0, 1) := by decide +kernel
theorem dX6_star_101 : decode cX6_star 101 = .ok (.getfield 47, 3) := by decide +kernel
theorem dX6_star_104 : decode cX6_star 104 = .ok (.new 9, 3) := by decide +kernel
theorem dX6_star_107 : decode cX6_star 107 = .ok (.dup, 1) := by decide +kernel
theorem dX6_star_108 : decode cX6_star 108 = .ok (.iload_n 1, 1) := by decide +kernel
theorem dX6_star_109 : decode cX6_star 109 = .ok (.iload_n 2, 1) := by decide +kernel
theorem dX6_star_110 : decode cX6_star 110 = .ok (.iload_n 3, 1) := by decide +kernel
theorem dX6_star_111 : decode cX6_star 111 = .ok (.iload 4, 2) := by decide +kernel
theorem dX6_star_113 : decode cX6_star 113 = .ok (.iload 5, 2) := by decide +kernel
theorem dX6_star_115 : decode cX6_star 115 = .ok (.invokespecial 56, 3) := by decide +kernel
theorem dX6_star_118 : decode cX6_star 118 = .ok (.aastore, 1) := by decide +kernel
theorem dX6_star_119 : decode cX6_star 119 = .ok (.aload_n 0, 1) := by decide +kernel
theorem dX6_star_120 : decode cX6_star 120 = .ok (.dup, 1) := by decide +kernel
theorem dX6_star_121 : decode cX6_star 121 = .ok (.getfield 47, 3) := by decide +kernel
theorem dX6_star_124 : decode cX6_star 124 = .ok (.iconst 1, 1) := by decide +kernel
theorem dX6_star_125 : decode cX6_star 125 = .ok (.iadd, 1) := by decide +kernel
theorem dX6_star_126 : decode cX6_star 126 = .ok (.putfield 47, 3) := by decide +kernel
theorem dX6_star_129 : decode cX6_star 129 = .ok (.aload_n 0, 1) := by decide +kernel
theorem dX6_star_130 : decode cX6_star 130 = .ok (.getfield 47, 3) := by decide +kernel
theorem dX6_star_133 : decode cX6_star 133 = .ok (.iconst 1, 1) := by decide +kernel
theorem dX6_star_134 : decode cX6_star 134 = .ok (.isub, 1) := by decide +kernel
theorem dX6_star_135 : decode cX6_star 135 = .ok (.ireturn, 1) := by decide +kernel
theorem dX6_push_0 : decode cX6_push 0 = .ok (.aload_n 0, 1) := by decide +kernel
theorem dX6_push_1 : decode cX6_push 1 = .ok (.iload_n 1, 1) := by decide +kernel
theorem dX6_push_2 : decode cX6_push 2 = .ok (.invokevirtual 59, 3) := by decide +kernel
theorem dX6_push_5 : decode cX6_push 5 = .ok (.ifCond .eq 13, 3) := by decide +kernel
theorem dX6_push_8 : decode cX6_push 8 = .ok (.new 63, 3) := by decide +kernel
theorem dX6_push_11 : decode cX6_push 11 = .ok (.dup, 1) := by decide +kernel
theorem dX6_push_12 : decode cX6_push 12 = .ok (.ldc 65, 2) := by decide +kernel
theorem dX6_push_14 : decode cX6_push 14 = .ok (.invokespecial 67, 3) := by decide +kernel
theorem dX6_push_17 : decode cX6_push 17 = .ok (.athrow, 1) := by decide +kernel
theorem dX6_push_18 : decode cX6_push 18 = .ok (.iload_n 2, 1) := by decide +kernel
theorem dX6_push_19 : decode cX6_push 19 = .ok (.bipush (-5), 2) := by decide +kernel
theorem dX6_push_21 : decode cX6_push 21 = .ok (.iconst 5, 1) := by decide +kernel
theorem dX6_push_22 : decode cX6_push 22 = .ok (.invokestatic 34, 3) := by decide +kernel
theorem dX6_push_25 : decode cX6_push 25 = .ok (.ifCond .eq 13, 3) := by decide +kernel
theorem dX6_push_28 : decode cX6_push 28 = .ok (.new 38, 3) := by decide +kernel
theorem dX6_push_31 : decode cX6_push 31 = .ok (.dup, 1) := by decide +kernel
theorem dX6_push_32 : decode cX6_push 32 = .ok (.ldc 68, 2) := by decide +kernel
theorem dX6_push_34 : decode cX6_push 34 = .ok (.invokespecial 42, 3) := by decide +kernel
theorem dX6_push_37 : decode cX6_push 37 = .ok (.athrow, 1) := by decide +kernel
theorem dX6_push_38 : decode cX6_push 38 = .ok (.aload_n 0, 1) := by decide +kernel
theorem dX6_push_39 : decode cX6_push 39 = .ok (.getfield 11, 3) := by decide +kernel
theorem dX6_push_42 : decode cX6_push 42 = .ok (.iload_n 1, 1) := by decide +kernel
theorem dX6_push_43 : decode cX6_push 43 = .ok (.aaload, 1) := by decide +kernel
theorem dX6_push_44 : decode cX6_push 44 = .ok (.astore_n 3, 1) := by decide +kernel
theorem dX6_push_45 : decode cX6_push 45 = .ok (.aload_n 3, 1) := by decide +kernel
theorem dX6_push_46 : decode cX6_push 46 = .ok (.aload_n 3, 1) := by decide +kernel
theorem dX6_push_47 : decode cX6_push 47 = .ok (.getfield 70, 3) := by decide +kernel
theorem dX6_push_50 : decode cX6_push 50 = .ok (.iload_n 2, 1) := by decide +kernel
theorem dX6_push_51 : decode cX6_push 51 = .ok (.iadd, 1) := by decide +kernel
theorem dX6_push_52 : decode cX6_push 52 = .ok (.bipush 48, 2) := by decide +kernel
theorem dX6_push_54 : decode cX6_push 54 = .ok (.invokestatic 73, 3) := by decide +kernel
theorem dX6_push_57 : decode cX6_push 57 = .ok (.putfield 70, 3) := by decide +kernel
theorem dX6_push_60 : decode cX6_push 60 = .ok (.aload_n 3, 1) := by decide +kernel
theorem dX6_push_61 : decode cX6_push 61 = .ok (.getfield 70, 3) := by decide +kernel
theorem dX6_push_64 : decode cX6_push 64 = .ok (.ireturn, 1) := by decide +kernel
theorem dX6_jump_0 : decode cX6_jump 0 = .ok (.aload_n 0, 1) := by decide +kernel
theorem dX6_jump_1 : decode cX6_jump 1 = .ok (.iload_n 1, 1) := by decide +kernel
theorem dX6_jump_2 : decode cX6_jump 2 = .ok (.invokevirtual 59, 3) := by decide +kernel
theorem dX6_jump_5 : decode cX6_jump 5 = .ok (.ifCond .eq 13, 3) := by decide +kernel
theorem dX6_jump_8 : decode cX6_jump 8 = .ok (.new 63, 3) := by decide +kernel
theorem dX6_jump_11 : decode cX6_jump 11 = .ok (.dup, 1) := by decide +kernel
theorem dX6_jump_12 : decode cX6_jump 12 = .ok (.ldc 65, 2) := by decide +kernel
theorem dX6_jump_14 : decode cX6_jump 14 = .ok (.invokespecial 67, 3) := by decide +kernel
theorem dX6_jump_17 : decode cX6_jump 17 = .ok (.athrow, 1) := by decide +kernel
theorem dX6_jump_18 : decode cX6_jump 18 = .ok (.iload_n 2, 1) := by decide +kernel
theorem dX6_jump_19 : decode cX6_jump 19 = .ok (.bipush (-99), 2) := by decide +kernel
theorem dX6_jump_21 : decode cX6_jump 21 = .ok (.bipush 99, 2) := by decide +kernel
theorem dX6_jump_23 : decode cX6_jump 23 = .ok (.invokestatic 34, 3) := by decide +kernel
theorem dX6_jump_26 : decode cX6_jump 26 = .ok (.ifCond .ne 13, 3) := by decide +kernel
theorem dX6_jump_29 : decode cX6_jump 29 = .ok (.iload_n 3, 1) := by decide +kernel
theorem dX6_jump_30 : decode cX6_jump 30 = .ok (.bipush (-3), 2) := by decide +kernel
theorem dX6_jump_32 : decode cX6_jump 32 = .ok (.iconst 3, 1) := by decide +kernel
theorem dX6_jump_33 : decode cX6_jump 33 = .ok (.invokestatic 34, 3) := by decide +kernel
theorem dX6_jump_36 : decode cX6_jump 36 = .ok (.ifCond .eq 13, 3) := by decide +kernel
theorem dX6_jump_39 : decode cX6_jump 39 = .ok (.new 38, 3) := by decide +kernel
theorem dX6_jump_42 : decode cX6_jump 42 = .ok (.dup, 1) := by decide +kernel
theorem dX6_jump_43 : decode cX6_jump 43 = .ok (.ldc 45, 2) := by decide +kernel
theorem dX6_jump_45 : decode cX6_jump 45 = .ok (.invokespecial 42, 3) := by decide +kernel
theorem dX6_jump_48 : decode cX6_jump 48 = .ok (.athrow, 1) := by decide +kernel
theorem dX6_jump_49 : decode cX6_jump 49 = .ok (.aload_n 0, 1) := by decide +kernel
theorem dX6_jump_50 : decode cX6_jump 50 = .ok (.getfield 11, 3) := by decide +kernel
theorem dX6_jump_53 : decode cX6_jump 53 = .ok (.iload_n 1, 1) := by decide +kernel
theorem dX6_jump_54 : decode cX6_jump 54 = .ok (.aaload, 1) := by decide +kernel
theorem dX6_jump_55 : decode cX6_jump 55 = .ok (.astore 4, 2) := by decide +kernel
theorem dX6_jump_57 : decode cX6_jump 57 = .ok (.aload 4, 2) := by decide +kernel
theorem dX6_jump_59 : decode cX6_jump 59 = .ok (.iload_n 2, 1) := by decide +kernel
theorem dX6_jump_60 : decode cX6_jump 60 = .ok (.invokevirtual 79, 3) := by decide +kernel
theorem dX6_jump_63 : decode cX6_jump 63 = .ok (.aload 4, 2) := by decide +kernel
theorem dX6_jump_65 : decode cX6_jump 65 = .ok (.iload_n 3, 1) := by decide +kernel
theorem dX6_jump_66 : decode cX6_jump 66 = .ok (.putfield 83, 3) := by decide +kernel
theorem dX6_jump_69 : decode cX6_jump 69 = .ok (.aload 4, 2) := by decide +kernel
theorem dX6_jump_71 : decode cX6_jump 71 = .ok (.getfield 86, 3) := by decide +kernel
theorem dX6_jump_74 : decode cX6_jump 74 = .ok (.ireturn, 1) := by decide +kernel
theorem dX6_health_0 : decode cX6_health 0 = .ok (.aload_n 0, 1) := by decide +kernel
theorem dX6_health_1 : decode cX6_health 1 = .ok (.iload_n 1, 1) := by decide +kernel
theorem dX6_health_2 : decode cX6_health 2 = .ok (.invokevirtual 59, 3) := by decide +kernel
theorem dX6_health_5 : decode cX6_health 5 = .ok (.ifCond .eq 13, 3) := by decide +kernel
theorem dX6_health_8 : decode cX6_health 8 = .ok (.new 63, 3) := by decide +kernel
theorem dX6_health_11 : decode cX6_health 11 = .ok (.dup, 1) := by decide +kernel
theorem dX6_health_12 : decode cX6_health 12 = .ok (.ldc 65, 2) := by decide +kernel
theorem dX6_health_14 : decode cX6_health 14 = .ok (.invokespecial 67, 3) := by decide +kernel
theorem dX6_health_17 : decode cX6_health 17 = .ok (.athrow, 1) := by decide +kernel
theorem dX6_health_18 : decode cX6_health 18 = .ok (.aload_n 0, 1) := by decide +kernel
theorem dX6_health_19 : decode cX6_health 19 = .ok (.getfield 11, 3) := by decide +kernel
theorem dX6_health_22 : decode cX6_health 22 = .ok (.iload_n 1, 1) := by decide +kernel
theorem dX6_health_23 : decode cX6_health 23 = .ok (.aaload, 1) := by decide +kernel
theorem dX6_health_24 : decode cX6_health 24 = .ok (.getfield 89, 3) := by decide +kernel
theorem dX6_health_27 : decode cX6_health 27 = .ok (.istore_n 3, 1) := by decide +kernel
theorem dX6_health_28 : decode cX6_health 28 = .ok (.aload_n 0, 1) := by decide +kernel
theorem dX6_health_29 : decode cX6_health 29 = .ok (.getfield 11, 3) := by decide +kernel
theorem dX6_health_32 : decode cX6_health 32 = .ok (.iload_n 1, 1) := by decide +kernel
theorem dX6_health_33 : decode cX6_health 33 = .ok (.aaload, 1) := by decide +kernel
theorem dX6_health_34 : decode cX6_health 34 = .ok (.iload_n 2, 1) := by decide +kernel
theorem dX6_health_35 : decode cX6_health 35 = .ok (.putfield 89, 3) := by decide +kernel
theorem dX6_health_38 : decode cX6_health 38 = .ok (.iload_n 3, 1) := by decide +kernel
theorem dX6_health_39 : decode cX6_health 39 = .ok (.ireturn, 1) := by decide +kernel
theorem dX6_station_0 : decode cX6_station 0 = .ok (.iload_n 1, 1) := by decide +kernel
theorem dX6_station_1 : decode cX6_station 1 = .ok (.bipush (-50), 2) := by decide +kernel
theorem dX6_station_3 : decode cX6_station 3 = .ok (.bipush 50, 2) := by decide +kernel
theorem dX6_station_5 : decode cX6_station 5 = .ok (.invokestatic 34, 3) := by decide +kernel
theorem dX6_station_8 : decode cX6_station 8 = .ok (.ifCond .ne 13, 3) := by decide +kernel
theorem dX6_station_11 : decode cX6_station 11 = .ok (.iload_n 2, 1) := by decide +kernel
theorem dX6_station_12 : decode cX6_station 12 = .ok (.iconst 0, 1) := by decide +kernel
theorem dX6_station_13 : decode cX6_station 13 = .ok (.bipush 9, 2) := by decide +kernel
theorem dX6_station_15 : decode cX6_station 15 = .ok (.invokestatic 34, 3) := by decide +kernel
theorem dX6_station_18 : decode cX6_station 18 = .ok (.ifCond .eq 13, 3) := by decide +kernel
theorem dX6_station_21 : decode cX6_station 21 = .ok (.new 38, 3) := by decide +kernel
theorem dX6_station_24 : decode cX6_station 24 = .ok (.dup, 1) := by decide +kernel
theorem dX6_station_25 : decode cX6_station 25 = .ok (.ldc 93, 2) := by decide +kernel
theorem dX6_station_27 : decode cX6_station 27 = .ok (.invokespecial 42, 3) := by decide +kernel
theorem dX6_station_30 : decode cX6_station 30 = .ok (.athrow, 1) := by decide +kernel
theorem dX6_station_31 : decode cX6_station 31 = .ok (.aload_n 0, 1) := by decide +kernel
theorem dX6_station_32 : decode cX6_station 32 = .ok (.getfield 95, 3) := by decide +kernel
theorem dX6_station_35 : decode cX6_station 35 = .ok (.iconst 3, 1) := by decide +kernel
theorem dX6_station_36 : decode cX6_station 36 = .ok (.if_icmp .lt 13, 3) := by decide +kernel
theorem dX6_station_39 : decode cX6_station 39 = .ok (.new 51, 3) := by decide +kernel
theorem dX6_station_42 : decode cX6_station 42 = .ok (.dup, 1) := by decide +kernel
theorem dX6_station_43 : decode cX6_station 43 = .ok (.ldc 98, 2) := by decide +kernel
theorem dX6_station_45 : decode cX6_station 45 = .ok (.invokespecial 55, 3) := by decide +kernel
theorem dX6_station_48 : decode cX6_station 48 = .ok (.athrow, 1) := by decide +kernel
theorem dX6_station_49 : decode cX6_station 49 = .ok (.aload_n 0, 1) := by decide +kernel
theorem dX6_station_50 : decode cX6_station 50 = .ok (.getfield 17, 3) := by decide +kernel
theorem dX6_station_53 : decode cX6_station 53 = .ok (.aload_n 0, 1) := by decide +kernel
theorem dX6_station_54 : decode cX6_station 54 = .ok (.getfield 95, 3) := by decide +kernel
theorem dX6_station_57 : decode cX6_station 57 = .ok (.new 15, 3) := by decide +kernel
theorem dX6_station_60 : decode cX6_station 60 = .ok (.dup, 1) := by decide +kernel
theorem dX6_station_61 : decode cX6_station 61 = .ok (.iload_n 1, 1) := by decide +kernel
theorem dX6_station_62 : decode cX6_station 62 = .ok (.iload_n 2, 1) := by decide +kernel
theorem dX6_station_63 : decode cX6_station 63 = .ok (.invokespecial 100, 3) := by decide +kernel
theorem dX6_station_66 : decode cX6_station 66 = .ok (.aastore, 1) := by decide +kernel
theorem dX6_station_67 : decode cX6_station 67 = .ok (.aload_n 0, 1) := by decide +kernel
theorem dX6_station_68 : decode cX6_station 68 = .ok (.dup, 1) := by decide +kernel
theorem dX6_station_69 : decode cX6_station 69 = .ok (.getfield 95, 3) := by decide +kernel
theorem dX6_station_72 : decode cX6_station 72 = .ok (.iconst 1, 1) := by decide +kernel
theorem dX6_station_73 : decode cX6_station 73 = .ok (.iadd, 1) := by decide +kernel
theorem dX6_station_74 : decode cX6_station 74 = .ok (.putfield 95, 3) := by decide +kernel
theorem dX6_station_77 : decode cX6_station 77 = .ok (.aload_n 0, 1) := by decide +kernel
theorem dX6_station_78 : decode cX6_station 78 = .ok (.getfield 95, 3) := by decide +kernel
theorem dX6_station_81 : decode cX6_station 81 = .ok (.iconst 1, 1) := by decide +kernel
theorem dX6_station_82 : decode cX6_station 82 = .ok (.isub, 1) := by decide +kernel
theorem dX6_station_83 : decode cX6_station 83 = .ok (.ireturn, 1) := by decide +kernel
theorem dX6_listen_0 : decode cX6_listen 0 = .ok (.aload_n 0, 1) := by decide +kernel
theorem dX6_listen_1 : decode cX6_listen 1 = .ok (.iload_n 1, 1) := by decide +kernel
theorem dX6_listen_2 : decode cX6_listen 2 = .ok (.invokevirtual 103, 3) := by decide +kernel
theorem dX6_listen_5 : decode cX6_listen 5 = .ok (.ifCond .ne 11, 3) := by decide +kernel
theorem dX6_listen_8 : decode cX6_listen 8 = .ok (.aload_n 0, 1) := by decide +kernel
theorem dX6_listen_9 : decode cX6_listen 9 = .ok (.iload_n 2, 1) := by decide +kernel
theorem dX6_listen_10 : decode cX6_listen 10 = .ok (.invokevirtual 59, 3) := by decide +kernel
theorem dX6_listen_13 : decode cX6_listen 13 = .ok (.ifCond .eq 13, 3) := by decide +kernel
theorem dX6_listen_16 : decode cX6_listen 16 = .ok (.new 63, 3) := by decide +kernel
theorem dX6_listen_19 : decode cX6_listen 19 = .ok (.dup, 1) := by decide +kernel
theorem dX6_listen_20 : decode cX6_listen 20 = .ok (.ldc 106, 2) := by decide +kernel
theorem dX6_listen_22 : decode cX6_listen 22 = .ok (.invokespecial 67, 3) := by decide +kernel
theorem dX6_listen_25 : decode cX6_listen 25 = .ok (.athrow, 1) := by decide +kernel
theorem dX6_listen_26 : decode cX6_listen 26 = .ok (.aload_n 0, 1) := by decide +kernel
theorem dX6_listen_27 : decode cX6_listen 27 = .ok (.getfield 11, 3) := by decide +kernel
theorem dX6_listen_30 : decode cX6_listen 30 = .ok (.iload_n 2, 1) := by decide +kernel
theorem dX6_listen_31 : decode cX6_listen 31 = .ok (.aaload, 1) := by decide +kernel
theorem dX6_listen_32 : decode cX6_listen 32 = .ok (.astore_n 3, 1) := by decide +kernel
theorem dX6_listen_33 : decode cX6_listen 33 = .ok (.aload_n 0, 1) := by decide +kernel
theorem dX6_listen_34 : decode cX6_listen 34 = .ok (.getfield 17, 3) := by decide +kernel
theorem dX6_listen_37 : decode cX6_listen 37 = .ok (.iload_n 1, 1) := by decide +kernel
theorem dX6_listen_38 : decode cX6_listen 38 = .ok (.aaload, 1) := by decide +kernel
theorem dX6_listen_39 : decode cX6_listen 39 = .ok (.astore 4, 2) := by decide +kernel
theorem dX6_listen_41 : decode cX6_listen 41 = .ok (.aload 4, 2) := by decide +kernel
theorem dX6_listen_43 : decode cX6_listen 43 = .ok (.aload_n 3, 1) := by decide +kernel
theorem dX6_listen_44 : decode cX6_listen 44 = .ok (.iconst 0, 1) := by decide +kernel
theorem dX6_listen_45 : decode cX6_listen 45 = .ok (.invokevirtual 108, 3) := by decide +kernel
theorem dX6_listen_48 : decode cX6_listen 48 = .ok (.ifCond .ne 13, 3) := by decide +kernel
theorem dX6_listen_51 : decode cX6_listen 51 = .ok (.new 51, 3) := by decide +kernel
theorem dX6_listen_54 : decode cX6_listen 54 = .ok (.dup, 1) := by decide +kernel
theorem dX6_listen_55 : decode cX6_listen 55 = .ok (.ldc 112, 2) := by decide +kernel
theorem dX6_listen_57 : decode cX6_listen 57 = .ok (.invokespecial 55, 3) := by decide +kernel
theorem dX6_listen_60 : decode cX6_listen 60 = .ok (.athrow, 1) := by decide +kernel
theorem dX6_listen_61 : decode cX6_listen 61 = .ok (.aload_n 3, 1) := by decide +kernel
theorem dX6_listen_62 : decode cX6_listen 62 = .ok (.aload_n 0, 1) := by decide +kernel
theorem dX6_listen_63 : decode cX6_listen 63 = .ok (.getfield 114, 3) := by decide +kernel
theorem dX6_listen_66 : decode cX6_listen 66 = .ok (.aload 4, 2) := by decide +kernel
theorem dX6_listen_68 : decode cX6_listen 68 = .ok (.getfield 117, 3) := by decide +kernel
theorem dX6_listen_71 : decode cX6_listen 71 = .ok (.invokevirtual 120, 3) := by decide +kernel
theorem dX6_listen_74 : decode cX6_listen 74 = .ok (.aload_n 3, 1) := by decide +kernel
theorem dX6_listen_75 : decode cX6_listen 75 = .ok (.getfield 123, 3) := by decide +kernel
theorem dX6_listen_78 : decode cX6_listen 78 = .ok (.ireturn, 1) := by decide +kernel
theorem dX6_receiver_0 : decode cX6_receiver 0 = .ok (.iload_n 1, 1) := by decide +kernel
theorem dX6_receiver_1 : decode cX6_receiver 1 = .ok (.iload_n 2, 1) := by decide +kernel
theorem dX6_receiver_2 : decode cX6_receiver 2 = .ok (.invokestatic 126, 3) := by decide +kernel
theorem dX6_receiver_5 : decode cX6_receiver 5 = .ok (.ifCond .ne 14, 3) := by decide +kernel
theorem dX6_receiver_8 : decode cX6_receiver 8 = .ok (.iload_n 3, 1) := by decide +kernel
theorem dX6_receiver_9 : decode cX6_receiver 9 = .ok (.bipush (-99), 2) := by decide +kernel
theorem dX6_receiver_11 : decode cX6_receiver 11 = .ok (.bipush 99, 2) := by decide +kernel
theorem dX6_receiver_13 : decode cX6_receiver 13 = .ok (.invokestatic 34, 3) := by decide +kernel
theorem dX6_receiver_16 : decode cX6_receiver 16 = .ok (.ifCond .eq 13, 3) := by decide +kernel
theorem dX6_receiver_19 : decode cX6_receiver 19 = .ok (.new 38, 3) := by decide +kernel
theorem dX6_receiver_22 : decode cX6_receiver 22 = .ok (.dup, 1) := by decide +kernel
theorem dX6_receiver_23 : decode cX6_receiver 23 = .ok (.ldc 130, 2) := by decide +kernel
theorem dX6_receiver_25 : decode cX6_receiver 25 = .ok (.invokespecial 42, 3) := by decide +kernel
theorem dX6_receiver_28 : decode cX6_receiver 28 = .ok (.athrow, 1) := by decide +kernel
theorem dX6_receiver_29 : decode cX6_receiver 29 = .ok (.aload_n 0, 1) := by decide +kernel
theorem dX6_receiver_30 : decode cX6_receiver 30 = .ok (.getfield 132, 3) := by decide +kernel
theorem dX6_receiver_33 : decode cX6_receiver 33 = .ok (.iconst 3, 1) := by decide +kernel
theorem dX6_receiver_34 : decode cX6_receiver 34 = .ok (.if_icmp .lt 13, 3) := by decide +kernel
theorem dX6_receiver_37 : decode cX6_receiver 37 = .ok (.new 51, 3) := by decide +kernel
theorem dX6_receiver_40 : decode cX6_receiver 40 = .ok (.dup, 1) := by decide +kernel
theorem dX6_receiver_41 : decode cX6_receiver 41 = .ok (.ldc 135, 2) := by decide +kernel
theorem dX6_receiver_43 : decode cX6_receiver 43 = .ok (.invokespecial 55, 3) := by decide +kernel
theorem dX6_receiver_46 : decode cX6_receiver 46 = .ok (.athrow, 1) := by decide +kernel
theorem dX6_receiver_47 : decode cX6_receiver 47 = .ok (.aload_n 0, 1) := by decide +kernel
theorem dX6_receiver_48 : decode cX6_receiver 48 = .ok (.getfield 23, 3) := by decide +kernel
theorem dX6_receiver_51 : decode cX6_receiver 51 = .ok (.aload_n 0, 1) := by decide +kernel
theorem dX6_receiver_52 : decode cX6_receiver 52 = .ok (.getfield 132, 3) := by decide +kernel
theorem dX6_receiver_55 : decode cX6_receiver 55 = .ok (.new 21, 3) := by decide +kernel
theorem dX6_receiver_58 : decode cX6_receiver 58 = .ok (.dup, 1) := by decide +kernel
theorem dX6_receiver_59 : decode cX6_receiver 59 = .ok (.aload_n 0, 1) := by decide +kernel
theorem dX6_receiver_60 : decode cX6_receiver 60 = .ok (.getfield 132, 3) := by decide +kernel
theorem dX6_receiver_63 : decode cX6_receiver 63 = .ok (.iload_n 1, 1) := by decide +kernel
theorem dX6_receiver_64 : decode cX6_receiver 64 = .ok (.iload_n 2, 1) := by decide +kernel
theorem dX6_receiver_65 : decode cX6_receiver 65 = .ok (.iload_n 3, 1) := by decide +kernel
theorem dX6_receiver_66 : decode cX6_receiver 66 = .ok (.invokespecial 137, 3) := by decide +kernel
theorem dX6_receiver_69 : decode cX6_receiver 69 = .ok (.aastore, 1) := by decide +kernel
theorem dX6_receiver_70 : decode cX6_receiver 70 = .ok (.aload_n 0, 1) := by decide +kernel
theorem dX6_receiver_71 : decode cX6_receiver 71 = .ok (.dup, 1) := by decide +kernel
theorem dX6_receiver_72 : decode cX6_receiver 72 = .ok (.getfield 132, 3) := by decide +kernel
theorem dX6_receiver_75 : decode cX6_receiver 75 = .ok (.iconst 1, 1) := by decide +kernel
theorem dX6_receiver_76 : decode cX6_receiver 76 = .ok (.iadd, 1) := by decide +kernel
theorem dX6_receiver_77 : decode cX6_receiver 77 = .ok (.putfield 132, 3) := by decide +kernel
theorem dX6_receiver_80 : decode cX6_receiver 80 = .ok (.aload_n 0, 1) := by decide +kernel
theorem dX6_receiver_81 : decode cX6_receiver 81 = .ok (.getfield 132, 3) := by decide +kernel
theorem dX6_receiver_84 : decode cX6_receiver 84 = .ok (.iconst 1, 1) := by decide +kernel
theorem dX6_receiver_85 : decode cX6_receiver 85 = .ok (.isub, 1) := by decide +kernel
theorem dX6_receiver_86 : decode cX6_receiver 86 = .ok (.ireturn, 1) := by decide +kernel
theorem dX6_go_0 : decode cX6_go 0 = .ok (.aload_n 0, 1) := by decide +kernel
theorem dX6_go_1 : decode cX6_go 1 = .ok (.iload_n 1, 1) := by decide +kernel
theorem dX6_go_2 : decode cX6_go 2 = .ok (.invokevirtual 140, 3) := by decide +kernel
theorem dX6_go_5 : decode cX6_go 5 = .ok (.ifCond .eq 13, 3) := by decide +kernel
theorem dX6_go_8 : decode cX6_go 8 = .ok (.new 63, 3) := by decide +kernel
theorem dX6_go_11 : decode cX6_go 11 = .ok (.dup, 1) := by decide +kernel
theorem dX6_go_12 : decode cX6_go 12 = .ok (.ldc 143, 2) := by decide +kernel
theorem dX6_go_14 : decode cX6_go 14 = .ok (.invokespecial 67, 3) := by decide +kernel
theorem dX6_go_17 : decode cX6_go 17 = .ok (.athrow, 1) := by decide +kernel
theorem dX6_go_18 : decode cX6_go 18 = .ok (.iload_n 2, 1) := by decide +kernel
theorem dX6_go_19 : decode cX6_go 19 = .ok (.iload_n 3, 1) := by decide +kernel
theorem dX6_go_20 : decode cX6_go 20 = .ok (.invokestatic 126, 3) := by decide +kernel
theorem dX6_go_23 : decode cX6_go 23 = .ok (.ifCond .eq 13, 3) := by decide +kernel
theorem dX6_go_26 : decode cX6_go 26 = .ok (.new 38, 3) := by decide +kernel
theorem dX6_go_29 : decode cX6_go 29 = .ok (.dup, 1) := by decide +kernel
theorem dX6_go_30 : decode cX6_go 30 = .ok (.ldc 145, 2) := by decide +kernel
theorem dX6_go_32 : decode cX6_go 32 = .ok (.invokespecial 42, 3) := by decide +kernel
theorem dX6_go_35 : decode cX6_go 35 = .ok (.athrow, 1) := by decide +kernel
theorem dX6_go_36 : decode cX6_go 36 = .ok (.aload_n 0, 1) := by decide +kernel
theorem dX6_go_37 : decode cX6_go 37 = .ok (.getfield 23, 3) := by decide +kernel
theorem dX6_go_40 : decode cX6_go 40 = .ok (.iload_n 1, 1) := by decide +kernel
theorem dX6_go_41 : decode cX6_go 41 = .ok (.aaload, 1) := by decide +kernel
theorem dX6_go_42 : decode cX6_go 42 = .ok (.astore 4, 2) := by decide +kernel
theorem dX6_go_44 : decode cX6_go 44 = .ok (.aload 4, 2) := by decide +kernel
theorem dX6_go_46 : decode cX6_go 46 = .ok (.getfield 147, 3) := by decide +kernel
theorem dX6_go_49 : decode cX6_go 49 = .ok (.aload 4, 2) := by decide +kernel
theorem dX6_go_51 : decode cX6_go 51 = .ok (.getfield 150, 3) := by decide +kernel
theorem dX6_go_54 : decode cX6_go 54 = .ok (.iload_n 2, 1) := by decide +kernel
theorem dX6_go_55 : decode cX6_go 55 = .ok (.iload_n 3, 1) := by decide +kernel
theorem dX6_go_56 : decode cX6_go 56 = .ok (.invokestatic 153, 3) := by decide +kernel
theorem dX6_go_59 : decode cX6_go 59 = .ok (.istore 5, 2) := by decide +kernel
theorem dX6_go_61 : decode cX6_go 61 = .ok (.aload 4, 2) := by decide +kernel
theorem dX6_go_63 : decode cX6_go 63 = .ok (.iload_n 2, 1) := by decide +kernel
theorem dX6_go_64 : decode cX6_go 64 = .ok (.putfield 147, 3) := by decide +kernel
theorem dX6_go_67 : decode cX6_go 67 = .ok (.aload 4, 2) := by decide +kernel
theorem dX6_go_69 : decode cX6_go 69 = .ok (.iload_n 3, 1) := by decide +kernel
theorem dX6_go_70 : decode cX6_go 70 = .ok (.putfield 150, 3) := by decide +kernel
theorem dX6_go_73 : decode cX6_go 73 = .ok (.iload 5, 2) := by decide +kernel
theorem dX6_go_75 : decode cX6_go 75 = .ok (.ireturn, 1) := by decide +kernel
theorem dX6_hills_0 : decode cX6_hills 0 = .ok (.aload_n 0, 1) := by decide +kernel
theorem dX6_hills_1 : decode cX6_hills 1 = .ok (.iload_n 1, 1) := by decide +kernel
theorem dX6_hills_2 : decode cX6_hills 2 = .ok (.invokevirtual 140, 3) := by decide +kernel
theorem dX6_hills_5 : decode cX6_hills 5 = .ok (.ifCond .eq 13, 3) := by decide +kernel
theorem dX6_hills_8 : decode cX6_hills 8 = .ok (.new 63, 3) := by decide +kernel
theorem dX6_hills_11 : decode cX6_hills 11 = .ok (.dup, 1) := by decide +kernel
theorem dX6_hills_12 : decode cX6_hills 12 = .ok (.ldc 143, 2) := by decide +kernel
theorem dX6_hills_14 : decode cX6_hills 14 = .ok (.invokespecial 67, 3) := by decide +kernel
theorem dX6_hills_17 : decode cX6_hills 17 = .ok (.athrow, 1) := by decide +kernel
theorem dX6_hills_18 : decode cX6_hills 18 = .ok (.iload_n 2, 1) := by decide +kernel
theorem dX6_hills_19 : decode cX6_hills 19 = .ok (.iconst 0, 1) := by decide +kernel
theorem dX6_hills_20 : decode cX6_hills 20 = .ok (.bipush 60, 2) := by decide +kernel
theorem dX6_hills_22 : decode cX6_hills 22 = .ok (.invokestatic 34, 3) := by decide +kernel
theorem dX6_hills_25 : decode cX6_hills 25 = .ok (.ifCond .ne 13, 3) := by decide +kernel
theorem dX6_hills_28 : decode cX6_hills 28 = .ok (.iload_n 3, 1) := by decide +kernel
theorem dX6_hills_29 : decode cX6_hills 29 = .ok (.iconst 0, 1) := by decide +kernel
theorem dX6_hills_30 : decode cX6_hills 30 = .ok (.bipush 60, 2) := by decide +kernel
theorem dX6_hills_32 : decode cX6_hills 32 = .ok (.invokestatic 34, 3) := by decide +kernel
theorem dX6_hills_35 : decode cX6_hills 35 = .ok (.ifCond .eq 13, 3) := by decide +kernel
theorem dX6_hills_38 : decode cX6_hills 38 = .ok (.new 38, 3) := by decide +kernel
theorem dX6_hills_41 : decode cX6_hills 41 = .ok (.dup, 1) := by decide +kernel
theorem dX6_hills_42 : decode cX6_hills 42 = .ok (.ldc 157, 2) := by decide +kernel
theorem dX6_hills_44 : decode cX6_hills 44 = .ok (.invokespecial 42, 3) := by decide +kernel
theorem dX6_hills_47 : decode cX6_hills 47 = .ok (.athrow, 1) := by decide +kernel
theorem dX6_hills_48 : decode cX6_hills 48 = .ok (.aload_n 0, 1) := by decide +kernel
theorem dX6_hills_49 : decode cX6_hills 49 = .ok (.getfield 23, 3) := by decide +kernel
theorem dX6_hills_52 : decode cX6_hills 52 = .ok (.iload_n 1, 1) := by decide +kernel
theorem dX6_hills_53 : decode cX6_hills 53 = .ok (.aaload, 1) := by decide +kernel
theorem dX6_hills_54 : decode cX6_hills 54 = .ok (.astore 4, 2) := by decide +kernel
theorem dX6_hills_56 : decode cX6_hills 56 = .ok (.aload 4, 2) := by decide +kernel
theorem dX6_hills_58 : decode cX6_hills 58 = .ok (.iload_n 2, 1) := by decide +kernel
theorem dX6_hills_59 : decode cX6_hills 59 = .ok (.putfield 159, 3) := by decide +kernel
theorem dX6_hills_62 : decode cX6_hills 62 = .ok (.aload 4, 2) := by decide +kernel
theorem dX6_hills_64 : decode cX6_hills 64 = .ok (.iload_n 3, 1) := by decide +kernel
theorem dX6_hills_65 : decode cX6_hills 65 = .ok (.putfield 162, 3) := by decide +kernel
theorem dX6_hills_68 : decode cX6_hills 68 = .ok (.aload_n 0, 1) := by decide +kernel
theorem dX6_hills_69 : decode cX6_hills 69 = .ok (.aload 4, 2) := by decide +kernel
theorem dX6_hills_71 : decode cX6_hills 71 = .ok (.iconst 0, 1) := by decide +kernel
theorem dX6_hills_72 : decode cX6_hills 72 = .ok (.invokevirtual 165, 3) := by decide +kernel
theorem dX6_hills_75 : decode cX6_hills 75 = .ok (.invokestatic 169, 3) := by decide +kernel
theorem dX6_hills_78 : decode cX6_hills 78 = .ok (.ireturn, 1) := by decide +kernel
theorem dX6_air_0 : decode cX6_air 0 = .ok (.aload_n 0, 1) := by decide +kernel
theorem dX6_air_1 : decode cX6_air 1 = .ok (.iload_n 1, 1) := by decide +kernel
theorem dX6_air_2 : decode cX6_air 2 = .ok (.invokevirtual 140, 3) := by decide +kernel
theorem dX6_air_5 : decode cX6_air 5 = .ok (.ifCond .eq 13, 3) := by decide +kernel
theorem dX6_air_8 : decode cX6_air 8 = .ok (.new 63, 3) := by decide +kernel
theorem dX6_air_11 : decode cX6_air 11 = .ok (.dup, 1) := by decide +kernel
theorem dX6_air_12 : decode cX6_air 12 = .ok (.ldc 143, 2) := by decide +kernel
theorem dX6_air_14 : decode cX6_air 14 = .ok (.invokespecial 67, 3) := by decide +kernel
theorem dX6_air_17 : decode cX6_air 17 = .ok (.athrow, 1) := by decide +kernel
theorem dX6_air_18 : decode cX6_air 18 = .ok (.iload_n 2, 1) := by decide +kernel
theorem dX6_air_19 : decode cX6_air 19 = .ok (.iconst 0, 1) := by decide +kernel
theorem dX6_air_20 : decode cX6_air 20 = .ok (.bipush 9, 2) := by decide +kernel
theorem dX6_air_22 : decode cX6_air 22 = .ok (.invokestatic 34, 3) := by decide +kernel
theorem dX6_air_25 : decode cX6_air 25 = .ok (.ifCond .eq 13, 3) := by decide +kernel
theorem dX6_air_28 : decode cX6_air 28 = .ok (.new 38, 3) := by decide +kernel
theorem dX6_air_31 : decode cX6_air 31 = .ok (.dup, 1) := by decide +kernel
theorem dX6_air_32 : decode cX6_air 32 = .ok (.ldc 175, 2) := by decide +kernel
theorem dX6_air_34 : decode cX6_air 34 = .ok (.invokespecial 42, 3) := by decide +kernel
theorem dX6_air_37 : decode cX6_air 37 = .ok (.athrow, 1) := by decide +kernel
theorem dX6_air_38 : decode cX6_air 38 = .ok (.aload_n 0, 1) := by decide +kernel
theorem dX6_air_39 : decode cX6_air 39 = .ok (.getfield 23, 3) := by decide +kernel
theorem dX6_air_42 : decode cX6_air 42 = .ok (.iload_n 1, 1) := by decide +kernel
theorem dX6_air_43 : decode cX6_air 43 = .ok (.aaload, 1) := by decide +kernel
theorem dX6_air_44 : decode cX6_air 44 = .ok (.astore 4, 2) := by decide +kernel
theorem dX6_air_46 : decode cX6_air 46 = .ok (.aload 4, 2) := by decide +kernel
theorem dX6_air_48 : decode cX6_air 48 = .ok (.getfield 177, 3) := by decide +kernel
theorem dX6_air_51 : decode cX6_air 51 = .ok (.istore 5, 2) := by decide +kernel
theorem dX6_air_53 : decode cX6_air 53 = .ok (.aload 4, 2) := by decide +kernel
theorem dX6_air_55 : decode cX6_air 55 = .ok (.iload_n 2, 1) := by decide +kernel
theorem dX6_air_56 : decode cX6_air 56 = .ok (.putfield 177, 3) := by decide +kernel
theorem dX6_air_59 : decode cX6_air 59 = .ok (.aload 4, 2) := by decide +kernel
theorem dX6_air_61 : decode cX6_air 61 = .ok (.iload_n 3, 1) := by decide +kernel
theorem dX6_air_62 : decode cX6_air 62 = .ok (.putfield 179, 3) := by decide +kernel
theorem dX6_air_65 : decode cX6_air 65 = .ok (.iload 5, 2) := by decide +kernel
theorem dX6_air_67 : decode cX6_air 67 = .ok (.ireturn, 1) := by decide +kernel
theorem dX6_alert_0 : decode cX6_alert 0 = .ok (.aload_n 0, 1) := by decide +kernel
theorem dX6_alert_1 : decode cX6_alert 1 = .ok (.iload_n 1, 1) := by decide +kernel
theorem dX6_alert_2 : decode cX6_alert 2 = .ok (.invokevirtual 140, 3) := by decide +kernel
theorem dX6_alert_5 : decode cX6_alert 5 = .ok (.ifCond .eq 13, 3) := by decide +kernel
theorem dX6_alert_8 : decode cX6_alert 8 = .ok (.new 63, 3) := by decide +kernel
theorem dX6_alert_11 : decode cX6_alert 11 = .ok (.dup, 1) := by decide +kernel
theorem dX6_alert_12 : decode cX6_alert 12 = .ok (.ldc 143, 2) := by decide +kernel
theorem dX6_alert_14 : decode cX6_alert 14 = .ok (.invokespecial 67, 3) := by decide +kernel
theorem dX6_alert_17 : decode cX6_alert 17 = .ok (.athrow, 1) := by decide +kernel
theorem dX6_alert_18 : decode cX6_alert 18 = .ok (.iload_n 2, 1) := by decide +kernel
theorem dX6_alert_19 : decode cX6_alert 19 = .ok (.iconst 1, 1) := by decide +kernel
theorem dX6_alert_20 : decode cX6_alert 20 = .ok (.bipush 24, 2) := by decide +kernel
theorem dX6_alert_22 : decode cX6_alert 22 = .ok (.invokestatic 34, 3) := by decide +kernel
theorem dX6_alert_25 : decode cX6_alert 25 = .ok (.ifCond .eq 13, 3) := by decide +kernel
theorem dX6_alert_28 : decode cX6_alert 28 = .ok (.new 38, 3) := by decide +kernel
theorem dX6_alert_31 : decode cX6_alert 31 = .ok (.dup, 1) := by decide +kernel
theorem dX6_alert_32 : decode cX6_alert 32 = .ok (.ldc 182, 2) := by decide +kernel
theorem dX6_alert_34 : decode cX6_alert 34 = .ok (.invokespecial 42, 3) := by decide +kernel
theorem dX6_alert_37 : decode cX6_alert 37 = .ok (.athrow, 1) := by decide +kernel
theorem dX6_alert_38 : decode cX6_alert 38 = .ok (.aload_n 0, 1) := by decide +kernel
theorem dX6_alert_39 : decode cX6_alert 39 = .ok (.getfield 23, 3) := by decide +kernel
theorem dX6_alert_42 : decode cX6_alert 42 = .ok (.iload_n 1, 1) := by decide +kernel
theorem dX6_alert_43 : decode cX6_alert 43 = .ok (.aaload, 1) := by decide +kernel
theorem dX6_alert_44 : decode cX6_alert 44 = .ok (.getfield 184, 3) := by decide +kernel
theorem dX6_alert_47 : decode cX6_alert 47 = .ok (.istore_n 3, 1) := by decide +kernel
theorem dX6_alert_48 : decode cX6_alert 48 = .ok (.aload_n 0, 1) := by decide +kernel
theorem dX6_alert_49 : decode cX6_alert 49 = .ok (.getfield 23, 3) := by decide +kernel
theorem dX6_alert_52 : decode cX6_alert 52 = .ok (.iload_n 1, 1) := by decide +kernel
theorem dX6_alert_53 : decode cX6_alert 53 = .ok (.aaload, 1) := by decide +kernel
theorem dX6_alert_54 : decode cX6_alert 54 = .ok (.iload_n 2, 1) := by decide +kernel
theorem dX6_alert_55 : decode cX6_alert 55 = .ok (.putfield 184, 3) := by decide +kernel
theorem dX6_alert_58 : decode cX6_alert 58 = .ok (.iload_n 3, 1) := by decide +kernel
theorem dX6_alert_59 : decode cX6_alert 59 = .ok (.ireturn, 1) := by decide +kernel
theorem dX6_spoof_0 : decode cX6_spoof 0 = .ok (.aload_n 0, 1) := by decide +kernel
theorem dX6_spoof_1 : decode cX6_spoof 1 = .ok (.iload_n 1, 1) := by decide +kernel
theorem dX6_spoof_2 : decode cX6_spoof 2 = .ok (.invokevirtual 140, 3) := by decide +kernel
theorem dX6_spoof_5 : decode cX6_spoof 5 = .ok (.ifCond .eq 13, 3) := by decide +kernel
theorem dX6_spoof_8 : decode cX6_spoof 8 = .ok (.new 63, 3) := by decide +kernel
theorem dX6_spoof_11 : decode cX6_spoof 11 = .ok (.dup, 1) := by decide +kernel
theorem dX6_spoof_12 : decode cX6_spoof 12 = .ok (.ldc 143, 2) := by decide +kernel
theorem dX6_spoof_14 : decode cX6_spoof 14 = .ok (.invokespecial 67, 3) := by decide +kernel
theorem dX6_spoof_17 : decode cX6_spoof 17 = .ok (.athrow, 1) := by decide +kernel
theorem dX6_spoof_18 : decode cX6_spoof 18 = .ok (.iload_n 2, 1) := by decide +kernel
theorem dX6_spoof_19 : decode cX6_spoof 19 = .ok (.bipush (-30), 2) := by decide +kernel
theorem dX6_spoof_21 : decode cX6_spoof 21 = .ok (.bipush 30, 2) := by decide +kernel
theorem dX6_spoof_23 : decode cX6_spoof 23 = .ok (.invokestatic 34, 3) := by decide +kernel
theorem dX6_spoof_26 : decode cX6_spoof 26 = .ok (.ifCond .eq 13, 3) := by decide +kernel
theorem dX6_spoof_29 : decode cX6_spoof 29 = .ok (.new 38, 3) := by decide +kernel
theorem dX6_spoof_32 : decode cX6_spoof 32 = .ok (.dup, 1) := by decide +kernel
theorem dX6_spoof_33 : decode cX6_spoof 33 = .ok (.ldc 68, 2) := by decide +kernel
theorem dX6_spoof_35 : decode cX6_spoof 35 = .ok (.invokespecial 42, 3) := by decide +kernel
theorem dX6_spoof_38 : decode cX6_spoof 38 = .ok (.athrow, 1) := by decide +kernel
theorem dX6_spoof_39 : decode cX6_spoof 39 = .ok (.aload_n 0, 1) := by decide +kernel
theorem dX6_spoof_40 : decode cX6_spoof 40 = .ok (.getfield 23, 3) := by decide +kernel
theorem dX6_spoof_43 : decode cX6_spoof 43 = .ok (.iload_n 1, 1) := by decide +kernel
theorem dX6_spoof_44 : decode cX6_spoof 44 = .ok (.aaload, 1) := by decide +kernel
theorem dX6_spoof_45 : decode cX6_spoof 45 = .ok (.getfield 187, 3) := by decide +kernel
theorem dX6_spoof_48 : decode cX6_spoof 48 = .ok (.istore_n 3, 1) := by decide +kernel
theorem dX6_spoof_49 : decode cX6_spoof 49 = .ok (.aload_n 0, 1) := by decide +kernel
theorem dX6_spoof_50 : decode cX6_spoof 50 = .ok (.getfield 23, 3) := by decide +kernel
theorem dX6_spoof_53 : decode cX6_spoof 53 = .ok (.iload_n 1, 1) := by decide +kernel
theorem dX6_spoof_54 : decode cX6_spoof 54 = .ok (.aaload, 1) := by decide +kernel
theorem dX6_spoof_55 : decode cX6_spoof 55 = .ok (.iload_n 2, 1) := by decide +kernel
theorem dX6_spoof_56 : decode cX6_spoof 56 = .ok (.putfield 187, 3) := by decide +kernel
theorem dX6_spoof_59 : decode cX6_spoof 59 = .ok (.iload_n 3, 1) := by decide +kernel
theorem dX6_spoof_60 : decode cX6_spoof 60 = .ok (.ireturn, 1) := by decide +kernel
theorem dX6_refer_0 : decode cX6_refer 0 = .ok (.aload_n 0, 1) := by decide +kernel
theorem dX6_refer_1 : decode cX6_refer 1 = .ok (.iload_n 1, 1) := by decide +kernel
theorem dX6_refer_2 : decode cX6_refer 2 = .ok (.invokevirtual 140, 3) := by decide +kernel
theorem dX6_refer_5 : decode cX6_refer 5 = .ok (.ifCond .ne 16, 3) := by decide +kernel
theorem dX6_refer_8 : decode cX6_refer 8 = .ok (.iload_n 2, 1) := by decide +kernel
theorem dX6_refer_9 : decode cX6_refer 9 = .ok (.iconst (-1), 1) := by decide +kernel
theorem dX6_refer_10 : decode cX6_refer 10 = .ok (.if_icmp .eq 21, 3) := by decide +kernel
theorem dX6_refer_13 : decode cX6_refer 13 = .ok (.aload_n 0, 1) := by decide +kernel
theorem dX6_refer_14 : decode cX6_refer 14 = .ok (.iload_n 2, 1) := by decide +kernel
theorem dX6_refer_15 : decode cX6_refer 15 = .ok (.invokevirtual 140, 3) := by decide +kernel
theorem dX6_refer_18 : decode cX6_refer 18 = .ok (.ifCond .eq 13, 3) := by decide +kernel
theorem dX6_refer_21 : decode cX6_refer 21 = .ok (.new 63, 3) := by decide +kernel
theorem dX6_refer_24 : decode cX6_refer 24 = .ok (.dup, 1) := by decide +kernel
theorem dX6_refer_25 : decode cX6_refer 25 = .ok (.ldc 190, 2) := by decide +kernel
theorem dX6_refer_27 : decode cX6_refer 27 = .ok (.invokespecial 67, 3) := by decide +kernel
theorem dX6_refer_30 : decode cX6_refer 30 = .ok (.athrow, 1) := by decide +kernel
theorem dX6_refer_31 : decode cX6_refer 31 = .ok (.iload_n 1, 1) := by decide +kernel
theorem dX6_refer_32 : decode cX6_refer 32 = .ok (.iload_n 2, 1) := by decide +kernel
theorem dX6_refer_33 : decode cX6_refer 33 = .ok (.if_icmp .ne 13, 3) := by decide +kernel
theorem dX6_refer_36 : decode cX6_refer 36 = .ok (.new 38, 3) := by decide +kernel
theorem dX6_refer_39 : decode cX6_refer 39 = .ok (.dup, 1) := by decide +kernel
theorem dX6_refer_40 : decode cX6_refer 40 = .ok (.ldc 192, 2) := by decide +kernel
theorem dX6_refer_42 : decode cX6_refer 42 = .ok (.invokespecial 42, 3) := by decide +kernel
theorem dX6_refer_45 : decode cX6_refer 45 = .ok (.athrow, 1) := by decide +kernel
theorem dX6_refer_46 : decode cX6_refer 46 = .ok (.aload_n 0, 1) := by decide +kernel
theorem dX6_refer_47 : decode cX6_refer 47 = .ok (.getfield 23, 3) := by decide +kernel
theorem dX6_refer_50 : decode cX6_refer 50 = .ok (.iload_n 1, 1) := by decide +kernel
theorem dX6_refer_51 : decode cX6_refer 51 = .ok (.aaload, 1) := by decide +kernel
theorem dX6_refer_52 : decode cX6_refer 52 = .ok (.getfield 194, 3) := by decide +kernel
theorem dX6_refer_55 : decode cX6_refer 55 = .ok (.istore_n 3, 1) := by decide +kernel
theorem dX6_refer_56 : decode cX6_refer 56 = .ok (.aload_n 0, 1) := by decide +kernel
theorem dX6_refer_57 : decode cX6_refer 57 = .ok (.getfield 23, 3) := by decide +kernel
theorem dX6_refer_60 : decode cX6_refer 60 = .ok (.iload_n 1, 1) := by decide +kernel
theorem dX6_refer_61 : decode cX6_refer 61 = .ok (.aaload, 1) := by decide +kernel
theorem dX6_refer_62 : decode cX6_refer 62 = .ok (.iload_n 2, 1) := by decide +kernel
theorem dX6_refer_63 : decode cX6_refer 63 = .ok (.putfield 194, 3) := by decide +kernel
theorem dX6_refer_66 : decode cX6_refer 66 = .ok (.iload_n 3, 1) := by decide +kernel
theorem dX6_refer_67 : decode cX6_refer 67 = .ok (.ireturn, 1) := by decide +kernel
theorem dX6_pass_0 : decode cX6_pass 0 = .ok (.iload_n 1, 1) := by decide +kernel
theorem dX6_pass_1 : decode cX6_pass 1 = .ok (.iconst 1, 1) := by decide +kernel
theorem dX6_pass_2 : decode cX6_pass 2 = .ok (.bipush 48, 2) := by decide +kernel
theorem dX6_pass_4 : decode cX6_pass 4 = .ok (.invokestatic 34, 3) := by decide +kernel
theorem dX6_pass_7 : decode cX6_pass 7 = .ok (.ifCond .eq 13, 3) := by decide +kernel
theorem dX6_pass_10 : decode cX6_pass 10 = .ok (.new 38, 3) := by decide +kernel
theorem dX6_pass_13 : decode cX6_pass 13 = .ok (.dup, 1) := by decide +kernel
theorem dX6_pass_14 : decode cX6_pass 14 = .ok (.ldc 197, 2) := by decide +kernel
theorem dX6_pass_16 : decode cX6_pass 16 = .ok (.invokespecial 42, 3) := by decide +kernel
theorem dX6_pass_19 : decode cX6_pass 19 = .ok (.athrow, 1) := by decide +kernel
theorem dX6_pass_20 : decode cX6_pass 20 = .ok (.iconst 0, 1) := by decide +kernel
theorem dX6_pass_21 : decode cX6_pass 21 = .ok (.istore_n 2, 1) := by decide +kernel
theorem dX6_pass_22 : decode cX6_pass 22 = .ok (.iload_n 2, 1) := by decide +kernel
theorem dX6_pass_23 : decode cX6_pass 23 = .ok (.iload_n 1, 1) := by decide +kernel
theorem dX6_pass_24 : decode cX6_pass 24 = .ok (.if_icmp .ge 13, 3) := by decide +kernel
theorem dX6_pass_27 : decode cX6_pass 27 = .ok (.aload_n 0, 1) := by decide +kernel
theorem dX6_pass_28 : decode cX6_pass 28 = .ok (.invokevirtual 199, 3) := by decide +kernel
theorem dX6_pass_31 : decode cX6_pass 31 = .ok (.iinc 2 1, 3) := by decide +kernel
theorem dX6_pass_34 : decode cX6_pass 34 = .ok (.goto (-12), 3) := by decide +kernel
theorem dX6_pass_37 : decode cX6_pass 37 = .ok (.aload_n 0, 1) := by decide +kernel
theorem dX6_pass_38 : decode cX6_pass 38 = .ok (.getfield 114, 3) := by decide +kernel
theorem dX6_pass_41 : decode cX6_pass 41 = .ok (.ireturn, 1) := by decide +kernel
theorem dX6_observe_0 : decode cX6_observe 0 = .ok (.aload_n 0, 1) := by decide +kernel
theorem dX6_observe_1 : decode cX6_observe 1 = .ok (.iload_n 1, 1) := by decide +kernel
theorem dX6_observe_2 : decode cX6_observe 2 = .ok (.invokevirtual 140, 3) := by decide +kernel
theorem dX6_observe_5 : decode cX6_observe 5 = .ok (.ifCond .eq 13, 3) := by decide +kernel
theorem dX6_observe_8 : decode cX6_observe 8 = .ok (.new 63, 3) := by decide +kernel
theorem dX6_observe_11 : decode cX6_observe 11 = .ok (.dup, 1) := by decide +kernel
theorem dX6_observe_12 : decode cX6_observe 12 = .ok (.ldc 143, 2) := by decide +kernel
theorem dX6_observe_14 : decode cX6_observe 14 = .ok (.invokespecial 67, 3) := by decide +kernel
theorem dX6_observe_17 : decode cX6_observe 17 = .ok (.athrow, 1) := by decide +kernel
theorem dX6_observe_18 : decode cX6_observe 18 = .ok (.aload_n 0, 1) := by decide +kernel
theorem dX6_observe_19 : decode cX6_observe 19 = .ok (.getfield 23, 3) := by decide +kernel
theorem dX6_observe_22 : decode cX6_observe 22 = .ok (.iload_n 1, 1) := by decide +kernel
theorem dX6_observe_23 : decode cX6_observe 23 = .ok (.aaload, 1) := by decide +kernel
theorem dX6_observe_24 : decode cX6_observe 24 = .ok (.astore_n 2, 1) := by decide +kernel
theorem dX6_observe_25 : decode cX6_observe 25 = .ok (.aload_n 2, 1) := by decide +kernel
theorem dX6_observe_26 : decode cX6_observe 26 = .ok (.getfield 202, 3) := by decide +kernel
theorem dX6_observe_29 : decode cX6_observe 29 = .ok (.astore_n 3, 1) := by decide +kernel
theorem dX6_observe_30 : decode cX6_observe 30 = .ok (.aload_n 3, 1) := by decide +kernel
theorem dX6_observe_31 : decode cX6_observe 31 = .ok (.aload_n 0, 1) := by decide +kernel
theorem dX6_observe_32 : decode cX6_observe 32 = .ok (.getfield 114, 3) := by decide +kernel
theorem dX6_observe_35 : decode cX6_observe 35 = .ok (.invokevirtual 206, 3) := by decide +kernel
theorem dX6_observe_38 : decode cX6_observe 38 = .ok (.ifCond .eq 13, 3) := by decide +kernel
theorem dX6_observe_41 : decode cX6_observe 41 = .ok (.new 51, 3) := by decide +kernel
theorem dX6_observe_44 : decode cX6_observe 44 = .ok (.dup, 1) := by decide +kernel
theorem dX6_observe_45 : decode cX6_observe 45 = .ok (.ldc 211, 2) := by decide +kernel
theorem dX6_observe_47 : decode cX6_observe 47 = .ok (.invokespecial 55, 3) := by decide +kernel
theorem dX6_observe_50 : decode cX6_observe 50 = .ok (.athrow, 1) := by decide +kernel
theorem dX6_observe_51 : decode cX6_observe 51 = .ok (.aload_n 0, 1) := by decide +kernel
theorem dX6_observe_52 : decode cX6_observe 52 = .ok (.aload_n 2, 1) := by decide +kernel
theorem dX6_observe_53 : decode cX6_observe 53 = .ok (.invokevirtual 213, 3) := by decide +kernel
theorem dX6_observe_56 : decode cX6_observe 56 = .ok (.aload_n 0, 1) := by decide +kernel
theorem dX6_observe_57 : decode cX6_observe 57 = .ok (.aload_n 2, 1) := by decide +kernel
theorem dX6_observe_58 : decode cX6_observe 58 = .ok (.invokevirtual 217, 3) := by decide +kernel
theorem dX6_observe_61 : decode cX6_observe 61 = .ok (.aload_n 0, 1) := by decide +kernel
theorem dX6_observe_62 : decode cX6_observe 62 = .ok (.aload_n 2, 1) := by decide +kernel
theorem dX6_observe_63 : decode cX6_observe 63 = .ok (.invokevirtual 220, 3) := by decide +kernel
theorem dX6_observe_66 : decode cX6_observe 66 = .ok (.aload_n 0, 1) := by decide +kernel
theorem dX6_observe_67 : decode cX6_observe 67 = .ok (.getfield 30, 3) := by decide +kernel
theorem dX6_observe_70 : decode cX6_observe 70 = .ok (.invokevirtual 223, 3) := by decide +kernel
theorem dX6_observe_73 : decode cX6_observe 73 = .ok (.aload_n 3, 1) := by decide +kernel
theorem dX6_observe_74 : decode cX6_observe 74 = .ok (.aload_n 0, 1) := by decide +kernel
theorem dX6_observe_75 : decode cX6_observe 75 = .ok (.getfield 114, 3) := by decide +kernel
theorem dX6_observe_78 : decode cX6_observe 78 = .ok (.aload_n 0, 1) := by decide +kernel
theorem dX6_observe_79 : decode cX6_observe 79 = .ok (.getfield 30, 3) := by decide +kernel
theorem dX6_observe_82 : decode cX6_observe 82 = .ok (.aload_n 0, 1) := by decide +kernel
theorem dX6_observe_83 : decode cX6_observe 83 = .ok (.aload_n 2, 1) := by decide +kernel
theorem dX6_observe_84 : decode cX6_observe 84 = .ok (.iconst 1, 1) := by decide +kernel
theorem dX6_observe_85 : decode cX6_observe 85 = .ok (.invokevirtual 226, 3) := by decide +kernel
theorem dX6_observe_88 : decode cX6_observe 88 = .ok (.aload_n 2, 1) := by decide +kernel
theorem dX6_observe_89 : decode cX6_observe 89 = .ok (.getfield 147, 3) := by decide +kernel
theorem dX6_observe_92 : decode cX6_observe 92 = .ok (.aload_n 2, 1) := by decide +kernel
theorem dX6_observe_93 : decode cX6_observe 93 = .ok (.getfield 150, 3) := by decide +kernel
theorem dX6_observe_96 : decode cX6_observe 96 = .ok (.invokevirtual 230, 3) := by decide +kernel
theorem dX6_observe_99 : decode cX6_observe 99 = .ok (.aload_n 3, 1) := by decide +kernel
theorem dX6_observe_100 : decode cX6_observe 100 = .ok (.getfield 234, 3) := by decide +kernel
theorem dX6_observe_103 : decode cX6_observe 103 = .ok (.ireturn, 1) := by decide +kernel
theorem dX6_ofStar_0 : decode cX6_ofStar 0 = .ok (.aload_n 0, 1) := by decide +kernel
theorem dX6_ofStar_1 : decode cX6_ofStar 1 = .ok (.iload_n 1, 1) := by decide +kernel
theorem dX6_ofStar_2 : decode cX6_ofStar 2 = .ok (.invokevirtual 59, 3) := by decide +kernel
theorem dX6_ofStar_5 : decode cX6_ofStar 5 = .ok (.ifCond .eq 13, 3) := by decide +kernel
theorem dX6_ofStar_8 : decode cX6_ofStar 8 = .ok (.new 63, 3) := by decide +kernel
theorem dX6_ofStar_11 : decode cX6_ofStar 11 = .ok (.dup, 1) := by decide +kernel
theorem dX6_ofStar_12 : decode cX6_ofStar 12 = .ok (.ldc 65, 2) := by decide +kernel
theorem dX6_ofStar_14 : decode cX6_ofStar 14 = .ok (.invokespecial 67, 3) := by decide +kernel
theorem dX6_ofStar_17 : decode cX6_ofStar 17 = .ok (.athrow, 1) := by decide +kernel
theorem dX6_ofStar_18 : decode cX6_ofStar 18 = .ok (.iload_n 2, 1) := by decide +kernel
theorem dX6_ofStar_19 : decode cX6_ofStar 19 = .ok (.iconst 0, 1) := by decide +kernel
theorem dX6_ofStar_20 : decode cX6_ofStar 20 = .ok (.bipush 7, 2) := by decide +kernel
theorem dX6_ofStar_22 : decode cX6_ofStar 22 = .ok (.invokestatic 34, 3) := by decide +kernel
theorem dX6_ofStar_25 : decode cX6_ofStar 25 = .ok (.ifCond .eq 13, 3) := by decide +kernel
theorem dX6_ofStar_28 : decode cX6_ofStar 28 = .ok (.new 38, 3) := by decide +kernel
theorem dX6_ofStar_31 : decode cX6_ofStar 31 = .ok (.dup, 1) := by decide +kernel
theorem dX6_ofStar_32 : decode cX6_ofStar 32 = .ok (.ldc 237, 2) := by decide +kernel
theorem dX6_ofStar_34 : decode cX6_ofStar 34 = .ok (.invokespecial 42, 3) := by decide +kernel
theorem dX6_ofStar_37 : decode cX6_ofStar 37 = .ok (.athrow, 1) := by decide +kernel
theorem dX6_ofStar_38 : decode cX6_ofStar 38 = .ok (.aload_n 0, 1) := by decide +kernel
theorem dX6_ofStar_39 : decode cX6_ofStar 39 = .ok (.getfield 11, 3) := by decide +kernel
theorem dX6_ofStar_42 : decode cX6_ofStar 42 = .ok (.iload_n 1, 1) := by decide +kernel
theorem dX6_ofStar_43 : decode cX6_ofStar 43 = .ok (.aaload, 1) := by decide +kernel
theorem dX6_ofStar_44 : decode cX6_ofStar 44 = .ok (.iload_n 2, 1) := by decide +kernel
theorem dX6_ofStar_45 : decode cX6_ofStar 45 = .ok (.invokevirtual 239, 3) := by decide +kernel
theorem dX6_ofStar_48 : decode cX6_ofStar 48 = .ok (.ireturn, 1) := by decide +kernel
theorem dX6_message_0 : decode cX6_message 0 = .ok (.aload_n 0, 1) := by decide +kernel
theorem dX6_message_1 : decode cX6_message 1 = .ok (.iload_n 1, 1) := by decide +kernel
theorem dX6_message_2 : decode cX6_message 2 = .ok (.invokevirtual 59, 3) := by decide +kernel
theorem dX6_message_5 : decode cX6_message 5 = .ok (.ifCond .eq 13, 3) := by decide +kernel
theorem dX6_message_8 : decode cX6_message 8 = .ok (.new 63, 3) := by decide +kernel
theorem dX6_message_11 : decode cX6_message 11 = .ok (.dup, 1) := by decide +kernel
theorem dX6_message_12 : decode cX6_message 12 = .ok (.ldc 65, 2) := by decide +kernel
theorem dX6_message_14 : decode cX6_message 14 = .ok (.invokespecial 67, 3) := by decide +kernel
theorem dX6_message_17 : decode cX6_message 17 = .ok (.athrow, 1) := by decide +kernel
theorem dX6_message_18 : decode cX6_message 18 = .ok (.iload_n 2, 1) := by decide +kernel
theorem dX6_message_19 : decode cX6_message 19 = .ok (.iconst 0, 1) := by decide +kernel
theorem dX6_message_20 : decode cX6_message 20 = .ok (.bipush 7, 2) := by decide +kernel
theorem dX6_message_22 : decode cX6_message 22 = .ok (.invokestatic 34, 3) := by decide +kernel
theorem dX6_message_25 : decode cX6_message 25 = .ok (.ifCond .eq 13, 3) := by decide +kernel
theorem dX6_message_28 : decode cX6_message 28 = .ok (.new 38, 3) := by decide +kernel
theorem dX6_message_31 : decode cX6_message 31 = .ok (.dup, 1) := by decide +kernel
theorem dX6_message_32 : decode cX6_message 32 = .ok (.ldc 237, 2) := by decide +kernel
theorem dX6_message_34 : decode cX6_message 34 = .ok (.invokespecial 42, 3) := by decide +kernel
theorem dX6_message_37 : decode cX6_message 37 = .ok (.athrow, 1) := by decide +kernel
theorem dX6_message_38 : decode cX6_message 38 = .ok (.aload_n 0, 1) := by decide +kernel
theorem dX6_message_39 : decode cX6_message 39 = .ok (.getfield 11, 3) := by decide +kernel
theorem dX6_message_42 : decode cX6_message 42 = .ok (.iload_n 1, 1) := by decide +kernel
theorem dX6_message_43 : decode cX6_message 43 = .ok (.aaload, 1) := by decide +kernel
theorem dX6_message_44 : decode cX6_message 44 = .ok (.iload_n 2, 1) := by decide +kernel
theorem dX6_message_45 : decode cX6_message 45 = .ok (.aload_n 0, 1) := by decide +kernel
theorem dX6_message_46 : decode cX6_message 46 = .ok (.getfield 114, 3) := by decide +kernel
theorem dX6_message_49 : decode cX6_message 49 = .ok (.invokevirtual 242, 3) := by decide +kernel
theorem dX6_message_52 : decode cX6_message 52 = .ok (.ireturn, 1) := by decide +kernel
theorem dX6_seen_0 : decode cX6_seen 0 = .ok (.aload_n 0, 1) := by decide +kernel
theorem dX6_seen_1 : decode cX6_seen 1 = .ok (.iload_n 1, 1) := by decide +kernel
theorem dX6_seen_2 : decode cX6_seen 2 = .ok (.invokevirtual 140, 3) := by decide +kernel
theorem dX6_seen_5 : decode cX6_seen 5 = .ok (.ifCond .ne 11, 3) := by decide +kernel
theorem dX6_seen_8 : decode cX6_seen 8 = .ok (.aload_n 0, 1) := by decide +kernel
theorem dX6_seen_9 : decode cX6_seen 9 = .ok (.iload_n 2, 1) := by decide +kernel
theorem dX6_seen_10 : decode cX6_seen 10 = .ok (.invokevirtual 59, 3) := by decide +kernel
theorem dX6_seen_13 : decode cX6_seen 13 = .ok (.ifCond .eq 13, 3) := by decide +kernel
theorem dX6_seen_16 : decode cX6_seen 16 = .ok (.new 63, 3) := by decide +kernel
theorem dX6_seen_19 : decode cX6_seen 19 = .ok (.dup, 1) := by decide +kernel
theorem dX6_seen_20 : decode cX6_seen 20 = .ok (.ldc 245, 2) := by decide +kernel
theorem dX6_seen_22 : decode cX6_seen 22 = .ok (.invokespecial 67, 3) := by decide +kernel
theorem dX6_seen_25 : decode cX6_seen 25 = .ok (.athrow, 1) := by decide +kernel
theorem dX6_seen_26 : decode cX6_seen 26 = .ok (.iload_n 3, 1) := by decide +kernel
theorem dX6_seen_27 : decode cX6_seen 27 = .ok (.iconst 0, 1) := by decide +kernel
theorem dX6_seen_28 : decode cX6_seen 28 = .ok (.bipush 7, 2) := by decide +kernel
theorem dX6_seen_30 : decode cX6_seen 30 = .ok (.invokestatic 34, 3) := by decide +kernel
theorem dX6_seen_33 : decode cX6_seen 33 = .ok (.ifCond .eq 13, 3) := by decide +kernel
theorem dX6_seen_36 : decode cX6_seen 36 = .ok (.new 38, 3) := by decide +kernel
theorem dX6_seen_39 : decode cX6_seen 39 = .ok (.dup, 1) := by decide +kernel
theorem dX6_seen_40 : decode cX6_seen 40 = .ok (.ldc 237, 2) := by decide +kernel
theorem dX6_seen_42 : decode cX6_seen 42 = .ok (.invokespecial 42, 3) := by decide +kernel
theorem dX6_seen_45 : decode cX6_seen 45 = .ok (.athrow, 1) := by decide +kernel
theorem dX6_seen_46 : decode cX6_seen 46 = .ok (.aload_n 0, 1) := by decide +kernel
theorem dX6_seen_47 : decode cX6_seen 47 = .ok (.getfield 23, 3) := by decide +kernel
theorem dX6_seen_50 : decode cX6_seen 50 = .ok (.iload_n 1, 1) := by decide +kernel
theorem dX6_seen_51 : decode cX6_seen 51 = .ok (.aaload, 1) := by decide +kernel
theorem dX6_seen_52 : decode cX6_seen 52 = .ok (.getfield 247, 3) := by decide +kernel
theorem dX6_seen_55 : decode cX6_seen 55 = .ok (.iload_n 2, 1) := by decide +kernel
theorem dX6_seen_56 : decode cX6_seen 56 = .ok (.aaload, 1) := by decide +kernel
theorem dX6_seen_57 : decode cX6_seen 57 = .ok (.iload_n 3, 1) := by decide +kernel
theorem dX6_seen_58 : decode cX6_seen 58 = .ok (.invokevirtual 251, 3) := by decide +kernel
theorem dX6_seen_61 : decode cX6_seen 61 = .ok (.ireturn, 1) := by decide +kernel
theorem dX6_ofReceiver_0 : decode cX6_ofReceiver 0 = .ok (.aload_n 0, 1) := by decide +kernel
theorem dX6_ofReceiver_1 : decode cX6_ofReceiver 1 = .ok (.iload_n 1, 1) := by decide +kernel
theorem dX6_ofReceiver_2 : decode cX6_ofReceiver 2 = .ok (.invokevirtual 140, 3) := by decide +kernel
theorem dX6_ofReceiver_5 : decode cX6_ofReceiver 5 = .ok (.ifCond .eq 13, 3) := by decide +kernel
theorem dX6_ofReceiver_8 : decode cX6_ofReceiver 8 = .ok (.new 63, 3) := by decide +kernel
theorem dX6_ofReceiver_11 : decode cX6_ofReceiver 11 = .ok (.dup, 1) := by decide +kernel
theorem dX6_ofReceiver_12 : decode cX6_ofReceiver 12 = .ok (.ldc 143, 2) := by decide +kernel
theorem dX6_ofReceiver_14 : decode cX6_ofReceiver 14 = .ok (.invokespecial 67, 3) := by decide +kernel
theorem dX6_ofReceiver_17 : decode cX6_ofReceiver 17 = .ok (.athrow, 1) := by decide +kernel
theorem dX6_ofReceiver_18 : decode cX6_ofReceiver 18 = .ok (.iload_n 2, 1) := by decide +kernel
theorem dX6_ofReceiver_19 : decode cX6_ofReceiver 19 = .ok (.iconst 0, 1) := by decide +kernel
theorem dX6_ofReceiver_20 : decode cX6_ofReceiver 20 = .ok (.bipush 13, 2) := by decide +kernel
theorem dX6_ofReceiver_22 : decode cX6_ofReceiver 22 = .ok (.invokestatic 34, 3) := by decide +kernel
theorem dX6_ofReceiver_25 : decode cX6_ofReceiver 25 = .ok (.ifCond .eq 13, 3) := by decide +kernel
theorem dX6_ofReceiver_28 : decode cX6_ofReceiver 28 = .ok (.new 38, 3) := by decide +kernel
theorem dX6_ofReceiver_31 : decode cX6_ofReceiver 31 = .ok (.dup, 1) := by decide +kernel
theorem dX6_ofReceiver_32 : decode cX6_ofReceiver 32 = .ok (.ldc 237, 2) := by decide +kernel
theorem dX6_ofReceiver_34 : decode cX6_ofReceiver 34 = .ok (.invokespecial 42, 3) := by decide +kernel
theorem dX6_ofReceiver_37 : decode cX6_ofReceiver 37 = .ok (.athrow, 1) := by decide +kernel
theorem dX6_ofReceiver_38 : decode cX6_ofReceiver 38 = .ok (.aload_n 0, 1) := by decide +kernel
theorem dX6_ofReceiver_39 : decode cX6_ofReceiver 39 = .ok (.aload_n 0, 1) := by decide +kernel
theorem dX6_ofReceiver_40 : decode cX6_ofReceiver 40 = .ok (.getfield 23, 3) := by decide +kernel
theorem dX6_ofReceiver_43 : decode cX6_ofReceiver 43 = .ok (.iload_n 1, 1) := by decide +kernel
theorem dX6_ofReceiver_44 : decode cX6_ofReceiver 44 = .ok (.aaload, 1) := by decide +kernel
theorem dX6_ofReceiver_45 : decode cX6_ofReceiver 45 = .ok (.iload_n 2, 1) := by decide +kernel
theorem dX6_ofReceiver_46 : decode cX6_ofReceiver 46 = .ok (.invokevirtual 254, 3) := by decide +kernel
theorem dX6_ofReceiver_49 : decode cX6_ofReceiver 49 = .ok (.ireturn, 1) := by decide +kernel
theorem dX6_many_0 : decode cX6_many 0 = .ok (.iload_n 1, 1) := by decide +kernel
theorem dX6_many_1 : decode cX6_many 1 = .ok (.iconst 0, 1) := by decide +kernel
theorem dX6_many_2 : decode cX6_many 2 = .ok (.bipush 8, 2) := by decide +kernel
theorem dX6_many_4 : decode cX6_many 4 = .ok (.invokestatic 34, 3) := by decide +kernel
theorem dX6_many_7 : decode cX6_many 7 = .ok (.ifCond .eq 13, 3) := by decide +kernel
theorem dX6_many_10 : decode cX6_many 10 = .ok (.new 38, 3) := by decide +kernel
theorem dX6_many_13 : decode cX6_many 13 = .ok (.dup, 1) := by decide +kernel
theorem dX6_many_14 : decode cX6_many 14 = .ok (.ldc 237, 2) := by decide +kernel
theorem dX6_many_16 : decode cX6_many 16 = .ok (.invokespecial 42, 3) := by decide +kernel
theorem dX6_many_19 : decode cX6_many 19 = .ok (.athrow, 1) := by decide +kernel
theorem dX6_many_20 : decode cX6_many 20 = .ok (.aload_n 0, 1) := by decide +kernel
theorem dX6_many_21 : decode cX6_many 21 = .ok (.iload_n 1, 1) := by decide +kernel
theorem dX6_many_22 : decode cX6_many 22 = .ok (.invokevirtual 257, 3) := by decide +kernel
theorem dX6_many_25 : decode cX6_many 25 = .ok (.ireturn, 1) := by decide +kernel
theorem dX6_meanError_0 : decode cX6_meanError 0 = .ok (.aload_n 0, 1) := by decide +kernel
theorem dX6_meanError_1 : decode cX6_meanError 1 = .ok (.iload_n 1, 1) := by decide +kernel
theorem dX6_meanError_2 : decode cX6_meanError 2 = .ok (.invokevirtual 140, 3) := by decide +kernel
theorem dX6_meanError_5 : decode cX6_meanError 5 = .ok (.ifCond .eq 13, 3) := by decide +kernel
theorem dX6_meanError_8 : decode cX6_meanError 8 = .ok (.new 63, 3) := by decide +kernel
theorem dX6_meanError_11 : decode cX6_meanError 11 = .ok (.dup, 1) := by decide +kernel
theorem dX6_meanError_12 : decode cX6_meanError 12 = .ok (.ldc 143, 2) := by decide +kernel
theorem dX6_meanError_14 : decode cX6_meanError 14 = .ok (.invokespecial 67, 3) := by decide +kernel
theorem dX6_meanError_17 : decode cX6_meanError 17 = .ok (.athrow, 1) := by decide +kernel
theorem dX6_meanError_18 : decode cX6_meanError 18 = .ok (.aload_n 0, 1) := by decide +kernel
theorem dX6_meanError_19 : decode cX6_meanError 19 = .ok (.getfield 23, 3) := by decide +kernel
theorem dX6_meanError_22 : decode cX6_meanError 22 = .ok (.iload_n 1, 1) := by decide +kernel
theorem dX6_meanError_23 : decode cX6_meanError 23 = .ok (.aaload, 1) := by decide +kernel
theorem dX6_meanError_24 : decode cX6_meanError 24 = .ok (.getfield 202, 3) := by decide +kernel
theorem dX6_meanError_27 : decode cX6_meanError 27 = .ok (.invokevirtual 260, 3) := by decide +kernel
theorem dX6_meanError_30 : decode cX6_meanError 30 = .ok (.dreturn, 1) := by decide +kernel
theorem dX6_wouldSee_0 : decode cX6_wouldSee 0 = .ok (.aload_n 0, 1) := by decide +kernel
theorem dX6_wouldSee_1 : decode cX6_wouldSee 1 = .ok (.iload_n 1, 1) := by decide +kernel
theorem dX6_wouldSee_2 : decode cX6_wouldSee 2 = .ok (.invokevirtual 140, 3) := by decide +kernel
theorem dX6_wouldSee_5 : decode cX6_wouldSee 5 = .ok (.ifCond .eq 13, 3) := by decide +kernel
theorem dX6_wouldSee_8 : decode cX6_wouldSee 8 = .ok (.new 63, 3) := by decide +kernel
theorem dX6_wouldSee_11 : decode cX6_wouldSee 11 = .ok (.dup, 1) := by decide +kernel
theorem dX6_wouldSee_12 : decode cX6_wouldSee 12 = .ok (.ldc 143, 2) := by decide +kernel
theorem dX6_wouldSee_14 : decode cX6_wouldSee 14 = .ok (.invokespecial 67, 3) := by decide +kernel
theorem dX6_wouldSee_17 : decode cX6_wouldSee 17 = .ok (.athrow, 1) := by decide +kernel
theorem dX6_wouldSee_18 : decode cX6_wouldSee 18 = .ok (.iload_n 2, 1) := by decide +kernel
theorem dX6_wouldSee_19 : decode cX6_wouldSee 19 = .ok (.iconst 0, 1) := by decide +kernel
theorem dX6_wouldSee_20 : decode cX6_wouldSee 20 = .ok (.bipush 48, 2) := by decide +kernel
theorem dX6_wouldSee_22 : decode cX6_wouldSee 22 = .ok (.invokestatic 34, 3) := by decide +kernel
theorem dX6_wouldSee_25 : decode cX6_wouldSee 25 = .ok (.ifCond .eq 13, 3) := by decide +kernel
theorem dX6_wouldSee_28 : decode cX6_wouldSee 28 = .ok (.new 38, 3) := by decide +kernel
theorem dX6_wouldSee_31 : decode cX6_wouldSee 31 = .ok (.dup, 1) := by decide +kernel
theorem dX6_wouldSee_32 : decode cX6_wouldSee 32 = .ok (.ldc 197, 2) := by decide +kernel
theorem dX6_wouldSee_34 : decode cX6_wouldSee 34 = .ok (.invokespecial 42, 3) := by decide +kernel
theorem dX6_wouldSee_37 : decode cX6_wouldSee 37 = .ok (.athrow, 1) := by decide +kernel
theorem dX6_wouldSee_38 : decode cX6_wouldSee 38 = .ok (.aload_n 0, 1) := by decide +kernel
theorem dX6_wouldSee_39 : decode cX6_wouldSee 39 = .ok (.aload_n 0, 1) := by decide +kernel
theorem dX6_wouldSee_40 : decode cX6_wouldSee 40 = .ok (.getfield 23, 3) := by decide +kernel
theorem dX6_wouldSee_43 : decode cX6_wouldSee 43 = .ok (.iload_n 1, 1) := by decide +kernel
theorem dX6_wouldSee_44 : decode cX6_wouldSee 44 = .ok (.aaload, 1) := by decide +kernel
theorem dX6_wouldSee_45 : decode cX6_wouldSee 45 = .ok (.iload_n 2, 1) := by decide +kernel
theorem dX6_wouldSee_46 : decode cX6_wouldSee 46 = .ok (.invokevirtual 165, 3) := by decide +kernel
theorem dX6_wouldSee_49 : decode cX6_wouldSee 49 = .ok (.ireturn, 1) := by decide +kernel
theorem dX6_heardIn_0 : decode cX6_heardIn 0 = .ok (.aload_n 0, 1) := by decide +kernel
theorem dX6_heardIn_1 : decode cX6_heardIn 1 = .ok (.iload_n 1, 1) := by decide +kernel
theorem dX6_heardIn_2 : decode cX6_heardIn 2 = .ok (.invokevirtual 59, 3) := by decide +kernel
theorem dX6_heardIn_5 : decode cX6_heardIn 5 = .ok (.ifCond .ne 11, 3) := by decide +kernel
theorem dX6_heardIn_8 : decode cX6_heardIn 8 = .ok (.aload_n 0, 1) := by decide +kernel
theorem dX6_heardIn_9 : decode cX6_heardIn 9 = .ok (.iload_n 2, 1) := by decide +kernel
theorem dX6_heardIn_10 : decode cX6_heardIn 10 = .ok (.invokevirtual 103, 3) := by decide +kernel
theorem dX6_heardIn_13 : decode cX6_heardIn 13 = .ok (.ifCond .eq 14, 3) := by decide +kernel
theorem dX6_heardIn_16 : decode cX6_heardIn 16 = .ok (.new 63, 3) := by decide +kernel
theorem dX6_heardIn_19 : decode cX6_heardIn 19 = .ok (.dup, 1) := by decide +kernel
theorem dX6_heardIn_20 : decode cX6_heardIn 20 = .ok (.ldc_w 264, 3) := by decide +kernel
theorem dX6_heardIn_23 : decode cX6_heardIn 23 = .ok (.invokespecial 67, 3) := by decide +kernel
theorem dX6_heardIn_26 : decode cX6_heardIn 26 = .ok (.athrow, 1) := by decide +kernel
theorem dX6_heardIn_27 : decode cX6_heardIn 27 = .ok (.aload_n 0, 1) := by decide +kernel
theorem dX6_heardIn_28 : decode cX6_heardIn 28 = .ok (.getfield 11, 3) := by decide +kernel
theorem dX6_heardIn_31 : decode cX6_heardIn 31 = .ok (.iload_n 1, 1) := by decide +kernel
theorem dX6_heardIn_32 : decode cX6_heardIn 32 = .ok (.aaload, 1) := by decide +kernel
theorem dX6_heardIn_33 : decode cX6_heardIn 33 = .ok (.aload_n 0, 1) := by decide +kernel
theorem dX6_heardIn_34 : decode cX6_heardIn 34 = .ok (.getfield 17, 3) := by decide +kernel
theorem dX6_heardIn_37 : decode cX6_heardIn 37 = .ok (.iload_n 2, 1) := by decide +kernel
theorem dX6_heardIn_38 : decode cX6_heardIn 38 = .ok (.aaload, 1) := by decide +kernel
theorem dX6_heardIn_39 : decode cX6_heardIn 39 = .ok (.invokestatic 266, 3) := by decide +kernel
theorem dX6_heardIn_42 : decode cX6_heardIn 42 = .ok (.ireturn, 1) := by decide +kernel
theorem dX6_digest_0 : decode cX6_digest 0 = .ok (.ldc2_w 284, 3) := by decide +kernel
theorem dX6_digest_3 : decode cX6_digest 3 = .ok (.lstore_n 1, 1) := by decide +kernel
theorem dX6_digest_4 : decode cX6_digest 4 = .ok (.iconst 0, 1) := by decide +kernel
theorem dX6_digest_5 : decode cX6_digest 5 = .ok (.istore_n 3, 1) := by decide +kernel
theorem dX6_digest_6 : decode cX6_digest 6 = .ok (.iload_n 3, 1) := by decide +kernel
theorem dX6_digest_7 : decode cX6_digest 7 = .ok (.bipush 8, 2) := by decide +kernel
theorem dX6_digest_9 : decode cX6_digest 9 = .ok (.if_icmp .gt 22, 3) := by decide +kernel
theorem dX6_digest_12 : decode cX6_digest 12 = .ok (.lload_n 1, 1) := by decide +kernel
theorem dX6_digest_13 : decode cX6_digest 13 = .ok (.ldc2_w 286, 3) := by decide +kernel
theorem dX6_digest_16 : decode cX6_digest 16 = .ok (.lmul, 1) := by decide +kernel
theorem dX6_digest_17 : decode cX6_digest 17 = .ok (.aload_n 0, 1) := by decide +kernel
theorem dX6_digest_18 : decode cX6_digest 18 = .ok (.iload_n 3, 1) := by decide +kernel
theorem dX6_digest_19 : decode cX6_digest 19 = .ok (.invokevirtual 257, 3) := by decide +kernel
theorem dX6_digest_22 : decode cX6_digest 22 = .ok (.i2l, 1) := by decide +kernel
theorem dX6_digest_23 : decode cX6_digest 23 = .ok (.ladd, 1) := by decide +kernel
theorem dX6_digest_24 : decode cX6_digest 24 = .ok (.lstore_n 1, 1) := by decide +kernel
theorem dX6_digest_25 : decode cX6_digest 25 = .ok (.iinc 3 1, 3) := by decide +kernel
theorem dX6_digest_28 : decode cX6_digest 28 = .ok (.goto (-22), 3) := by decide +kernel
theorem dX6_digest_31 : decode cX6_digest 31 = .ok (.iconst 0, 1) := by decide +kernel
theorem dX6_digest_32 : decode cX6_digest 32 = .ok (.istore_n 3, 1) := by decide +kernel
theorem dX6_digest_33 : decode cX6_digest 33 = .ok (.iload_n 3, 1) := by decide +kernel
theorem dX6_digest_34 : decode cX6_digest 34 = .ok (.aload_n 0, 1) := by decide +kernel
theorem dX6_digest_35 : decode cX6_digest 35 = .ok (.getfield 47, 3) := by decide +kernel
theorem dX6_digest_38 : decode cX6_digest 38 = .ok (.if_icmp .ge 21, 3) := by decide +kernel
theorem dX6_digest_41 : decode cX6_digest 41 = .ok (.aload_n 0, 1) := by decide +kernel
theorem dX6_digest_42 : decode cX6_digest 42 = .ok (.lload_n 1, 1) := by decide +kernel
theorem dX6_digest_43 : decode cX6_digest 43 = .ok (.aload_n 0, 1) := by decide +kernel
theorem dX6_digest_44 : decode cX6_digest 44 = .ok (.getfield 11, 3) := by decide +kernel
theorem dX6_digest_47 : decode cX6_digest 47 = .ok (.iload_n 3, 1) := by decide +kernel
theorem dX6_digest_48 : decode cX6_digest 48 = .ok (.aaload, 1) := by decide +kernel
theorem dX6_digest_49 : decode cX6_digest 49 = .ok (.invokevirtual 288, 3) := by decide +kernel
theorem dX6_digest_52 : decode cX6_digest 52 = .ok (.lstore_n 1, 1) := by decide +kernel
theorem dX6_digest_53 : decode cX6_digest 53 = .ok (.iinc 3 1, 3) := by decide +kernel
theorem dX6_digest_56 : decode cX6_digest 56 = .ok (.goto (-23), 3) := by decide +kernel
theorem dX6_digest_59 : decode cX6_digest 59 = .ok (.iconst 0, 1) := by decide +kernel
theorem dX6_digest_60 : decode cX6_digest 60 = .ok (.istore_n 3, 1) := by decide +kernel
theorem dX6_digest_61 : decode cX6_digest 61 = .ok (.iload_n 3, 1) := by decide +kernel
theorem dX6_digest_62 : decode cX6_digest 62 = .ok (.aload_n 0, 1) := by decide +kernel
theorem dX6_digest_63 : decode cX6_digest 63 = .ok (.getfield 132, 3) := by decide +kernel
theorem dX6_digest_66 : decode cX6_digest 66 = .ok (.if_icmp .ge 21, 3) := by decide +kernel
theorem dX6_digest_69 : decode cX6_digest 69 = .ok (.aload_n 0, 1) := by decide +kernel
theorem dX6_digest_70 : decode cX6_digest 70 = .ok (.lload_n 1, 1) := by decide +kernel
theorem dX6_digest_71 : decode cX6_digest 71 = .ok (.aload_n 0, 1) := by decide +kernel
theorem dX6_digest_72 : decode cX6_digest 72 = .ok (.getfield 23, 3) := by decide +kernel
theorem dX6_digest_75 : decode cX6_digest 75 = .ok (.iload_n 3, 1) := by decide +kernel
theorem dX6_digest_76 : decode cX6_digest 76 = .ok (.aaload, 1) := by decide +kernel
theorem dX6_digest_77 : decode cX6_digest 77 = .ok (.invokevirtual 292, 3) := by decide +kernel
theorem dX6_digest_80 : decode cX6_digest 80 = .ok (.lstore_n 1, 1) := by decide +kernel
theorem dX6_digest_81 : decode cX6_digest 81 = .ok (.iinc 3 1, 3) := by decide +kernel
theorem dX6_digest_84 : decode cX6_digest 84 = .ok (.goto (-23), 3) := by decide +kernel
theorem dX6_digest_87 : decode cX6_digest 87 = .ok (.aload_n 0, 1) := by decide +kernel
theorem dX6_digest_88 : decode cX6_digest 88 = .ok (.getfield 132, 3) := by decide +kernel
theorem dX6_digest_91 : decode cX6_digest 91 = .ok (.ifCond .le 21, 3) := by decide +kernel
theorem dX6_digest_94 : decode cX6_digest 94 = .ok (.lload_n 1, 1) := by decide +kernel
theorem dX6_digest_95 : decode cX6_digest 95 = .ok (.ldc2_w 286, 3) := by decide +kernel
theorem dX6_digest_98 : decode cX6_digest 98 = .ok (.lmul, 1) := by decide +kernel
theorem dX6_digest_99 : decode cX6_digest 99 = .ok (.aload_n 0, 1) := by decide +kernel
theorem dX6_digest_100 : decode cX6_digest 100 = .ok (.aload_n 0, 1) := by decide +kernel
theorem dX6_digest_101 : decode cX6_digest 101 = .ok (.getfield 23, 3) := by decide +kernel
theorem dX6_digest_104 : decode cX6_digest 104 = .ok (.iconst 0, 1) := by decide +kernel
theorem dX6_digest_105 : decode cX6_digest 105 = .ok (.aaload, 1) := by decide +kernel
theorem dX6_digest_106 : decode cX6_digest 106 = .ok (.invokevirtual 280, 3) := by decide +kernel
theorem dX6_digest_109 : decode cX6_digest 109 = .ok (.i2l, 1) := by decide +kernel
theorem dX6_digest_110 : decode cX6_digest 110 = .ok (.ladd, 1) := by decide +kernel
theorem dX6_digest_111 : decode cX6_digest 111 = .ok (.lstore_n 1, 1) := by decide +kernel
theorem dX6_digest_112 : decode cX6_digest 112 = .ok (.lload_n 1, 1) := by decide +kernel
theorem dX6_digest_113 : decode cX6_digest 113 = .ok (.lreturn, 1) := by decide +kernel
theorem dX6_isOutside_0 : decode cX6_isOutside 0 = .ok (.iload_n 0, 1) := by decide +kernel
theorem dX6_isOutside_1 : decode cX6_isOutside 1 = .ok (.iload_n 1, 1) := by decide +kernel
theorem dX6_isOutside_2 : decode cX6_isOutside 2 = .ok (.if_icmp .lt 8, 3) := by decide +kernel
theorem dX6_isOutside_5 : decode cX6_isOutside 5 = .ok (.iload_n 0, 1) := by decide +kernel
theorem dX6_isOutside_6 : decode cX6_isOutside 6 = .ok (.iload_n 2, 1) := by decide +kernel
theorem dX6_isOutside_7 : decode cX6_isOutside 7 = .ok (.if_icmp .le 7, 3) := by decide +kernel
theorem dX6_isOutside_10 : decode cX6_isOutside 10 = .ok (.iconst 1, 1) := by decide +kernel
theorem dX6_isOutside_11 : decode cX6_isOutside 11 = .ok (.goto 4, 3) := by decide +kernel
theorem dX6_isOutside_14 : decode cX6_isOutside 14 = .ok (.iconst 0, 1) := by decide +kernel
theorem dX6_isOutside_15 : decode cX6_isOutside 15 = .ok (.ireturn, 1) := by decide +kernel
theorem dX6_isNoPlace_0 : decode cX6_isNoPlace 0 = .ok (.iload_n 0, 1) := by decide +kernel
theorem dX6_isNoPlace_1 : decode cX6_isNoPlace 1 = .ok (.bipush (-12), 2) := by decide +kernel
theorem dX6_isNoPlace_3 : decode cX6_isNoPlace 3 = .ok (.bipush 12, 2) := by decide +kernel
theorem dX6_isNoPlace_5 : decode cX6_isNoPlace 5 = .ok (.invokestatic 34, 3) := by decide +kernel
theorem dX6_isNoPlace_8 : decode cX6_isNoPlace 8 = .ok (.ifCond .ne 13, 3) := by decide +kernel
theorem dX6_isNoPlace_11 : decode cX6_isNoPlace 11 = .ok (.iload_n 1, 1) := by decide +kernel
theorem dX6_isNoPlace_12 : decode cX6_isNoPlace 12 = .ok (.iconst 0, 1) := by decide +kernel
theorem dX6_isNoPlace_13 : decode cX6_isNoPlace 13 = .ok (.bipush 12, 2) := by decide +kernel
theorem dX6_isNoPlace_15 : decode cX6_isNoPlace 15 = .ok (.invokestatic 34, 3) := by decide +kernel
theorem dX6_isNoPlace_18 : decode cX6_isNoPlace 18 = .ok (.ifCond .eq 7, 3) := by decide +kernel
theorem dX6_isNoPlace_21 : decode cX6_isNoPlace 21 = .ok (.iconst 1, 1) := by decide +kernel
theorem dX6_isNoPlace_22 : decode cX6_isNoPlace 22 = .ok (.goto 4, 3) := by decide +kernel
theorem dX6_isNoPlace_25 : decode cX6_isNoPlace 25 = .ok (.iconst 0, 1) := by decide +kernel
theorem dX6_isNoPlace_26 : decode cX6_isNoPlace 26 = .ok (.ireturn, 1) := by decide +kernel
theorem dX6_isNoStar_0 : decode cX6_isNoStar 0 = .ok (.iload_n 1, 1) := by decide +kernel
theorem dX6_isNoStar_1 : decode cX6_isNoStar 1 = .ok (.iconst 0, 1) := by decide +kernel
theorem dX6_isNoStar_2 : decode cX6_isNoStar 2 = .ok (.aload_n 0, 1) := by decide +kernel
theorem dX6_isNoStar_3 : decode cX6_isNoStar 3 = .ok (.getfield 47, 3) := by decide +kernel
theorem dX6_isNoStar_6 : decode cX6_isNoStar 6 = .ok (.iconst 1, 1) := by decide +kernel
theorem dX6_isNoStar_7 : decode cX6_isNoStar 7 = .ok (.isub, 1) := by decide +kernel
theorem dX6_isNoStar_8 : decode cX6_isNoStar 8 = .ok (.invokestatic 34, 3) := by decide +kernel
theorem dX6_isNoStar_11 : decode cX6_isNoStar 11 = .ok (.ireturn, 1) := by decide +kernel
theorem dX6_isNoStation_0 : decode cX6_isNoStation 0 = .ok (.iload_n 1, 1) := by decide +kernel
theorem dX6_isNoStation_1 : decode cX6_isNoStation 1 = .ok (.iconst 0, 1) := by decide +kernel
theorem dX6_isNoStation_2 : decode cX6_isNoStation 2 = .ok (.aload_n 0, 1) := by decide +kernel
theorem dX6_isNoStation_3 : decode cX6_isNoStation 3 = .ok (.getfield 95, 3) := by decide +kernel
theorem dX6_isNoStation_6 : decode cX6_isNoStation 6 = .ok (.iconst 1, 1) := by decide +kernel
theorem dX6_isNoStation_7 : decode cX6_isNoStation 7 = .ok (.isub, 1) := by decide +kernel
theorem dX6_isNoStation_8 : decode cX6_isNoStation 8 = .ok (.invokestatic 34, 3) := by decide +kernel
theorem dX6_isNoStation_11 : decode cX6_isNoStation 11 = .ok (.ireturn, 1) := by decide +kernel
theorem dX6_isNoReceiver_0 : decode cX6_isNoReceiver 0 = .ok (.iload_n 1, 1) := by decide +kernel
theorem dX6_isNoReceiver_1 : decode cX6_isNoReceiver 1 = .ok (.iconst 0, 1) := by decide +kernel
theorem dX6_isNoReceiver_2 : decode cX6_isNoReceiver 2 = .ok (.aload_n 0, 1) := by decide +kernel
theorem dX6_isNoReceiver_3 : decode cX6_isNoReceiver 3 = .ok (.getfield 132, 3) := by decide +kernel
theorem dX6_isNoReceiver_6 : decode cX6_isNoReceiver 6 = .ok (.iconst 1, 1) := by decide +kernel
theorem dX6_isNoReceiver_7 : decode cX6_isNoReceiver 7 = .ok (.isub, 1) := by decide +kernel
theorem dX6_isNoReceiver_8 : decode cX6_isNoReceiver 8 = .ok (.invokestatic 34, 3) := by decide +kernel
theorem dX6_isNoReceiver_11 : decode cX6_isNoReceiver 11 = .ok (.ireturn, 1) := by decide +kernel
theorem dX6_held_0 : decode cX6_held 0 = .ok (.iload_n 1, 1) := by decide +kernel
theorem dX6_held_1 : decode cX6_held 1 = .ok (.ineg, 1) := by decide +kernel
theorem dX6_held_2 : decode cX6_held 2 = .ok (.iload_n 1, 1) := by decide +kernel
theorem dX6_held_3 : decode cX6_held 3 = .ok (.iload_n 0, 1) := by decide +kernel
theorem dX6_held_4 : decode cX6_held 4 = .ok (.invokestatic 296, 3) := by decide +kernel
theorem dX6_held_7 : decode cX6_held 7 = .ok (.invokestatic 299, 3) := by decide +kernel
theorem dX6_held_10 : decode cX6_held 10 = .ok (.ireturn, 1) := by decide +kernel
theorem dX6_rangeOf_0 : decode cX6_rangeOf 0 = .ok (.iload_n 0, 1) := by decide +kernel
theorem dX6_rangeOf_1 : decode cX6_rangeOf 1 = .ok (.iload_n 2, 1) := by decide +kernel
theorem dX6_rangeOf_2 : decode cX6_rangeOf 2 = .ok (.isub, 1) := by decide +kernel
theorem dX6_rangeOf_3 : decode cX6_rangeOf 3 = .ok (.invokestatic 302, 3) := by decide +kernel
theorem dX6_rangeOf_6 : decode cX6_rangeOf 6 = .ok (.iload_n 1, 1) := by decide +kernel
theorem dX6_rangeOf_7 : decode cX6_rangeOf 7 = .ok (.iload_n 3, 1) := by decide +kernel
theorem dX6_rangeOf_8 : decode cX6_rangeOf 8 = .ok (.isub, 1) := by decide +kernel
theorem dX6_rangeOf_9 : decode cX6_rangeOf 9 = .ok (.invokestatic 302, 3) := by decide +kernel
theorem dX6_rangeOf_12 : decode cX6_rangeOf 12 = .ok (.invokestatic 299, 3) := by decide +kernel
theorem dX6_rangeOf_15 : decode cX6_rangeOf 15 = .ok (.ireturn, 1) := by decide +kernel
theorem dX6_swing_0 : decode cX6_swing 0 = .ok (.iload_n 0, 1) := by decide +kernel
theorem dX6_swing_1 : decode cX6_swing 1 = .ok (.bipush 48, 2) := by decide +kernel
theorem dX6_swing_3 : decode cX6_swing 3 = .ok (.irem, 1) := by decide +kernel
theorem dX6_swing_4 : decode cX6_swing 4 = .ok (.istore_n 1, 1) := by decide +kernel
theorem dX6_swing_5 : decode cX6_swing 5 = .ok (.iload_n 1, 1) := by decide +kernel
theorem dX6_swing_6 : decode cX6_swing 6 = .ok (.ifCond .ge 6, 3) := by decide +kernel
theorem dX6_swing_9 : decode cX6_swing 9 = .ok (.iinc 1 48, 3) := by decide +kernel
theorem dX6_swing_12 : decode cX6_swing 12 = .ok (.iload_n 1, 1) := by decide +kernel
theorem dX6_swing_13 : decode cX6_swing 13 = .ok (.bipush 12, 2) := by decide +kernel
theorem dX6_swing_15 : decode cX6_swing 15 = .ok (.if_icmp .gt 5, 3) := by decide +kernel
theorem dX6_swing_18 : decode cX6_swing 18 = .ok (.iload_n 1, 1) := by decide +kernel
theorem dX6_swing_19 : decode cX6_swing 19 = .ok (.ireturn, 1) := by decide +kernel
theorem dX6_swing_20 : decode cX6_swing 20 = .ok (.iload_n 1, 1) := by decide +kernel
theorem dX6_swing_21 : decode cX6_swing 21 = .ok (.bipush 36, 2) := by decide +kernel
theorem dX6_swing_23 : decode cX6_swing 23 = .ok (.if_icmp .gt 10, 3) := by decide +kernel
theorem dX6_swing_26 : decode cX6_swing 26 = .ok (.bipush 24, 2) := by decide +kernel
theorem dX6_swing_28 : decode cX6_swing 28 = .ok (.iload_n 1, 1) := by decide +kernel
theorem dX6_swing_29 : decode cX6_swing 29 = .ok (.isub, 1) := by decide +kernel
theorem dX6_swing_30 : decode cX6_swing 30 = .ok (.goto 7, 3) := by decide +kernel
theorem dX6_swing_33 : decode cX6_swing 33 = .ok (.iload_n 1, 1) := by decide +kernel
theorem dX6_swing_34 : decode cX6_swing 34 = .ok (.bipush 48, 2) := by decide +kernel
theorem dX6_swing_36 : decode cX6_swing 36 = .ok (.isub, 1) := by decide +kernel
theorem dX6_swing_37 : decode cX6_swing 37 = .ok (.ireturn, 1) := by decide +kernel
theorem dX6_passOne_0 : decode cX6_passOne 0 = .ok (.aload_n 0, 1) := by decide +kernel
theorem dX6_passOne_1 : decode cX6_passOne 1 = .ok (.dup, 1) := by decide +kernel
theorem dX6_passOne_2 : decode cX6_passOne 2 = .ok (.getfield 114, 3) := by decide +kernel
theorem dX6_passOne_5 : decode cX6_passOne 5 = .ok (.iconst 1, 1) := by decide +kernel
theorem dX6_passOne_6 : decode cX6_passOne 6 = .ok (.iadd, 1) := by decide +kernel
theorem dX6_passOne_7 : decode cX6_passOne 7 = .ok (.putfield 114, 3) := by decide +kernel
theorem dX6_passOne_10 : decode cX6_passOne 10 = .ok (.iconst 0, 1) := by decide +kernel
theorem dX6_passOne_11 : decode cX6_passOne 11 = .ok (.istore_n 1, 1) := by decide +kernel
theorem dX6_passOne_12 : decode cX6_passOne 12 = .ok (.iload_n 1, 1) := by decide +kernel
theorem dX6_passOne_13 : decode cX6_passOne 13 = .ok (.aload_n 0, 1) := by decide +kernel
theorem dX6_passOne_14 : decode cX6_passOne 14 = .ok (.getfield 47, 3) := by decide +kernel
theorem dX6_passOne_17 : decode cX6_passOne 17 = .ok (.if_icmp .ge 18, 3) := by decide +kernel
theorem dX6_passOne_20 : decode cX6_passOne 20 = .ok (.aload_n 0, 1) := by decide +kernel
theorem dX6_passOne_21 : decode cX6_passOne 21 = .ok (.getfield 11, 3) := by decide +kernel
theorem dX6_passOne_24 : decode cX6_passOne 24 = .ok (.iload_n 1, 1) := by decide +kernel
theorem dX6_passOne_25 : decode cX6_passOne 25 = .ok (.aaload, 1) := by decide +kernel
theorem dX6_passOne_26 : decode cX6_passOne 26 = .ok (.invokevirtual 305, 3) := by decide +kernel
theorem dX6_passOne_29 : decode cX6_passOne 29 = .ok (.iinc 1 1, 3) := by decide +kernel
theorem dX6_passOne_32 : decode cX6_passOne 32 = .ok (.goto (-20), 3) := by decide +kernel
theorem dX6_passOne_35 : decode cX6_passOne 35 = .ok (.return_, 1) := by decide +kernel
theorem dX6_setSeen_0 : decode cX6_setSeen 0 = .ok (.iconst 0, 1) := by decide +kernel
theorem dX6_setSeen_1 : decode cX6_setSeen 1 = .ok (.istore_n 3, 1) := by decide +kernel
theorem dX6_setSeen_2 : decode cX6_setSeen 2 = .ok (.iconst 0, 1) := by decide +kernel
theorem dX6_setSeen_3 : decode cX6_setSeen 3 = .ok (.istore 4, 2) := by decide +kernel
theorem dX6_setSeen_5 : decode cX6_setSeen 5 = .ok (.iload 4, 2) := by decide +kernel
theorem dX6_setSeen_7 : decode cX6_setSeen 7 = .ok (.aload_n 0, 1) := by decide +kernel
theorem dX6_setSeen_8 : decode cX6_setSeen 8 = .ok (.getfield 47, 3) := by decide +kernel
theorem dX6_setSeen_11 : decode cX6_setSeen 11 = .ok (.if_icmp .ge 31, 3) := by decide +kernel
theorem dX6_setSeen_14 : decode cX6_setSeen 14 = .ok (.aload_n 1, 1) := by decide +kernel
theorem dX6_setSeen_15 : decode cX6_setSeen 15 = .ok (.aload_n 0, 1) := by decide +kernel
theorem dX6_setSeen_16 : decode cX6_setSeen 16 = .ok (.getfield 11, 3) := by decide +kernel
theorem dX6_setSeen_19 : decode cX6_setSeen 19 = .ok (.iload 4, 2) := by decide +kernel
theorem dX6_setSeen_21 : decode cX6_setSeen 21 = .ok (.aaload, 1) := by decide +kernel
theorem dX6_setSeen_22 : decode cX6_setSeen 22 = .ok (.iload_n 2, 1) := by decide +kernel
theorem dX6_setSeen_23 : decode cX6_setSeen 23 = .ok (.invokevirtual 306, 3) := by decide +kernel
theorem dX6_setSeen_26 : decode cX6_setSeen 26 = .ok (.ifCond .eq 10, 3) := by decide +kernel
theorem dX6_setSeen_29 : decode cX6_setSeen 29 = .ok (.iload_n 3, 1) := by decide +kernel
theorem dX6_setSeen_30 : decode cX6_setSeen 30 = .ok (.iconst 1, 1) := by decide +kernel
theorem dX6_setSeen_31 : decode cX6_setSeen 31 = .ok (.iload 4, 2) := by decide +kernel
theorem dX6_setSeen_33 : decode cX6_setSeen 33 = .ok (.ishl, 1) := by decide +kernel
theorem dX6_setSeen_34 : decode cX6_setSeen 34 = .ok (.ior, 1) := by decide +kernel
theorem dX6_setSeen_35 : decode cX6_setSeen 35 = .ok (.istore_n 3, 1) := by decide +kernel
theorem dX6_setSeen_36 : decode cX6_setSeen 36 = .ok (.iinc 4 1, 3) := by decide +kernel
theorem dX6_setSeen_39 : decode cX6_setSeen 39 = .ok (.goto (-34), 3) := by decide +kernel
theorem dX6_setSeen_42 : decode cX6_setSeen 42 = .ok (.iload_n 3, 1) := by decide +kernel
theorem dX6_setSeen_43 : decode cX6_setSeen 43 = .ok (.ireturn, 1) := by decide +kernel
theorem dX6_firstHeard_0 : decode cX6_firstHeard 0 = .ok (.iconst 0, 1) := by decide +kernel
theorem dX6_firstHeard_1 : decode cX6_firstHeard 1 = .ok (.istore_n 2, 1) := by decide +kernel
theorem dX6_firstHeard_2 : decode cX6_firstHeard 2 = .ok (.iload_n 2, 1) := by decide +kernel
theorem dX6_firstHeard_3 : decode cX6_firstHeard 3 = .ok (.bipush 48, 2) := by decide +kernel
theorem dX6_firstHeard_5 : decode cX6_firstHeard 5 = .ok (.if_icmp .gt 20, 3) := by decide +kernel
theorem dX6_firstHeard_8 : decode cX6_firstHeard 8 = .ok (.aload_n 1, 1) := by decide +kernel
theorem dX6_firstHeard_9 : decode cX6_firstHeard 9 = .ok (.aload_n 0, 1) := by decide +kernel
theorem dX6_firstHeard_10 : decode cX6_firstHeard 10 = .ok (.iload_n 2, 1) := by decide +kernel
theorem dX6_firstHeard_11 : decode cX6_firstHeard 11 = .ok (.invokevirtual 108, 3) := by decide +kernel
theorem dX6_firstHeard_14 : decode cX6_firstHeard 14 = .ok (.ifCond .eq 5, 3) := by decide +kernel
theorem dX6_firstHeard_17 : decode cX6_firstHeard 17 = .ok (.iload_n 2, 1) := by decide +kernel
theorem dX6_firstHeard_18 : decode cX6_firstHeard 18 = .ok (.ireturn, 1) := by decide +kernel
theorem dX6_firstHeard_19 : decode cX6_firstHeard 19 = .ok (.iinc 2 1, 3) := by decide +kernel
theorem dX6_firstHeard_22 : decode cX6_firstHeard 22 = .ok (.goto (-20), 3) := by decide +kernel
theorem dX6_firstHeard_25 : decode cX6_firstHeard 25 = .ok (.iconst (-1), 1) := by decide +kernel
theorem dX6_firstHeard_26 : decode cX6_firstHeard 26 = .ok (.ireturn, 1) := by decide +kernel
theorem dX6_measure_0 : decode cX6_measure 0 = .ok (.aload_n 1, 1) := by decide +kernel
theorem dX6_measure_1 : decode cX6_measure 1 = .ok (.getfield 202, 3) := by decide +kernel
theorem dX6_measure_4 : decode cX6_measure 4 = .ok (.aload_n 0, 1) := by decide +kernel
theorem dX6_measure_5 : decode cX6_measure 5 = .ok (.getfield 114, 3) := by decide +kernel
theorem dX6_measure_8 : decode cX6_measure 8 = .ok (.iconst 1, 1) := by decide +kernel
theorem dX6_measure_9 : decode cX6_measure 9 = .ok (.isub, 1) := by decide +kernel
theorem dX6_measure_10 : decode cX6_measure 10 = .ok (.invokevirtual 206, 3) := by decide +kernel
theorem dX6_measure_13 : decode cX6_measure 13 = .ok (.istore_n 2, 1) := by decide +kernel
theorem dX6_measure_14 : decode cX6_measure 14 = .ok (.iconst 0, 1) := by decide +kernel
theorem dX6_measure_15 : decode cX6_measure 15 = .ok (.istore_n 3, 1) := by decide +kernel
theorem dX6_measure_16 : decode cX6_measure 16 = .ok (.iload_n 3, 1) := by decide +kernel
theorem dX6_measure_17 : decode cX6_measure 17 = .ok (.aload_n 0, 1) := by decide +kernel
theorem dX6_measure_18 : decode cX6_measure 18 = .ok (.getfield 47, 3) := by decide +kernel
theorem dX6_measure_21 : decode cX6_measure 21 = .ok (.if_icmp .ge 70, 3) := by decide +kernel
theorem dX6_measure_24 : decode cX6_measure 24 = .ok (.aload_n 1, 1) := by decide +kernel
theorem dX6_measure_25 : decode cX6_measure 25 = .ok (.getfield 247, 3) := by decide +kernel
theorem dX6_measure_28 : decode cX6_measure 28 = .ok (.iload_n 3, 1) := by decide +kernel
theorem dX6_measure_29 : decode cX6_measure 29 = .ok (.aaload, 1) := by decide +kernel
theorem dX6_measure_30 : decode cX6_measure 30 = .ok (.astore 4, 2) := by decide +kernel
theorem dX6_measure_32 : decode cX6_measure 32 = .ok (.aload_n 1, 1) := by decide +kernel
theorem dX6_measure_33 : decode cX6_measure 33 = .ok (.aload_n 0, 1) := by decide +kernel
theorem dX6_measure_34 : decode cX6_measure 34 = .ok (.getfield 11, 3) := by decide +kernel
theorem dX6_measure_37 : decode cX6_measure 37 = .ok (.iload_n 3, 1) := by decide +kernel
theorem dX6_measure_38 : decode cX6_measure 38 = .ok (.aaload, 1) := by decide +kernel
theorem dX6_measure_39 : decode cX6_measure 39 = .ok (.iconst 0, 1) := by decide +kernel
theorem dX6_measure_40 : decode cX6_measure 40 = .ok (.invokevirtual 306, 3) := by decide +kernel
theorem dX6_measure_43 : decode cX6_measure 43 = .ok (.ifCond .eq 37, 3) := by decide +kernel
theorem dX6_measure_46 : decode cX6_measure 46 = .ok (.aload_n 1, 1) := by decide +kernel
theorem dX6_measure_47 : decode cX6_measure 47 = .ok (.aload_n 0, 1) := by decide +kernel
theorem dX6_measure_48 : decode cX6_measure 48 = .ok (.getfield 11, 3) := by decide +kernel
theorem dX6_measure_51 : decode cX6_measure 51 = .ok (.iload_n 3, 1) := by decide +kernel
theorem dX6_measure_52 : decode cX6_measure 52 = .ok (.aaload, 1) := by decide +kernel
theorem dX6_measure_53 : decode cX6_measure 53 = .ok (.invokevirtual 309, 3) := by decide +kernel
theorem dX6_measure_56 : decode cX6_measure 56 = .ok (.istore 5, 2) := by decide +kernel
theorem dX6_measure_58 : decode cX6_measure 58 = .ok (.aload 4, 2) := by decide +kernel
theorem dX6_measure_60 : decode cX6_measure 60 = .ok (.aload_n 0, 1) := by decide +kernel
theorem dX6_measure_61 : decode cX6_measure 61 = .ok (.aload_n 1, 1) := by decide +kernel
theorem dX6_measure_62 : decode cX6_measure 62 = .ok (.iload_n 3, 1) := by decide +kernel
theorem dX6_measure_63 : decode cX6_measure 63 = .ok (.invokevirtual 313, 3) := by decide +kernel
theorem dX6_measure_66 : decode cX6_measure 66 = .ok (.iload 5, 2) := by decide +kernel
theorem dX6_measure_68 : decode cX6_measure 68 = .ok (.bipush 10, 2) := by decide +kernel
theorem dX6_measure_70 : decode cX6_measure 70 = .ok (.invokestatic 73, 3) := by decide +kernel
theorem dX6_measure_73 : decode cX6_measure 73 = .ok (.iload_n 2, 1) := by decide +kernel
theorem dX6_measure_74 : decode cX6_measure 74 = .ok (.invokevirtual 316, 3) := by decide +kernel
theorem dX6_measure_77 : decode cX6_measure 77 = .ok (.goto 8, 3) := by decide +kernel
theorem dX6_measure_80 : decode cX6_measure 80 = .ok (.aload 4, 2) := by decide +kernel
theorem dX6_measure_82 : decode cX6_measure 82 = .ok (.invokevirtual 320, 3) := by decide +kernel
theorem dX6_measure_85 : decode cX6_measure 85 = .ok (.iinc 3 1, 3) := by decide +kernel
theorem dX6_measure_88 : decode cX6_measure 88 = .ok (.goto (-72), 3) := by decide +kernel
theorem dX6_measure_91 : decode cX6_measure 91 = .ok (.return_, 1) := by decide +kernel
theorem dX6_codeOf_0 : decode cX6_codeOf 0 = .ok (.bipush 7, 2) := by decide +kernel
theorem dX6_codeOf_2 : decode cX6_codeOf 2 = .ok (.aload_n 0, 1) := by decide +kernel
theorem dX6_codeOf_3 : decode cX6_codeOf 3 = .ok (.getfield 114, 3) := by decide +kernel
theorem dX6_codeOf_6 : decode cX6_codeOf 6 = .ok (.imul, 1) := by decide +kernel
theorem dX6_codeOf_7 : decode cX6_codeOf 7 = .ok (.iconst 3, 1) := by decide +kernel
theorem dX6_codeOf_8 : decode cX6_codeOf 8 = .ok (.iload_n 2, 1) := by decide +kernel
theorem dX6_codeOf_9 : decode cX6_codeOf 9 = .ok (.imul, 1) := by decide +kernel
theorem dX6_codeOf_10 : decode cX6_codeOf 10 = .ok (.iadd, 1) := by decide +kernel
theorem dX6_codeOf_11 : decode cX6_codeOf 11 = .ok (.iconst 2, 1) := by decide +kernel
theorem dX6_codeOf_12 : decode cX6_codeOf 12 = .ok (.aload_n 1, 1) := by decide +kernel
theorem dX6_codeOf_13 : decode cX6_codeOf 13 = .ok (.getfield 323, 3) := by decide +kernel
theorem dX6_codeOf_16 : decode cX6_codeOf 16 = .ok (.imul, 1) := by decide +kernel
theorem dX6_codeOf_17 : decode cX6_codeOf 17 = .ok (.iadd, 1) := by decide +kernel
theorem dX6_codeOf_18 : decode cX6_codeOf 18 = .ok (.iconst 5, 1) := by decide +kernel
theorem dX6_codeOf_19 : decode cX6_codeOf 19 = .ok (.invokestatic 73, 3) := by decide +kernel
theorem dX6_codeOf_22 : decode cX6_codeOf 22 = .ok (.iconst 2, 1) := by decide +kernel
theorem dX6_codeOf_23 : decode cX6_codeOf 23 = .ok (.isub, 1) := by decide +kernel
theorem dX6_codeOf_24 : decode cX6_codeOf 24 = .ok (.istore_n 3, 1) := by decide +kernel
theorem dX6_codeOf_25 : decode cX6_codeOf 25 = .ok (.aload_n 1, 1) := by decide +kernel
theorem dX6_codeOf_26 : decode cX6_codeOf 26 = .ok (.aload_n 0, 1) := by decide +kernel
theorem dX6_codeOf_27 : decode cX6_codeOf 27 = .ok (.getfield 11, 3) := by decide +kernel
theorem dX6_codeOf_30 : decode cX6_codeOf 30 = .ok (.iload_n 2, 1) := by decide +kernel
theorem dX6_codeOf_31 : decode cX6_codeOf 31 = .ok (.aaload, 1) := by decide +kernel
theorem dX6_codeOf_32 : decode cX6_codeOf 32 = .ok (.invokevirtual 309, 3) := by decide +kernel
theorem dX6_codeOf_35 : decode cX6_codeOf 35 = .ok (.aload_n 1, 1) := by decide +kernel
theorem dX6_codeOf_36 : decode cX6_codeOf 36 = .ok (.aload_n 0, 1) := by decide +kernel
theorem dX6_codeOf_37 : decode cX6_codeOf 37 = .ok (.getfield 11, 3) := by decide +kernel
theorem dX6_codeOf_40 : decode cX6_codeOf 40 = .ok (.iload_n 2, 1) := by decide +kernel
theorem dX6_codeOf_41 : decode cX6_codeOf 41 = .ok (.aaload, 1) := by decide +kernel
theorem dX6_codeOf_42 : decode cX6_codeOf 42 = .ok (.invokevirtual 326, 3) := by decide +kernel
theorem dX6_codeOf_45 : decode cX6_codeOf 45 = .ok (.iadd, 1) := by decide +kernel
theorem dX6_codeOf_46 : decode cX6_codeOf 46 = .ok (.iload_n 3, 1) := by decide +kernel
theorem dX6_codeOf_47 : decode cX6_codeOf 47 = .ok (.iadd, 1) := by decide +kernel
theorem dX6_codeOf_48 : decode cX6_codeOf 48 = .ok (.ireturn, 1) := by decide +kernel
theorem dX6_gatherMeasured_0 : decode cX6_gatherMeasured 0 = .ok (.aload_n 0, 1) := by decide +kernel
theorem dX6_gatherMeasured_1 : decode cX6_gatherMeasured 1 = .ok (.getfield 30, 3) := by decide +kernel
theorem dX6_gatherMeasured_4 : decode cX6_gatherMeasured 4 = .ok (.invokevirtual 329, 3) := by decide +kernel
theorem dX6_gatherMeasured_7 : decode cX6_gatherMeasured 7 = .ok (.iconst 0, 1) := by decide +kernel
theorem dX6_gatherMeasured_8 : decode cX6_gatherMeasured 8 = .ok (.istore_n 2, 1) := by decide +kernel
theorem dX6_gatherMeasured_9 : decode cX6_gatherMeasured 9 = .ok (.iload_n 2, 1) := by decide +kernel
theorem dX6_gatherMeasured_10 : decode cX6_gatherMeasured 10 = .ok (.aload_n 0, 1) := by decide +kernel
theorem dX6_gatherMeasured_11 : decode cX6_gatherMeasured 11 = .ok (.getfield 47, 3) := by decide +kernel
theorem dX6_gatherMeasured_14 : decode cX6_gatherMeasured 14 = .ok (.if_icmp .ge 77, 3) := by decide +kernel
theorem dX6_gatherMeasured_17 : decode cX6_gatherMeasured 17 = .ok (.aload_n 1, 1) := by decide +kernel
theorem dX6_gatherMeasured_18 : decode cX6_gatherMeasured 18 = .ok (.getfield 247, 3) := by decide +kernel
theorem dX6_gatherMeasured_21 : decode cX6_gatherMeasured 21 = .ok (.iload_n 2, 1) := by decide +kernel
theorem dX6_gatherMeasured_22 : decode cX6_gatherMeasured 22 = .ok (.aaload, 1) := by decide +kernel
theorem dX6_gatherMeasured_23 : decode cX6_gatherMeasured 23 = .ok (.astore_n 3, 1) := by decide +kernel
theorem dX6_gatherMeasured_24 : decode cX6_gatherMeasured 24 = .ok (.aload_n 3, 1) := by decide +kernel
theorem dX6_gatherMeasured_25 : decode cX6_gatherMeasured 25 = .ok (.getfield 332, 3) := by decide +kernel
theorem dX6_gatherMeasured_28 : decode cX6_gatherMeasured 28 = .ok (.ifCond .eq 57, 3) := by decide +kernel
theorem dX6_gatherMeasured_31 : decode cX6_gatherMeasured 31 = .ok (.aload_n 0, 1) := by decide +kernel
theorem dX6_gatherMeasured_32 : decode cX6_gatherMeasured 32 = .ok (.getfield 11, 3) := by decide +kernel
theorem dX6_gatherMeasured_35 : decode cX6_gatherMeasured 35 = .ok (.iload_n 2, 1) := by decide +kernel
theorem dX6_gatherMeasured_36 : decode cX6_gatherMeasured 36 = .ok (.aaload, 1) := by decide +kernel
theorem dX6_gatherMeasured_37 : decode cX6_gatherMeasured 37 = .ok (.aload_n 0, 1) := by decide +kernel
theorem dX6_gatherMeasured_38 : decode cX6_gatherMeasured 38 = .ok (.getfield 114, 3) := by decide +kernel
theorem dX6_gatherMeasured_41 : decode cX6_gatherMeasured 41 = .ok (.invokevirtual 335, 3) := by decide +kernel
theorem dX6_gatherMeasured_44 : decode cX6_gatherMeasured 44 = .ok (.ifCond .eq 41, 3) := by decide +kernel
theorem dX6_gatherMeasured_47 : decode cX6_gatherMeasured 47 = .ok (.aload_n 3, 1) := by decide +kernel
theorem dX6_gatherMeasured_48 : decode cX6_gatherMeasured 48 = .ok (.iconst 1, 1) := by decide +kernel
theorem dX6_gatherMeasured_49 : decode cX6_gatherMeasured 49 = .ok (.putfield 338, 3) := by decide +kernel
theorem dX6_gatherMeasured_52 : decode cX6_gatherMeasured 52 = .ok (.aload_n 3, 1) := by decide +kernel
theorem dX6_gatherMeasured_53 : decode cX6_gatherMeasured 53 = .ok (.aload_n 0, 1) := by decide +kernel
theorem dX6_gatherMeasured_54 : decode cX6_gatherMeasured 54 = .ok (.aload_n 1, 1) := by decide +kernel
theorem dX6_gatherMeasured_55 : decode cX6_gatherMeasured 55 = .ok (.iload_n 2, 1) := by decide +kernel
theorem dX6_gatherMeasured_56 : decode cX6_gatherMeasured 56 = .ok (.invokevirtual 341, 3) := by decide +kernel
theorem dX6_gatherMeasured_59 : decode cX6_gatherMeasured 59 = .ok (.putfield 344, 3) := by decide +kernel
theorem dX6_gatherMeasured_62 : decode cX6_gatherMeasured 62 = .ok (.aload_n 0, 1) := by decide +kernel
theorem dX6_gatherMeasured_63 : decode cX6_gatherMeasured 63 = .ok (.aload_n 0, 1) := by decide +kernel
theorem dX6_gatherMeasured_64 : decode cX6_gatherMeasured 64 = .ok (.getfield 11, 3) := by decide +kernel
theorem dX6_gatherMeasured_67 : decode cX6_gatherMeasured 67 = .ok (.iload_n 2, 1) := by decide +kernel
theorem dX6_gatherMeasured_68 : decode cX6_gatherMeasured 68 = .ok (.aaload, 1) := by decide +kernel
theorem dX6_gatherMeasured_69 : decode cX6_gatherMeasured 69 = .ok (.aload_n 3, 1) := by decide +kernel
theorem dX6_gatherMeasured_70 : decode cX6_gatherMeasured 70 = .ok (.invokevirtual 347, 3) := by decide +kernel
theorem dX6_gatherMeasured_73 : decode cX6_gatherMeasured 73 = .ok (.aload_n 3, 1) := by decide +kernel
theorem dX6_gatherMeasured_74 : decode cX6_gatherMeasured 74 = .ok (.getfield 344, 3) := by decide +kernel
theorem dX6_gatherMeasured_77 : decode cX6_gatherMeasured 77 = .ok (.isub, 1) := by decide +kernel
theorem dX6_gatherMeasured_78 : decode cX6_gatherMeasured 78 = .ok (.aload_n 3, 1) := by decide +kernel
theorem dX6_gatherMeasured_79 : decode cX6_gatherMeasured 79 = .ok (.getfield 351, 3) := by decide +kernel
theorem dX6_gatherMeasured_82 : decode cX6_gatherMeasured 82 = .ok (.invokevirtual 354, 3) := by decide +kernel
theorem dX6_gatherMeasured_85 : decode cX6_gatherMeasured 85 = .ok (.iinc 2 1, 3) := by decide +kernel
theorem dX6_gatherMeasured_88 : decode cX6_gatherMeasured 88 = .ok (.goto (-79), 3) := by decide +kernel
theorem dX6_gatherMeasured_91 : decode cX6_gatherMeasured 91 = .ok (.return_, 1) := by decide +kernel
theorem dX6_gatherSupposed_0 : decode cX6_gatherSupposed 0 = .ok (.aload_n 0, 1) := by decide +kernel
theorem dX6_gatherSupposed_1 : decode cX6_gatherSupposed 1 = .ok (.getfield 30, 3) := by decide +kernel
theorem dX6_gatherSupposed_4 : decode cX6_gatherSupposed 4 = .ok (.invokevirtual 329, 3) := by decide +kernel
theorem dX6_gatherSupposed_7 : decode cX6_gatherSupposed 7 = .ok (.iconst 0, 1) := by decide +kernel
theorem dX6_gatherSupposed_8 : decode cX6_gatherSupposed 8 = .ok (.istore_n 3, 1) := by decide +kernel
theorem dX6_gatherSupposed_9 : decode cX6_gatherSupposed 9 = .ok (.iload_n 3, 1) := by decide +kernel
theorem dX6_gatherSupposed_10 : decode cX6_gatherSupposed 10 = .ok (.aload_n 0, 1) := by decide +kernel
theorem dX6_gatherSupposed_11 : decode cX6_gatherSupposed 11 = .ok (.getfield 47, 3) := by decide +kernel
theorem dX6_gatherSupposed_14 : decode cX6_gatherSupposed 14 = .ok (.if_icmp .ge 68, 3) := by decide +kernel
theorem dX6_gatherSupposed_17 : decode cX6_gatherSupposed 17 = .ok (.iload_n 3, 1) := by decide +kernel
theorem dX6_gatherSupposed_18 : decode cX6_gatherSupposed 18 = .ok (.iload_n 2, 1) := by decide +kernel
theorem dX6_gatherSupposed_19 : decode cX6_gatherSupposed 19 = .ok (.if_icmp .eq 57, 3) := by decide +kernel
theorem dX6_gatherSupposed_22 : decode cX6_gatherSupposed 22 = .ok (.aload_n 1, 1) := by decide +kernel
theorem dX6_gatherSupposed_23 : decode cX6_gatherSupposed 23 = .ok (.aload_n 0, 1) := by decide +kernel
theorem dX6_gatherSupposed_24 : decode cX6_gatherSupposed 24 = .ok (.getfield 11, 3) := by decide +kernel
theorem dX6_gatherSupposed_27 : decode cX6_gatherSupposed 27 = .ok (.iload_n 3, 1) := by decide +kernel
theorem dX6_gatherSupposed_28 : decode cX6_gatherSupposed 28 = .ok (.aaload, 1) := by decide +kernel
theorem dX6_gatherSupposed_29 : decode cX6_gatherSupposed 29 = .ok (.iconst 0, 1) := by decide +kernel
theorem dX6_gatherSupposed_30 : decode cX6_gatherSupposed 30 = .ok (.invokevirtual 306, 3) := by decide +kernel
theorem dX6_gatherSupposed_33 : decode cX6_gatherSupposed 33 = .ok (.ifCond .eq 43, 3) := by decide +kernel
theorem dX6_gatherSupposed_36 : decode cX6_gatherSupposed 36 = .ok (.aload_n 0, 1) := by decide +kernel
theorem dX6_gatherSupposed_37 : decode cX6_gatherSupposed 37 = .ok (.getfield 11, 3) := by decide +kernel
theorem dX6_gatherSupposed_40 : decode cX6_gatherSupposed 40 = .ok (.iload_n 3, 1) := by decide +kernel
theorem dX6_gatherSupposed_41 : decode cX6_gatherSupposed 41 = .ok (.aaload, 1) := by decide +kernel
theorem dX6_gatherSupposed_42 : decode cX6_gatherSupposed 42 = .ok (.aload_n 0, 1) := by decide +kernel
theorem dX6_gatherSupposed_43 : decode cX6_gatherSupposed 43 = .ok (.getfield 114, 3) := by decide +kernel
theorem dX6_gatherSupposed_46 : decode cX6_gatherSupposed 46 = .ok (.invokevirtual 335, 3) := by decide +kernel
theorem dX6_gatherSupposed_49 : decode cX6_gatherSupposed 49 = .ok (.ifCond .eq 27, 3) := by decide +kernel
theorem dX6_gatherSupposed_52 : decode cX6_gatherSupposed 52 = .ok (.aload_n 0, 1) := by decide +kernel
theorem dX6_gatherSupposed_53 : decode cX6_gatherSupposed 53 = .ok (.aload_n 0, 1) := by decide +kernel
theorem dX6_gatherSupposed_54 : decode cX6_gatherSupposed 54 = .ok (.getfield 11, 3) := by decide +kernel
theorem dX6_gatherSupposed_57 : decode cX6_gatherSupposed 57 = .ok (.iload_n 3, 1) := by decide +kernel
theorem dX6_gatherSupposed_58 : decode cX6_gatherSupposed 58 = .ok (.aaload, 1) := by decide +kernel
theorem dX6_gatherSupposed_59 : decode cX6_gatherSupposed 59 = .ok (.aload_n 0, 1) := by decide +kernel
theorem dX6_gatherSupposed_60 : decode cX6_gatherSupposed 60 = .ok (.aload_n 1, 1) := by decide +kernel
theorem dX6_gatherSupposed_61 : decode cX6_gatherSupposed 61 = .ok (.iload_n 3, 1) := by decide +kernel
theorem dX6_gatherSupposed_62 : decode cX6_gatherSupposed 62 = .ok (.invokevirtual 313, 3) := by decide +kernel
theorem dX6_gatherSupposed_65 : decode cX6_gatherSupposed 65 = .ok (.aload_n 0, 1) := by decide +kernel
theorem dX6_gatherSupposed_66 : decode cX6_gatherSupposed 66 = .ok (.aload_n 1, 1) := by decide +kernel
theorem dX6_gatherSupposed_67 : decode cX6_gatherSupposed 67 = .ok (.iload_n 3, 1) := by decide +kernel
theorem dX6_gatherSupposed_68 : decode cX6_gatherSupposed 68 = .ok (.invokevirtual 341, 3) := by decide +kernel
theorem dX6_gatherSupposed_71 : decode cX6_gatherSupposed 71 = .ok (.isub, 1) := by decide +kernel
theorem dX6_gatherSupposed_72 : decode cX6_gatherSupposed 72 = .ok (.iconst 0, 1) := by decide +kernel
theorem dX6_gatherSupposed_73 : decode cX6_gatherSupposed 73 = .ok (.invokevirtual 354, 3) := by decide +kernel
theorem dX6_gatherSupposed_76 : decode cX6_gatherSupposed 76 = .ok (.iinc 3 1, 3) := by decide +kernel
theorem dX6_gatherSupposed_79 : decode cX6_gatherSupposed 79 = .ok (.goto (-70), 3) := by decide +kernel
theorem dX6_gatherSupposed_82 : decode cX6_gatherSupposed 82 = .ok (.return_, 1) := by decide +kernel
theorem dX6_use_0 : decode cX6_use 0 = .ok (.aload_n 1, 1) := by decide +kernel
theorem dX6_use_1 : decode cX6_use 1 = .ok (.aload_n 0, 1) := by decide +kernel
theorem dX6_use_2 : decode cX6_use 2 = .ok (.getfield 114, 3) := by decide +kernel
theorem dX6_use_5 : decode cX6_use 5 = .ok (.invokevirtual 358, 3) := by decide +kernel
theorem dX6_use_8 : decode cX6_use 8 = .ok (.istore 4, 2) := by decide +kernel
theorem dX6_use_10 : decode cX6_use 10 = .ok (.aload_n 1, 1) := by decide +kernel
theorem dX6_use_11 : decode cX6_use 11 = .ok (.aload_n 0, 1) := by decide +kernel
theorem dX6_use_12 : decode cX6_use 12 = .ok (.getfield 114, 3) := by decide +kernel
theorem dX6_use_15 : decode cX6_use 15 = .ok (.invokevirtual 361, 3) := by decide +kernel
theorem dX6_use_18 : decode cX6_use 18 = .ok (.istore 5, 2) := by decide +kernel
theorem dX6_use_20 : decode cX6_use 20 = .ok (.iload_n 3, 1) := by decide +kernel
theorem dX6_use_21 : decode cX6_use 21 = .ok (.ifCond .eq 7, 3) := by decide +kernel
theorem dX6_use_24 : decode cX6_use 24 = .ok (.iconst 4, 1) := by decide +kernel
theorem dX6_use_25 : decode cX6_use 25 = .ok (.goto 18, 3) := by decide +kernel
theorem dX6_use_28 : decode cX6_use 28 = .ok (.iload 5, 2) := by decide +kernel
theorem dX6_use_30 : decode cX6_use 30 = .ok (.iload 4, 2) := by decide +kernel
theorem dX6_use_32 : decode cX6_use 32 = .ok (.invokestatic 302, 3) := by decide +kernel
theorem dX6_use_35 : decode cX6_use 35 = .ok (.if_icmp .le 7, 3) := by decide +kernel
theorem dX6_use_38 : decode cX6_use 38 = .ok (.iconst 2, 1) := by decide +kernel
theorem dX6_use_39 : decode cX6_use 39 = .ok (.goto 4, 3) := by decide +kernel
theorem dX6_use_42 : decode cX6_use 42 = .ok (.iconst 1, 1) := by decide +kernel
theorem dX6_use_43 : decode cX6_use 43 = .ok (.istore 6, 2) := by decide +kernel
theorem dX6_use_45 : decode cX6_use 45 = .ok (.aload_n 0, 1) := by decide +kernel
theorem dX6_use_46 : decode cX6_use 46 = .ok (.getfield 30, 3) := by decide +kernel
theorem dX6_use_49 : decode cX6_use 49 = .ok (.iload 4, 2) := by decide +kernel
theorem dX6_use_51 : decode cX6_use 51 = .ok (.iload 5, 2) := by decide +kernel
theorem dX6_use_53 : decode cX6_use 53 = .ok (.iload_n 2, 1) := by decide +kernel
theorem dX6_use_54 : decode cX6_use 54 = .ok (.aload_n 1, 1) := by decide +kernel
theorem dX6_use_55 : decode cX6_use 55 = .ok (.aload_n 0, 1) := by decide +kernel
theorem dX6_use_56 : decode cX6_use 56 = .ok (.getfield 114, 3) := by decide +kernel
theorem dX6_use_59 : decode cX6_use 59 = .ok (.invokevirtual 364, 3) := by decide +kernel
theorem dX6_use_62 : decode cX6_use 62 = .ok (.isub, 1) := by decide +kernel
theorem dX6_use_63 : decode cX6_use 63 = .ok (.iload 6, 2) := by decide +kernel
theorem dX6_use_65 : decode cX6_use 65 = .ok (.invokevirtual 367, 3) := by decide +kernel
theorem dX6_use_68 : decode cX6_use 68 = .ok (.return_, 1) := by decide +kernel
theorem dX6_correctionOf_0 : decode cX6_correctionOf 0 = .ok (.aload_n 0, 1) := by decide +kernel
theorem dX6_correctionOf_1 : decode cX6_correctionOf 1 = .ok (.aload_n 1, 1) := by decide +kernel
theorem dX6_correctionOf_2 : decode cX6_correctionOf 2 = .ok (.getfield 194, 3) := by decide +kernel
theorem dX6_correctionOf_5 : decode cX6_correctionOf 5 = .ok (.invokevirtual 140, 3) := by decide +kernel
theorem dX6_correctionOf_8 : decode cX6_correctionOf 8 = .ok (.ifCond .eq 5, 3) := by decide +kernel
theorem dX6_correctionOf_11 : decode cX6_correctionOf 11 = .ok (.iconst 0, 1) := by decide +kernel
theorem dX6_correctionOf_12 : decode cX6_correctionOf 12 = .ok (.ireturn, 1) := by decide +kernel
theorem dX6_correctionOf_13 : decode cX6_correctionOf 13 = .ok (.aload_n 0, 1) := by decide +kernel
theorem dX6_correctionOf_14 : decode cX6_correctionOf 14 = .ok (.getfield 23, 3) := by decide +kernel
theorem dX6_correctionOf_17 : decode cX6_correctionOf 17 = .ok (.aload_n 1, 1) := by decide +kernel
theorem dX6_correctionOf_18 : decode cX6_correctionOf 18 = .ok (.getfield 194, 3) := by decide +kernel
theorem dX6_correctionOf_21 : decode cX6_correctionOf 21 = .ok (.aaload, 1) := by decide +kernel
theorem dX6_correctionOf_22 : decode cX6_correctionOf 22 = .ok (.astore_n 3, 1) := by decide +kernel
theorem dX6_correctionOf_23 : decode cX6_correctionOf 23 = .ok (.aload_n 3, 1) := by decide +kernel
theorem dX6_correctionOf_24 : decode cX6_correctionOf 24 = .ok (.getfield 202, 3) := by decide +kernel
theorem dX6_correctionOf_27 : decode cX6_correctionOf 27 = .ok (.aload_n 0, 1) := by decide +kernel
theorem dX6_correctionOf_28 : decode cX6_correctionOf 28 = .ok (.getfield 114, 3) := by decide +kernel
theorem dX6_correctionOf_31 : decode cX6_correctionOf 31 = .ok (.iconst 5, 1) := by decide +kernel
theorem dX6_correctionOf_32 : decode cX6_correctionOf 32 = .ok (.isub, 1) := by decide +kernel
theorem dX6_correctionOf_33 : decode cX6_correctionOf 33 = .ok (.invokevirtual 369, 3) := by decide +kernel
theorem dX6_correctionOf_36 : decode cX6_correctionOf 36 = .ok (.ifCond .eq 15, 3) := by decide +kernel
theorem dX6_correctionOf_39 : decode cX6_correctionOf 39 = .ok (.aload_n 3, 1) := by decide +kernel
theorem dX6_correctionOf_40 : decode cX6_correctionOf 40 = .ok (.getfield 247, 3) := by decide +kernel
theorem dX6_correctionOf_43 : decode cX6_correctionOf 43 = .ok (.iload_n 2, 1) := by decide +kernel
theorem dX6_correctionOf_44 : decode cX6_correctionOf 44 = .ok (.aaload, 1) := by decide +kernel
theorem dX6_correctionOf_45 : decode cX6_correctionOf 45 = .ok (.getfield 338, 3) := by decide +kernel
theorem dX6_correctionOf_48 : decode cX6_correctionOf 48 = .ok (.ifCond .ne 5, 3) := by decide +kernel
theorem dX6_correctionOf_51 : decode cX6_correctionOf 51 = .ok (.iconst 0, 1) := by decide +kernel
theorem dX6_correctionOf_52 : decode cX6_correctionOf 52 = .ok (.ireturn, 1) := by decide +kernel
theorem dX6_correctionOf_53 : decode cX6_correctionOf 53 = .ok (.aload_n 3, 1) := by decide +kernel
theorem dX6_correctionOf_54 : decode cX6_correctionOf 54 = .ok (.getfield 247, 3) := by decide +kernel
theorem dX6_correctionOf_57 : decode cX6_correctionOf 57 = .ok (.iload_n 2, 1) := by decide +kernel
theorem dX6_correctionOf_58 : decode cX6_correctionOf 58 = .ok (.aaload, 1) := by decide +kernel
theorem dX6_correctionOf_59 : decode cX6_correctionOf 59 = .ok (.getfield 372, 3) := by decide +kernel
theorem dX6_correctionOf_62 : decode cX6_correctionOf 62 = .ok (.ireturn, 1) := by decide +kernel
theorem dX6_offerCorrections_0 : decode cX6_offerCorrections 0 = .ok (.iconst 0, 1) := by decide +kernel
theorem dX6_offerCorrections_1 : decode cX6_offerCorrections 1 = .ok (.istore_n 2, 1) := by decide +kernel
theorem dX6_offerCorrections_2 : decode cX6_offerCorrections 2 = .ok (.iconst 0, 1) := by decide +kernel
theorem dX6_offerCorrections_3 : decode cX6_offerCorrections 3 = .ok (.istore_n 3, 1) := by decide +kernel
theorem dX6_offerCorrections_4 : decode cX6_offerCorrections 4 = .ok (.iconst 0, 1) := by decide +kernel
theorem dX6_offerCorrections_5 : decode cX6_offerCorrections 5 = .ok (.istore 4, 2) := by decide +kernel
theorem dX6_offerCorrections_7 : decode cX6_offerCorrections 7 = .ok (.iload 4, 2) := by decide +kernel
theorem dX6_offerCorrections_9 : decode cX6_offerCorrections 9 = .ok (.aload_n 0, 1) := by decide +kernel
theorem dX6_offerCorrections_10 : decode cX6_offerCorrections 10 = .ok (.getfield 47, 3) := by decide +kernel
theorem dX6_offerCorrections_13 : decode cX6_offerCorrections 13 = .ok (.if_icmp .ge 59, 3) := by decide +kernel
theorem dX6_offerCorrections_16 : decode cX6_offerCorrections 16 = .ok (.aload_n 1, 1) := by decide +kernel
theorem dX6_offerCorrections_17 : decode cX6_offerCorrections 17 = .ok (.getfield 247, 3) := by decide +kernel
theorem dX6_offerCorrections_20 : decode cX6_offerCorrections 20 = .ok (.iload 4, 2) := by decide +kernel
theorem dX6_offerCorrections_22 : decode cX6_offerCorrections 22 = .ok (.aaload, 1) := by decide +kernel
theorem dX6_offerCorrections_23 : decode cX6_offerCorrections 23 = .ok (.astore 5, 2) := by decide +kernel
theorem dX6_offerCorrections_25 : decode cX6_offerCorrections 25 = .ok (.aload 5, 2) := by decide +kernel
theorem dX6_offerCorrections_27 : decode cX6_offerCorrections 27 = .ok (.getfield 338, 3) := by decide +kernel
theorem dX6_offerCorrections_30 : decode cX6_offerCorrections 30 = .ok (.ifCond .eq 36, 3) := by decide +kernel
theorem dX6_offerCorrections_33 : decode cX6_offerCorrections 33 = .ok (.aload 5, 2) := by decide +kernel
theorem dX6_offerCorrections_35 : decode cX6_offerCorrections 35 = .ok (.aload_n 0, 1) := by decide +kernel
theorem dX6_offerCorrections_36 : decode cX6_offerCorrections 36 = .ok (.aload_n 1, 1) := by decide +kernel
theorem dX6_offerCorrections_37 : decode cX6_offerCorrections 37 = .ok (.aload_n 0, 1) := by decide +kernel
theorem dX6_offerCorrections_38 : decode cX6_offerCorrections 38 = .ok (.getfield 11, 3) := by decide +kernel
theorem dX6_offerCorrections_41 : decode cX6_offerCorrections 41 = .ok (.iload 4, 2) := by decide +kernel
theorem dX6_offerCorrections_43 : decode cX6_offerCorrections 43 = .ok (.aaload, 1) := by decide +kernel
theorem dX6_offerCorrections_44 : decode cX6_offerCorrections 44 = .ok (.aload 5, 2) := by decide +kernel
theorem dX6_offerCorrections_46 : decode cX6_offerCorrections 46 = .ok (.invokevirtual 347, 3) := by decide +kernel
theorem dX6_offerCorrections_49 : decode cX6_offerCorrections 49 = .ok (.invokevirtual 375, 3) := by decide +kernel
theorem dX6_offerCorrections_52 : decode cX6_offerCorrections 52 = .ok (.putfield 372, 3) := by decide +kernel
theorem dX6_offerCorrections_55 : decode cX6_offerCorrections 55 = .ok (.iload_n 3, 1) := by decide +kernel
theorem dX6_offerCorrections_56 : decode cX6_offerCorrections 56 = .ok (.aload 5, 2) := by decide +kernel
theorem dX6_offerCorrections_58 : decode cX6_offerCorrections 58 = .ok (.getfield 372, 3) := by decide +kernel
theorem dX6_offerCorrections_61 : decode cX6_offerCorrections 61 = .ok (.iadd, 1) := by decide +kernel
theorem dX6_offerCorrections_62 : decode cX6_offerCorrections 62 = .ok (.istore_n 3, 1) := by decide +kernel
theorem dX6_offerCorrections_63 : decode cX6_offerCorrections 63 = .ok (.iinc 2 1, 3) := by decide +kernel
theorem dX6_offerCorrections_66 : decode cX6_offerCorrections 66 = .ok (.iinc 4 1, 3) := by decide +kernel
theorem dX6_offerCorrections_69 : decode cX6_offerCorrections 69 = .ok (.goto (-62), 3) := by decide +kernel
theorem dX6_offerCorrections_72 : decode cX6_offerCorrections 72 = .ok (.iload_n 2, 1) := by decide +kernel
theorem dX6_offerCorrections_73 : decode cX6_offerCorrections 73 = .ok (.ifCond .ne 4, 3) := by decide +kernel
theorem dX6_offerCorrections_76 : decode cX6_offerCorrections 76 = .ok (.return_, 1) := by decide +kernel
theorem dX6_offerCorrections_77 : decode cX6_offerCorrections 77 = .ok (.iload_n 3, 1) := by decide +kernel
theorem dX6_offerCorrections_78 : decode cX6_offerCorrections 78 = .ok (.iload_n 2, 1) := by decide +kernel
theorem dX6_offerCorrections_79 : decode cX6_offerCorrections 79 = .ok (.invokestatic 379, 3) := by decide +kernel
theorem dX6_offerCorrections_82 : decode cX6_offerCorrections 82 = .ok (.istore 4, 2) := by decide +kernel
theorem dX6_offerCorrections_84 : decode cX6_offerCorrections 84 = .ok (.iconst 0, 1) := by decide +kernel
theorem dX6_offerCorrections_85 : decode cX6_offerCorrections 85 = .ok (.istore 5, 2) := by decide +kernel
theorem dX6_offerCorrections_87 : decode cX6_offerCorrections 87 = .ok (.iload 5, 2) := by decide +kernel
theorem dX6_offerCorrections_89 : decode cX6_offerCorrections 89 = .ok (.aload_n 0, 1) := by decide +kernel
theorem dX6_offerCorrections_90 : decode cX6_offerCorrections 90 = .ok (.getfield 47, 3) := by decide +kernel
theorem dX6_offerCorrections_93 : decode cX6_offerCorrections 93 = .ok (.if_icmp .ge 39, 3) := by decide +kernel
theorem dX6_offerCorrections_96 : decode cX6_offerCorrections 96 = .ok (.aload_n 1, 1) := by decide +kernel
theorem dX6_offerCorrections_97 : decode cX6_offerCorrections 97 = .ok (.getfield 247, 3) := by decide +kernel
theorem dX6_offerCorrections_100 : decode cX6_offerCorrections 100 = .ok (.iload 5, 2) := by decide +kernel
theorem dX6_offerCorrections_102 : decode cX6_offerCorrections 102 = .ok (.aaload, 1) := by decide +kernel
theorem dX6_offerCorrections_103 : decode cX6_offerCorrections 103 = .ok (.getfield 338, 3) := by decide +kernel
theorem dX6_offerCorrections_106 : decode cX6_offerCorrections 106 = .ok (.ifCond .eq 20, 3) := by decide +kernel
theorem dX6_offerCorrections_109 : decode cX6_offerCorrections 109 = .ok (.aload_n 1, 1) := by decide +kernel
theorem dX6_offerCorrections_110 : decode cX6_offerCorrections 110 = .ok (.getfield 247, 3) := by decide +kernel
theorem dX6_offerCorrections_113 : decode cX6_offerCorrections 113 = .ok (.iload 5, 2) := by decide +kernel
theorem dX6_offerCorrections_115 : decode cX6_offerCorrections 115 = .ok (.aaload, 1) := by decide +kernel
theorem dX6_offerCorrections_116 : decode cX6_offerCorrections 116 = .ok (.dup, 1) := by decide +kernel
theorem dX6_offerCorrections_117 : decode cX6_offerCorrections 117 = .ok (.getfield 372, 3) := by decide +kernel
theorem dX6_offerCorrections_120 : decode cX6_offerCorrections 120 = .ok (.iload 4, 2) := by decide +kernel
theorem dX6_offerCorrections_122 : decode cX6_offerCorrections 122 = .ok (.isub, 1) := by decide +kernel
theorem dX6_offerCorrections_123 : decode cX6_offerCorrections 123 = .ok (.putfield 372, 3) := by decide +kernel
theorem dX6_offerCorrections_126 : decode cX6_offerCorrections 126 = .ok (.iinc 5 1, 3) := by decide +kernel
theorem dX6_offerCorrections_129 : decode cX6_offerCorrections 129 = .ok (.goto (-42), 3) := by decide +kernel
theorem dX6_offerCorrections_132 : decode cX6_offerCorrections 132 = .ok (.return_, 1) := by decide +kernel
theorem dX6_tooFar_0 : decode cX6_tooFar 0 = .ok (.aload_n 1, 1) := by decide +kernel
theorem dX6_tooFar_1 : decode cX6_tooFar 1 = .ok (.getfield 147, 3) := by decide +kernel
theorem dX6_tooFar_4 : decode cX6_tooFar 4 = .ok (.aload_n 1, 1) := by decide +kernel
theorem dX6_tooFar_5 : decode cX6_tooFar 5 = .ok (.getfield 150, 3) := by decide +kernel
theorem dX6_tooFar_8 : decode cX6_tooFar 8 = .ok (.aload_n 2, 1) := by decide +kernel
theorem dX6_tooFar_9 : decode cX6_tooFar 9 = .ok (.aload_n 0, 1) := by decide +kernel
theorem dX6_tooFar_10 : decode cX6_tooFar 10 = .ok (.getfield 114, 3) := by decide +kernel
theorem dX6_tooFar_13 : decode cX6_tooFar 13 = .ok (.invokevirtual 358, 3) := by decide +kernel
theorem dX6_tooFar_16 : decode cX6_tooFar 16 = .ok (.aload_n 2, 1) := by decide +kernel
theorem dX6_tooFar_17 : decode cX6_tooFar 17 = .ok (.aload_n 0, 1) := by decide +kernel
theorem dX6_tooFar_18 : decode cX6_tooFar 18 = .ok (.getfield 114, 3) := by decide +kernel
theorem dX6_tooFar_21 : decode cX6_tooFar 21 = .ok (.invokevirtual 361, 3) := by decide +kernel
theorem dX6_tooFar_24 : decode cX6_tooFar 24 = .ok (.invokestatic 153, 3) := by decide +kernel
theorem dX6_tooFar_27 : decode cX6_tooFar 27 = .ok (.istore 4, 2) := by decide +kernel
theorem dX6_tooFar_29 : decode cX6_tooFar 29 = .ok (.iload_n 3, 1) := by decide +kernel
theorem dX6_tooFar_30 : decode cX6_tooFar 30 = .ok (.aload_n 2, 1) := by decide +kernel
theorem dX6_tooFar_31 : decode cX6_tooFar 31 = .ok (.aload_n 0, 1) := by decide +kernel
theorem dX6_tooFar_32 : decode cX6_tooFar 32 = .ok (.getfield 114, 3) := by decide +kernel
theorem dX6_tooFar_35 : decode cX6_tooFar 35 = .ok (.invokevirtual 364, 3) := by decide +kernel
theorem dX6_tooFar_38 : decode cX6_tooFar 38 = .ok (.isub, 1) := by decide +kernel
theorem dX6_tooFar_39 : decode cX6_tooFar 39 = .ok (.iload 4, 2) := by decide +kernel
theorem dX6_tooFar_41 : decode cX6_tooFar 41 = .ok (.isub, 1) := by decide +kernel
theorem dX6_tooFar_42 : decode cX6_tooFar 42 = .ok (.ireturn, 1) := by decide +kernel
theorem dX6_alarmOf_0 : decode cX6_alarmOf 0 = .ok (.aload_n 0, 1) := by decide +kernel
theorem dX6_alarmOf_1 : decode cX6_alarmOf 1 = .ok (.getfield 30, 3) := by decide +kernel
theorem dX6_alarmOf_4 : decode cX6_alarmOf 4 = .ok (.getfield 382, 3) := by decide +kernel
theorem dX6_alarmOf_7 : decode cX6_alarmOf 7 = .ok (.iconst 4, 1) := by decide +kernel
theorem dX6_alarmOf_8 : decode cX6_alarmOf 8 = .ok (.if_icmp .ge 5, 3) := by decide +kernel
theorem dX6_alarmOf_11 : decode cX6_alarmOf 11 = .ok (.iconst 1, 1) := by decide +kernel
theorem dX6_alarmOf_12 : decode cX6_alarmOf 12 = .ok (.ireturn, 1) := by decide +kernel
theorem dX6_alarmOf_13 : decode cX6_alarmOf 13 = .ok (.aload_n 0, 1) := by decide +kernel
theorem dX6_alarmOf_14 : decode cX6_alarmOf 14 = .ok (.getfield 30, 3) := by decide +kernel
theorem dX6_alarmOf_17 : decode cX6_alarmOf 17 = .ok (.getfield 385, 3) := by decide +kernel
theorem dX6_alarmOf_20 : decode cX6_alarmOf 20 = .ok (.bipush 40, 2) := by decide +kernel
theorem dX6_alarmOf_22 : decode cX6_alarmOf 22 = .ok (.aload_n 0, 1) := by decide +kernel
theorem dX6_alarmOf_23 : decode cX6_alarmOf 23 = .ok (.getfield 30, 3) := by decide +kernel
theorem dX6_alarmOf_26 : decode cX6_alarmOf 26 = .ok (.getfield 382, 3) := by decide +kernel
theorem dX6_alarmOf_29 : decode cX6_alarmOf 29 = .ok (.imul, 1) := by decide +kernel
theorem dX6_alarmOf_30 : decode cX6_alarmOf 30 = .ok (.i2l, 1) := by decide +kernel
theorem dX6_alarmOf_31 : decode cX6_alarmOf 31 = .ok (.lcmp, 1) := by decide +kernel
theorem dX6_alarmOf_32 : decode cX6_alarmOf 32 = .ok (.ifCond .le 5, 3) := by decide +kernel
theorem dX6_alarmOf_35 : decode cX6_alarmOf 35 = .ok (.iconst 2, 1) := by decide +kernel
theorem dX6_alarmOf_36 : decode cX6_alarmOf 36 = .ok (.ireturn, 1) := by decide +kernel
theorem dX6_alarmOf_37 : decode cX6_alarmOf 37 = .ok (.aload_n 0, 1) := by decide +kernel
theorem dX6_alarmOf_38 : decode cX6_alarmOf 38 = .ok (.getfield 30, 3) := by decide +kernel
theorem dX6_alarmOf_41 : decode cX6_alarmOf 41 = .ok (.getfield 389, 3) := by decide +kernel
theorem dX6_alarmOf_44 : decode cX6_alarmOf 44 = .ok (.aload_n 1, 1) := by decide +kernel
theorem dX6_alarmOf_45 : decode cX6_alarmOf 45 = .ok (.getfield 184, 3) := by decide +kernel
theorem dX6_alarmOf_48 : decode cX6_alarmOf 48 = .ok (.if_icmp .le 5, 3) := by decide +kernel
theorem dX6_alarmOf_51 : decode cX6_alarmOf 51 = .ok (.iconst 3, 1) := by decide +kernel
theorem dX6_alarmOf_52 : decode cX6_alarmOf 52 = .ok (.ireturn, 1) := by decide +kernel
theorem dX6_alarmOf_53 : decode cX6_alarmOf 53 = .ok (.iload_n 2, 1) := by decide +kernel
theorem dX6_alarmOf_54 : decode cX6_alarmOf 54 = .ok (.ifCond .eq 35, 3) := by decide +kernel
theorem dX6_alarmOf_57 : decode cX6_alarmOf 57 = .ok (.aload_n 1, 1) := by decide +kernel
theorem dX6_alarmOf_58 : decode cX6_alarmOf 58 = .ok (.getfield 202, 3) := by decide +kernel
theorem dX6_alarmOf_61 : decode cX6_alarmOf 61 = .ok (.aload_n 0, 1) := by decide +kernel
theorem dX6_alarmOf_62 : decode cX6_alarmOf 62 = .ok (.getfield 30, 3) := by decide +kernel
theorem dX6_alarmOf_65 : decode cX6_alarmOf 65 = .ok (.getfield 278, 3) := by decide +kernel
theorem dX6_alarmOf_68 : decode cX6_alarmOf 68 = .ok (.aload_n 0, 1) := by decide +kernel
theorem dX6_alarmOf_69 : decode cX6_alarmOf 69 = .ok (.getfield 30, 3) := by decide +kernel
theorem dX6_alarmOf_72 : decode cX6_alarmOf 72 = .ok (.getfield 279, 3) := by decide +kernel
theorem dX6_alarmOf_75 : decode cX6_alarmOf 75 = .ok (.aload_n 0, 1) := by decide +kernel
theorem dX6_alarmOf_76 : decode cX6_alarmOf 76 = .ok (.getfield 114, 3) := by decide +kernel
theorem dX6_alarmOf_79 : decode cX6_alarmOf 79 = .ok (.invokevirtual 392, 3) := by decide +kernel
theorem dX6_alarmOf_82 : decode cX6_alarmOf 82 = .ok (.ifCond .eq 7, 3) := by decide +kernel
theorem dX6_alarmOf_85 : decode cX6_alarmOf 85 = .ok (.iconst 4, 1) := by decide +kernel
theorem dX6_alarmOf_86 : decode cX6_alarmOf 86 = .ok (.goto 4, 3) := by decide +kernel
theorem dX6_alarmOf_89 : decode cX6_alarmOf 89 = .ok (.iconst 0, 1) := by decide +kernel
theorem dX6_alarmOf_90 : decode cX6_alarmOf 90 = .ok (.ireturn, 1) := by decide +kernel
theorem dX6_supposedAlarm_0 : decode cX6_supposedAlarm 0 = .ok (.aload_n 0, 1) := by decide +kernel
theorem dX6_supposedAlarm_1 : decode cX6_supposedAlarm 1 = .ok (.aload_n 1, 1) := by decide +kernel
theorem dX6_supposedAlarm_2 : decode cX6_supposedAlarm 2 = .ok (.iconst (-1), 1) := by decide +kernel
theorem dX6_supposedAlarm_3 : decode cX6_supposedAlarm 3 = .ok (.invokevirtual 270, 3) := by decide +kernel
theorem dX6_supposedAlarm_6 : decode cX6_supposedAlarm 6 = .ok (.aload_n 0, 1) := by decide +kernel
theorem dX6_supposedAlarm_7 : decode cX6_supposedAlarm 7 = .ok (.getfield 30, 3) := by decide +kernel
theorem dX6_supposedAlarm_10 : decode cX6_supposedAlarm 10 = .ok (.invokevirtual 223, 3) := by decide +kernel
theorem dX6_supposedAlarm_13 : decode cX6_supposedAlarm 13 = .ok (.aload_n 0, 1) := by decide +kernel
theorem dX6_supposedAlarm_14 : decode cX6_supposedAlarm 14 = .ok (.aload_n 1, 1) := by decide +kernel
theorem dX6_supposedAlarm_15 : decode cX6_supposedAlarm 15 = .ok (.iconst 0, 1) := by decide +kernel
theorem dX6_supposedAlarm_16 : decode cX6_supposedAlarm 16 = .ok (.invokevirtual 226, 3) := by decide +kernel
theorem dX6_supposedAlarm_19 : decode cX6_supposedAlarm 19 = .ok (.ireturn, 1) := by decide +kernel
theorem dX6_tellReceiver_0 : decode cX6_tellReceiver 0 = .ok (.iload_n 2, 1) := by decide +kernel
theorem dX6_tellReceiver_1 : decode cX6_tellReceiver 1 = .ok (.lookupswitch 79 #[(0, 43), (1, 48), (2, 53), (13, 63)], 43) := by decide +kernel
theorem dX6_tellReceiver_44 : decode cX6_tellReceiver 44 = .ok (.aload_n 1, 1) := by decide +kernel
theorem dX6_tellReceiver_45 : decode cX6_tellReceiver 45 = .ok (.getfield 147, 3) := by decide +kernel
theorem dX6_tellReceiver_48 : decode cX6_tellReceiver 48 = .ok (.ireturn, 1) := by decide +kernel
theorem dX6_tellReceiver_49 : decode cX6_tellReceiver 49 = .ok (.aload_n 1, 1) := by decide +kernel
theorem dX6_tellReceiver_50 : decode cX6_tellReceiver 50 = .ok (.getfield 150, 3) := by decide +kernel
theorem dX6_tellReceiver_53 : decode cX6_tellReceiver 53 = .ok (.ireturn, 1) := by decide +kernel
theorem dX6_tellReceiver_54 : decode cX6_tellReceiver 54 = .ok (.aload_n 0, 1) := by decide +kernel
theorem dX6_tellReceiver_55 : decode cX6_tellReceiver 55 = .ok (.aload_n 1, 1) := by decide +kernel
theorem dX6_tellReceiver_56 : decode cX6_tellReceiver 56 = .ok (.iconst 0, 1) := by decide +kernel
theorem dX6_tellReceiver_57 : decode cX6_tellReceiver 57 = .ok (.invokevirtual 165, 3) := by decide +kernel
theorem dX6_tellReceiver_60 : decode cX6_tellReceiver 60 = .ok (.invokestatic 169, 3) := by decide +kernel
theorem dX6_tellReceiver_63 : decode cX6_tellReceiver 63 = .ok (.ireturn, 1) := by decide +kernel
theorem dX6_tellReceiver_64 : decode cX6_tellReceiver 64 = .ok (.aload_n 1, 1) := by decide +kernel
theorem dX6_tellReceiver_65 : decode cX6_tellReceiver 65 = .ok (.getfield 202, 3) := by decide +kernel
theorem dX6_tellReceiver_68 : decode cX6_tellReceiver 68 = .ok (.aload_n 1, 1) := by decide +kernel
theorem dX6_tellReceiver_69 : decode cX6_tellReceiver 69 = .ok (.getfield 147, 3) := by decide +kernel
theorem dX6_tellReceiver_72 : decode cX6_tellReceiver 72 = .ok (.aload_n 1, 1) := by decide +kernel
theorem dX6_tellReceiver_73 : decode cX6_tellReceiver 73 = .ok (.getfield 150, 3) := by decide +kernel
theorem dX6_tellReceiver_76 : decode cX6_tellReceiver 76 = .ok (.invokevirtual 395, 3) := by decide +kernel
theorem dX6_tellReceiver_79 : decode cX6_tellReceiver 79 = .ok (.ireturn, 1) := by decide +kernel
theorem dX6_tellReceiver_80 : decode cX6_tellReceiver 80 = .ok (.aload_n 1, 1) := by decide +kernel
theorem dX6_tellReceiver_81 : decode cX6_tellReceiver 81 = .ok (.getfield 202, 3) := by decide +kernel
theorem dX6_tellReceiver_84 : decode cX6_tellReceiver 84 = .ok (.iload_n 2, 1) := by decide +kernel
theorem dX6_tellReceiver_85 : decode cX6_tellReceiver 85 = .ok (.invokevirtual 398, 3) := by decide +kernel
theorem dX6_tellReceiver_88 : decode cX6_tellReceiver 88 = .ok (.ireturn, 1) := by decide +kernel
theorem dX6_countOf_0 : decode cX6_countOf 0 = .ok (.iload_n 1, 1) := by decide +kernel
theorem dX6_countOf_1 : decode cX6_countOf 1 = .ok (.tableswitch 69 0 6 #[43, 48, 53, 58, 63, 63, 63], 43) := by decide +kernel
theorem dX6_countOf_44 : decode cX6_countOf 44 = .ok (.aload_n 0, 1) := by decide +kernel
theorem dX6_countOf_45 : decode cX6_countOf 45 = .ok (.getfield 114, 3) := by decide +kernel
theorem dX6_countOf_48 : decode cX6_countOf 48 = .ok (.ireturn, 1) := by decide +kernel
theorem dX6_countOf_49 : decode cX6_countOf 49 = .ok (.aload_n 0, 1) := by decide +kernel
theorem dX6_countOf_50 : decode cX6_countOf 50 = .ok (.getfield 47, 3) := by decide +kernel
theorem dX6_countOf_53 : decode cX6_countOf 53 = .ok (.ireturn, 1) := by decide +kernel
theorem dX6_countOf_54 : decode cX6_countOf 54 = .ok (.aload_n 0, 1) := by decide +kernel
theorem dX6_countOf_55 : decode cX6_countOf 55 = .ok (.getfield 95, 3) := by decide +kernel
theorem dX6_countOf_58 : decode cX6_countOf 58 = .ok (.ireturn, 1) := by decide +kernel
theorem dX6_countOf_59 : decode cX6_countOf 59 = .ok (.aload_n 0, 1) := by decide +kernel
theorem dX6_countOf_60 : decode cX6_countOf 60 = .ok (.getfield 132, 3) := by decide +kernel
theorem dX6_countOf_63 : decode cX6_countOf 63 = .ok (.ireturn, 1) := by decide +kernel
theorem dX6_countOf_64 : decode cX6_countOf 64 = .ok (.aload_n 0, 1) := by decide +kernel
theorem dX6_countOf_65 : decode cX6_countOf 65 = .ok (.iload_n 1, 1) := by decide +kernel
theorem dX6_countOf_66 : decode cX6_countOf 66 = .ok (.invokevirtual 399, 3) := by decide +kernel
theorem dX6_countOf_69 : decode cX6_countOf 69 = .ok (.ireturn, 1) := by decide +kernel
theorem dX6_countOf_70 : decode cX6_countOf 70 = .ok (.aload_n 0, 1) := by decide +kernel
theorem dX6_countOf_71 : decode cX6_countOf 71 = .ok (.iload_n 1, 1) := by decide +kernel
theorem dX6_countOf_72 : decode cX6_countOf 72 = .ok (.invokevirtual 402, 3) := by decide +kernel
theorem dX6_countOf_75 : decode cX6_countOf 75 = .ok (.ireturn, 1) := by decide +kernel
theorem dX6_sumOfStars_0 : decode cX6_sumOfStars 0 = .ok (.iconst 0, 1) := by decide +kernel
theorem dX6_sumOfStars_1 : decode cX6_sumOfStars 1 = .ok (.istore_n 2, 1) := by decide +kernel
theorem dX6_sumOfStars_2 : decode cX6_sumOfStars 2 = .ok (.iconst 0, 1) := by decide +kernel
theorem dX6_sumOfStars_3 : decode cX6_sumOfStars 3 = .ok (.istore_n 3, 1) := by decide +kernel
theorem dX6_sumOfStars_4 : decode cX6_sumOfStars 4 = .ok (.iload_n 3, 1) := by decide +kernel
theorem dX6_sumOfStars_5 : decode cX6_sumOfStars 5 = .ok (.aload_n 0, 1) := by decide +kernel
theorem dX6_sumOfStars_6 : decode cX6_sumOfStars 6 = .ok (.getfield 47, 3) := by decide +kernel
theorem dX6_sumOfStars_9 : decode cX6_sumOfStars 9 = .ok (.if_icmp .ge 81, 3) := by decide +kernel
theorem dX6_sumOfStars_12 : decode cX6_sumOfStars 12 = .ok (.iload_n 1, 1) := by decide +kernel
theorem dX6_sumOfStars_13 : decode cX6_sumOfStars 13 = .ok (.iconst 4, 1) := by decide +kernel
theorem dX6_sumOfStars_14 : decode cX6_sumOfStars 14 = .ok (.if_icmp .ne 26, 3) := by decide +kernel
theorem dX6_sumOfStars_17 : decode cX6_sumOfStars 17 = .ok (.iload_n 2, 1) := by decide +kernel
theorem dX6_sumOfStars_18 : decode cX6_sumOfStars 18 = .ok (.aload_n 0, 1) := by decide +kernel
theorem dX6_sumOfStars_19 : decode cX6_sumOfStars 19 = .ok (.getfield 11, 3) := by decide +kernel
theorem dX6_sumOfStars_22 : decode cX6_sumOfStars 22 = .ok (.iload_n 3, 1) := by decide +kernel
theorem dX6_sumOfStars_23 : decode cX6_sumOfStars 23 = .ok (.aaload, 1) := by decide +kernel
theorem dX6_sumOfStars_24 : decode cX6_sumOfStars 24 = .ok (.getfield 89, 3) := by decide +kernel
theorem dX6_sumOfStars_27 : decode cX6_sumOfStars 27 = .ok (.ifCond .eq 7, 3) := by decide +kernel
theorem dX6_sumOfStars_30 : decode cX6_sumOfStars 30 = .ok (.iconst 1, 1) := by decide +kernel
theorem dX6_sumOfStars_31 : decode cX6_sumOfStars 31 = .ok (.goto 4, 3) := by decide +kernel
theorem dX6_sumOfStars_34 : decode cX6_sumOfStars 34 = .ok (.iconst 0, 1) := by decide +kernel
theorem dX6_sumOfStars_35 : decode cX6_sumOfStars 35 = .ok (.iadd, 1) := by decide +kernel
theorem dX6_sumOfStars_36 : decode cX6_sumOfStars 36 = .ok (.istore_n 2, 1) := by decide +kernel
theorem dX6_sumOfStars_37 : decode cX6_sumOfStars 37 = .ok (.goto 47, 3) := by decide +kernel
theorem dX6_sumOfStars_40 : decode cX6_sumOfStars 40 = .ok (.iload_n 1, 1) := by decide +kernel
theorem dX6_sumOfStars_41 : decode cX6_sumOfStars 41 = .ok (.iconst 5, 1) := by decide +kernel
theorem dX6_sumOfStars_42 : decode cX6_sumOfStars 42 = .ok (.if_icmp .ne 30, 3) := by decide +kernel
theorem dX6_sumOfStars_45 : decode cX6_sumOfStars 45 = .ok (.iload_n 2, 1) := by decide +kernel
theorem dX6_sumOfStars_46 : decode cX6_sumOfStars 46 = .ok (.aload_n 0, 1) := by decide +kernel
theorem dX6_sumOfStars_47 : decode cX6_sumOfStars 47 = .ok (.getfield 11, 3) := by decide +kernel
theorem dX6_sumOfStars_50 : decode cX6_sumOfStars 50 = .ok (.iload_n 3, 1) := by decide +kernel
theorem dX6_sumOfStars_51 : decode cX6_sumOfStars 51 = .ok (.aaload, 1) := by decide +kernel
theorem dX6_sumOfStars_52 : decode cX6_sumOfStars 52 = .ok (.aload_n 0, 1) := by decide +kernel
theorem dX6_sumOfStars_53 : decode cX6_sumOfStars 53 = .ok (.getfield 114, 3) := by decide +kernel
theorem dX6_sumOfStars_56 : decode cX6_sumOfStars 56 = .ok (.invokevirtual 335, 3) := by decide +kernel
theorem dX6_sumOfStars_59 : decode cX6_sumOfStars 59 = .ok (.ifCond .eq 7, 3) := by decide +kernel
theorem dX6_sumOfStars_62 : decode cX6_sumOfStars 62 = .ok (.iconst 1, 1) := by decide +kernel
theorem dX6_sumOfStars_63 : decode cX6_sumOfStars 63 = .ok (.goto 4, 3) := by decide +kernel
theorem dX6_sumOfStars_66 : decode cX6_sumOfStars 66 = .ok (.iconst 0, 1) := by decide +kernel
theorem dX6_sumOfStars_67 : decode cX6_sumOfStars 67 = .ok (.iadd, 1) := by decide +kernel
theorem dX6_sumOfStars_68 : decode cX6_sumOfStars 68 = .ok (.istore_n 2, 1) := by decide +kernel
theorem dX6_sumOfStars_69 : decode cX6_sumOfStars 69 = .ok (.goto 15, 3) := by decide +kernel
theorem dX6_sumOfStars_72 : decode cX6_sumOfStars 72 = .ok (.iload_n 2, 1) := by decide +kernel
theorem dX6_sumOfStars_73 : decode cX6_sumOfStars 73 = .ok (.aload_n 0, 1) := by decide +kernel
theorem dX6_sumOfStars_74 : decode cX6_sumOfStars 74 = .ok (.getfield 11, 3) := by decide +kernel
theorem dX6_sumOfStars_77 : decode cX6_sumOfStars 77 = .ok (.iload_n 3, 1) := by decide +kernel
theorem dX6_sumOfStars_78 : decode cX6_sumOfStars 78 = .ok (.aaload, 1) := by decide +kernel
theorem dX6_sumOfStars_79 : decode cX6_sumOfStars 79 = .ok (.getfield 123, 3) := by decide +kernel
theorem dX6_sumOfStars_82 : decode cX6_sumOfStars 82 = .ok (.iadd, 1) := by decide +kernel
theorem dX6_sumOfStars_83 : decode cX6_sumOfStars 83 = .ok (.istore_n 2, 1) := by decide +kernel
theorem dX6_sumOfStars_84 : decode cX6_sumOfStars 84 = .ok (.iinc 3 1, 3) := by decide +kernel
theorem dX6_sumOfStars_87 : decode cX6_sumOfStars 87 = .ok (.goto (-83), 3) := by decide +kernel
theorem dX6_sumOfStars_90 : decode cX6_sumOfStars 90 = .ok (.iload_n 2, 1) := by decide +kernel
theorem dX6_sumOfStars_91 : decode cX6_sumOfStars 91 = .ok (.ireturn, 1) := by decide +kernel
theorem dX6_sumOfReceivers_0 : decode cX6_sumOfReceivers 0 = .ok (.iconst 0, 1) := by decide +kernel
theorem dX6_sumOfReceivers_1 : decode cX6_sumOfReceivers 1 = .ok (.istore_n 2, 1) := by decide +kernel
theorem dX6_sumOfReceivers_2 : decode cX6_sumOfReceivers 2 = .ok (.iconst 0, 1) := by decide +kernel
theorem dX6_sumOfReceivers_3 : decode cX6_sumOfReceivers 3 = .ok (.istore_n 3, 1) := by decide +kernel
theorem dX6_sumOfReceivers_4 : decode cX6_sumOfReceivers 4 = .ok (.iload_n 3, 1) := by decide +kernel
theorem dX6_sumOfReceivers_5 : decode cX6_sumOfReceivers 5 = .ok (.aload_n 0, 1) := by decide +kernel
theorem dX6_sumOfReceivers_6 : decode cX6_sumOfReceivers 6 = .ok (.getfield 132, 3) := by decide +kernel
theorem dX6_sumOfReceivers_9 : decode cX6_sumOfReceivers 9 = .ok (.if_icmp .ge 45, 3) := by decide +kernel
theorem dX6_sumOfReceivers_12 : decode cX6_sumOfReceivers 12 = .ok (.iload_n 2, 1) := by decide +kernel
theorem dX6_sumOfReceivers_13 : decode cX6_sumOfReceivers 13 = .ok (.iload_n 1, 1) := by decide +kernel
theorem dX6_sumOfReceivers_14 : decode cX6_sumOfReceivers 14 = .ok (.bipush 7, 2) := by decide +kernel
theorem dX6_sumOfReceivers_16 : decode cX6_sumOfReceivers 16 = .ok (.if_icmp .ne 18, 3) := by decide +kernel
theorem dX6_sumOfReceivers_19 : decode cX6_sumOfReceivers 19 = .ok (.aload_n 0, 1) := by decide +kernel
theorem dX6_sumOfReceivers_20 : decode cX6_sumOfReceivers 20 = .ok (.getfield 23, 3) := by decide +kernel
theorem dX6_sumOfReceivers_23 : decode cX6_sumOfReceivers 23 = .ok (.iload_n 3, 1) := by decide +kernel
theorem dX6_sumOfReceivers_24 : decode cX6_sumOfReceivers 24 = .ok (.aaload, 1) := by decide +kernel
theorem dX6_sumOfReceivers_25 : decode cX6_sumOfReceivers 25 = .ok (.getfield 202, 3) := by decide +kernel
theorem dX6_sumOfReceivers_28 : decode cX6_sumOfReceivers 28 = .ok (.getfield 405, 3) := by decide +kernel
theorem dX6_sumOfReceivers_31 : decode cX6_sumOfReceivers 31 = .ok (.goto 15, 3) := by decide +kernel
theorem dX6_sumOfReceivers_34 : decode cX6_sumOfReceivers 34 = .ok (.aload_n 0, 1) := by decide +kernel
theorem dX6_sumOfReceivers_35 : decode cX6_sumOfReceivers 35 = .ok (.getfield 23, 3) := by decide +kernel
theorem dX6_sumOfReceivers_38 : decode cX6_sumOfReceivers 38 = .ok (.iload_n 3, 1) := by decide +kernel
theorem dX6_sumOfReceivers_39 : decode cX6_sumOfReceivers 39 = .ok (.aaload, 1) := by decide +kernel
theorem dX6_sumOfReceivers_40 : decode cX6_sumOfReceivers 40 = .ok (.getfield 202, 3) := by decide +kernel
theorem dX6_sumOfReceivers_43 : decode cX6_sumOfReceivers 43 = .ok (.getfield 408, 3) := by decide +kernel
theorem dX6_sumOfReceivers_46 : decode cX6_sumOfReceivers 46 = .ok (.iadd, 1) := by decide +kernel
theorem dX6_sumOfReceivers_47 : decode cX6_sumOfReceivers 47 = .ok (.istore_n 2, 1) := by decide +kernel
theorem dX6_sumOfReceivers_48 : decode cX6_sumOfReceivers 48 = .ok (.iinc 3 1, 3) := by decide +kernel
theorem dX6_sumOfReceivers_51 : decode cX6_sumOfReceivers 51 = .ok (.goto (-47), 3) := by decide +kernel
theorem dX6_sumOfReceivers_54 : decode cX6_sumOfReceivers 54 = .ok (.iload_n 2, 1) := by decide +kernel
theorem dX6_sumOfReceivers_55 : decode cX6_sumOfReceivers 55 = .ok (.ireturn, 1) := by decide +kernel
theorem dX6_digestStar_0 : decode cX6_digestStar 0 = .ok (.lload_n 1, 1) := by decide +kernel
theorem dX6_digestStar_1 : decode cX6_digestStar 1 = .ok (.lstore 4, 2) := by decide +kernel
theorem dX6_digestStar_3 : decode cX6_digestStar 3 = .ok (.iconst 0, 1) := by decide +kernel
theorem dX6_digestStar_4 : decode cX6_digestStar 4 = .ok (.istore 6, 2) := by decide +kernel
theorem dX6_digestStar_6 : decode cX6_digestStar 6 = .ok (.iload 6, 2) := by decide +kernel
theorem dX6_digestStar_8 : decode cX6_digestStar 8 = .ok (.bipush 7, 2) := by decide +kernel
theorem dX6_digestStar_10 : decode cX6_digestStar 10 = .ok (.if_icmp .gt 25, 3) := by decide +kernel
theorem dX6_digestStar_13 : decode cX6_digestStar 13 = .ok (.lload 4, 2) := by decide +kernel
theorem dX6_digestStar_15 : decode cX6_digestStar 15 = .ok (.ldc2_w 286, 3) := by decide +kernel
theorem dX6_digestStar_18 : decode cX6_digestStar 18 = .ok (.lmul, 1) := by decide +kernel
theorem dX6_digestStar_19 : decode cX6_digestStar 19 = .ok (.aload_n 3, 1) := by decide +kernel
theorem dX6_digestStar_20 : decode cX6_digestStar 20 = .ok (.iload 6, 2) := by decide +kernel
theorem dX6_digestStar_22 : decode cX6_digestStar 22 = .ok (.invokevirtual 239, 3) := by decide +kernel
theorem dX6_digestStar_25 : decode cX6_digestStar 25 = .ok (.i2l, 1) := by decide +kernel
theorem dX6_digestStar_26 : decode cX6_digestStar 26 = .ok (.ladd, 1) := by decide +kernel
theorem dX6_digestStar_27 : decode cX6_digestStar 27 = .ok (.lstore 4, 2) := by decide +kernel
theorem dX6_digestStar_29 : decode cX6_digestStar 29 = .ok (.iinc 6 1, 3) := by decide +kernel
theorem dX6_digestStar_32 : decode cX6_digestStar 32 = .ok (.goto (-26), 3) := by decide +kernel
theorem dX6_digestStar_35 : decode cX6_digestStar 35 = .ok (.iconst 0, 1) := by decide +kernel
theorem dX6_digestStar_36 : decode cX6_digestStar 36 = .ok (.istore 6, 2) := by decide +kernel
theorem dX6_digestStar_38 : decode cX6_digestStar 38 = .ok (.iload 6, 2) := by decide +kernel
theorem dX6_digestStar_40 : decode cX6_digestStar 40 = .ok (.bipush 7, 2) := by decide +kernel
theorem dX6_digestStar_42 : decode cX6_digestStar 42 = .ok (.if_icmp .gt 29, 3) := by decide +kernel
theorem dX6_digestStar_45 : decode cX6_digestStar 45 = .ok (.lload 4, 2) := by decide +kernel
theorem dX6_digestStar_47 : decode cX6_digestStar 47 = .ok (.ldc2_w 286, 3) := by decide +kernel
theorem dX6_digestStar_50 : decode cX6_digestStar 50 = .ok (.lmul, 1) := by decide +kernel
theorem dX6_digestStar_51 : decode cX6_digestStar 51 = .ok (.aload_n 3, 1) := by decide +kernel
theorem dX6_digestStar_52 : decode cX6_digestStar 52 = .ok (.iload 6, 2) := by decide +kernel
theorem dX6_digestStar_54 : decode cX6_digestStar 54 = .ok (.aload_n 0, 1) := by decide +kernel
theorem dX6_digestStar_55 : decode cX6_digestStar 55 = .ok (.getfield 114, 3) := by decide +kernel
theorem dX6_digestStar_58 : decode cX6_digestStar 58 = .ok (.invokevirtual 242, 3) := by decide +kernel
theorem dX6_digestStar_61 : decode cX6_digestStar 61 = .ok (.i2l, 1) := by decide +kernel
theorem dX6_digestStar_62 : decode cX6_digestStar 62 = .ok (.ladd, 1) := by decide +kernel
theorem dX6_digestStar_63 : decode cX6_digestStar 63 = .ok (.lstore 4, 2) := by decide +kernel
theorem dX6_digestStar_65 : decode cX6_digestStar 65 = .ok (.iinc 6 1, 3) := by decide +kernel
theorem dX6_digestStar_68 : decode cX6_digestStar 68 = .ok (.goto (-30), 3) := by decide +kernel
theorem dX6_digestStar_71 : decode cX6_digestStar 71 = .ok (.iconst 0, 1) := by decide +kernel
theorem dX6_digestStar_72 : decode cX6_digestStar 72 = .ok (.istore 6, 2) := by decide +kernel
theorem dX6_digestStar_74 : decode cX6_digestStar 74 = .ok (.iload 6, 2) := by decide +kernel
theorem dX6_digestStar_76 : decode cX6_digestStar 76 = .ok (.aload_n 0, 1) := by decide +kernel
theorem dX6_digestStar_77 : decode cX6_digestStar 77 = .ok (.getfield 95, 3) := by decide +kernel
theorem dX6_digestStar_80 : decode cX6_digestStar 80 = .ok (.if_icmp .ge 30, 3) := by decide +kernel
theorem dX6_digestStar_83 : decode cX6_digestStar 83 = .ok (.lload 4, 2) := by decide +kernel
theorem dX6_digestStar_85 : decode cX6_digestStar 85 = .ok (.ldc2_w 286, 3) := by decide +kernel
theorem dX6_digestStar_88 : decode cX6_digestStar 88 = .ok (.lmul, 1) := by decide +kernel
theorem dX6_digestStar_89 : decode cX6_digestStar 89 = .ok (.aload_n 3, 1) := by decide +kernel
theorem dX6_digestStar_90 : decode cX6_digestStar 90 = .ok (.aload_n 0, 1) := by decide +kernel
theorem dX6_digestStar_91 : decode cX6_digestStar 91 = .ok (.getfield 17, 3) := by decide +kernel
theorem dX6_digestStar_94 : decode cX6_digestStar 94 = .ok (.iload 6, 2) := by decide +kernel
theorem dX6_digestStar_96 : decode cX6_digestStar 96 = .ok (.aaload, 1) := by decide +kernel
theorem dX6_digestStar_97 : decode cX6_digestStar 97 = .ok (.invokestatic 266, 3) := by decide +kernel
theorem dX6_digestStar_100 : decode cX6_digestStar 100 = .ok (.i2l, 1) := by decide +kernel
theorem dX6_digestStar_101 : decode cX6_digestStar 101 = .ok (.ladd, 1) := by decide +kernel
theorem dX6_digestStar_102 : decode cX6_digestStar 102 = .ok (.lstore 4, 2) := by decide +kernel
theorem dX6_digestStar_104 : decode cX6_digestStar 104 = .ok (.iinc 6 1, 3) := by decide +kernel
theorem dX6_digestStar_107 : decode cX6_digestStar 107 = .ok (.goto (-33), 3) := by decide +kernel
theorem dX6_digestStar_110 : decode cX6_digestStar 110 = .ok (.lload 4, 2) := by decide +kernel
theorem dX6_digestStar_112 : decode cX6_digestStar 112 = .ok (.lreturn, 1) := by decide +kernel
theorem dX6_digestReceiver_0 : decode cX6_digestReceiver 0 = .ok (.lload_n 1, 1) := by decide +kernel
theorem dX6_digestReceiver_1 : decode cX6_digestReceiver 1 = .ok (.lstore 4, 2) := by decide +kernel
theorem dX6_digestReceiver_3 : decode cX6_digestReceiver 3 = .ok (.iconst 0, 1) := by decide +kernel
theorem dX6_digestReceiver_4 : decode cX6_digestReceiver 4 = .ok (.istore 6, 2) := by decide +kernel
theorem dX6_digestReceiver_6 : decode cX6_digestReceiver 6 = .ok (.iload 6, 2) := by decide +kernel
theorem dX6_digestReceiver_8 : decode cX6_digestReceiver 8 = .ok (.bipush 13, 2) := by decide +kernel
theorem dX6_digestReceiver_10 : decode cX6_digestReceiver 10 = .ok (.if_icmp .gt 26, 3) := by decide +kernel
theorem dX6_digestReceiver_13 : decode cX6_digestReceiver 13 = .ok (.lload 4, 2) := by decide +kernel
theorem dX6_digestReceiver_15 : decode cX6_digestReceiver 15 = .ok (.ldc2_w 286, 3) := by decide +kernel
theorem dX6_digestReceiver_18 : decode cX6_digestReceiver 18 = .ok (.lmul, 1) := by decide +kernel
theorem dX6_digestReceiver_19 : decode cX6_digestReceiver 19 = .ok (.aload_n 0, 1) := by decide +kernel
theorem dX6_digestReceiver_20 : decode cX6_digestReceiver 20 = .ok (.aload_n 3, 1) := by decide +kernel
theorem dX6_digestReceiver_21 : decode cX6_digestReceiver 21 = .ok (.iload 6, 2) := by decide +kernel
theorem dX6_digestReceiver_23 : decode cX6_digestReceiver 23 = .ok (.invokevirtual 254, 3) := by decide +kernel
theorem dX6_digestReceiver_26 : decode cX6_digestReceiver 26 = .ok (.i2l, 1) := by decide +kernel
theorem dX6_digestReceiver_27 : decode cX6_digestReceiver 27 = .ok (.ladd, 1) := by decide +kernel
theorem dX6_digestReceiver_28 : decode cX6_digestReceiver 28 = .ok (.lstore 4, 2) := by decide +kernel
theorem dX6_digestReceiver_30 : decode cX6_digestReceiver 30 = .ok (.iinc 6 1, 3) := by decide +kernel
theorem dX6_digestReceiver_33 : decode cX6_digestReceiver 33 = .ok (.goto (-27), 3) := by decide +kernel
theorem dX6_digestReceiver_36 : decode cX6_digestReceiver 36 = .ok (.iconst 0, 1) := by decide +kernel
theorem dX6_digestReceiver_37 : decode cX6_digestReceiver 37 = .ok (.istore 6, 2) := by decide +kernel
theorem dX6_digestReceiver_39 : decode cX6_digestReceiver 39 = .ok (.iload 6, 2) := by decide +kernel
theorem dX6_digestReceiver_41 : decode cX6_digestReceiver 41 = .ok (.aload_n 0, 1) := by decide +kernel
theorem dX6_digestReceiver_42 : decode cX6_digestReceiver 42 = .ok (.getfield 47, 3) := by decide +kernel
theorem dX6_digestReceiver_45 : decode cX6_digestReceiver 45 = .ok (.if_icmp .ge 47, 3) := by decide +kernel
theorem dX6_digestReceiver_48 : decode cX6_digestReceiver 48 = .ok (.iconst 0, 1) := by decide +kernel
theorem dX6_digestReceiver_49 : decode cX6_digestReceiver 49 = .ok (.istore 7, 2) := by decide +kernel
theorem dX6_digestReceiver_51 : decode cX6_digestReceiver 51 = .ok (.iload 7, 2) := by decide +kernel
theorem dX6_digestReceiver_53 : decode cX6_digestReceiver 53 = .ok (.bipush 7, 2) := by decide +kernel
theorem dX6_digestReceiver_55 : decode cX6_digestReceiver 55 = .ok (.if_icmp .gt 31, 3) := by decide +kernel
theorem dX6_digestReceiver_58 : decode cX6_digestReceiver 58 = .ok (.lload 4, 2) := by decide +kernel
theorem dX6_digestReceiver_60 : decode cX6_digestReceiver 60 = .ok (.ldc2_w 286, 3) := by decide +kernel
theorem dX6_digestReceiver_63 : decode cX6_digestReceiver 63 = .ok (.lmul, 1) := by decide +kernel
theorem dX6_digestReceiver_64 : decode cX6_digestReceiver 64 = .ok (.aload_n 3, 1) := by decide +kernel
theorem dX6_digestReceiver_65 : decode cX6_digestReceiver 65 = .ok (.getfield 247, 3) := by decide +kernel
theorem dX6_digestReceiver_68 : decode cX6_digestReceiver 68 = .ok (.iload 6, 2) := by decide +kernel
theorem dX6_digestReceiver_70 : decode cX6_digestReceiver 70 = .ok (.aaload, 1) := by decide +kernel
theorem dX6_digestReceiver_71 : decode cX6_digestReceiver 71 = .ok (.iload 7, 2) := by decide +kernel
theorem dX6_digestReceiver_73 : decode cX6_digestReceiver 73 = .ok (.invokevirtual 251, 3) := by decide +kernel
theorem dX6_digestReceiver_76 : decode cX6_digestReceiver 76 = .ok (.i2l, 1) := by decide +kernel
theorem dX6_digestReceiver_77 : decode cX6_digestReceiver 77 = .ok (.ladd, 1) := by decide +kernel
theorem dX6_digestReceiver_78 : decode cX6_digestReceiver 78 = .ok (.lstore 4, 2) := by decide +kernel
theorem dX6_digestReceiver_80 : decode cX6_digestReceiver 80 = .ok (.iinc 7 1, 3) := by decide +kernel
theorem dX6_digestReceiver_83 : decode cX6_digestReceiver 83 = .ok (.goto (-32), 3) := by decide +kernel
theorem dX6_digestReceiver_86 : decode cX6_digestReceiver 86 = .ok (.iinc 6 1, 3) := by decide +kernel
theorem dX6_digestReceiver_89 : decode cX6_digestReceiver 89 = .ok (.goto (-50), 3) := by decide +kernel
theorem dX6_digestReceiver_92 : decode cX6_digestReceiver 92 = .ok (.lload 4, 2) := by decide +kernel
theorem dX6_digestReceiver_94 : decode cX6_digestReceiver 94 = .ok (.ldc2_w 286, 3) := by decide +kernel
theorem dX6_digestReceiver_97 : decode cX6_digestReceiver 97 = .ok (.lmul, 1) := by decide +kernel
theorem dX6_digestReceiver_98 : decode cX6_digestReceiver 98 = .ok (.aload_n 0, 1) := by decide +kernel
theorem dX6_digestReceiver_99 : decode cX6_digestReceiver 99 = .ok (.aload_n 3, 1) := by decide +kernel
theorem dX6_digestReceiver_100 : decode cX6_digestReceiver 100 = .ok (.bipush 6, 2) := by decide +kernel
theorem dX6_digestReceiver_102 : decode cX6_digestReceiver 102 = .ok (.invokevirtual 165, 3) := by decide +kernel
theorem dX6_digestReceiver_105 : decode cX6_digestReceiver 105 = .ok (.i2l, 1) := by decide +kernel
theorem dX6_digestReceiver_106 : decode cX6_digestReceiver 106 = .ok (.ladd, 1) := by decide +kernel
theorem dX6_digestReceiver_107 : decode cX6_digestReceiver 107 = .ok (.lreturn, 1) := by decide +kernel
